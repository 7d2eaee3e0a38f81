/-! the law's cases -/
theorem gLR {w1 w2 : va_W} {x : Nat × va_E} : (w1 ++ (w2 ++ [x]))[w1.length + w2.length]? = some x := by
  rw [List.getElem?_append_right (Nat.le_add_right _ _), Nat.add_sub_cancel_left, List.getElem?_append_right (Nat.le_refl _), Nat.sub_self]
  rfl
theorem pmM {C M d : va_W} : (C ++ (M ++ d)).Perm (M ++ (C ++ d)) := List.perm_append_comm_assoc C M d
theorem pmD {C M o d : va_W} : ((C ++ o) ++ (M ++ d)).Perm ((C ++ d) ++ (M ++ o)) := by
  rw [List.append_assoc, List.append_assoc]
  refine List.Perm.append_left C ?_
  refine (List.perm_append_comm (l₁ := o) (l₂ := M ++ d)).trans ?_
  rw [List.append_assoc]
  refine (List.perm_append_comm_assoc M d o).trans ?_
  exact List.Perm.refl _
section CALLF
variable {p : Program} {l : Launch} {e : Env} {R : Room} {s : State} {m : MethodId} {args : Array Value} {below : List Frame} {meth : Method} {c : Code} {H : Heap} {locs : List Loc} {cells slots : Nat} {Q : State → Prop} {D : va_G} {cy : Nat → ClassId} {w1 w1' w2 : va_W} {A : Nat → Prop} {cc : ByteArray} {pc : Nat} {ls : Array Slot}
  {own C : String} {y : MethodName} {cY : ByteArray} {nY nL index : Nat} {ret : Option FieldType} {rm : Room} {X : State → Prop} {b : Nat} {As rest st : List Value} {en g : Nat → Nat}
theorem fV {r : Int32} {n : Nat} (hx : p.tables.exec = Jvm.exec) (hb : c.code = cc) (hml : c.maxLocals = nL) (hown : s.vm.findClass own = some m.cls) (hw : ∀ w ∈ WA, w.before args s = true) (hK8 : va_K D vwCl (tyQ cy) s) (hN : NW s) (hA : ∀ q : Nat, s.heap.size ≤ q → A q) (hsz : ls.size = nL)
    (hP : va_P D vwCl (w1 ++ w2) H) (hD : va_D A (w1 ++ w2)) (hS : va_S A s.heap H locs)
    (k1 : Cond.methodLink own index y ∈ WA) (k2 : Cond.instanceMethod y ∈ WA) (k3 : Cond.selects C y y ∈ WA) (k4 : Cond.initialized y.cls ∈ WA) (k5 : Cond.code y cY nY ret ∈ WA)
    (hM : MI l y cY nY ret rm D cy w1 H.size X (.ref b :: As) r w1') (hX : ∀ U : State, U.heap = H → s.WarmedH U.vm → X U) (hXk : Xok X)
    {ci q0 N : Nat} {T : u_T} {fs : List Value} (he : w1[q0]? = some (b, .inr (ci, fs))) (hc : vwCl[ci]? = some (C, T, N)) (hrm : rm.cells = 0 ∧ rm.slots = 0)
    (hd : y.cls ≠ "java/lang/invoke/MethodHandle" ∧ y.cls ≠ "java/lang/invoke/VarHandle" ∧ (parseMethodDescriptor y.desc).map (fun d => d.parameters.length) = some n) (hn : As.length = n) (hR : rm.frames + 1 ≤ R.frames ∧ 8 + (nY + 11) + rm.locals ≤ R.locals)
    (hcs : cells ≤ R.cells ∧ slots ≤ R.slots) (hst : (rest.map fun v => v.category).sum ≤ 8) (hstk : st = As.reverse ++ .ref b :: rest) (hdg : decode cc pc = .ok (.invokevirtual index, 3))
    (kk : ∀ (H1 : Heap) (locs1 : List Loc), va_P D vwCl (w1' ++ w2) H1 → va_D A (w1' ++ w2) → va_S A s.heap H1 locs1 → W p l e R s m args below meth c H1 locs1 cells slots Q (F0 m (pc + 3) ls (.int r :: rest))) :
    W p l e R s m args below meth c H locs cells slots Q (F0 m pc ls st) :=
  fgoI hP hD hS hA (va_runV (As := As) (rest := rest) ⟨hx, hb, hml, hown, hw⟩ hM ⟨cB hw k1 k4 k5 hrm hd hR, hw _ k2, hw _ k3⟩ ⟨pW_blind hXk, va_recv (hKL hK8) (fr_l hP) hc he, pW_call (fr_l hP) (hKL hK8) (fr_dl hD) hN hX⟩ rfl hn hsz hstk (lv_room hst) hdg hcs) kk
theorem fVd {r : UInt64} {n : Nat} (hx : p.tables.exec = Jvm.exec) (hb : c.code = cc) (hml : c.maxLocals = nL) (hown : s.vm.findClass own = some m.cls) (hw : ∀ w ∈ WA, w.before args s = true) (hK8 : va_K D vwCl (tyQ cy) s) (hN : NW s) (hA : ∀ q : Nat, s.heap.size ≤ q → A q) (hsz : ls.size = nL)
    (hP : va_P D vwCl (w1 ++ w2) H) (hD : va_D A (w1 ++ w2)) (hS : va_S A s.heap H locs)
    (k1 : Cond.methodLink own index y ∈ WA) (k2 : Cond.instanceMethod y ∈ WA) (k3 : Cond.selects C y y ∈ WA) (k4 : Cond.initialized y.cls ∈ WA) (k5 : Cond.code y cY nY (some .double) ∈ WA)
    (hM : MD l y cY nY rm D cy w1 H.size X (.ref b :: As) r w1') (hX : ∀ U : State, U.heap = H → s.WarmedH U.vm → X U) (hXk : Xok X)
    {ci q0 N : Nat} {T : u_T} {fs : List Value} (he : w1[q0]? = some (b, .inr (ci, fs))) (hc : vwCl[ci]? = some (C, T, N)) (hrm : rm.cells = 0 ∧ rm.slots = 0)
    (hd : y.cls ≠ "java/lang/invoke/MethodHandle" ∧ y.cls ≠ "java/lang/invoke/VarHandle" ∧ (parseMethodDescriptor y.desc).map (fun d => d.parameters.length) = some n) (hn : As.length = n) (hR : rm.frames + 1 ≤ R.frames ∧ 8 + (nY + 11) + rm.locals ≤ R.locals)
    (hcs : cells ≤ R.cells ∧ slots ≤ R.slots) (hst : (rest.map fun v => v.category).sum ≤ 8) (hstk : st = As.reverse ++ .ref b :: rest) (hdg : decode cc pc = .ok (.invokevirtual index, 3))
    (kk : ∀ (H1 : Heap) (locs1 : List Loc), va_P D vwCl (w1' ++ w2) H1 → va_D A (w1' ++ w2) → va_S A s.heap H1 locs1 → W p l e R s m args below meth c H1 locs1 cells slots Q (F0 m (pc + 3) ls (.double r :: rest))) :
    W p l e R s m args below meth c H locs cells slots Q (F0 m pc ls st) :=
  fgoD hP hD hS hA (va_runV (As := As) (rest := rest) ⟨hx, hb, hml, hown, hw⟩ hM ⟨cB hw k1 k4 k5 hrm hd hR, hw _ k2, hw _ k3⟩ ⟨pW_blind hXk, va_recv (hKL hK8) (fr_l hP) hc he, pW_call (fr_l hP) (hKL hK8) (fr_dl hD) hN hX⟩ rfl hn hsz hstk (lv_room hst) hdg hcs) kk
theorem fVf {r : UInt32} {n : Nat} (hx : p.tables.exec = Jvm.exec) (hb : c.code = cc) (hml : c.maxLocals = nL) (hown : s.vm.findClass own = some m.cls) (hw : ∀ w ∈ WA, w.before args s = true) (hK8 : va_K D vwCl (tyQ cy) s) (hN : NW s) (hA : ∀ q : Nat, s.heap.size ≤ q → A q) (hsz : ls.size = nL)
    (hP : va_P D vwCl (w1 ++ w2) H) (hD : va_D A (w1 ++ w2)) (hS : va_S A s.heap H locs)
    (k1 : Cond.methodLink own index y ∈ WA) (k2 : Cond.instanceMethod y ∈ WA) (k3 : Cond.selects C y y ∈ WA) (k4 : Cond.initialized y.cls ∈ WA) (k5 : Cond.code y cY nY (some .float) ∈ WA)
    (hM : MF l y cY nY rm D cy w1 H.size X (.ref b :: As) r w1') (hX : ∀ U : State, U.heap = H → s.WarmedH U.vm → X U) (hXk : Xok X)
    {ci q0 N : Nat} {T : u_T} {fs : List Value} (he : w1[q0]? = some (b, .inr (ci, fs))) (hc : vwCl[ci]? = some (C, T, N)) (hrm : rm.cells = 0 ∧ rm.slots = 0)
    (hd : y.cls ≠ "java/lang/invoke/MethodHandle" ∧ y.cls ≠ "java/lang/invoke/VarHandle" ∧ (parseMethodDescriptor y.desc).map (fun d => d.parameters.length) = some n) (hn : As.length = n) (hR : rm.frames + 1 ≤ R.frames ∧ 8 + (nY + 11) + rm.locals ≤ R.locals)
    (hcs : cells ≤ R.cells ∧ slots ≤ R.slots) (hst : (rest.map fun v => v.category).sum ≤ 8) (hstk : st = As.reverse ++ .ref b :: rest) (hdg : decode cc pc = .ok (.invokevirtual index, 3))
    (kk : ∀ (H1 : Heap) (locs1 : List Loc), va_P D vwCl (w1' ++ w2) H1 → va_D A (w1' ++ w2) → va_S A s.heap H1 locs1 → W p l e R s m args below meth c H1 locs1 cells slots Q (F0 m (pc + 3) ls (.float r :: rest))) :
    W p l e R s m args below meth c H locs cells slots Q (F0 m pc ls st) :=
  fgoF hP hD hS hA (va_runV (As := As) (rest := rest) ⟨hx, hb, hml, hown, hw⟩ hM ⟨cB hw k1 k4 k5 hrm hd hR, hw _ k2, hw _ k3⟩ ⟨pW_blind hXk, va_recv (hKL hK8) (fr_l hP) hc he, pW_call (fr_l hP) (hKL hK8) (fr_dl hD) hN hX⟩ rfl hn hsz hstk (lv_room hst) hdg hcs) kk
theorem fW {r : Int32} {hh : List (Nat × Nat × Nat × Nat)} {n : Nat} (hx : p.tables.exec = Jvm.exec) (hb : c.code = cc) (hml : c.maxLocals = nL) (hown : s.vm.findClass own = some m.cls) (hw : ∀ w ∈ WA, w.before args s = true) (hK8 : va_K D vwCl (tyQ cy) s) (hN : NW s) (hA : ∀ q : Nat, s.heap.size ≤ q → A q) (hsz : ls.size = nL)
    (hP : va_P D vwCl (w1 ++ w2) H) (hD : va_D A (w1 ++ w2)) (hS : va_S A s.heap H locs) (hST : ST en g A s s.heap)
    (k1 : Cond.methodLink own index y ∈ WA) (k2 : Cond.static y ∈ WA) (k4 : Cond.initialized y.cls ∈ WA) (k5 : Cond.codeWith y cY nY (some .int) hh ∈ WA)
    (hM : MW l y cY nY hh rm D cy en g w1 H.size As r w1') (hrm : rm.cells = 2 ∧ rm.slots = 12)
    (hd : y.cls ≠ "java/lang/invoke/MethodHandle" ∧ y.cls ≠ "java/lang/invoke/VarHandle" ∧ (parseMethodDescriptor y.desc).map (fun d => d.parameters.length) = some n) (hn : As.length = n) (hR : rm.frames + 1 ≤ R.frames ∧ 8 + (nY + 11) + rm.locals ≤ R.locals)
    (hcs : cells + 2 ≤ R.cells ∧ slots + 12 ≤ R.slots) (hst : (rest.map fun v => v.category).sum ≤ 8) (hstk : st = As.reverse ++ rest) (hdg : decode cc pc = .ok (.invokestatic index, 3))
    (kk : ∀ (H1 : Heap) (locs1 : List Loc), va_P D vwCl (w1' ++ w2) H1 → va_D A (w1' ++ w2) → va_S A s.heap H1 locs1 → W p l e R s m args below meth c H1 locs1 (cells + 2) (slots + 12) Q (F0 m (pc + 3) ls (.int r :: rest))) :
    W p l e R s m args below meth c H locs cells slots Q (F0 m pc ls st) := by
  have hG : GoodIn WA (Cond.codeWith y cY nY (some .int) hh :: WA) := fun w h => by
    rcases List.mem_cons.mp h with rfl | h
    · exact ⟨k5, good_of_word (wa_good _ k5)⟩
    · exact ⟨h, good_of_word (wa_good _ h)⟩
  have cw : vx_CSW R s args own index y cY nY (some .int) hh (Cond.codeWith y cY nY (some .int) hh :: WA) rm 2 12 n :=
    ⟨⟨hrm.1, hrm.2, hR.1, hR.2, pay_in hw hG, List.mem_cons_self⟩, hw _ k5, hw _ k4, ⟨hd.1, hd.2.1⟩, fun sig h => by
      have h2 := hd.2.2
      rw [h] at h2
      exact (Option.some.inj h2).symm, hw _ k1, hw _ k2⟩
  exact fgoI hP hD hS hA (vx_runSW (As := As) (rest := rest) ⟨hx, hb, hml, hown, hw⟩ hM cw ⟨pQ_blind Xok_S, pQ_call (fr_l hP) hK8 (fr_dl hD) hN (ST_call hST hS (fr_F hS hD hA))⟩ rfl hn hsz hstk (lv_room hst) hdg hcs) kk
end CALLF
/-- what stays through the law -/
def LC (p : Program) (s : State) (m : MethodId) (c : Code) (b L : Nat) (xs : Nat → Int32) (A : Nat → Prop) (D : va_G) (cy : Nat → ClassId) (en g : Nat → Nat) : Prop :=
  p.tables.exec = Jvm.exec ∧ c.code = cL_law ∧ c.maxLocals = 9 ∧ s.vm.findClass "CloudDeedsLaw" = some m.cls ∧ (∀ w ∈ WA, w.before #[Value.ref b] s = true) ∧ va_K D vwCl (tyQ cy) s ∧ NW s ∧ ST en g A s s.heap ∧ va_X b L xs s s.heap ∧ b < s.heap.size ∧ ¬ A b ∧ (∀ q : Nat, s.heap.size ≤ q → A q)
def OK_cloud (Inv : Mem → (Nat → Nat → Int32) → Prop) (x : Mem) (m : Nat → Nat → Int32) (p1 : Int32) (p2 : Int32) (p3 : Int32) : Prop := ∃ (code : Int32) (r : Int32) (x' : Mem) (bb : Int32) (m' : Nat → Nat → Int32), (code = 0 ∨ code = 1) ∧ D_X9_cloud x p1 p2 p3 = some (code, r, x') ∧ D_X10_cloud m p1 p2 p3 = some (bb, m') ∧ D_X10_thrown m' = code ∧ (code = 0 → r = bb) ∧ Inv x' m'
set_option maxHeartbeats 4000000 in
theorem lw_cloud {Inv : Mem → (Nat → Nat → Int32) → Prop} {p : Program} {l : Launch} (hst0 : l.stackTraces = false) {e : Env} {s : State} {m : MethodId} {below : List Frame} {meth : Method} {c : Code} {b L : Nat} {xs : Nat → Int32} {A : Nat → Prop} {D : va_G} {cy : Nat → ClassId} {en g : Nat → Nat} {Q : State → Prop} (hC : LC p s m c b L xs A D cy en g) {ad : Nat → Nat → Nat} {am : Nat → Nat} {ob od : Nat} {x : Mem} {m0 : Nat → Nat → Int32} {fo : Nat → Int64} {fd : Nat → UInt64} {i : Int32} {H : Heap} {locs : List Loc} {ls : Array Slot} {cells slots : Nat} (h1 : vp_in (i + 1) L) (h2 : vp_in (i + 2) L) (h3 : vp_in (i + 3) L) (hcs : cells + 2 ≤ room_1.cells ∧ slots + 12 ≤ room_1.slots) (hop : OK_cloud Inv x m0 (xs (i + 1).toNatClampNeg) (xs (i + 2).toNatClampNeg) (xs (i + 3).toNatClampNeg)) (hP : va_P D vwCl ((cW cy ad en x ++ [(ob, .inl (cy 6, 1, .inr (.inl fo)))]) ++ (mW cy am m0 ++ [(od, .inl (cy 7, 1, .inr (.inr (.inr (.inl fd)))))])) H) (hD : va_D A ((cW cy ad en x ++ [(ob, .inl (cy 6, 1, .inr (.inl fo)))]) ++ (mW cy am m0 ++ [(od, .inl (cy 7, 1, .inr (.inr (.inr (.inl fd)))))]))) (hS : va_S A s.heap H locs) (hl : lv_has ls 9 [(0, .ref b), (1, .ref (ad 12 0)), (2, .ref (am 0)), (3, .ref ob), (4, .ref od), (5, .int i)]) (kk : ∀ (x' : Mem) (m' : Nat → Nat → Int32) (fo' : Nat → Int64) (fd' : Nat → UInt64) (H : Heap) (locs : List Loc) (ls : Array Slot), Inv x' m' → va_P D vwCl ((cW cy ad en x' ++ [(ob, .inl (cy 6, 1, .inr (.inl fo')))]) ++ (mW cy am m' ++ [(od, .inl (cy 7, 1, .inr (.inr (.inr (.inl fd')))))])) H → va_D A ((cW cy ad en x' ++ [(ob, .inl (cy 6, 1, .inr (.inl fo')))]) ++ (mW cy am m' ++ [(od, .inl (cy 7, 1, .inr (.inr (.inr (.inl fd')))))])) → va_S A s.heap H locs → lv_has ls 9 [(0, .ref b), (1, .ref (ad 12 0)), (2, .ref (am 0)), (3, .ref ob), (4, .ref od), (5, .int i)] → W p l e room_1 s m #[Value.ref b] below meth c H locs (cells + 2) (slots + 12) Q (F0 m 2250 ls [])) : W p l e room_1 s m #[Value.ref b] below meth c H locs cells slots Q (F0 m 208 ls []) := by
  obtain ⟨hx, hb, hml, hown, hw, hK8, hN, hST, hX, hbl, hbA, hA⟩ := hC
  have hK := hKL hK8
  have hcs0 : cells ≤ room_1.cells ∧ slots ≤ room_1.slots := ⟨Nat.le_trans (Nat.le_add_right _ 2) hcs.1, Nat.le_trans (Nat.le_add_right _ 12) hcs.2⟩
  have hcsA : cells + 2 ≤ room_1.cells ∧ slots + 12 ≤ room_1.slots := hcs
  obtain ⟨code, r, x', bb, m', hcd, hF, hFm, hthr, heq, hInv⟩ := hop
  refine lv_aload_n hx hb dL_law_208 rfl (lv_at hl 1 rfl) ?_
  refine lv_aload_n hx hb dL_law_209 rfl (lv_at hl 0 rfl) ?_
  refine lv_iload hx hb dL_law_210 (lv_at hl 5 rfl) ?_
  refine lv_iconst (v := 1) hx hb dL_law_212 (by decide) ?_
  refine lv_iadd hx hb dL_law_213 ?_
  refine va_sld hx hb hX hbl hbA hS h1 dL_law_214 ?_
  refine lv_aload_n hx hb dL_law_215 rfl (lv_at hl 0 rfl) ?_
  refine lv_iload hx hb dL_law_216 (lv_at hl 5 rfl) ?_
  refine lv_iconst (v := 2) hx hb dL_law_218 (by decide) ?_
  refine lv_iadd hx hb dL_law_219 ?_
  refine va_sld hx hb hX hbl hbA hS h2 dL_law_220 ?_
  refine lv_aload_n hx hb dL_law_221 rfl (lv_at hl 0 rfl) ?_
  refine lv_iload hx hb dL_law_222 (lv_at hl 5 rfl) ?_
  refine lv_iconst (v := 3) hx hb dL_law_224 (by decide) ?_
  refine lv_iadd hx hb dL_law_225 ?_
  refine va_sld hx hb hX hbl hbA hS h3 dL_law_226 ?_
  refine lv_aload_n hx hb dL_law_227 rfl (lv_at hl 3 rfl) ?_
  refine fW (w1 := (cW cy ad en x ++ [((ob, .inl (cy 6, 1, .inr (.inl fo))) : Nat × va_E)])) (w2 := (mW cy am m0 ++ [((od, .inl (cy 7, 1, .inr (.inr (.inr (.inl fd))))) : Nat × va_E)])) (As := [.ref (ad 12 0), .int (xs (i + 1).toNatClampNeg), .int (xs (i + 2).toNatClampNeg), .int (xs (i + 3).toNatClampNeg), .ref ob]) (rest := []) hx hb hml hown hw hK8 hN hA hl.1 hP hD hS hST k_523 k_524 k_75 k_525 (met_L_cloud l hst0 D cy _ ad en g x (xs (i + 1).toNatClampNeg) (xs (i + 2).toNatClampNeg) (xs (i + 3).toNatClampNeg) ob fo code r x' hcd hF) ⟨rfl, rfl⟩ (n := 5) (by decide +kernel) rfl ⟨Nat.le_of_ble_eq_true rfl, Nat.le_of_ble_eq_true rfl⟩ hcs (Nat.le_of_ble_eq_true rfl) rfl dL_law_228 (fun H locs hP hD hS => ?_)
  refine lv_istore (lv' := [(6, .int code), (0, .ref b), (1, .ref (ad 12 0)), (2, .ref (am 0)), (3, .ref ob), (4, .ref od), (5, .int i)]) hx hb dL_law_231 hl (by decide) rfl (fun ls hl => ?_)
  refine lv_aload_n hx hb dL_law_233 rfl (lv_at hl 3 rfl) ?_
  refine lv_aload_n hx hb dL_law_234 rfl (lv_at hl 1 rfl) ?_
  refine lv_iload hx hb dL_law_235 (lv_at hl 6 rfl) ?_
  refine lv_iconst (v := 1) hx hb dL_law_237 (by decide) ?_
  refine lv_iadd hx hb dL_law_238 ?_
  refine va_sld hx hb hX hbl hbA hS h1 dL_law_239 ?_
  refine lv_aload_n hx hb dL_law_240 rfl (lv_at hl 1 rfl) ?_
  refine lv_iload hx hb dL_law_241 (lv_at hl 6 rfl) ?_
  refine lv_iconst (v := 2) hx hb dL_law_243 (by decide) ?_
  refine lv_iadd hx hb dL_law_244 ?_
  refine va_sld hx hb hX hbl hbA hS h2 dL_law_245 ?_
  refine lv_aload_n hx hb dL_law_246 rfl (lv_at hl 1 rfl) ?_
  refine lv_iload hx hb dL_law_247 (lv_at hl 6 rfl) ?_
  refine lv_iconst (v := 3) hx hb dL_law_249 (by decide) ?_
  refine lv_iadd hx hb dL_law_250 ?_
  refine va_sld hx hb hX hbl hbA hS h3 dL_law_251 ?_
  have hP : va_P D vwCl ((mW cy am m0) ++ ((cW cy ad en x' ++ [((ob, .inl (cy 6, 1, .inr (.inl (if code = 0 then (vp_updL fo (0 : Int32).toNatClampNeg r.toInt64) else fo)))) : Nat × va_E)]) ++ [((od, .inl (cy 7, 1, .inr (.inr (.inr (.inl fd))))) : Nat × va_E)])) H := pm_P pmM hP
  have hD : va_D A ((mW cy am m0) ++ ((cW cy ad en x' ++ [((ob, .inl (cy 6, 1, .inr (.inl (if code = 0 then (vp_updL fo (0 : Int32).toNatClampNeg r.toInt64) else fo)))) : Nat × va_E)]) ++ [((od, .inl (cy 7, 1, .inr (.inr (.inr (.inl fd))))) : Nat × va_E)])) := pm_D pmM hD
  refine fV (w1 := (mW cy am m0)) (w2 := ((cW cy ad en x' ++ [((ob, .inl (cy 6, 1, .inr (.inl (if code = 0 then (vp_updL fo (0 : Int32).toNatClampNeg r.toInt64) else fo)))) : Nat × va_E)]) ++ [((od, .inl (cy 7, 1, .inr (.inr (.inr (.inl fd))))) : Nat × va_E)])) (As := [.int (xs (i + 1).toNatClampNeg), .int (xs (i + 2).toNatClampNeg), .int (xs (i + 3).toNatClampNeg)]) (rest := []) hx hb hml hown hw hK8 hN hA hl.1 hP hD hS k_1637 k_1638 k_1639 k_90 k_1640 (met_X10_cloud l D cy _ am m0 (xs (i + 1).toNatClampNeg) (xs (i + 2).toNatClampNeg) (xs (i + 3).toNatClampNeg) bb m' hFm) (fun _ _ _ => trivial) Xok_T (gM (am := am) (r := 0) (m := m0) (f := m0 0) (by decide) rfl) rfl ⟨rfl, rfl⟩ (n := 3) (by decide +kernel) rfl ⟨Nat.le_of_ble_eq_true rfl, Nat.le_of_ble_eq_true rfl⟩ hcsA (Nat.le_of_ble_eq_true rfl) rfl dL_law_252 (fun H locs hP hD hS => ?_)
  have hP : va_P D vwCl ((cW cy ad en x' ++ [(ob, .inl (cy 6, 1, .inr (.inl (if code = 0 then (vp_updL fo (0 : Int32).toNatClampNeg r.toInt64) else fo))))]) ++ (mW cy am m' ++ [(od, .inl (cy 7, 1, .inr (.inr (.inr (.inl fd)))))])) H := pm_P pmM.symm hP
  have hD : va_D A ((cW cy ad en x' ++ [(ob, .inl (cy 6, 1, .inr (.inl (if code = 0 then (vp_updL fo (0 : Int32).toNatClampNeg r.toInt64) else fo))))]) ++ (mW cy am m' ++ [(od, .inl (cy 7, 1, .inr (.inr (.inr (.inl fd)))))])) := pm_D pmM.symm hD
  refine lv_istore (lv' := [(7, .int bb), (6, .int code), (0, .ref b), (1, .ref (ad 12 0)), (2, .ref (am 0)), (3, .ref ob), (4, .ref od), (5, .int i)]) hx hb dL_law_255 hl (by decide) rfl (fun ls hl => ?_)
  refine lv_aload_n hx hb dL_law_257 rfl (lv_at hl 4 rfl) ?_
  have hP : va_P D vwCl ((mW cy am m') ++ ((cW cy ad en x' ++ [((ob, .inl (cy 6, 1, .inr (.inl (if code = 0 then (vp_updL fo (0 : Int32).toNatClampNeg r.toInt64) else fo)))) : Nat × va_E)]) ++ [((od, .inl (cy 7, 1, .inr (.inr (.inr (.inl fd))))) : Nat × va_E)])) H := pm_P pmM hP
  have hD : va_D A ((mW cy am m') ++ ((cW cy ad en x' ++ [((ob, .inl (cy 6, 1, .inr (.inl (if code = 0 then (vp_updL fo (0 : Int32).toNatClampNeg r.toInt64) else fo)))) : Nat × va_E)]) ++ [((od, .inl (cy 7, 1, .inr (.inr (.inr (.inl fd))))) : Nat × va_E)])) := pm_D pmM hD
  refine fV (w1 := (mW cy am m')) (w2 := ((cW cy ad en x' ++ [((ob, .inl (cy 6, 1, .inr (.inl (if code = 0 then (vp_updL fo (0 : Int32).toNatClampNeg r.toInt64) else fo)))) : Nat × va_E)]) ++ [((od, .inl (cy 7, 1, .inr (.inr (.inr (.inl fd))))) : Nat × va_E)])) (As := []) (rest := []) hx hb hml hown hw hK8 hN hA hl.1 hP hD hS k_1625 k_1626 k_1627 k_90 k_1628 (met_X10_thrown l D cy _ am m' code hthr) (fun _ _ _ => trivial) Xok_T (gM (am := am) (r := 0) (m := m') (f := m' 0) (by decide) rfl) rfl ⟨rfl, rfl⟩ (n := 0) (by decide +kernel) rfl ⟨Nat.le_of_ble_eq_true rfl, Nat.le_of_ble_eq_true rfl⟩ hcsA (Nat.le_of_ble_eq_true rfl) rfl dL_law_258 (fun H locs hP hD hS => ?_)
  have hP : va_P D vwCl ((cW cy ad en x' ++ [(ob, .inl (cy 6, 1, .inr (.inl (if code = 0 then (vp_updL fo (0 : Int32).toNatClampNeg r.toInt64) else fo))))]) ++ (mW cy am m' ++ [(od, .inl (cy 7, 1, .inr (.inr (.inr (.inl fd)))))])) H := pm_P pmM.symm hP
  have hD : va_D A ((cW cy ad en x' ++ [(ob, .inl (cy 6, 1, .inr (.inl (if code = 0 then (vp_updL fo (0 : Int32).toNatClampNeg r.toInt64) else fo))))]) ++ (mW cy am m' ++ [(od, .inl (cy 7, 1, .inr (.inr (.inr (.inl fd)))))])) := pm_D pmM.symm hD
  refine lv_iload hx hb dL_law_261 (lv_at hl 1 rfl) ?_
  refine lv_icmp_eq (tgt := 268) hx hb dL_law_263 (by decide) (fun _ => ?_) (fun h => absurd rfl h)
  refine lv_iload hx hb dL_law_268 (lv_at hl 1 rfl) ?_
  refine lv_if_ne (tgt := 285) hx hb dL_law_270 (by decide) (fun hk => ?_) (fun hk => ?_)
  · refine lv_goto (tgt := 2250) hx hb dL_law_285 (by decide) ?_
    exact kk _ _ _ _ H locs ls hInv (cvP hP rfl) (cvD hD rfl) hS (lv_sub hl [2, 3, 4, 5, 6, 7] rfl)
  · have hk0 : code = 0 := hk
    have heq := heq hk0
    refine lv_aload_n hx hb dL_law_273 rfl (lv_at hl 5 rfl) ?_
    refine lv_iconst (v := 0) hx hb dL_law_274 (by decide) ?_
    refine va_lald hx hb hK8 hP _ 6 (gA gL) rfl (vp_in_iff.mpr (by decide)) dL_law_275 ?_
    refine lv_iload hx hb dL_law_276 (lv_at hl 0 rfl) ?_
    refine lv_i2l hx hb dL_law_278 rfl ?_
    refine W.lcmp hx hb dL_law_279 ?_
    refine lv_if_eq (tgt := 285) hx hb dL_law_280 (by decide) (fun _ => ?_) (fun h => absurd ?_ h)
    · refine lv_goto (tgt := 2250) hx hb dL_law_285 (by decide) ?_
      exact kk _ _ _ _ H locs ls hInv (cvP hP rfl) (cvD hD rfl) hS (lv_sub hl [2, 3, 4, 5, 6, 7] rfl)
    · rw [lg_cmp_eq, heq, if_pos hk0]; rfl
def OK_vine (Inv : Mem → (Nat → Nat → Int32) → Prop) (x : Mem) (m : Nat → Nat → Int32) (p1 : Int32) (p2 : Int32) : Prop := ∃ (code : Int32) (r : Int32) (x' : Mem) (bb : Int32) (m' : Nat → Nat → Int32), (code = 0 ∨ code = 1) ∧ D_X9_vine x p1 p2 = some (code, r, x') ∧ D_X10_vine m p1 p2 = some (bb, m') ∧ D_X10_thrown m' = code ∧ (code = 0 → r = bb) ∧ Inv x' m'
set_option maxHeartbeats 4000000 in
theorem lw_vine {Inv : Mem → (Nat → Nat → Int32) → Prop} {p : Program} {l : Launch} (hst0 : l.stackTraces = false) {e : Env} {s : State} {m : MethodId} {below : List Frame} {meth : Method} {c : Code} {b L : Nat} {xs : Nat → Int32} {A : Nat → Prop} {D : va_G} {cy : Nat → ClassId} {en g : Nat → Nat} {Q : State → Prop} (hC : LC p s m c b L xs A D cy en g) {ad : Nat → Nat → Nat} {am : Nat → Nat} {ob od : Nat} {x : Mem} {m0 : Nat → Nat → Int32} {fo : Nat → Int64} {fd : Nat → UInt64} {i : Int32} {H : Heap} {locs : List Loc} {ls : Array Slot} {cells slots : Nat} (h1 : vp_in (i + 1) L) (h2 : vp_in (i + 2) L) (h3 : vp_in (i + 3) L) (hcs : cells + 2 ≤ room_1.cells ∧ slots + 12 ≤ room_1.slots) (hop : OK_vine Inv x m0 (xs (i + 1).toNatClampNeg) (xs (i + 2).toNatClampNeg)) (hP : va_P D vwCl ((cW cy ad en x ++ [(ob, .inl (cy 6, 1, .inr (.inl fo)))]) ++ (mW cy am m0 ++ [(od, .inl (cy 7, 1, .inr (.inr (.inr (.inl fd)))))])) H) (hD : va_D A ((cW cy ad en x ++ [(ob, .inl (cy 6, 1, .inr (.inl fo)))]) ++ (mW cy am m0 ++ [(od, .inl (cy 7, 1, .inr (.inr (.inr (.inl fd)))))]))) (hS : va_S A s.heap H locs) (hl : lv_has ls 9 [(0, .ref b), (1, .ref (ad 12 0)), (2, .ref (am 0)), (3, .ref ob), (4, .ref od), (5, .int i)]) (kk : ∀ (x' : Mem) (m' : Nat → Nat → Int32) (fo' : Nat → Int64) (fd' : Nat → UInt64) (H : Heap) (locs : List Loc) (ls : Array Slot), Inv x' m' → va_P D vwCl ((cW cy ad en x' ++ [(ob, .inl (cy 6, 1, .inr (.inl fo')))]) ++ (mW cy am m' ++ [(od, .inl (cy 7, 1, .inr (.inr (.inr (.inl fd')))))])) H → va_D A ((cW cy ad en x' ++ [(ob, .inl (cy 6, 1, .inr (.inl fo')))]) ++ (mW cy am m' ++ [(od, .inl (cy 7, 1, .inr (.inr (.inr (.inl fd')))))])) → va_S A s.heap H locs → lv_has ls 9 [(0, .ref b), (1, .ref (ad 12 0)), (2, .ref (am 0)), (3, .ref ob), (4, .ref od), (5, .int i)] → W p l e room_1 s m #[Value.ref b] below meth c H locs (cells + 2) (slots + 12) Q (F0 m 2250 ls [])) : W p l e room_1 s m #[Value.ref b] below meth c H locs cells slots Q (F0 m 288 ls []) := by
  obtain ⟨hx, hb, hml, hown, hw, hK8, hN, hST, hX, hbl, hbA, hA⟩ := hC
  have hK := hKL hK8
  have hcs0 : cells ≤ room_1.cells ∧ slots ≤ room_1.slots := ⟨Nat.le_trans (Nat.le_add_right _ 2) hcs.1, Nat.le_trans (Nat.le_add_right _ 12) hcs.2⟩
  have hcsA : cells + 2 ≤ room_1.cells ∧ slots + 12 ≤ room_1.slots := hcs
  obtain ⟨code, r, x', bb, m', hcd, hF, hFm, hthr, heq, hInv⟩ := hop
  refine lv_aload_n hx hb dL_law_288 rfl (lv_at hl 1 rfl) ?_
  refine lv_aload_n hx hb dL_law_289 rfl (lv_at hl 0 rfl) ?_
  refine lv_iload hx hb dL_law_290 (lv_at hl 5 rfl) ?_
  refine lv_iconst (v := 1) hx hb dL_law_292 (by decide) ?_
  refine lv_iadd hx hb dL_law_293 ?_
  refine va_sld hx hb hX hbl hbA hS h1 dL_law_294 ?_
  refine lv_aload_n hx hb dL_law_295 rfl (lv_at hl 0 rfl) ?_
  refine lv_iload hx hb dL_law_296 (lv_at hl 5 rfl) ?_
  refine lv_iconst (v := 2) hx hb dL_law_298 (by decide) ?_
  refine lv_iadd hx hb dL_law_299 ?_
  refine va_sld hx hb hX hbl hbA hS h2 dL_law_300 ?_
  refine lv_aload_n hx hb dL_law_301 rfl (lv_at hl 3 rfl) ?_
  refine fW (w1 := (cW cy ad en x ++ [((ob, .inl (cy 6, 1, .inr (.inl fo))) : Nat × va_E)])) (w2 := (mW cy am m0 ++ [((od, .inl (cy 7, 1, .inr (.inr (.inr (.inl fd))))) : Nat × va_E)])) (As := [.ref (ad 12 0), .int (xs (i + 1).toNatClampNeg), .int (xs (i + 2).toNatClampNeg), .ref ob]) (rest := []) hx hb hml hown hw hK8 hN hA hl.1 hP hD hS hST k_721 k_722 k_75 k_723 (met_L_vine l hst0 D cy _ ad en g x (xs (i + 1).toNatClampNeg) (xs (i + 2).toNatClampNeg) ob fo code r x' hcd hF) ⟨rfl, rfl⟩ (n := 4) (by decide +kernel) rfl ⟨Nat.le_of_ble_eq_true rfl, Nat.le_of_ble_eq_true rfl⟩ hcs (Nat.le_of_ble_eq_true rfl) rfl dL_law_302 (fun H locs hP hD hS => ?_)
  refine lv_istore (lv' := [(6, .int code), (0, .ref b), (1, .ref (ad 12 0)), (2, .ref (am 0)), (3, .ref ob), (4, .ref od), (5, .int i)]) hx hb dL_law_305 hl (by decide) rfl (fun ls hl => ?_)
  refine lv_aload_n hx hb dL_law_307 rfl (lv_at hl 3 rfl) ?_
  refine lv_aload_n hx hb dL_law_308 rfl (lv_at hl 1 rfl) ?_
  refine lv_iload hx hb dL_law_309 (lv_at hl 6 rfl) ?_
  refine lv_iconst (v := 1) hx hb dL_law_311 (by decide) ?_
  refine lv_iadd hx hb dL_law_312 ?_
  refine va_sld hx hb hX hbl hbA hS h1 dL_law_313 ?_
  refine lv_aload_n hx hb dL_law_314 rfl (lv_at hl 1 rfl) ?_
  refine lv_iload hx hb dL_law_315 (lv_at hl 6 rfl) ?_
  refine lv_iconst (v := 2) hx hb dL_law_317 (by decide) ?_
  refine lv_iadd hx hb dL_law_318 ?_
  refine va_sld hx hb hX hbl hbA hS h2 dL_law_319 ?_
  have hP : va_P D vwCl ((mW cy am m0) ++ ((cW cy ad en x' ++ [((ob, .inl (cy 6, 1, .inr (.inl (if code = 0 then (vp_updL fo (0 : Int32).toNatClampNeg r.toInt64) else fo)))) : Nat × va_E)]) ++ [((od, .inl (cy 7, 1, .inr (.inr (.inr (.inl fd))))) : Nat × va_E)])) H := pm_P pmM hP
  have hD : va_D A ((mW cy am m0) ++ ((cW cy ad en x' ++ [((ob, .inl (cy 6, 1, .inr (.inl (if code = 0 then (vp_updL fo (0 : Int32).toNatClampNeg r.toInt64) else fo)))) : Nat × va_E)]) ++ [((od, .inl (cy 7, 1, .inr (.inr (.inr (.inl fd))))) : Nat × va_E)])) := pm_D pmM hD
  refine fV (w1 := (mW cy am m0)) (w2 := ((cW cy ad en x' ++ [((ob, .inl (cy 6, 1, .inr (.inl (if code = 0 then (vp_updL fo (0 : Int32).toNatClampNeg r.toInt64) else fo)))) : Nat × va_E)]) ++ [((od, .inl (cy 7, 1, .inr (.inr (.inr (.inl fd))))) : Nat × va_E)])) (As := [.int (xs (i + 1).toNatClampNeg), .int (xs (i + 2).toNatClampNeg)]) (rest := []) hx hb hml hown hw hK8 hN hA hl.1 hP hD hS k_1671 k_1672 k_1673 k_90 k_1674 (met_X10_vine l D cy _ am m0 (xs (i + 1).toNatClampNeg) (xs (i + 2).toNatClampNeg) bb m' hFm) (fun _ _ _ => trivial) Xok_T (gM (am := am) (r := 0) (m := m0) (f := m0 0) (by decide) rfl) rfl ⟨rfl, rfl⟩ (n := 2) (by decide +kernel) rfl ⟨Nat.le_of_ble_eq_true rfl, Nat.le_of_ble_eq_true rfl⟩ hcsA (Nat.le_of_ble_eq_true rfl) rfl dL_law_320 (fun H locs hP hD hS => ?_)
  have hP : va_P D vwCl ((cW cy ad en x' ++ [(ob, .inl (cy 6, 1, .inr (.inl (if code = 0 then (vp_updL fo (0 : Int32).toNatClampNeg r.toInt64) else fo))))]) ++ (mW cy am m' ++ [(od, .inl (cy 7, 1, .inr (.inr (.inr (.inl fd)))))])) H := pm_P pmM.symm hP
  have hD : va_D A ((cW cy ad en x' ++ [(ob, .inl (cy 6, 1, .inr (.inl (if code = 0 then (vp_updL fo (0 : Int32).toNatClampNeg r.toInt64) else fo))))]) ++ (mW cy am m' ++ [(od, .inl (cy 7, 1, .inr (.inr (.inr (.inl fd)))))])) := pm_D pmM.symm hD
  refine lv_istore (lv' := [(7, .int bb), (6, .int code), (0, .ref b), (1, .ref (ad 12 0)), (2, .ref (am 0)), (3, .ref ob), (4, .ref od), (5, .int i)]) hx hb dL_law_323 hl (by decide) rfl (fun ls hl => ?_)
  refine lv_aload_n hx hb dL_law_325 rfl (lv_at hl 4 rfl) ?_
  have hP : va_P D vwCl ((mW cy am m') ++ ((cW cy ad en x' ++ [((ob, .inl (cy 6, 1, .inr (.inl (if code = 0 then (vp_updL fo (0 : Int32).toNatClampNeg r.toInt64) else fo)))) : Nat × va_E)]) ++ [((od, .inl (cy 7, 1, .inr (.inr (.inr (.inl fd))))) : Nat × va_E)])) H := pm_P pmM hP
  have hD : va_D A ((mW cy am m') ++ ((cW cy ad en x' ++ [((ob, .inl (cy 6, 1, .inr (.inl (if code = 0 then (vp_updL fo (0 : Int32).toNatClampNeg r.toInt64) else fo)))) : Nat × va_E)]) ++ [((od, .inl (cy 7, 1, .inr (.inr (.inr (.inl fd))))) : Nat × va_E)])) := pm_D pmM hD
  refine fV (w1 := (mW cy am m')) (w2 := ((cW cy ad en x' ++ [((ob, .inl (cy 6, 1, .inr (.inl (if code = 0 then (vp_updL fo (0 : Int32).toNatClampNeg r.toInt64) else fo)))) : Nat × va_E)]) ++ [((od, .inl (cy 7, 1, .inr (.inr (.inr (.inl fd))))) : Nat × va_E)])) (As := []) (rest := []) hx hb hml hown hw hK8 hN hA hl.1 hP hD hS k_1625 k_1626 k_1627 k_90 k_1628 (met_X10_thrown l D cy _ am m' code hthr) (fun _ _ _ => trivial) Xok_T (gM (am := am) (r := 0) (m := m') (f := m' 0) (by decide) rfl) rfl ⟨rfl, rfl⟩ (n := 0) (by decide +kernel) rfl ⟨Nat.le_of_ble_eq_true rfl, Nat.le_of_ble_eq_true rfl⟩ hcsA (Nat.le_of_ble_eq_true rfl) rfl dL_law_326 (fun H locs hP hD hS => ?_)
  have hP : va_P D vwCl ((cW cy ad en x' ++ [(ob, .inl (cy 6, 1, .inr (.inl (if code = 0 then (vp_updL fo (0 : Int32).toNatClampNeg r.toInt64) else fo))))]) ++ (mW cy am m' ++ [(od, .inl (cy 7, 1, .inr (.inr (.inr (.inl fd)))))])) H := pm_P pmM.symm hP
  have hD : va_D A ((cW cy ad en x' ++ [(ob, .inl (cy 6, 1, .inr (.inl (if code = 0 then (vp_updL fo (0 : Int32).toNatClampNeg r.toInt64) else fo))))]) ++ (mW cy am m' ++ [(od, .inl (cy 7, 1, .inr (.inr (.inr (.inl fd)))))])) := pm_D pmM.symm hD
  refine lv_iload hx hb dL_law_329 (lv_at hl 1 rfl) ?_
  refine lv_icmp_eq (tgt := 336) hx hb dL_law_331 (by decide) (fun _ => ?_) (fun h => absurd rfl h)
  refine lv_iload hx hb dL_law_336 (lv_at hl 1 rfl) ?_
  refine lv_if_ne (tgt := 353) hx hb dL_law_338 (by decide) (fun hk => ?_) (fun hk => ?_)
  · refine lv_goto (tgt := 2250) hx hb dL_law_353 (by decide) ?_
    exact kk _ _ _ _ H locs ls hInv (cvP hP rfl) (cvD hD rfl) hS (lv_sub hl [2, 3, 4, 5, 6, 7] rfl)
  · have hk0 : code = 0 := hk
    have heq := heq hk0
    refine lv_aload_n hx hb dL_law_341 rfl (lv_at hl 5 rfl) ?_
    refine lv_iconst (v := 0) hx hb dL_law_342 (by decide) ?_
    refine va_lald hx hb hK8 hP _ 6 (gA gL) rfl (vp_in_iff.mpr (by decide)) dL_law_343 ?_
    refine lv_iload hx hb dL_law_344 (lv_at hl 0 rfl) ?_
    refine lv_i2l hx hb dL_law_346 rfl ?_
    refine W.lcmp hx hb dL_law_347 ?_
    refine lv_if_eq (tgt := 353) hx hb dL_law_348 (by decide) (fun _ => ?_) (fun h => absurd ?_ h)
    · refine lv_goto (tgt := 2250) hx hb dL_law_353 (by decide) ?_
      exact kk _ _ _ _ H locs ls hInv (cvP hP rfl) (cvD hD rfl) hS (lv_sub hl [2, 3, 4, 5, 6, 7] rfl)
    · rw [lg_cmp_eq, heq, if_pos hk0]; rfl
def OK_title (Inv : Mem → (Nat → Nat → Int32) → Prop) (x : Mem) (m : Nat → Nat → Int32) (p1 : Int32) (p2 : Int32) : Prop := ∃ (code : Int32) (r : Int32) (x' : Mem) (bb : Int32) (m' : Nat → Nat → Int32), (code = 0 ∨ code = 1) ∧ D_X9_title x p1 p2 = some (code, r, x') ∧ D_X10_title m p1 p2 = some (bb, m') ∧ D_X10_thrown m' = code ∧ (code = 0 → r = bb) ∧ Inv x' m'
set_option maxHeartbeats 4000000 in
theorem lw_title {Inv : Mem → (Nat → Nat → Int32) → Prop} {p : Program} {l : Launch} (hst0 : l.stackTraces = false) {e : Env} {s : State} {m : MethodId} {below : List Frame} {meth : Method} {c : Code} {b L : Nat} {xs : Nat → Int32} {A : Nat → Prop} {D : va_G} {cy : Nat → ClassId} {en g : Nat → Nat} {Q : State → Prop} (hC : LC p s m c b L xs A D cy en g) {ad : Nat → Nat → Nat} {am : Nat → Nat} {ob od : Nat} {x : Mem} {m0 : Nat → Nat → Int32} {fo : Nat → Int64} {fd : Nat → UInt64} {i : Int32} {H : Heap} {locs : List Loc} {ls : Array Slot} {cells slots : Nat} (h1 : vp_in (i + 1) L) (h2 : vp_in (i + 2) L) (h3 : vp_in (i + 3) L) (hcs : cells + 2 ≤ room_1.cells ∧ slots + 12 ≤ room_1.slots) (hop : OK_title Inv x m0 (xs (i + 1).toNatClampNeg) (xs (i + 2).toNatClampNeg)) (hP : va_P D vwCl ((cW cy ad en x ++ [(ob, .inl (cy 6, 1, .inr (.inl fo)))]) ++ (mW cy am m0 ++ [(od, .inl (cy 7, 1, .inr (.inr (.inr (.inl fd)))))])) H) (hD : va_D A ((cW cy ad en x ++ [(ob, .inl (cy 6, 1, .inr (.inl fo)))]) ++ (mW cy am m0 ++ [(od, .inl (cy 7, 1, .inr (.inr (.inr (.inl fd)))))]))) (hS : va_S A s.heap H locs) (hl : lv_has ls 9 [(0, .ref b), (1, .ref (ad 12 0)), (2, .ref (am 0)), (3, .ref ob), (4, .ref od), (5, .int i)]) (kk : ∀ (x' : Mem) (m' : Nat → Nat → Int32) (fo' : Nat → Int64) (fd' : Nat → UInt64) (H : Heap) (locs : List Loc) (ls : Array Slot), Inv x' m' → va_P D vwCl ((cW cy ad en x' ++ [(ob, .inl (cy 6, 1, .inr (.inl fo')))]) ++ (mW cy am m' ++ [(od, .inl (cy 7, 1, .inr (.inr (.inr (.inl fd')))))])) H → va_D A ((cW cy ad en x' ++ [(ob, .inl (cy 6, 1, .inr (.inl fo')))]) ++ (mW cy am m' ++ [(od, .inl (cy 7, 1, .inr (.inr (.inr (.inl fd')))))])) → va_S A s.heap H locs → lv_has ls 9 [(0, .ref b), (1, .ref (ad 12 0)), (2, .ref (am 0)), (3, .ref ob), (4, .ref od), (5, .int i)] → W p l e room_1 s m #[Value.ref b] below meth c H locs (cells + 2) (slots + 12) Q (F0 m 2250 ls [])) : W p l e room_1 s m #[Value.ref b] below meth c H locs cells slots Q (F0 m 356 ls []) := by
  obtain ⟨hx, hb, hml, hown, hw, hK8, hN, hST, hX, hbl, hbA, hA⟩ := hC
  have hK := hKL hK8
  have hcs0 : cells ≤ room_1.cells ∧ slots ≤ room_1.slots := ⟨Nat.le_trans (Nat.le_add_right _ 2) hcs.1, Nat.le_trans (Nat.le_add_right _ 12) hcs.2⟩
  have hcsA : cells + 2 ≤ room_1.cells ∧ slots + 12 ≤ room_1.slots := hcs
  obtain ⟨code, r, x', bb, m', hcd, hF, hFm, hthr, heq, hInv⟩ := hop
  refine lv_aload_n hx hb dL_law_356 rfl (lv_at hl 1 rfl) ?_
  refine lv_aload_n hx hb dL_law_357 rfl (lv_at hl 0 rfl) ?_
  refine lv_iload hx hb dL_law_358 (lv_at hl 5 rfl) ?_
  refine lv_iconst (v := 1) hx hb dL_law_360 (by decide) ?_
  refine lv_iadd hx hb dL_law_361 ?_
  refine va_sld hx hb hX hbl hbA hS h1 dL_law_362 ?_
  refine lv_aload_n hx hb dL_law_363 rfl (lv_at hl 0 rfl) ?_
  refine lv_iload hx hb dL_law_364 (lv_at hl 5 rfl) ?_
  refine lv_iconst (v := 2) hx hb dL_law_366 (by decide) ?_
  refine lv_iadd hx hb dL_law_367 ?_
  refine va_sld hx hb hX hbl hbA hS h2 dL_law_368 ?_
  refine lv_aload_n hx hb dL_law_369 rfl (lv_at hl 3 rfl) ?_
  refine fW (w1 := (cW cy ad en x ++ [((ob, .inl (cy 6, 1, .inr (.inl fo))) : Nat × va_E)])) (w2 := (mW cy am m0 ++ [((od, .inl (cy 7, 1, .inr (.inr (.inr (.inl fd))))) : Nat × va_E)])) (As := [.ref (ad 12 0), .int (xs (i + 1).toNatClampNeg), .int (xs (i + 2).toNatClampNeg), .ref ob]) (rest := []) hx hb hml hown hw hK8 hN hA hl.1 hP hD hS hST k_730 k_731 k_75 k_732 (met_L_title l hst0 D cy _ ad en g x (xs (i + 1).toNatClampNeg) (xs (i + 2).toNatClampNeg) ob fo code r x' hcd hF) ⟨rfl, rfl⟩ (n := 4) (by decide +kernel) rfl ⟨Nat.le_of_ble_eq_true rfl, Nat.le_of_ble_eq_true rfl⟩ hcs (Nat.le_of_ble_eq_true rfl) rfl dL_law_370 (fun H locs hP hD hS => ?_)
  refine lv_istore (lv' := [(6, .int code), (0, .ref b), (1, .ref (ad 12 0)), (2, .ref (am 0)), (3, .ref ob), (4, .ref od), (5, .int i)]) hx hb dL_law_373 hl (by decide) rfl (fun ls hl => ?_)
  refine lv_aload_n hx hb dL_law_375 rfl (lv_at hl 3 rfl) ?_
  refine lv_aload_n hx hb dL_law_376 rfl (lv_at hl 1 rfl) ?_
  refine lv_iload hx hb dL_law_377 (lv_at hl 6 rfl) ?_
  refine lv_iconst (v := 1) hx hb dL_law_379 (by decide) ?_
  refine lv_iadd hx hb dL_law_380 ?_
  refine va_sld hx hb hX hbl hbA hS h1 dL_law_381 ?_
  refine lv_aload_n hx hb dL_law_382 rfl (lv_at hl 1 rfl) ?_
  refine lv_iload hx hb dL_law_383 (lv_at hl 6 rfl) ?_
  refine lv_iconst (v := 2) hx hb dL_law_385 (by decide) ?_
  refine lv_iadd hx hb dL_law_386 ?_
  refine va_sld hx hb hX hbl hbA hS h2 dL_law_387 ?_
  have hP : va_P D vwCl ((mW cy am m0) ++ ((cW cy ad en x' ++ [((ob, .inl (cy 6, 1, .inr (.inl (if code = 0 then (vp_updL fo (0 : Int32).toNatClampNeg r.toInt64) else fo)))) : Nat × va_E)]) ++ [((od, .inl (cy 7, 1, .inr (.inr (.inr (.inl fd))))) : Nat × va_E)])) H := pm_P pmM hP
  have hD : va_D A ((mW cy am m0) ++ ((cW cy ad en x' ++ [((ob, .inl (cy 6, 1, .inr (.inl (if code = 0 then (vp_updL fo (0 : Int32).toNatClampNeg r.toInt64) else fo)))) : Nat × va_E)]) ++ [((od, .inl (cy 7, 1, .inr (.inr (.inr (.inl fd))))) : Nat × va_E)])) := pm_D pmM hD
  refine fV (w1 := (mW cy am m0)) (w2 := ((cW cy ad en x' ++ [((ob, .inl (cy 6, 1, .inr (.inl (if code = 0 then (vp_updL fo (0 : Int32).toNatClampNeg r.toInt64) else fo)))) : Nat × va_E)]) ++ [((od, .inl (cy 7, 1, .inr (.inr (.inr (.inl fd))))) : Nat × va_E)])) (As := [.int (xs (i + 1).toNatClampNeg), .int (xs (i + 2).toNatClampNeg)]) (rest := []) hx hb hml hown hw hK8 hN hA hl.1 hP hD hS k_1683 k_1684 k_1685 k_90 k_1686 (met_X10_title l D cy _ am m0 (xs (i + 1).toNatClampNeg) (xs (i + 2).toNatClampNeg) bb m' hFm) (fun _ _ _ => trivial) Xok_T (gM (am := am) (r := 0) (m := m0) (f := m0 0) (by decide) rfl) rfl ⟨rfl, rfl⟩ (n := 2) (by decide +kernel) rfl ⟨Nat.le_of_ble_eq_true rfl, Nat.le_of_ble_eq_true rfl⟩ hcsA (Nat.le_of_ble_eq_true rfl) rfl dL_law_388 (fun H locs hP hD hS => ?_)
  have hP : va_P D vwCl ((cW cy ad en x' ++ [(ob, .inl (cy 6, 1, .inr (.inl (if code = 0 then (vp_updL fo (0 : Int32).toNatClampNeg r.toInt64) else fo))))]) ++ (mW cy am m' ++ [(od, .inl (cy 7, 1, .inr (.inr (.inr (.inl fd)))))])) H := pm_P pmM.symm hP
  have hD : va_D A ((cW cy ad en x' ++ [(ob, .inl (cy 6, 1, .inr (.inl (if code = 0 then (vp_updL fo (0 : Int32).toNatClampNeg r.toInt64) else fo))))]) ++ (mW cy am m' ++ [(od, .inl (cy 7, 1, .inr (.inr (.inr (.inl fd)))))])) := pm_D pmM.symm hD
  refine lv_istore (lv' := [(7, .int bb), (6, .int code), (0, .ref b), (1, .ref (ad 12 0)), (2, .ref (am 0)), (3, .ref ob), (4, .ref od), (5, .int i)]) hx hb dL_law_391 hl (by decide) rfl (fun ls hl => ?_)
  refine lv_aload_n hx hb dL_law_393 rfl (lv_at hl 4 rfl) ?_
  have hP : va_P D vwCl ((mW cy am m') ++ ((cW cy ad en x' ++ [((ob, .inl (cy 6, 1, .inr (.inl (if code = 0 then (vp_updL fo (0 : Int32).toNatClampNeg r.toInt64) else fo)))) : Nat × va_E)]) ++ [((od, .inl (cy 7, 1, .inr (.inr (.inr (.inl fd))))) : Nat × va_E)])) H := pm_P pmM hP
  have hD : va_D A ((mW cy am m') ++ ((cW cy ad en x' ++ [((ob, .inl (cy 6, 1, .inr (.inl (if code = 0 then (vp_updL fo (0 : Int32).toNatClampNeg r.toInt64) else fo)))) : Nat × va_E)]) ++ [((od, .inl (cy 7, 1, .inr (.inr (.inr (.inl fd))))) : Nat × va_E)])) := pm_D pmM hD
  refine fV (w1 := (mW cy am m')) (w2 := ((cW cy ad en x' ++ [((ob, .inl (cy 6, 1, .inr (.inl (if code = 0 then (vp_updL fo (0 : Int32).toNatClampNeg r.toInt64) else fo)))) : Nat × va_E)]) ++ [((od, .inl (cy 7, 1, .inr (.inr (.inr (.inl fd))))) : Nat × va_E)])) (As := []) (rest := []) hx hb hml hown hw hK8 hN hA hl.1 hP hD hS k_1625 k_1626 k_1627 k_90 k_1628 (met_X10_thrown l D cy _ am m' code hthr) (fun _ _ _ => trivial) Xok_T (gM (am := am) (r := 0) (m := m') (f := m' 0) (by decide) rfl) rfl ⟨rfl, rfl⟩ (n := 0) (by decide +kernel) rfl ⟨Nat.le_of_ble_eq_true rfl, Nat.le_of_ble_eq_true rfl⟩ hcsA (Nat.le_of_ble_eq_true rfl) rfl dL_law_394 (fun H locs hP hD hS => ?_)
  have hP : va_P D vwCl ((cW cy ad en x' ++ [(ob, .inl (cy 6, 1, .inr (.inl (if code = 0 then (vp_updL fo (0 : Int32).toNatClampNeg r.toInt64) else fo))))]) ++ (mW cy am m' ++ [(od, .inl (cy 7, 1, .inr (.inr (.inr (.inl fd)))))])) H := pm_P pmM.symm hP
  have hD : va_D A ((cW cy ad en x' ++ [(ob, .inl (cy 6, 1, .inr (.inl (if code = 0 then (vp_updL fo (0 : Int32).toNatClampNeg r.toInt64) else fo))))]) ++ (mW cy am m' ++ [(od, .inl (cy 7, 1, .inr (.inr (.inr (.inl fd)))))])) := pm_D pmM.symm hD
  refine lv_iload hx hb dL_law_397 (lv_at hl 1 rfl) ?_
  refine lv_icmp_eq (tgt := 404) hx hb dL_law_399 (by decide) (fun _ => ?_) (fun h => absurd rfl h)
  refine lv_iload hx hb dL_law_404 (lv_at hl 1 rfl) ?_
  refine lv_if_ne (tgt := 421) hx hb dL_law_406 (by decide) (fun hk => ?_) (fun hk => ?_)
  · refine lv_goto (tgt := 2250) hx hb dL_law_421 (by decide) ?_
    exact kk _ _ _ _ H locs ls hInv (cvP hP rfl) (cvD hD rfl) hS (lv_sub hl [2, 3, 4, 5, 6, 7] rfl)
  · have hk0 : code = 0 := hk
    have heq := heq hk0
    refine lv_aload_n hx hb dL_law_409 rfl (lv_at hl 5 rfl) ?_
    refine lv_iconst (v := 0) hx hb dL_law_410 (by decide) ?_
    refine va_lald hx hb hK8 hP _ 6 (gA gL) rfl (vp_in_iff.mpr (by decide)) dL_law_411 ?_
    refine lv_iload hx hb dL_law_412 (lv_at hl 0 rfl) ?_
    refine lv_i2l hx hb dL_law_414 rfl ?_
    refine W.lcmp hx hb dL_law_415 ?_
    refine lv_if_eq (tgt := 421) hx hb dL_law_416 (by decide) (fun _ => ?_) (fun h => absurd ?_ h)
    · refine lv_goto (tgt := 2250) hx hb dL_law_421 (by decide) ?_
      exact kk _ _ _ _ H locs ls hInv (cvP hP rfl) (cvD hD rfl) hS (lv_sub hl [2, 3, 4, 5, 6, 7] rfl)
    · rw [lg_cmp_eq, heq, if_pos hk0]; rfl
def OK_sell (Inv : Mem → (Nat → Nat → Int32) → Prop) (x : Mem) (m : Nat → Nat → Int32) (p1 : Int32) (p2 : Int32) (p3 : Int32) : Prop := ∃ (code : Int32) (r : Int32) (x' : Mem) (bb : Int32) (m' : Nat → Nat → Int32), (code = 0 ∨ code = 1) ∧ D_X9_sell x p1 p2 p3 = some (code, r, x') ∧ D_X10_sell m p1 p2 p3 = some (bb, m') ∧ D_X10_thrown m' = code ∧ (code = 0 → r = bb) ∧ Inv x' m'
set_option maxHeartbeats 4000000 in
theorem lw_sell {Inv : Mem → (Nat → Nat → Int32) → Prop} {p : Program} {l : Launch} (hst0 : l.stackTraces = false) {e : Env} {s : State} {m : MethodId} {below : List Frame} {meth : Method} {c : Code} {b L : Nat} {xs : Nat → Int32} {A : Nat → Prop} {D : va_G} {cy : Nat → ClassId} {en g : Nat → Nat} {Q : State → Prop} (hC : LC p s m c b L xs A D cy en g) {ad : Nat → Nat → Nat} {am : Nat → Nat} {ob od : Nat} {x : Mem} {m0 : Nat → Nat → Int32} {fo : Nat → Int64} {fd : Nat → UInt64} {i : Int32} {H : Heap} {locs : List Loc} {ls : Array Slot} {cells slots : Nat} (h1 : vp_in (i + 1) L) (h2 : vp_in (i + 2) L) (h3 : vp_in (i + 3) L) (hcs : cells + 2 ≤ room_1.cells ∧ slots + 12 ≤ room_1.slots) (hop : OK_sell Inv x m0 (xs (i + 1).toNatClampNeg) (xs (i + 2).toNatClampNeg) (xs (i + 3).toNatClampNeg)) (hP : va_P D vwCl ((cW cy ad en x ++ [(ob, .inl (cy 6, 1, .inr (.inl fo)))]) ++ (mW cy am m0 ++ [(od, .inl (cy 7, 1, .inr (.inr (.inr (.inl fd)))))])) H) (hD : va_D A ((cW cy ad en x ++ [(ob, .inl (cy 6, 1, .inr (.inl fo)))]) ++ (mW cy am m0 ++ [(od, .inl (cy 7, 1, .inr (.inr (.inr (.inl fd)))))]))) (hS : va_S A s.heap H locs) (hl : lv_has ls 9 [(0, .ref b), (1, .ref (ad 12 0)), (2, .ref (am 0)), (3, .ref ob), (4, .ref od), (5, .int i)]) (kk : ∀ (x' : Mem) (m' : Nat → Nat → Int32) (fo' : Nat → Int64) (fd' : Nat → UInt64) (H : Heap) (locs : List Loc) (ls : Array Slot), Inv x' m' → va_P D vwCl ((cW cy ad en x' ++ [(ob, .inl (cy 6, 1, .inr (.inl fo')))]) ++ (mW cy am m' ++ [(od, .inl (cy 7, 1, .inr (.inr (.inr (.inl fd')))))])) H → va_D A ((cW cy ad en x' ++ [(ob, .inl (cy 6, 1, .inr (.inl fo')))]) ++ (mW cy am m' ++ [(od, .inl (cy 7, 1, .inr (.inr (.inr (.inl fd')))))])) → va_S A s.heap H locs → lv_has ls 9 [(0, .ref b), (1, .ref (ad 12 0)), (2, .ref (am 0)), (3, .ref ob), (4, .ref od), (5, .int i)] → W p l e room_1 s m #[Value.ref b] below meth c H locs (cells + 2) (slots + 12) Q (F0 m 2250 ls [])) : W p l e room_1 s m #[Value.ref b] below meth c H locs cells slots Q (F0 m 424 ls []) := by
  obtain ⟨hx, hb, hml, hown, hw, hK8, hN, hST, hX, hbl, hbA, hA⟩ := hC
  have hK := hKL hK8
  have hcs0 : cells ≤ room_1.cells ∧ slots ≤ room_1.slots := ⟨Nat.le_trans (Nat.le_add_right _ 2) hcs.1, Nat.le_trans (Nat.le_add_right _ 12) hcs.2⟩
  have hcsA : cells + 2 ≤ room_1.cells ∧ slots + 12 ≤ room_1.slots := hcs
  obtain ⟨code, r, x', bb, m', hcd, hF, hFm, hthr, heq, hInv⟩ := hop
  refine lv_aload_n hx hb dL_law_424 rfl (lv_at hl 1 rfl) ?_
  refine lv_aload_n hx hb dL_law_425 rfl (lv_at hl 0 rfl) ?_
  refine lv_iload hx hb dL_law_426 (lv_at hl 5 rfl) ?_
  refine lv_iconst (v := 1) hx hb dL_law_428 (by decide) ?_
  refine lv_iadd hx hb dL_law_429 ?_
  refine va_sld hx hb hX hbl hbA hS h1 dL_law_430 ?_
  refine lv_aload_n hx hb dL_law_431 rfl (lv_at hl 0 rfl) ?_
  refine lv_iload hx hb dL_law_432 (lv_at hl 5 rfl) ?_
  refine lv_iconst (v := 2) hx hb dL_law_434 (by decide) ?_
  refine lv_iadd hx hb dL_law_435 ?_
  refine va_sld hx hb hX hbl hbA hS h2 dL_law_436 ?_
  refine lv_aload_n hx hb dL_law_437 rfl (lv_at hl 0 rfl) ?_
  refine lv_iload hx hb dL_law_438 (lv_at hl 5 rfl) ?_
  refine lv_iconst (v := 3) hx hb dL_law_440 (by decide) ?_
  refine lv_iadd hx hb dL_law_441 ?_
  refine va_sld hx hb hX hbl hbA hS h3 dL_law_442 ?_
  refine lv_aload_n hx hb dL_law_443 rfl (lv_at hl 3 rfl) ?_
  refine fW (w1 := (cW cy ad en x ++ [((ob, .inl (cy 6, 1, .inr (.inl fo))) : Nat × va_E)])) (w2 := (mW cy am m0 ++ [((od, .inl (cy 7, 1, .inr (.inr (.inr (.inl fd))))) : Nat × va_E)])) (As := [.ref (ad 12 0), .int (xs (i + 1).toNatClampNeg), .int (xs (i + 2).toNatClampNeg), .int (xs (i + 3).toNatClampNeg), .ref ob]) (rest := []) hx hb hml hown hw hK8 hN hA hl.1 hP hD hS hST k_739 k_740 k_75 k_741 (met_L_sell l hst0 D cy _ ad en g x (xs (i + 1).toNatClampNeg) (xs (i + 2).toNatClampNeg) (xs (i + 3).toNatClampNeg) ob fo code r x' hcd hF) ⟨rfl, rfl⟩ (n := 5) (by decide +kernel) rfl ⟨Nat.le_of_ble_eq_true rfl, Nat.le_of_ble_eq_true rfl⟩ hcs (Nat.le_of_ble_eq_true rfl) rfl dL_law_444 (fun H locs hP hD hS => ?_)
  refine lv_istore (lv' := [(6, .int code), (0, .ref b), (1, .ref (ad 12 0)), (2, .ref (am 0)), (3, .ref ob), (4, .ref od), (5, .int i)]) hx hb dL_law_447 hl (by decide) rfl (fun ls hl => ?_)
  refine lv_aload_n hx hb dL_law_449 rfl (lv_at hl 3 rfl) ?_
  refine lv_aload_n hx hb dL_law_450 rfl (lv_at hl 1 rfl) ?_
  refine lv_iload hx hb dL_law_451 (lv_at hl 6 rfl) ?_
  refine lv_iconst (v := 1) hx hb dL_law_453 (by decide) ?_
  refine lv_iadd hx hb dL_law_454 ?_
  refine va_sld hx hb hX hbl hbA hS h1 dL_law_455 ?_
  refine lv_aload_n hx hb dL_law_456 rfl (lv_at hl 1 rfl) ?_
  refine lv_iload hx hb dL_law_457 (lv_at hl 6 rfl) ?_
  refine lv_iconst (v := 2) hx hb dL_law_459 (by decide) ?_
  refine lv_iadd hx hb dL_law_460 ?_
  refine va_sld hx hb hX hbl hbA hS h2 dL_law_461 ?_
  refine lv_aload_n hx hb dL_law_462 rfl (lv_at hl 1 rfl) ?_
  refine lv_iload hx hb dL_law_463 (lv_at hl 6 rfl) ?_
  refine lv_iconst (v := 3) hx hb dL_law_465 (by decide) ?_
  refine lv_iadd hx hb dL_law_466 ?_
  refine va_sld hx hb hX hbl hbA hS h3 dL_law_467 ?_
  have hP : va_P D vwCl ((mW cy am m0) ++ ((cW cy ad en x' ++ [((ob, .inl (cy 6, 1, .inr (.inl (if code = 0 then (vp_updL fo (0 : Int32).toNatClampNeg r.toInt64) else fo)))) : Nat × va_E)]) ++ [((od, .inl (cy 7, 1, .inr (.inr (.inr (.inl fd))))) : Nat × va_E)])) H := pm_P pmM hP
  have hD : va_D A ((mW cy am m0) ++ ((cW cy ad en x' ++ [((ob, .inl (cy 6, 1, .inr (.inl (if code = 0 then (vp_updL fo (0 : Int32).toNatClampNeg r.toInt64) else fo)))) : Nat × va_E)]) ++ [((od, .inl (cy 7, 1, .inr (.inr (.inr (.inl fd))))) : Nat × va_E)])) := pm_D pmM hD
  refine fV (w1 := (mW cy am m0)) (w2 := ((cW cy ad en x' ++ [((ob, .inl (cy 6, 1, .inr (.inl (if code = 0 then (vp_updL fo (0 : Int32).toNatClampNeg r.toInt64) else fo)))) : Nat × va_E)]) ++ [((od, .inl (cy 7, 1, .inr (.inr (.inr (.inl fd))))) : Nat × va_E)])) (As := [.int (xs (i + 1).toNatClampNeg), .int (xs (i + 2).toNatClampNeg), .int (xs (i + 3).toNatClampNeg)]) (rest := []) hx hb hml hown hw hK8 hN hA hl.1 hP hD hS k_1718 k_1719 k_1720 k_90 k_1721 (met_X10_sell l D cy _ am m0 (xs (i + 1).toNatClampNeg) (xs (i + 2).toNatClampNeg) (xs (i + 3).toNatClampNeg) bb m' hFm) (fun _ _ _ => trivial) Xok_T (gM (am := am) (r := 0) (m := m0) (f := m0 0) (by decide) rfl) rfl ⟨rfl, rfl⟩ (n := 3) (by decide +kernel) rfl ⟨Nat.le_of_ble_eq_true rfl, Nat.le_of_ble_eq_true rfl⟩ hcsA (Nat.le_of_ble_eq_true rfl) rfl dL_law_468 (fun H locs hP hD hS => ?_)
  have hP : va_P D vwCl ((cW cy ad en x' ++ [(ob, .inl (cy 6, 1, .inr (.inl (if code = 0 then (vp_updL fo (0 : Int32).toNatClampNeg r.toInt64) else fo))))]) ++ (mW cy am m' ++ [(od, .inl (cy 7, 1, .inr (.inr (.inr (.inl fd)))))])) H := pm_P pmM.symm hP
  have hD : va_D A ((cW cy ad en x' ++ [(ob, .inl (cy 6, 1, .inr (.inl (if code = 0 then (vp_updL fo (0 : Int32).toNatClampNeg r.toInt64) else fo))))]) ++ (mW cy am m' ++ [(od, .inl (cy 7, 1, .inr (.inr (.inr (.inl fd)))))])) := pm_D pmM.symm hD
  refine lv_istore (lv' := [(7, .int bb), (6, .int code), (0, .ref b), (1, .ref (ad 12 0)), (2, .ref (am 0)), (3, .ref ob), (4, .ref od), (5, .int i)]) hx hb dL_law_471 hl (by decide) rfl (fun ls hl => ?_)
  refine lv_aload_n hx hb dL_law_473 rfl (lv_at hl 4 rfl) ?_
  have hP : va_P D vwCl ((mW cy am m') ++ ((cW cy ad en x' ++ [((ob, .inl (cy 6, 1, .inr (.inl (if code = 0 then (vp_updL fo (0 : Int32).toNatClampNeg r.toInt64) else fo)))) : Nat × va_E)]) ++ [((od, .inl (cy 7, 1, .inr (.inr (.inr (.inl fd))))) : Nat × va_E)])) H := pm_P pmM hP
  have hD : va_D A ((mW cy am m') ++ ((cW cy ad en x' ++ [((ob, .inl (cy 6, 1, .inr (.inl (if code = 0 then (vp_updL fo (0 : Int32).toNatClampNeg r.toInt64) else fo)))) : Nat × va_E)]) ++ [((od, .inl (cy 7, 1, .inr (.inr (.inr (.inl fd))))) : Nat × va_E)])) := pm_D pmM hD
  refine fV (w1 := (mW cy am m')) (w2 := ((cW cy ad en x' ++ [((ob, .inl (cy 6, 1, .inr (.inl (if code = 0 then (vp_updL fo (0 : Int32).toNatClampNeg r.toInt64) else fo)))) : Nat × va_E)]) ++ [((od, .inl (cy 7, 1, .inr (.inr (.inr (.inl fd))))) : Nat × va_E)])) (As := []) (rest := []) hx hb hml hown hw hK8 hN hA hl.1 hP hD hS k_1625 k_1626 k_1627 k_90 k_1628 (met_X10_thrown l D cy _ am m' code hthr) (fun _ _ _ => trivial) Xok_T (gM (am := am) (r := 0) (m := m') (f := m' 0) (by decide) rfl) rfl ⟨rfl, rfl⟩ (n := 0) (by decide +kernel) rfl ⟨Nat.le_of_ble_eq_true rfl, Nat.le_of_ble_eq_true rfl⟩ hcsA (Nat.le_of_ble_eq_true rfl) rfl dL_law_474 (fun H locs hP hD hS => ?_)
  have hP : va_P D vwCl ((cW cy ad en x' ++ [(ob, .inl (cy 6, 1, .inr (.inl (if code = 0 then (vp_updL fo (0 : Int32).toNatClampNeg r.toInt64) else fo))))]) ++ (mW cy am m' ++ [(od, .inl (cy 7, 1, .inr (.inr (.inr (.inl fd)))))])) H := pm_P pmM.symm hP
  have hD : va_D A ((cW cy ad en x' ++ [(ob, .inl (cy 6, 1, .inr (.inl (if code = 0 then (vp_updL fo (0 : Int32).toNatClampNeg r.toInt64) else fo))))]) ++ (mW cy am m' ++ [(od, .inl (cy 7, 1, .inr (.inr (.inr (.inl fd)))))])) := pm_D pmM.symm hD
  refine lv_iload hx hb dL_law_477 (lv_at hl 1 rfl) ?_
  refine lv_icmp_eq (tgt := 484) hx hb dL_law_479 (by decide) (fun _ => ?_) (fun h => absurd rfl h)
  refine lv_iload hx hb dL_law_484 (lv_at hl 1 rfl) ?_
  refine lv_if_ne (tgt := 501) hx hb dL_law_486 (by decide) (fun hk => ?_) (fun hk => ?_)
  · refine lv_goto (tgt := 2250) hx hb dL_law_501 (by decide) ?_
    exact kk _ _ _ _ H locs ls hInv (cvP hP rfl) (cvD hD rfl) hS (lv_sub hl [2, 3, 4, 5, 6, 7] rfl)
  · have hk0 : code = 0 := hk
    have heq := heq hk0
    refine lv_aload_n hx hb dL_law_489 rfl (lv_at hl 5 rfl) ?_
    refine lv_iconst (v := 0) hx hb dL_law_490 (by decide) ?_
    refine va_lald hx hb hK8 hP _ 6 (gA gL) rfl (vp_in_iff.mpr (by decide)) dL_law_491 ?_
    refine lv_iload hx hb dL_law_492 (lv_at hl 0 rfl) ?_
    refine lv_i2l hx hb dL_law_494 rfl ?_
    refine W.lcmp hx hb dL_law_495 ?_
    refine lv_if_eq (tgt := 501) hx hb dL_law_496 (by decide) (fun _ => ?_) (fun h => absurd ?_ h)
    · refine lv_goto (tgt := 2250) hx hb dL_law_501 (by decide) ?_
      exact kk _ _ _ _ H locs ls hInv (cvP hP rfl) (cvD hD rfl) hS (lv_sub hl [2, 3, 4, 5, 6, 7] rfl)
    · rw [lg_cmp_eq, heq, if_pos hk0]; rfl
def OK_pledge (Inv : Mem → (Nat → Nat → Int32) → Prop) (x : Mem) (m : Nat → Nat → Int32) (p1 : Int32) (p2 : Int32) : Prop := ∃ (code : Int32) (r : Int32) (x' : Mem) (bb : Int32) (m' : Nat → Nat → Int32), (code = 0 ∨ code = 1) ∧ D_X9_pledge x p1 p2 = some (code, r, x') ∧ D_X10_pledge m p1 p2 = some (bb, m') ∧ D_X10_thrown m' = code ∧ (code = 0 → r = bb) ∧ Inv x' m'
set_option maxHeartbeats 4000000 in
theorem lw_pledge {Inv : Mem → (Nat → Nat → Int32) → Prop} {p : Program} {l : Launch} (hst0 : l.stackTraces = false) {e : Env} {s : State} {m : MethodId} {below : List Frame} {meth : Method} {c : Code} {b L : Nat} {xs : Nat → Int32} {A : Nat → Prop} {D : va_G} {cy : Nat → ClassId} {en g : Nat → Nat} {Q : State → Prop} (hC : LC p s m c b L xs A D cy en g) {ad : Nat → Nat → Nat} {am : Nat → Nat} {ob od : Nat} {x : Mem} {m0 : Nat → Nat → Int32} {fo : Nat → Int64} {fd : Nat → UInt64} {i : Int32} {H : Heap} {locs : List Loc} {ls : Array Slot} {cells slots : Nat} (h1 : vp_in (i + 1) L) (h2 : vp_in (i + 2) L) (h3 : vp_in (i + 3) L) (hcs : cells + 2 ≤ room_1.cells ∧ slots + 12 ≤ room_1.slots) (hop : OK_pledge Inv x m0 (xs (i + 1).toNatClampNeg) (xs (i + 2).toNatClampNeg)) (hP : va_P D vwCl ((cW cy ad en x ++ [(ob, .inl (cy 6, 1, .inr (.inl fo)))]) ++ (mW cy am m0 ++ [(od, .inl (cy 7, 1, .inr (.inr (.inr (.inl fd)))))])) H) (hD : va_D A ((cW cy ad en x ++ [(ob, .inl (cy 6, 1, .inr (.inl fo)))]) ++ (mW cy am m0 ++ [(od, .inl (cy 7, 1, .inr (.inr (.inr (.inl fd)))))]))) (hS : va_S A s.heap H locs) (hl : lv_has ls 9 [(0, .ref b), (1, .ref (ad 12 0)), (2, .ref (am 0)), (3, .ref ob), (4, .ref od), (5, .int i)]) (kk : ∀ (x' : Mem) (m' : Nat → Nat → Int32) (fo' : Nat → Int64) (fd' : Nat → UInt64) (H : Heap) (locs : List Loc) (ls : Array Slot), Inv x' m' → va_P D vwCl ((cW cy ad en x' ++ [(ob, .inl (cy 6, 1, .inr (.inl fo')))]) ++ (mW cy am m' ++ [(od, .inl (cy 7, 1, .inr (.inr (.inr (.inl fd')))))])) H → va_D A ((cW cy ad en x' ++ [(ob, .inl (cy 6, 1, .inr (.inl fo')))]) ++ (mW cy am m' ++ [(od, .inl (cy 7, 1, .inr (.inr (.inr (.inl fd')))))])) → va_S A s.heap H locs → lv_has ls 9 [(0, .ref b), (1, .ref (ad 12 0)), (2, .ref (am 0)), (3, .ref ob), (4, .ref od), (5, .int i)] → W p l e room_1 s m #[Value.ref b] below meth c H locs (cells + 2) (slots + 12) Q (F0 m 2250 ls [])) : W p l e room_1 s m #[Value.ref b] below meth c H locs cells slots Q (F0 m 504 ls []) := by
  obtain ⟨hx, hb, hml, hown, hw, hK8, hN, hST, hX, hbl, hbA, hA⟩ := hC
  have hK := hKL hK8
  have hcs0 : cells ≤ room_1.cells ∧ slots ≤ room_1.slots := ⟨Nat.le_trans (Nat.le_add_right _ 2) hcs.1, Nat.le_trans (Nat.le_add_right _ 12) hcs.2⟩
  have hcsA : cells + 2 ≤ room_1.cells ∧ slots + 12 ≤ room_1.slots := hcs
  obtain ⟨code, r, x', bb, m', hcd, hF, hFm, hthr, heq, hInv⟩ := hop
  refine lv_aload_n hx hb dL_law_504 rfl (lv_at hl 1 rfl) ?_
  refine lv_aload_n hx hb dL_law_505 rfl (lv_at hl 0 rfl) ?_
  refine lv_iload hx hb dL_law_506 (lv_at hl 5 rfl) ?_
  refine lv_iconst (v := 1) hx hb dL_law_508 (by decide) ?_
  refine lv_iadd hx hb dL_law_509 ?_
  refine va_sld hx hb hX hbl hbA hS h1 dL_law_510 ?_
  refine lv_aload_n hx hb dL_law_511 rfl (lv_at hl 0 rfl) ?_
  refine lv_iload hx hb dL_law_512 (lv_at hl 5 rfl) ?_
  refine lv_iconst (v := 2) hx hb dL_law_514 (by decide) ?_
  refine lv_iadd hx hb dL_law_515 ?_
  refine va_sld hx hb hX hbl hbA hS h2 dL_law_516 ?_
  refine lv_aload_n hx hb dL_law_517 rfl (lv_at hl 3 rfl) ?_
  refine fW (w1 := (cW cy ad en x ++ [((ob, .inl (cy 6, 1, .inr (.inl fo))) : Nat × va_E)])) (w2 := (mW cy am m0 ++ [((od, .inl (cy 7, 1, .inr (.inr (.inr (.inl fd))))) : Nat × va_E)])) (As := [.ref (ad 12 0), .int (xs (i + 1).toNatClampNeg), .int (xs (i + 2).toNatClampNeg), .ref ob]) (rest := []) hx hb hml hown hw hK8 hN hA hl.1 hP hD hS hST k_748 k_749 k_75 k_750 (met_L_pledge l hst0 D cy _ ad en g x (xs (i + 1).toNatClampNeg) (xs (i + 2).toNatClampNeg) ob fo code r x' hcd hF) ⟨rfl, rfl⟩ (n := 4) (by decide +kernel) rfl ⟨Nat.le_of_ble_eq_true rfl, Nat.le_of_ble_eq_true rfl⟩ hcs (Nat.le_of_ble_eq_true rfl) rfl dL_law_518 (fun H locs hP hD hS => ?_)
  refine lv_istore (lv' := [(6, .int code), (0, .ref b), (1, .ref (ad 12 0)), (2, .ref (am 0)), (3, .ref ob), (4, .ref od), (5, .int i)]) hx hb dL_law_521 hl (by decide) rfl (fun ls hl => ?_)
  refine lv_aload_n hx hb dL_law_523 rfl (lv_at hl 3 rfl) ?_
  refine lv_aload_n hx hb dL_law_524 rfl (lv_at hl 1 rfl) ?_
  refine lv_iload hx hb dL_law_525 (lv_at hl 6 rfl) ?_
  refine lv_iconst (v := 1) hx hb dL_law_527 (by decide) ?_
  refine lv_iadd hx hb dL_law_528 ?_
  refine va_sld hx hb hX hbl hbA hS h1 dL_law_529 ?_
  refine lv_aload_n hx hb dL_law_530 rfl (lv_at hl 1 rfl) ?_
  refine lv_iload hx hb dL_law_531 (lv_at hl 6 rfl) ?_
  refine lv_iconst (v := 2) hx hb dL_law_533 (by decide) ?_
  refine lv_iadd hx hb dL_law_534 ?_
  refine va_sld hx hb hX hbl hbA hS h2 dL_law_535 ?_
  have hP : va_P D vwCl ((mW cy am m0) ++ ((cW cy ad en x' ++ [((ob, .inl (cy 6, 1, .inr (.inl (if code = 0 then (vp_updL fo (0 : Int32).toNatClampNeg r.toInt64) else fo)))) : Nat × va_E)]) ++ [((od, .inl (cy 7, 1, .inr (.inr (.inr (.inl fd))))) : Nat × va_E)])) H := pm_P pmM hP
  have hD : va_D A ((mW cy am m0) ++ ((cW cy ad en x' ++ [((ob, .inl (cy 6, 1, .inr (.inl (if code = 0 then (vp_updL fo (0 : Int32).toNatClampNeg r.toInt64) else fo)))) : Nat × va_E)]) ++ [((od, .inl (cy 7, 1, .inr (.inr (.inr (.inl fd))))) : Nat × va_E)])) := pm_D pmM hD
  refine fV (w1 := (mW cy am m0)) (w2 := ((cW cy ad en x' ++ [((ob, .inl (cy 6, 1, .inr (.inl (if code = 0 then (vp_updL fo (0 : Int32).toNatClampNeg r.toInt64) else fo)))) : Nat × va_E)]) ++ [((od, .inl (cy 7, 1, .inr (.inr (.inr (.inl fd))))) : Nat × va_E)])) (As := [.int (xs (i + 1).toNatClampNeg), .int (xs (i + 2).toNatClampNeg)]) (rest := []) hx hb hml hown hw hK8 hN hA hl.1 hP hD hS k_1734 k_1735 k_1736 k_90 k_1737 (met_X10_pledge l D cy _ am m0 (xs (i + 1).toNatClampNeg) (xs (i + 2).toNatClampNeg) bb m' hFm) (fun _ _ _ => trivial) Xok_T (gM (am := am) (r := 0) (m := m0) (f := m0 0) (by decide) rfl) rfl ⟨rfl, rfl⟩ (n := 2) (by decide +kernel) rfl ⟨Nat.le_of_ble_eq_true rfl, Nat.le_of_ble_eq_true rfl⟩ hcsA (Nat.le_of_ble_eq_true rfl) rfl dL_law_536 (fun H locs hP hD hS => ?_)
  have hP : va_P D vwCl ((cW cy ad en x' ++ [(ob, .inl (cy 6, 1, .inr (.inl (if code = 0 then (vp_updL fo (0 : Int32).toNatClampNeg r.toInt64) else fo))))]) ++ (mW cy am m' ++ [(od, .inl (cy 7, 1, .inr (.inr (.inr (.inl fd)))))])) H := pm_P pmM.symm hP
  have hD : va_D A ((cW cy ad en x' ++ [(ob, .inl (cy 6, 1, .inr (.inl (if code = 0 then (vp_updL fo (0 : Int32).toNatClampNeg r.toInt64) else fo))))]) ++ (mW cy am m' ++ [(od, .inl (cy 7, 1, .inr (.inr (.inr (.inl fd)))))])) := pm_D pmM.symm hD
  refine lv_istore (lv' := [(7, .int bb), (6, .int code), (0, .ref b), (1, .ref (ad 12 0)), (2, .ref (am 0)), (3, .ref ob), (4, .ref od), (5, .int i)]) hx hb dL_law_539 hl (by decide) rfl (fun ls hl => ?_)
  refine lv_aload_n hx hb dL_law_541 rfl (lv_at hl 4 rfl) ?_
  have hP : va_P D vwCl ((mW cy am m') ++ ((cW cy ad en x' ++ [((ob, .inl (cy 6, 1, .inr (.inl (if code = 0 then (vp_updL fo (0 : Int32).toNatClampNeg r.toInt64) else fo)))) : Nat × va_E)]) ++ [((od, .inl (cy 7, 1, .inr (.inr (.inr (.inl fd))))) : Nat × va_E)])) H := pm_P pmM hP
  have hD : va_D A ((mW cy am m') ++ ((cW cy ad en x' ++ [((ob, .inl (cy 6, 1, .inr (.inl (if code = 0 then (vp_updL fo (0 : Int32).toNatClampNeg r.toInt64) else fo)))) : Nat × va_E)]) ++ [((od, .inl (cy 7, 1, .inr (.inr (.inr (.inl fd))))) : Nat × va_E)])) := pm_D pmM hD
  refine fV (w1 := (mW cy am m')) (w2 := ((cW cy ad en x' ++ [((ob, .inl (cy 6, 1, .inr (.inl (if code = 0 then (vp_updL fo (0 : Int32).toNatClampNeg r.toInt64) else fo)))) : Nat × va_E)]) ++ [((od, .inl (cy 7, 1, .inr (.inr (.inr (.inl fd))))) : Nat × va_E)])) (As := []) (rest := []) hx hb hml hown hw hK8 hN hA hl.1 hP hD hS k_1625 k_1626 k_1627 k_90 k_1628 (met_X10_thrown l D cy _ am m' code hthr) (fun _ _ _ => trivial) Xok_T (gM (am := am) (r := 0) (m := m') (f := m' 0) (by decide) rfl) rfl ⟨rfl, rfl⟩ (n := 0) (by decide +kernel) rfl ⟨Nat.le_of_ble_eq_true rfl, Nat.le_of_ble_eq_true rfl⟩ hcsA (Nat.le_of_ble_eq_true rfl) rfl dL_law_542 (fun H locs hP hD hS => ?_)
  have hP : va_P D vwCl ((cW cy ad en x' ++ [(ob, .inl (cy 6, 1, .inr (.inl (if code = 0 then (vp_updL fo (0 : Int32).toNatClampNeg r.toInt64) else fo))))]) ++ (mW cy am m' ++ [(od, .inl (cy 7, 1, .inr (.inr (.inr (.inl fd)))))])) H := pm_P pmM.symm hP
  have hD : va_D A ((cW cy ad en x' ++ [(ob, .inl (cy 6, 1, .inr (.inl (if code = 0 then (vp_updL fo (0 : Int32).toNatClampNeg r.toInt64) else fo))))]) ++ (mW cy am m' ++ [(od, .inl (cy 7, 1, .inr (.inr (.inr (.inl fd)))))])) := pm_D pmM.symm hD
  refine lv_iload hx hb dL_law_545 (lv_at hl 1 rfl) ?_
  refine lv_icmp_eq (tgt := 552) hx hb dL_law_547 (by decide) (fun _ => ?_) (fun h => absurd rfl h)
  refine lv_iload hx hb dL_law_552 (lv_at hl 1 rfl) ?_
  refine lv_if_ne (tgt := 569) hx hb dL_law_554 (by decide) (fun hk => ?_) (fun hk => ?_)
  · refine lv_goto (tgt := 2250) hx hb dL_law_569 (by decide) ?_
    exact kk _ _ _ _ H locs ls hInv (cvP hP rfl) (cvD hD rfl) hS (lv_sub hl [2, 3, 4, 5, 6, 7] rfl)
  · have hk0 : code = 0 := hk
    have heq := heq hk0
    refine lv_aload_n hx hb dL_law_557 rfl (lv_at hl 5 rfl) ?_
    refine lv_iconst (v := 0) hx hb dL_law_558 (by decide) ?_
    refine va_lald hx hb hK8 hP _ 6 (gA gL) rfl (vp_in_iff.mpr (by decide)) dL_law_559 ?_
    refine lv_iload hx hb dL_law_560 (lv_at hl 0 rfl) ?_
    refine lv_i2l hx hb dL_law_562 rfl ?_
    refine W.lcmp hx hb dL_law_563 ?_
    refine lv_if_eq (tgt := 569) hx hb dL_law_564 (by decide) (fun _ => ?_) (fun h => absurd ?_ h)
    · refine lv_goto (tgt := 2250) hx hb dL_law_569 (by decide) ?_
      exact kk _ _ _ _ H locs ls hInv (cvP hP rfl) (cvD hD rfl) hS (lv_sub hl [2, 3, 4, 5, 6, 7] rfl)
    · rw [lg_cmp_eq, heq, if_pos hk0]; rfl
def OK_redeem (Inv : Mem → (Nat → Nat → Int32) → Prop) (x : Mem) (m : Nat → Nat → Int32) (p1 : Int32) : Prop := ∃ (code : Int32) (r : Int32) (x' : Mem) (bb : Int32) (m' : Nat → Nat → Int32), (code = 0 ∨ code = 1) ∧ D_X9_redeem x p1 = some (code, r, x') ∧ D_X10_redeem m p1 = some (bb, m') ∧ D_X10_thrown m' = code ∧ (code = 0 → r = bb) ∧ Inv x' m'
set_option maxHeartbeats 4000000 in
theorem lw_redeem {Inv : Mem → (Nat → Nat → Int32) → Prop} {p : Program} {l : Launch} (hst0 : l.stackTraces = false) {e : Env} {s : State} {m : MethodId} {below : List Frame} {meth : Method} {c : Code} {b L : Nat} {xs : Nat → Int32} {A : Nat → Prop} {D : va_G} {cy : Nat → ClassId} {en g : Nat → Nat} {Q : State → Prop} (hC : LC p s m c b L xs A D cy en g) {ad : Nat → Nat → Nat} {am : Nat → Nat} {ob od : Nat} {x : Mem} {m0 : Nat → Nat → Int32} {fo : Nat → Int64} {fd : Nat → UInt64} {i : Int32} {H : Heap} {locs : List Loc} {ls : Array Slot} {cells slots : Nat} (h1 : vp_in (i + 1) L) (h2 : vp_in (i + 2) L) (h3 : vp_in (i + 3) L) (hcs : cells + 2 ≤ room_1.cells ∧ slots + 12 ≤ room_1.slots) (hop : OK_redeem Inv x m0 (xs (i + 1).toNatClampNeg)) (hP : va_P D vwCl ((cW cy ad en x ++ [(ob, .inl (cy 6, 1, .inr (.inl fo)))]) ++ (mW cy am m0 ++ [(od, .inl (cy 7, 1, .inr (.inr (.inr (.inl fd)))))])) H) (hD : va_D A ((cW cy ad en x ++ [(ob, .inl (cy 6, 1, .inr (.inl fo)))]) ++ (mW cy am m0 ++ [(od, .inl (cy 7, 1, .inr (.inr (.inr (.inl fd)))))]))) (hS : va_S A s.heap H locs) (hl : lv_has ls 9 [(0, .ref b), (1, .ref (ad 12 0)), (2, .ref (am 0)), (3, .ref ob), (4, .ref od), (5, .int i)]) (kk : ∀ (x' : Mem) (m' : Nat → Nat → Int32) (fo' : Nat → Int64) (fd' : Nat → UInt64) (H : Heap) (locs : List Loc) (ls : Array Slot), Inv x' m' → va_P D vwCl ((cW cy ad en x' ++ [(ob, .inl (cy 6, 1, .inr (.inl fo')))]) ++ (mW cy am m' ++ [(od, .inl (cy 7, 1, .inr (.inr (.inr (.inl fd')))))])) H → va_D A ((cW cy ad en x' ++ [(ob, .inl (cy 6, 1, .inr (.inl fo')))]) ++ (mW cy am m' ++ [(od, .inl (cy 7, 1, .inr (.inr (.inr (.inl fd')))))])) → va_S A s.heap H locs → lv_has ls 9 [(0, .ref b), (1, .ref (ad 12 0)), (2, .ref (am 0)), (3, .ref ob), (4, .ref od), (5, .int i)] → W p l e room_1 s m #[Value.ref b] below meth c H locs (cells + 2) (slots + 12) Q (F0 m 2250 ls [])) : W p l e room_1 s m #[Value.ref b] below meth c H locs cells slots Q (F0 m 572 ls []) := by
  obtain ⟨hx, hb, hml, hown, hw, hK8, hN, hST, hX, hbl, hbA, hA⟩ := hC
  have hK := hKL hK8
  have hcs0 : cells ≤ room_1.cells ∧ slots ≤ room_1.slots := ⟨Nat.le_trans (Nat.le_add_right _ 2) hcs.1, Nat.le_trans (Nat.le_add_right _ 12) hcs.2⟩
  have hcsA : cells + 2 ≤ room_1.cells ∧ slots + 12 ≤ room_1.slots := hcs
  obtain ⟨code, r, x', bb, m', hcd, hF, hFm, hthr, heq, hInv⟩ := hop
  refine lv_aload_n hx hb dL_law_572 rfl (lv_at hl 1 rfl) ?_
  refine lv_aload_n hx hb dL_law_573 rfl (lv_at hl 0 rfl) ?_
  refine lv_iload hx hb dL_law_574 (lv_at hl 5 rfl) ?_
  refine lv_iconst (v := 1) hx hb dL_law_576 (by decide) ?_
  refine lv_iadd hx hb dL_law_577 ?_
  refine va_sld hx hb hX hbl hbA hS h1 dL_law_578 ?_
  refine lv_aload_n hx hb dL_law_579 rfl (lv_at hl 3 rfl) ?_
  refine fW (w1 := (cW cy ad en x ++ [((ob, .inl (cy 6, 1, .inr (.inl fo))) : Nat × va_E)])) (w2 := (mW cy am m0 ++ [((od, .inl (cy 7, 1, .inr (.inr (.inr (.inl fd))))) : Nat × va_E)])) (As := [.ref (ad 12 0), .int (xs (i + 1).toNatClampNeg), .ref ob]) (rest := []) hx hb hml hown hw hK8 hN hA hl.1 hP hD hS hST k_757 k_758 k_75 k_759 (met_L_redeem l hst0 D cy _ ad en g x (xs (i + 1).toNatClampNeg) ob fo code r x' hcd hF) ⟨rfl, rfl⟩ (n := 3) (by decide +kernel) rfl ⟨Nat.le_of_ble_eq_true rfl, Nat.le_of_ble_eq_true rfl⟩ hcs (Nat.le_of_ble_eq_true rfl) rfl dL_law_580 (fun H locs hP hD hS => ?_)
  refine lv_istore (lv' := [(6, .int code), (0, .ref b), (1, .ref (ad 12 0)), (2, .ref (am 0)), (3, .ref ob), (4, .ref od), (5, .int i)]) hx hb dL_law_583 hl (by decide) rfl (fun ls hl => ?_)
  refine lv_aload_n hx hb dL_law_585 rfl (lv_at hl 3 rfl) ?_
  refine lv_aload_n hx hb dL_law_586 rfl (lv_at hl 1 rfl) ?_
  refine lv_iload hx hb dL_law_587 (lv_at hl 6 rfl) ?_
  refine lv_iconst (v := 1) hx hb dL_law_589 (by decide) ?_
  refine lv_iadd hx hb dL_law_590 ?_
  refine va_sld hx hb hX hbl hbA hS h1 dL_law_591 ?_
  have hP : va_P D vwCl ((mW cy am m0) ++ ((cW cy ad en x' ++ [((ob, .inl (cy 6, 1, .inr (.inl (if code = 0 then (vp_updL fo (0 : Int32).toNatClampNeg r.toInt64) else fo)))) : Nat × va_E)]) ++ [((od, .inl (cy 7, 1, .inr (.inr (.inr (.inl fd))))) : Nat × va_E)])) H := pm_P pmM hP
  have hD : va_D A ((mW cy am m0) ++ ((cW cy ad en x' ++ [((ob, .inl (cy 6, 1, .inr (.inl (if code = 0 then (vp_updL fo (0 : Int32).toNatClampNeg r.toInt64) else fo)))) : Nat × va_E)]) ++ [((od, .inl (cy 7, 1, .inr (.inr (.inr (.inl fd))))) : Nat × va_E)])) := pm_D pmM hD
  refine fV (w1 := (mW cy am m0)) (w2 := ((cW cy ad en x' ++ [((ob, .inl (cy 6, 1, .inr (.inl (if code = 0 then (vp_updL fo (0 : Int32).toNatClampNeg r.toInt64) else fo)))) : Nat × va_E)]) ++ [((od, .inl (cy 7, 1, .inr (.inr (.inr (.inl fd))))) : Nat × va_E)])) (As := [.int (xs (i + 1).toNatClampNeg)]) (rest := []) hx hb hml hown hw hK8 hN hA hl.1 hP hD hS k_1742 k_1743 k_1744 k_90 k_1745 (met_X10_redeem l D cy _ am m0 (xs (i + 1).toNatClampNeg) bb m' hFm) (fun _ _ _ => trivial) Xok_T (gM (am := am) (r := 0) (m := m0) (f := m0 0) (by decide) rfl) rfl ⟨rfl, rfl⟩ (n := 1) (by decide +kernel) rfl ⟨Nat.le_of_ble_eq_true rfl, Nat.le_of_ble_eq_true rfl⟩ hcsA (Nat.le_of_ble_eq_true rfl) rfl dL_law_592 (fun H locs hP hD hS => ?_)
  have hP : va_P D vwCl ((cW cy ad en x' ++ [(ob, .inl (cy 6, 1, .inr (.inl (if code = 0 then (vp_updL fo (0 : Int32).toNatClampNeg r.toInt64) else fo))))]) ++ (mW cy am m' ++ [(od, .inl (cy 7, 1, .inr (.inr (.inr (.inl fd)))))])) H := pm_P pmM.symm hP
  have hD : va_D A ((cW cy ad en x' ++ [(ob, .inl (cy 6, 1, .inr (.inl (if code = 0 then (vp_updL fo (0 : Int32).toNatClampNeg r.toInt64) else fo))))]) ++ (mW cy am m' ++ [(od, .inl (cy 7, 1, .inr (.inr (.inr (.inl fd)))))])) := pm_D pmM.symm hD
  refine lv_istore (lv' := [(7, .int bb), (6, .int code), (0, .ref b), (1, .ref (ad 12 0)), (2, .ref (am 0)), (3, .ref ob), (4, .ref od), (5, .int i)]) hx hb dL_law_595 hl (by decide) rfl (fun ls hl => ?_)
  refine lv_aload_n hx hb dL_law_597 rfl (lv_at hl 4 rfl) ?_
  have hP : va_P D vwCl ((mW cy am m') ++ ((cW cy ad en x' ++ [((ob, .inl (cy 6, 1, .inr (.inl (if code = 0 then (vp_updL fo (0 : Int32).toNatClampNeg r.toInt64) else fo)))) : Nat × va_E)]) ++ [((od, .inl (cy 7, 1, .inr (.inr (.inr (.inl fd))))) : Nat × va_E)])) H := pm_P pmM hP
  have hD : va_D A ((mW cy am m') ++ ((cW cy ad en x' ++ [((ob, .inl (cy 6, 1, .inr (.inl (if code = 0 then (vp_updL fo (0 : Int32).toNatClampNeg r.toInt64) else fo)))) : Nat × va_E)]) ++ [((od, .inl (cy 7, 1, .inr (.inr (.inr (.inl fd))))) : Nat × va_E)])) := pm_D pmM hD
  refine fV (w1 := (mW cy am m')) (w2 := ((cW cy ad en x' ++ [((ob, .inl (cy 6, 1, .inr (.inl (if code = 0 then (vp_updL fo (0 : Int32).toNatClampNeg r.toInt64) else fo)))) : Nat × va_E)]) ++ [((od, .inl (cy 7, 1, .inr (.inr (.inr (.inl fd))))) : Nat × va_E)])) (As := []) (rest := []) hx hb hml hown hw hK8 hN hA hl.1 hP hD hS k_1625 k_1626 k_1627 k_90 k_1628 (met_X10_thrown l D cy _ am m' code hthr) (fun _ _ _ => trivial) Xok_T (gM (am := am) (r := 0) (m := m') (f := m' 0) (by decide) rfl) rfl ⟨rfl, rfl⟩ (n := 0) (by decide +kernel) rfl ⟨Nat.le_of_ble_eq_true rfl, Nat.le_of_ble_eq_true rfl⟩ hcsA (Nat.le_of_ble_eq_true rfl) rfl dL_law_598 (fun H locs hP hD hS => ?_)
  have hP : va_P D vwCl ((cW cy ad en x' ++ [(ob, .inl (cy 6, 1, .inr (.inl (if code = 0 then (vp_updL fo (0 : Int32).toNatClampNeg r.toInt64) else fo))))]) ++ (mW cy am m' ++ [(od, .inl (cy 7, 1, .inr (.inr (.inr (.inl fd)))))])) H := pm_P pmM.symm hP
  have hD : va_D A ((cW cy ad en x' ++ [(ob, .inl (cy 6, 1, .inr (.inl (if code = 0 then (vp_updL fo (0 : Int32).toNatClampNeg r.toInt64) else fo))))]) ++ (mW cy am m' ++ [(od, .inl (cy 7, 1, .inr (.inr (.inr (.inl fd)))))])) := pm_D pmM.symm hD
  refine lv_iload hx hb dL_law_601 (lv_at hl 1 rfl) ?_
  refine lv_icmp_eq (tgt := 608) hx hb dL_law_603 (by decide) (fun _ => ?_) (fun h => absurd rfl h)
  refine lv_iload hx hb dL_law_608 (lv_at hl 1 rfl) ?_
  refine lv_if_ne (tgt := 625) hx hb dL_law_610 (by decide) (fun hk => ?_) (fun hk => ?_)
  · refine lv_goto (tgt := 2250) hx hb dL_law_625 (by decide) ?_
    exact kk _ _ _ _ H locs ls hInv (cvP hP rfl) (cvD hD rfl) hS (lv_sub hl [2, 3, 4, 5, 6, 7] rfl)
  · have hk0 : code = 0 := hk
    have heq := heq hk0
    refine lv_aload_n hx hb dL_law_613 rfl (lv_at hl 5 rfl) ?_
    refine lv_iconst (v := 0) hx hb dL_law_614 (by decide) ?_
    refine va_lald hx hb hK8 hP _ 6 (gA gL) rfl (vp_in_iff.mpr (by decide)) dL_law_615 ?_
    refine lv_iload hx hb dL_law_616 (lv_at hl 0 rfl) ?_
    refine lv_i2l hx hb dL_law_618 rfl ?_
    refine W.lcmp hx hb dL_law_619 ?_
    refine lv_if_eq (tgt := 625) hx hb dL_law_620 (by decide) (fun _ => ?_) (fun h => absurd ?_ h)
    · refine lv_goto (tgt := 2250) hx hb dL_law_625 (by decide) ?_
      exact kk _ _ _ _ H locs ls hInv (cvP hP rfl) (cvD hD rfl) hS (lv_sub hl [2, 3, 4, 5, 6, 7] rfl)
    · rw [lg_cmp_eq, heq, if_pos hk0]; rfl
def OK_wind (Inv : Mem → (Nat → Nat → Int32) → Prop) (x : Mem) (m : Nat → Nat → Int32) (p1 : Int32) : Prop := ∃ (code : Int32) (r : Int32) (x' : Mem) (bb : Int32) (m' : Nat → Nat → Int32), (code = 0 ∨ code = 1) ∧ D_X9_wind x p1 = some (code, r, x') ∧ D_X10_wind m p1 = some (bb, m') ∧ D_X10_thrown m' = code ∧ (code = 0 → r = bb) ∧ Inv x' m'
set_option maxHeartbeats 4000000 in
theorem lw_wind {Inv : Mem → (Nat → Nat → Int32) → Prop} {p : Program} {l : Launch} (hst0 : l.stackTraces = false) {e : Env} {s : State} {m : MethodId} {below : List Frame} {meth : Method} {c : Code} {b L : Nat} {xs : Nat → Int32} {A : Nat → Prop} {D : va_G} {cy : Nat → ClassId} {en g : Nat → Nat} {Q : State → Prop} (hC : LC p s m c b L xs A D cy en g) {ad : Nat → Nat → Nat} {am : Nat → Nat} {ob od : Nat} {x : Mem} {m0 : Nat → Nat → Int32} {fo : Nat → Int64} {fd : Nat → UInt64} {i : Int32} {H : Heap} {locs : List Loc} {ls : Array Slot} {cells slots : Nat} (h1 : vp_in (i + 1) L) (h2 : vp_in (i + 2) L) (h3 : vp_in (i + 3) L) (hcs : cells + 2 ≤ room_1.cells ∧ slots + 12 ≤ room_1.slots) (hop : OK_wind Inv x m0 (xs (i + 1).toNatClampNeg)) (hP : va_P D vwCl ((cW cy ad en x ++ [(ob, .inl (cy 6, 1, .inr (.inl fo)))]) ++ (mW cy am m0 ++ [(od, .inl (cy 7, 1, .inr (.inr (.inr (.inl fd)))))])) H) (hD : va_D A ((cW cy ad en x ++ [(ob, .inl (cy 6, 1, .inr (.inl fo)))]) ++ (mW cy am m0 ++ [(od, .inl (cy 7, 1, .inr (.inr (.inr (.inl fd)))))]))) (hS : va_S A s.heap H locs) (hl : lv_has ls 9 [(0, .ref b), (1, .ref (ad 12 0)), (2, .ref (am 0)), (3, .ref ob), (4, .ref od), (5, .int i)]) (kk : ∀ (x' : Mem) (m' : Nat → Nat → Int32) (fo' : Nat → Int64) (fd' : Nat → UInt64) (H : Heap) (locs : List Loc) (ls : Array Slot), Inv x' m' → va_P D vwCl ((cW cy ad en x' ++ [(ob, .inl (cy 6, 1, .inr (.inl fo')))]) ++ (mW cy am m' ++ [(od, .inl (cy 7, 1, .inr (.inr (.inr (.inl fd')))))])) H → va_D A ((cW cy ad en x' ++ [(ob, .inl (cy 6, 1, .inr (.inl fo')))]) ++ (mW cy am m' ++ [(od, .inl (cy 7, 1, .inr (.inr (.inr (.inl fd')))))])) → va_S A s.heap H locs → lv_has ls 9 [(0, .ref b), (1, .ref (ad 12 0)), (2, .ref (am 0)), (3, .ref ob), (4, .ref od), (5, .int i)] → W p l e room_1 s m #[Value.ref b] below meth c H locs (cells + 2) (slots + 12) Q (F0 m 2250 ls [])) : W p l e room_1 s m #[Value.ref b] below meth c H locs cells slots Q (F0 m 628 ls []) := by
  obtain ⟨hx, hb, hml, hown, hw, hK8, hN, hST, hX, hbl, hbA, hA⟩ := hC
  have hK := hKL hK8
  have hcs0 : cells ≤ room_1.cells ∧ slots ≤ room_1.slots := ⟨Nat.le_trans (Nat.le_add_right _ 2) hcs.1, Nat.le_trans (Nat.le_add_right _ 12) hcs.2⟩
  have hcsA : cells + 2 ≤ room_1.cells ∧ slots + 12 ≤ room_1.slots := hcs
  obtain ⟨code, r, x', bb, m', hcd, hF, hFm, hthr, heq, hInv⟩ := hop
  refine lv_aload_n hx hb dL_law_628 rfl (lv_at hl 1 rfl) ?_
  refine lv_aload_n hx hb dL_law_629 rfl (lv_at hl 0 rfl) ?_
  refine lv_iload hx hb dL_law_630 (lv_at hl 5 rfl) ?_
  refine lv_iconst (v := 1) hx hb dL_law_632 (by decide) ?_
  refine lv_iadd hx hb dL_law_633 ?_
  refine va_sld hx hb hX hbl hbA hS h1 dL_law_634 ?_
  refine lv_aload_n hx hb dL_law_635 rfl (lv_at hl 3 rfl) ?_
  refine fW (w1 := (cW cy ad en x ++ [((ob, .inl (cy 6, 1, .inr (.inl fo))) : Nat × va_E)])) (w2 := (mW cy am m0 ++ [((od, .inl (cy 7, 1, .inr (.inr (.inr (.inl fd))))) : Nat × va_E)])) (As := [.ref (ad 12 0), .int (xs (i + 1).toNatClampNeg), .ref ob]) (rest := []) hx hb hml hown hw hK8 hN hA hl.1 hP hD hS hST k_766 k_767 k_75 k_768 (met_L_wind l hst0 D cy _ ad en g x (xs (i + 1).toNatClampNeg) ob fo code r x' hcd hF) ⟨rfl, rfl⟩ (n := 3) (by decide +kernel) rfl ⟨Nat.le_of_ble_eq_true rfl, Nat.le_of_ble_eq_true rfl⟩ hcs (Nat.le_of_ble_eq_true rfl) rfl dL_law_636 (fun H locs hP hD hS => ?_)
  refine lv_istore (lv' := [(6, .int code), (0, .ref b), (1, .ref (ad 12 0)), (2, .ref (am 0)), (3, .ref ob), (4, .ref od), (5, .int i)]) hx hb dL_law_639 hl (by decide) rfl (fun ls hl => ?_)
  refine lv_aload_n hx hb dL_law_641 rfl (lv_at hl 3 rfl) ?_
  refine lv_aload_n hx hb dL_law_642 rfl (lv_at hl 1 rfl) ?_
  refine lv_iload hx hb dL_law_643 (lv_at hl 6 rfl) ?_
  refine lv_iconst (v := 1) hx hb dL_law_645 (by decide) ?_
  refine lv_iadd hx hb dL_law_646 ?_
  refine va_sld hx hb hX hbl hbA hS h1 dL_law_647 ?_
  have hP : va_P D vwCl ((mW cy am m0) ++ ((cW cy ad en x' ++ [((ob, .inl (cy 6, 1, .inr (.inl (if code = 0 then (vp_updL fo (0 : Int32).toNatClampNeg r.toInt64) else fo)))) : Nat × va_E)]) ++ [((od, .inl (cy 7, 1, .inr (.inr (.inr (.inl fd))))) : Nat × va_E)])) H := pm_P pmM hP
  have hD : va_D A ((mW cy am m0) ++ ((cW cy ad en x' ++ [((ob, .inl (cy 6, 1, .inr (.inl (if code = 0 then (vp_updL fo (0 : Int32).toNatClampNeg r.toInt64) else fo)))) : Nat × va_E)]) ++ [((od, .inl (cy 7, 1, .inr (.inr (.inr (.inl fd))))) : Nat × va_E)])) := pm_D pmM hD
  refine fV (w1 := (mW cy am m0)) (w2 := ((cW cy ad en x' ++ [((ob, .inl (cy 6, 1, .inr (.inl (if code = 0 then (vp_updL fo (0 : Int32).toNatClampNeg r.toInt64) else fo)))) : Nat × va_E)]) ++ [((od, .inl (cy 7, 1, .inr (.inr (.inr (.inl fd))))) : Nat × va_E)])) (As := [.int (xs (i + 1).toNatClampNeg)]) (rest := []) hx hb hml hown hw hK8 hN hA hl.1 hP hD hS k_1758 k_1759 k_1760 k_90 k_1761 (met_X10_wind l D cy _ am m0 (xs (i + 1).toNatClampNeg) bb m' hFm) (fun _ _ _ => trivial) Xok_T (gM (am := am) (r := 0) (m := m0) (f := m0 0) (by decide) rfl) rfl ⟨rfl, rfl⟩ (n := 1) (by decide +kernel) rfl ⟨Nat.le_of_ble_eq_true rfl, Nat.le_of_ble_eq_true rfl⟩ hcsA (Nat.le_of_ble_eq_true rfl) rfl dL_law_648 (fun H locs hP hD hS => ?_)
  have hP : va_P D vwCl ((cW cy ad en x' ++ [(ob, .inl (cy 6, 1, .inr (.inl (if code = 0 then (vp_updL fo (0 : Int32).toNatClampNeg r.toInt64) else fo))))]) ++ (mW cy am m' ++ [(od, .inl (cy 7, 1, .inr (.inr (.inr (.inl fd)))))])) H := pm_P pmM.symm hP
  have hD : va_D A ((cW cy ad en x' ++ [(ob, .inl (cy 6, 1, .inr (.inl (if code = 0 then (vp_updL fo (0 : Int32).toNatClampNeg r.toInt64) else fo))))]) ++ (mW cy am m' ++ [(od, .inl (cy 7, 1, .inr (.inr (.inr (.inl fd)))))])) := pm_D pmM.symm hD
  refine lv_istore (lv' := [(7, .int bb), (6, .int code), (0, .ref b), (1, .ref (ad 12 0)), (2, .ref (am 0)), (3, .ref ob), (4, .ref od), (5, .int i)]) hx hb dL_law_651 hl (by decide) rfl (fun ls hl => ?_)
  refine lv_aload_n hx hb dL_law_653 rfl (lv_at hl 4 rfl) ?_
  have hP : va_P D vwCl ((mW cy am m') ++ ((cW cy ad en x' ++ [((ob, .inl (cy 6, 1, .inr (.inl (if code = 0 then (vp_updL fo (0 : Int32).toNatClampNeg r.toInt64) else fo)))) : Nat × va_E)]) ++ [((od, .inl (cy 7, 1, .inr (.inr (.inr (.inl fd))))) : Nat × va_E)])) H := pm_P pmM hP
  have hD : va_D A ((mW cy am m') ++ ((cW cy ad en x' ++ [((ob, .inl (cy 6, 1, .inr (.inl (if code = 0 then (vp_updL fo (0 : Int32).toNatClampNeg r.toInt64) else fo)))) : Nat × va_E)]) ++ [((od, .inl (cy 7, 1, .inr (.inr (.inr (.inl fd))))) : Nat × va_E)])) := pm_D pmM hD
  refine fV (w1 := (mW cy am m')) (w2 := ((cW cy ad en x' ++ [((ob, .inl (cy 6, 1, .inr (.inl (if code = 0 then (vp_updL fo (0 : Int32).toNatClampNeg r.toInt64) else fo)))) : Nat × va_E)]) ++ [((od, .inl (cy 7, 1, .inr (.inr (.inr (.inl fd))))) : Nat × va_E)])) (As := []) (rest := []) hx hb hml hown hw hK8 hN hA hl.1 hP hD hS k_1625 k_1626 k_1627 k_90 k_1628 (met_X10_thrown l D cy _ am m' code hthr) (fun _ _ _ => trivial) Xok_T (gM (am := am) (r := 0) (m := m') (f := m' 0) (by decide) rfl) rfl ⟨rfl, rfl⟩ (n := 0) (by decide +kernel) rfl ⟨Nat.le_of_ble_eq_true rfl, Nat.le_of_ble_eq_true rfl⟩ hcsA (Nat.le_of_ble_eq_true rfl) rfl dL_law_654 (fun H locs hP hD hS => ?_)
  have hP : va_P D vwCl ((cW cy ad en x' ++ [(ob, .inl (cy 6, 1, .inr (.inl (if code = 0 then (vp_updL fo (0 : Int32).toNatClampNeg r.toInt64) else fo))))]) ++ (mW cy am m' ++ [(od, .inl (cy 7, 1, .inr (.inr (.inr (.inl fd)))))])) H := pm_P pmM.symm hP
  have hD : va_D A ((cW cy ad en x' ++ [(ob, .inl (cy 6, 1, .inr (.inl (if code = 0 then (vp_updL fo (0 : Int32).toNatClampNeg r.toInt64) else fo))))]) ++ (mW cy am m' ++ [(od, .inl (cy 7, 1, .inr (.inr (.inr (.inl fd)))))])) := pm_D pmM.symm hD
  refine lv_iload hx hb dL_law_657 (lv_at hl 1 rfl) ?_
  refine lv_icmp_eq (tgt := 664) hx hb dL_law_659 (by decide) (fun _ => ?_) (fun h => absurd rfl h)
  refine lv_iload hx hb dL_law_664 (lv_at hl 1 rfl) ?_
  refine lv_if_ne (tgt := 681) hx hb dL_law_666 (by decide) (fun hk => ?_) (fun hk => ?_)
  · refine lv_goto (tgt := 2250) hx hb dL_law_681 (by decide) ?_
    exact kk _ _ _ _ H locs ls hInv (cvP hP rfl) (cvD hD rfl) hS (lv_sub hl [2, 3, 4, 5, 6, 7] rfl)
  · have hk0 : code = 0 := hk
    have heq := heq hk0
    refine lv_aload_n hx hb dL_law_669 rfl (lv_at hl 5 rfl) ?_
    refine lv_iconst (v := 0) hx hb dL_law_670 (by decide) ?_
    refine va_lald hx hb hK8 hP _ 6 (gA gL) rfl (vp_in_iff.mpr (by decide)) dL_law_671 ?_
    refine lv_iload hx hb dL_law_672 (lv_at hl 0 rfl) ?_
    refine lv_i2l hx hb dL_law_674 rfl ?_
    refine W.lcmp hx hb dL_law_675 ?_
    refine lv_if_eq (tgt := 681) hx hb dL_law_676 (by decide) (fun _ => ?_) (fun h => absurd ?_ h)
    · refine lv_goto (tgt := 2250) hx hb dL_law_681 (by decide) ?_
      exact kk _ _ _ _ H locs ls hInv (cvP hP rfl) (cvD hD rfl) hS (lv_sub hl [2, 3, 4, 5, 6, 7] rfl)
    · rw [lg_cmp_eq, heq, if_pos hk0]; rfl
def OK_hail (Inv : Mem → (Nat → Nat → Int32) → Prop) (x : Mem) (m : Nat → Nat → Int32) (p1 : Int32) : Prop := ∃ (code : Int32) (r : Int32) (x' : Mem) (bb : Int32) (m' : Nat → Nat → Int32), (code = 0 ∨ code = 1) ∧ D_X9_hail x p1 = some (code, r, x') ∧ D_X10_hail m p1 = some (bb, m') ∧ D_X10_thrown m' = code ∧ (code = 0 → r = bb) ∧ Inv x' m'
set_option maxHeartbeats 4000000 in
theorem lw_hail {Inv : Mem → (Nat → Nat → Int32) → Prop} {p : Program} {l : Launch} (hst0 : l.stackTraces = false) {e : Env} {s : State} {m : MethodId} {below : List Frame} {meth : Method} {c : Code} {b L : Nat} {xs : Nat → Int32} {A : Nat → Prop} {D : va_G} {cy : Nat → ClassId} {en g : Nat → Nat} {Q : State → Prop} (hC : LC p s m c b L xs A D cy en g) {ad : Nat → Nat → Nat} {am : Nat → Nat} {ob od : Nat} {x : Mem} {m0 : Nat → Nat → Int32} {fo : Nat → Int64} {fd : Nat → UInt64} {i : Int32} {H : Heap} {locs : List Loc} {ls : Array Slot} {cells slots : Nat} (h1 : vp_in (i + 1) L) (h2 : vp_in (i + 2) L) (h3 : vp_in (i + 3) L) (hcs : cells + 2 ≤ room_1.cells ∧ slots + 12 ≤ room_1.slots) (hop : OK_hail Inv x m0 (xs (i + 1).toNatClampNeg)) (hP : va_P D vwCl ((cW cy ad en x ++ [(ob, .inl (cy 6, 1, .inr (.inl fo)))]) ++ (mW cy am m0 ++ [(od, .inl (cy 7, 1, .inr (.inr (.inr (.inl fd)))))])) H) (hD : va_D A ((cW cy ad en x ++ [(ob, .inl (cy 6, 1, .inr (.inl fo)))]) ++ (mW cy am m0 ++ [(od, .inl (cy 7, 1, .inr (.inr (.inr (.inl fd)))))]))) (hS : va_S A s.heap H locs) (hl : lv_has ls 9 [(0, .ref b), (1, .ref (ad 12 0)), (2, .ref (am 0)), (3, .ref ob), (4, .ref od), (5, .int i)]) (kk : ∀ (x' : Mem) (m' : Nat → Nat → Int32) (fo' : Nat → Int64) (fd' : Nat → UInt64) (H : Heap) (locs : List Loc) (ls : Array Slot), Inv x' m' → va_P D vwCl ((cW cy ad en x' ++ [(ob, .inl (cy 6, 1, .inr (.inl fo')))]) ++ (mW cy am m' ++ [(od, .inl (cy 7, 1, .inr (.inr (.inr (.inl fd')))))])) H → va_D A ((cW cy ad en x' ++ [(ob, .inl (cy 6, 1, .inr (.inl fo')))]) ++ (mW cy am m' ++ [(od, .inl (cy 7, 1, .inr (.inr (.inr (.inl fd')))))])) → va_S A s.heap H locs → lv_has ls 9 [(0, .ref b), (1, .ref (ad 12 0)), (2, .ref (am 0)), (3, .ref ob), (4, .ref od), (5, .int i)] → W p l e room_1 s m #[Value.ref b] below meth c H locs (cells + 2) (slots + 12) Q (F0 m 2250 ls [])) : W p l e room_1 s m #[Value.ref b] below meth c H locs cells slots Q (F0 m 684 ls []) := by
  obtain ⟨hx, hb, hml, hown, hw, hK8, hN, hST, hX, hbl, hbA, hA⟩ := hC
  have hK := hKL hK8
  have hcs0 : cells ≤ room_1.cells ∧ slots ≤ room_1.slots := ⟨Nat.le_trans (Nat.le_add_right _ 2) hcs.1, Nat.le_trans (Nat.le_add_right _ 12) hcs.2⟩
  have hcsA : cells + 2 ≤ room_1.cells ∧ slots + 12 ≤ room_1.slots := hcs
  obtain ⟨code, r, x', bb, m', hcd, hF, hFm, hthr, heq, hInv⟩ := hop
  refine lv_aload_n hx hb dL_law_684 rfl (lv_at hl 1 rfl) ?_
  refine lv_aload_n hx hb dL_law_685 rfl (lv_at hl 0 rfl) ?_
  refine lv_iload hx hb dL_law_686 (lv_at hl 5 rfl) ?_
  refine lv_iconst (v := 1) hx hb dL_law_688 (by decide) ?_
  refine lv_iadd hx hb dL_law_689 ?_
  refine va_sld hx hb hX hbl hbA hS h1 dL_law_690 ?_
  refine lv_aload_n hx hb dL_law_691 rfl (lv_at hl 3 rfl) ?_
  refine fW (w1 := (cW cy ad en x ++ [((ob, .inl (cy 6, 1, .inr (.inl fo))) : Nat × va_E)])) (w2 := (mW cy am m0 ++ [((od, .inl (cy 7, 1, .inr (.inr (.inr (.inl fd))))) : Nat × va_E)])) (As := [.ref (ad 12 0), .int (xs (i + 1).toNatClampNeg), .ref ob]) (rest := []) hx hb hml hown hw hK8 hN hA hl.1 hP hD hS hST k_775 k_776 k_75 k_777 (met_L_hail l hst0 D cy _ ad en g x (xs (i + 1).toNatClampNeg) ob fo code r x' hcd hF) ⟨rfl, rfl⟩ (n := 3) (by decide +kernel) rfl ⟨Nat.le_of_ble_eq_true rfl, Nat.le_of_ble_eq_true rfl⟩ hcs (Nat.le_of_ble_eq_true rfl) rfl dL_law_692 (fun H locs hP hD hS => ?_)
  refine lv_istore (lv' := [(6, .int code), (0, .ref b), (1, .ref (ad 12 0)), (2, .ref (am 0)), (3, .ref ob), (4, .ref od), (5, .int i)]) hx hb dL_law_695 hl (by decide) rfl (fun ls hl => ?_)
  refine lv_aload_n hx hb dL_law_697 rfl (lv_at hl 3 rfl) ?_
  refine lv_aload_n hx hb dL_law_698 rfl (lv_at hl 1 rfl) ?_
  refine lv_iload hx hb dL_law_699 (lv_at hl 6 rfl) ?_
  refine lv_iconst (v := 1) hx hb dL_law_701 (by decide) ?_
  refine lv_iadd hx hb dL_law_702 ?_
  refine va_sld hx hb hX hbl hbA hS h1 dL_law_703 ?_
  have hP : va_P D vwCl ((mW cy am m0) ++ ((cW cy ad en x' ++ [((ob, .inl (cy 6, 1, .inr (.inl (if code = 0 then (vp_updL fo (0 : Int32).toNatClampNeg r.toInt64) else fo)))) : Nat × va_E)]) ++ [((od, .inl (cy 7, 1, .inr (.inr (.inr (.inl fd))))) : Nat × va_E)])) H := pm_P pmM hP
  have hD : va_D A ((mW cy am m0) ++ ((cW cy ad en x' ++ [((ob, .inl (cy 6, 1, .inr (.inl (if code = 0 then (vp_updL fo (0 : Int32).toNatClampNeg r.toInt64) else fo)))) : Nat × va_E)]) ++ [((od, .inl (cy 7, 1, .inr (.inr (.inr (.inl fd))))) : Nat × va_E)])) := pm_D pmM hD
  refine fV (w1 := (mW cy am m0)) (w2 := ((cW cy ad en x' ++ [((ob, .inl (cy 6, 1, .inr (.inl (if code = 0 then (vp_updL fo (0 : Int32).toNatClampNeg r.toInt64) else fo)))) : Nat × va_E)]) ++ [((od, .inl (cy 7, 1, .inr (.inr (.inr (.inl fd))))) : Nat × va_E)])) (As := [.int (xs (i + 1).toNatClampNeg)]) (rest := []) hx hb hml hown hw hK8 hN hA hl.1 hP hD hS k_1774 k_1775 k_1776 k_90 k_1777 (met_X10_hail l D cy _ am m0 (xs (i + 1).toNatClampNeg) bb m' hFm) (fun _ _ _ => trivial) Xok_T (gM (am := am) (r := 0) (m := m0) (f := m0 0) (by decide) rfl) rfl ⟨rfl, rfl⟩ (n := 1) (by decide +kernel) rfl ⟨Nat.le_of_ble_eq_true rfl, Nat.le_of_ble_eq_true rfl⟩ hcsA (Nat.le_of_ble_eq_true rfl) rfl dL_law_704 (fun H locs hP hD hS => ?_)
  have hP : va_P D vwCl ((cW cy ad en x' ++ [(ob, .inl (cy 6, 1, .inr (.inl (if code = 0 then (vp_updL fo (0 : Int32).toNatClampNeg r.toInt64) else fo))))]) ++ (mW cy am m' ++ [(od, .inl (cy 7, 1, .inr (.inr (.inr (.inl fd)))))])) H := pm_P pmM.symm hP
  have hD : va_D A ((cW cy ad en x' ++ [(ob, .inl (cy 6, 1, .inr (.inl (if code = 0 then (vp_updL fo (0 : Int32).toNatClampNeg r.toInt64) else fo))))]) ++ (mW cy am m' ++ [(od, .inl (cy 7, 1, .inr (.inr (.inr (.inl fd)))))])) := pm_D pmM.symm hD
  refine lv_istore (lv' := [(7, .int bb), (6, .int code), (0, .ref b), (1, .ref (ad 12 0)), (2, .ref (am 0)), (3, .ref ob), (4, .ref od), (5, .int i)]) hx hb dL_law_707 hl (by decide) rfl (fun ls hl => ?_)
  refine lv_aload_n hx hb dL_law_709 rfl (lv_at hl 4 rfl) ?_
  have hP : va_P D vwCl ((mW cy am m') ++ ((cW cy ad en x' ++ [((ob, .inl (cy 6, 1, .inr (.inl (if code = 0 then (vp_updL fo (0 : Int32).toNatClampNeg r.toInt64) else fo)))) : Nat × va_E)]) ++ [((od, .inl (cy 7, 1, .inr (.inr (.inr (.inl fd))))) : Nat × va_E)])) H := pm_P pmM hP
  have hD : va_D A ((mW cy am m') ++ ((cW cy ad en x' ++ [((ob, .inl (cy 6, 1, .inr (.inl (if code = 0 then (vp_updL fo (0 : Int32).toNatClampNeg r.toInt64) else fo)))) : Nat × va_E)]) ++ [((od, .inl (cy 7, 1, .inr (.inr (.inr (.inl fd))))) : Nat × va_E)])) := pm_D pmM hD
  refine fV (w1 := (mW cy am m')) (w2 := ((cW cy ad en x' ++ [((ob, .inl (cy 6, 1, .inr (.inl (if code = 0 then (vp_updL fo (0 : Int32).toNatClampNeg r.toInt64) else fo)))) : Nat × va_E)]) ++ [((od, .inl (cy 7, 1, .inr (.inr (.inr (.inl fd))))) : Nat × va_E)])) (As := []) (rest := []) hx hb hml hown hw hK8 hN hA hl.1 hP hD hS k_1625 k_1626 k_1627 k_90 k_1628 (met_X10_thrown l D cy _ am m' code hthr) (fun _ _ _ => trivial) Xok_T (gM (am := am) (r := 0) (m := m') (f := m' 0) (by decide) rfl) rfl ⟨rfl, rfl⟩ (n := 0) (by decide +kernel) rfl ⟨Nat.le_of_ble_eq_true rfl, Nat.le_of_ble_eq_true rfl⟩ hcsA (Nat.le_of_ble_eq_true rfl) rfl dL_law_710 (fun H locs hP hD hS => ?_)
  have hP : va_P D vwCl ((cW cy ad en x' ++ [(ob, .inl (cy 6, 1, .inr (.inl (if code = 0 then (vp_updL fo (0 : Int32).toNatClampNeg r.toInt64) else fo))))]) ++ (mW cy am m' ++ [(od, .inl (cy 7, 1, .inr (.inr (.inr (.inl fd)))))])) H := pm_P pmM.symm hP
  have hD : va_D A ((cW cy ad en x' ++ [(ob, .inl (cy 6, 1, .inr (.inl (if code = 0 then (vp_updL fo (0 : Int32).toNatClampNeg r.toInt64) else fo))))]) ++ (mW cy am m' ++ [(od, .inl (cy 7, 1, .inr (.inr (.inr (.inl fd)))))])) := pm_D pmM.symm hD
  refine lv_iload hx hb dL_law_713 (lv_at hl 1 rfl) ?_
  refine lv_icmp_eq (tgt := 720) hx hb dL_law_715 (by decide) (fun _ => ?_) (fun h => absurd rfl h)
  refine lv_iload hx hb dL_law_720 (lv_at hl 1 rfl) ?_
  refine lv_if_ne (tgt := 737) hx hb dL_law_722 (by decide) (fun hk => ?_) (fun hk => ?_)
  · refine lv_goto (tgt := 2250) hx hb dL_law_737 (by decide) ?_
    exact kk _ _ _ _ H locs ls hInv (cvP hP rfl) (cvD hD rfl) hS (lv_sub hl [2, 3, 4, 5, 6, 7] rfl)
  · have hk0 : code = 0 := hk
    have heq := heq hk0
    refine lv_aload_n hx hb dL_law_725 rfl (lv_at hl 5 rfl) ?_
    refine lv_iconst (v := 0) hx hb dL_law_726 (by decide) ?_
    refine va_lald hx hb hK8 hP _ 6 (gA gL) rfl (vp_in_iff.mpr (by decide)) dL_law_727 ?_
    refine lv_iload hx hb dL_law_728 (lv_at hl 0 rfl) ?_
    refine lv_i2l hx hb dL_law_730 rfl ?_
    refine W.lcmp hx hb dL_law_731 ?_
    refine lv_if_eq (tgt := 737) hx hb dL_law_732 (by decide) (fun _ => ?_) (fun h => absurd ?_ h)
    · refine lv_goto (tgt := 2250) hx hb dL_law_737 (by decide) ?_
      exact kk _ _ _ _ H locs ls hInv (cvP hP rfl) (cvD hD rfl) hS (lv_sub hl [2, 3, 4, 5, 6, 7] rfl)
    · rw [lg_cmp_eq, heq, if_pos hk0]; rfl
def OK_dawn (Inv : Mem → (Nat → Nat → Int32) → Prop) (x : Mem) (m : Nat → Nat → Int32) : Prop := ∃ (r : Int32) (x' : Mem) (bb : Int32) (m' : Nat → Nat → Int32), D_X9_dawn x = some (r, x') ∧ D_X10_dawn m = some (bb, m') ∧ r = bb ∧ Inv x' m'
set_option maxHeartbeats 4000000 in
theorem lw_dawn {Inv : Mem → (Nat → Nat → Int32) → Prop} {p : Program} {l : Launch} (hst0 : l.stackTraces = false) {e : Env} {s : State} {m : MethodId} {below : List Frame} {meth : Method} {c : Code} {b L : Nat} {xs : Nat → Int32} {A : Nat → Prop} {D : va_G} {cy : Nat → ClassId} {en g : Nat → Nat} {Q : State → Prop} (hC : LC p s m c b L xs A D cy en g) {ad : Nat → Nat → Nat} {am : Nat → Nat} {ob od : Nat} {x : Mem} {m0 : Nat → Nat → Int32} {fo : Nat → Int64} {fd : Nat → UInt64} {i : Int32} {H : Heap} {locs : List Loc} {ls : Array Slot} {cells slots : Nat} (h1 : vp_in (i + 1) L) (h2 : vp_in (i + 2) L) (h3 : vp_in (i + 3) L) (hcs : cells + 2 ≤ room_1.cells ∧ slots + 12 ≤ room_1.slots) (hop : OK_dawn Inv x m0) (hP : va_P D vwCl ((cW cy ad en x ++ [(ob, .inl (cy 6, 1, .inr (.inl fo)))]) ++ (mW cy am m0 ++ [(od, .inl (cy 7, 1, .inr (.inr (.inr (.inl fd)))))])) H) (hD : va_D A ((cW cy ad en x ++ [(ob, .inl (cy 6, 1, .inr (.inl fo)))]) ++ (mW cy am m0 ++ [(od, .inl (cy 7, 1, .inr (.inr (.inr (.inl fd)))))]))) (hS : va_S A s.heap H locs) (hl : lv_has ls 9 [(0, .ref b), (1, .ref (ad 12 0)), (2, .ref (am 0)), (3, .ref ob), (4, .ref od), (5, .int i)]) (kk : ∀ (x' : Mem) (m' : Nat → Nat → Int32) (fo' : Nat → Int64) (fd' : Nat → UInt64) (H : Heap) (locs : List Loc) (ls : Array Slot), Inv x' m' → va_P D vwCl ((cW cy ad en x' ++ [(ob, .inl (cy 6, 1, .inr (.inl fo')))]) ++ (mW cy am m' ++ [(od, .inl (cy 7, 1, .inr (.inr (.inr (.inl fd')))))])) H → va_D A ((cW cy ad en x' ++ [(ob, .inl (cy 6, 1, .inr (.inl fo')))]) ++ (mW cy am m' ++ [(od, .inl (cy 7, 1, .inr (.inr (.inr (.inl fd')))))])) → va_S A s.heap H locs → lv_has ls 9 [(0, .ref b), (1, .ref (ad 12 0)), (2, .ref (am 0)), (3, .ref ob), (4, .ref od), (5, .int i)] → W p l e room_1 s m #[Value.ref b] below meth c H locs (cells + 2) (slots + 12) Q (F0 m 2250 ls [])) : W p l e room_1 s m #[Value.ref b] below meth c H locs cells slots Q (F0 m 740 ls []) := by
  obtain ⟨hx, hb, hml, hown, hw, hK8, hN, hST, hX, hbl, hbA, hA⟩ := hC
  have hK := hKL hK8
  have hcs0 : cells ≤ room_1.cells ∧ slots ≤ room_1.slots := ⟨Nat.le_trans (Nat.le_add_right _ 2) hcs.1, Nat.le_trans (Nat.le_add_right _ 12) hcs.2⟩
  have hcsA : cells + 2 ≤ room_1.cells ∧ slots + 12 ≤ room_1.slots := hcs
  obtain ⟨r, x', bb, m', hF, hFm, heq, hInv⟩ := hop
  have hcmp : r = bb := heq
  have kk := fun x' m' fo' fd' H locs ls a1 a2 a3 a4 a5 => W.widen (Nat.le_add_right cells 2) (Nat.le_add_right slots 12) (kk x' m' fo' fd' H locs ls a1 a2 a3 a4 a5)
  refine lv_aload_n hx hb dL_law_740 rfl (lv_at hl 1 rfl) ?_
  have hP : va_P D vwCl ((cW cy ad en x) ++ ([((ob, .inl (cy 6, 1, .inr (.inl fo))) : Nat × va_E)] ++ (mW cy am m0 ++ [((od, .inl (cy 7, 1, .inr (.inr (.inr (.inl fd))))) : Nat × va_E)]))) H := cvP hP (List.append_assoc _ _ _)
  have hD : va_D A ((cW cy ad en x) ++ ([((ob, .inl (cy 6, 1, .inr (.inl fo))) : Nat × va_E)] ++ (mW cy am m0 ++ [((od, .inl (cy 7, 1, .inr (.inr (.inr (.inl fd))))) : Nat × va_E)]))) := cvD hD (List.append_assoc _ _ _)
  refine fV (w1 := (cW cy ad en x)) (w2 := ([((ob, .inl (cy 6, 1, .inr (.inl fo))) : Nat × va_E)] ++ (mW cy am m0 ++ [((od, .inl (cy 7, 1, .inr (.inr (.inr (.inl fd))))) : Nat × va_E)]))) (As := []) (rest := []) hx hb hml hown hw hK8 hN hA hl.1 hP hD hS k_376 k_377 k_378 k_76 k_379 (met_X9_dawn l D cy _ ad en g x r x' hF) (fun _ _ _ => trivial) Xok_T (gY (x := x) (r := 0) (f := x 12 0) (by decide) rfl) rfl ⟨rfl, rfl⟩ (n := 0) (by decide +kernel) rfl ⟨Nat.le_of_ble_eq_true rfl, Nat.le_of_ble_eq_true rfl⟩ hcs0 (Nat.le_of_ble_eq_true rfl) rfl dL_law_741 (fun H locs hP hD hS => ?_)
  have hP : va_P D vwCl ((cW cy ad en x' ++ [(ob, .inl (cy 6, 1, .inr (.inl fo)))]) ++ (mW cy am m0 ++ [(od, .inl (cy 7, 1, .inr (.inr (.inr (.inl fd)))))])) H := cvP hP (List.append_assoc _ _ _).symm
  have hD : va_D A ((cW cy ad en x' ++ [(ob, .inl (cy 6, 1, .inr (.inl fo)))]) ++ (mW cy am m0 ++ [(od, .inl (cy 7, 1, .inr (.inr (.inr (.inl fd)))))])) := cvD hD (List.append_assoc _ _ _).symm
  refine lv_aload_n hx hb dL_law_744 rfl (lv_at hl 2 rfl) ?_
  have hP : va_P D vwCl ((mW cy am m0) ++ ((cW cy ad en x' ++ [((ob, .inl (cy 6, 1, .inr (.inl fo))) : Nat × va_E)]) ++ [((od, .inl (cy 7, 1, .inr (.inr (.inr (.inl fd))))) : Nat × va_E)])) H := pm_P pmM hP
  have hD : va_D A ((mW cy am m0) ++ ((cW cy ad en x' ++ [((ob, .inl (cy 6, 1, .inr (.inl fo))) : Nat × va_E)]) ++ [((od, .inl (cy 7, 1, .inr (.inr (.inr (.inl fd))))) : Nat × va_E)])) := pm_D pmM hD
  refine fV (w1 := (mW cy am m0)) (w2 := ((cW cy ad en x' ++ [((ob, .inl (cy 6, 1, .inr (.inl fo))) : Nat × va_E)]) ++ [((od, .inl (cy 7, 1, .inr (.inr (.inr (.inl fd))))) : Nat × va_E)])) (As := []) (rest := [.int r]) hx hb hml hown hw hK8 hN hA hl.1 hP hD hS k_1786 k_1787 k_1788 k_90 k_1789 (met_X10_dawn l D cy _ am m0 bb m' hFm) (fun _ _ _ => trivial) Xok_T (gM (am := am) (r := 0) (m := m0) (f := m0 0) (by decide) rfl) rfl ⟨rfl, rfl⟩ (n := 0) (by decide +kernel) rfl ⟨Nat.le_of_ble_eq_true rfl, Nat.le_of_ble_eq_true rfl⟩ hcs0 (Nat.le_of_ble_eq_true rfl) rfl dL_law_745 (fun H locs hP hD hS => ?_)
  have hP : va_P D vwCl ((cW cy ad en x' ++ [(ob, .inl (cy 6, 1, .inr (.inl fo)))]) ++ (mW cy am m' ++ [(od, .inl (cy 7, 1, .inr (.inr (.inr (.inl fd)))))])) H := pm_P pmM.symm hP
  have hD : va_D A ((cW cy ad en x' ++ [(ob, .inl (cy 6, 1, .inr (.inl fo)))]) ++ (mW cy am m' ++ [(od, .inl (cy 7, 1, .inr (.inr (.inr (.inl fd)))))])) := pm_D pmM.symm hD
  refine lv_icmp_eq (tgt := 2250) hx hb dL_law_748 (by decide) (fun _ => ?_) (fun h => absurd hcmp h)
  exact kk _ _ _ _ H locs ls hInv (cvP hP rfl) (cvD hD rfl) hS (lv_sub hl [0, 1, 2, 3, 4, 5] rfl)
def OK_cloudOf (Inv : Mem → (Nat → Nat → Int32) → Prop) (x : Mem) (m : Nat → Nat → Int32) (p1 : Int32) (p2 : Int32) : Prop := ∃ (code : Int32) (r : Int32) (bb : Int32) (m' : Nat → Nat → Int32), (code = 0 ∨ code = 1 ∨ code = 2) ∧ D_X9_cloudOf x p1 p2 = some (code, r) ∧ D_X10_cloudOf m p1 p2 = some (bb, m') ∧ D_X10_thrown m' = code ∧ (code = 0 → r = bb) ∧ Inv x m'
set_option maxHeartbeats 4000000 in
theorem lw_cloudOf {Inv : Mem → (Nat → Nat → Int32) → Prop} {p : Program} {l : Launch} (hst0 : l.stackTraces = false) {e : Env} {s : State} {m : MethodId} {below : List Frame} {meth : Method} {c : Code} {b L : Nat} {xs : Nat → Int32} {A : Nat → Prop} {D : va_G} {cy : Nat → ClassId} {en g : Nat → Nat} {Q : State → Prop} (hC : LC p s m c b L xs A D cy en g) {ad : Nat → Nat → Nat} {am : Nat → Nat} {ob od : Nat} {x : Mem} {m0 : Nat → Nat → Int32} {fo : Nat → Int64} {fd : Nat → UInt64} {i : Int32} {H : Heap} {locs : List Loc} {ls : Array Slot} {cells slots : Nat} (h1 : vp_in (i + 1) L) (h2 : vp_in (i + 2) L) (h3 : vp_in (i + 3) L) (hcs : cells + 2 ≤ room_1.cells ∧ slots + 12 ≤ room_1.slots) (hop : OK_cloudOf Inv x m0 (xs (i + 1).toNatClampNeg) (xs (i + 2).toNatClampNeg)) (hP : va_P D vwCl ((cW cy ad en x ++ [(ob, .inl (cy 6, 1, .inr (.inl fo)))]) ++ (mW cy am m0 ++ [(od, .inl (cy 7, 1, .inr (.inr (.inr (.inl fd)))))])) H) (hD : va_D A ((cW cy ad en x ++ [(ob, .inl (cy 6, 1, .inr (.inl fo)))]) ++ (mW cy am m0 ++ [(od, .inl (cy 7, 1, .inr (.inr (.inr (.inl fd)))))]))) (hS : va_S A s.heap H locs) (hl : lv_has ls 9 [(0, .ref b), (1, .ref (ad 12 0)), (2, .ref (am 0)), (3, .ref ob), (4, .ref od), (5, .int i)]) (kk : ∀ (x' : Mem) (m' : Nat → Nat → Int32) (fo' : Nat → Int64) (fd' : Nat → UInt64) (H : Heap) (locs : List Loc) (ls : Array Slot), Inv x' m' → va_P D vwCl ((cW cy ad en x' ++ [(ob, .inl (cy 6, 1, .inr (.inl fo')))]) ++ (mW cy am m' ++ [(od, .inl (cy 7, 1, .inr (.inr (.inr (.inl fd')))))])) H → va_D A ((cW cy ad en x' ++ [(ob, .inl (cy 6, 1, .inr (.inl fo')))]) ++ (mW cy am m' ++ [(od, .inl (cy 7, 1, .inr (.inr (.inr (.inl fd')))))])) → va_S A s.heap H locs → lv_has ls 9 [(0, .ref b), (1, .ref (ad 12 0)), (2, .ref (am 0)), (3, .ref ob), (4, .ref od), (5, .int i)] → W p l e room_1 s m #[Value.ref b] below meth c H locs (cells + 2) (slots + 12) Q (F0 m 2250 ls [])) : W p l e room_1 s m #[Value.ref b] below meth c H locs cells slots Q (F0 m 753 ls []) := by
  obtain ⟨hx, hb, hml, hown, hw, hK8, hN, hST, hX, hbl, hbA, hA⟩ := hC
  have hK := hKL hK8
  have hcs0 : cells ≤ room_1.cells ∧ slots ≤ room_1.slots := ⟨Nat.le_trans (Nat.le_add_right _ 2) hcs.1, Nat.le_trans (Nat.le_add_right _ 12) hcs.2⟩
  have hcsA : cells + 2 ≤ room_1.cells ∧ slots + 12 ≤ room_1.slots := hcs
  obtain ⟨code, r, bb, m', hcd, hF, hFm, hthr, heq, hInv⟩ := hop
  refine lv_aload_n hx hb dL_law_753 rfl (lv_at hl 1 rfl) ?_
  refine lv_aload_n hx hb dL_law_754 rfl (lv_at hl 0 rfl) ?_
  refine lv_iload hx hb dL_law_755 (lv_at hl 5 rfl) ?_
  refine lv_iconst (v := 1) hx hb dL_law_757 (by decide) ?_
  refine lv_iadd hx hb dL_law_758 ?_
  refine va_sld hx hb hX hbl hbA hS h1 dL_law_759 ?_
  refine lv_aload_n hx hb dL_law_760 rfl (lv_at hl 0 rfl) ?_
  refine lv_iload hx hb dL_law_761 (lv_at hl 5 rfl) ?_
  refine lv_iconst (v := 2) hx hb dL_law_763 (by decide) ?_
  refine lv_iadd hx hb dL_law_764 ?_
  refine va_sld hx hb hX hbl hbA hS h2 dL_law_765 ?_
  refine lv_aload_n hx hb dL_law_766 rfl (lv_at hl 3 rfl) ?_
  refine fW (w1 := (cW cy ad en x ++ [((ob, .inl (cy 6, 1, .inr (.inl fo))) : Nat × va_E)])) (w2 := (mW cy am m0 ++ [((od, .inl (cy 7, 1, .inr (.inr (.inr (.inl fd))))) : Nat × va_E)])) (As := [.ref (ad 12 0), .int (xs (i + 1).toNatClampNeg), .int (xs (i + 2).toNatClampNeg), .ref ob]) (rest := []) hx hb hml hown hw hK8 hN hA hl.1 hP hD hS hST k_784 k_785 k_75 k_786 (met_L_cloudOf l hst0 D cy _ ad en g x (xs (i + 1).toNatClampNeg) (xs (i + 2).toNatClampNeg) ob fo code r hcd hF) ⟨rfl, rfl⟩ (n := 4) (by decide +kernel) rfl ⟨Nat.le_of_ble_eq_true rfl, Nat.le_of_ble_eq_true rfl⟩ hcs (Nat.le_of_ble_eq_true rfl) rfl dL_law_767 (fun H locs hP hD hS => ?_)
  refine lv_istore (lv' := [(6, .int code), (0, .ref b), (1, .ref (ad 12 0)), (2, .ref (am 0)), (3, .ref ob), (4, .ref od), (5, .int i)]) hx hb dL_law_770 hl (by decide) rfl (fun ls hl => ?_)
  refine lv_aload_n hx hb dL_law_772 rfl (lv_at hl 3 rfl) ?_
  refine lv_aload_n hx hb dL_law_773 rfl (lv_at hl 1 rfl) ?_
  refine lv_iload hx hb dL_law_774 (lv_at hl 6 rfl) ?_
  refine lv_iconst (v := 1) hx hb dL_law_776 (by decide) ?_
  refine lv_iadd hx hb dL_law_777 ?_
  refine va_sld hx hb hX hbl hbA hS h1 dL_law_778 ?_
  refine lv_aload_n hx hb dL_law_779 rfl (lv_at hl 1 rfl) ?_
  refine lv_iload hx hb dL_law_780 (lv_at hl 6 rfl) ?_
  refine lv_iconst (v := 2) hx hb dL_law_782 (by decide) ?_
  refine lv_iadd hx hb dL_law_783 ?_
  refine va_sld hx hb hX hbl hbA hS h2 dL_law_784 ?_
  have hP : va_P D vwCl ((mW cy am m0) ++ ((cW cy ad en x ++ [((ob, .inl (cy 6, 1, .inr (.inl (if code = 0 then (vp_updL fo (0 : Int32).toNatClampNeg r.toInt64) else fo)))) : Nat × va_E)]) ++ [((od, .inl (cy 7, 1, .inr (.inr (.inr (.inl fd))))) : Nat × va_E)])) H := pm_P pmM hP
  have hD : va_D A ((mW cy am m0) ++ ((cW cy ad en x ++ [((ob, .inl (cy 6, 1, .inr (.inl (if code = 0 then (vp_updL fo (0 : Int32).toNatClampNeg r.toInt64) else fo)))) : Nat × va_E)]) ++ [((od, .inl (cy 7, 1, .inr (.inr (.inr (.inl fd))))) : Nat × va_E)])) := pm_D pmM hD
  refine fV (w1 := (mW cy am m0)) (w2 := ((cW cy ad en x ++ [((ob, .inl (cy 6, 1, .inr (.inl (if code = 0 then (vp_updL fo (0 : Int32).toNatClampNeg r.toInt64) else fo)))) : Nat × va_E)]) ++ [((od, .inl (cy 7, 1, .inr (.inr (.inr (.inl fd))))) : Nat × va_E)])) (As := [.int (xs (i + 1).toNatClampNeg), .int (xs (i + 2).toNatClampNeg)]) (rest := []) hx hb hml hown hw hK8 hN hA hl.1 hP hD hS k_1798 k_1799 k_1800 k_90 k_1801 (met_X10_cloudOf l D cy _ am m0 (xs (i + 1).toNatClampNeg) (xs (i + 2).toNatClampNeg) bb m' hFm) (fun _ _ _ => trivial) Xok_T (gM (am := am) (r := 0) (m := m0) (f := m0 0) (by decide) rfl) rfl ⟨rfl, rfl⟩ (n := 2) (by decide +kernel) rfl ⟨Nat.le_of_ble_eq_true rfl, Nat.le_of_ble_eq_true rfl⟩ hcsA (Nat.le_of_ble_eq_true rfl) rfl dL_law_785 (fun H locs hP hD hS => ?_)
  have hP : va_P D vwCl ((cW cy ad en x ++ [(ob, .inl (cy 6, 1, .inr (.inl (if code = 0 then (vp_updL fo (0 : Int32).toNatClampNeg r.toInt64) else fo))))]) ++ (mW cy am m' ++ [(od, .inl (cy 7, 1, .inr (.inr (.inr (.inl fd)))))])) H := pm_P pmM.symm hP
  have hD : va_D A ((cW cy ad en x ++ [(ob, .inl (cy 6, 1, .inr (.inl (if code = 0 then (vp_updL fo (0 : Int32).toNatClampNeg r.toInt64) else fo))))]) ++ (mW cy am m' ++ [(od, .inl (cy 7, 1, .inr (.inr (.inr (.inl fd)))))])) := pm_D pmM.symm hD
  refine lv_istore (lv' := [(7, .int bb), (6, .int code), (0, .ref b), (1, .ref (ad 12 0)), (2, .ref (am 0)), (3, .ref ob), (4, .ref od), (5, .int i)]) hx hb dL_law_788 hl (by decide) rfl (fun ls hl => ?_)
  refine lv_aload_n hx hb dL_law_790 rfl (lv_at hl 4 rfl) ?_
  have hP : va_P D vwCl ((mW cy am m') ++ ((cW cy ad en x ++ [((ob, .inl (cy 6, 1, .inr (.inl (if code = 0 then (vp_updL fo (0 : Int32).toNatClampNeg r.toInt64) else fo)))) : Nat × va_E)]) ++ [((od, .inl (cy 7, 1, .inr (.inr (.inr (.inl fd))))) : Nat × va_E)])) H := pm_P pmM hP
  have hD : va_D A ((mW cy am m') ++ ((cW cy ad en x ++ [((ob, .inl (cy 6, 1, .inr (.inl (if code = 0 then (vp_updL fo (0 : Int32).toNatClampNeg r.toInt64) else fo)))) : Nat × va_E)]) ++ [((od, .inl (cy 7, 1, .inr (.inr (.inr (.inl fd))))) : Nat × va_E)])) := pm_D pmM hD
  refine fV (w1 := (mW cy am m')) (w2 := ((cW cy ad en x ++ [((ob, .inl (cy 6, 1, .inr (.inl (if code = 0 then (vp_updL fo (0 : Int32).toNatClampNeg r.toInt64) else fo)))) : Nat × va_E)]) ++ [((od, .inl (cy 7, 1, .inr (.inr (.inr (.inl fd))))) : Nat × va_E)])) (As := []) (rest := []) hx hb hml hown hw hK8 hN hA hl.1 hP hD hS k_1625 k_1626 k_1627 k_90 k_1628 (met_X10_thrown l D cy _ am m' code hthr) (fun _ _ _ => trivial) Xok_T (gM (am := am) (r := 0) (m := m') (f := m' 0) (by decide) rfl) rfl ⟨rfl, rfl⟩ (n := 0) (by decide +kernel) rfl ⟨Nat.le_of_ble_eq_true rfl, Nat.le_of_ble_eq_true rfl⟩ hcsA (Nat.le_of_ble_eq_true rfl) rfl dL_law_791 (fun H locs hP hD hS => ?_)
  have hP : va_P D vwCl ((cW cy ad en x ++ [(ob, .inl (cy 6, 1, .inr (.inl (if code = 0 then (vp_updL fo (0 : Int32).toNatClampNeg r.toInt64) else fo))))]) ++ (mW cy am m' ++ [(od, .inl (cy 7, 1, .inr (.inr (.inr (.inl fd)))))])) H := pm_P pmM.symm hP
  have hD : va_D A ((cW cy ad en x ++ [(ob, .inl (cy 6, 1, .inr (.inl (if code = 0 then (vp_updL fo (0 : Int32).toNatClampNeg r.toInt64) else fo))))]) ++ (mW cy am m' ++ [(od, .inl (cy 7, 1, .inr (.inr (.inr (.inl fd)))))])) := pm_D pmM.symm hD
  refine lv_iload hx hb dL_law_794 (lv_at hl 1 rfl) ?_
  refine lv_icmp_eq (tgt := 801) hx hb dL_law_796 (by decide) (fun _ => ?_) (fun h => absurd rfl h)
  refine lv_iload hx hb dL_law_801 (lv_at hl 1 rfl) ?_
  refine lv_if_ne (tgt := 818) hx hb dL_law_803 (by decide) (fun hk => ?_) (fun hk => ?_)
  · refine lv_goto (tgt := 2250) hx hb dL_law_818 (by decide) ?_
    exact kk _ _ _ _ H locs ls hInv (cvP hP rfl) (cvD hD rfl) hS (lv_sub hl [2, 3, 4, 5, 6, 7] rfl)
  · have hk0 : code = 0 := hk
    have heq := heq hk0
    refine lv_aload_n hx hb dL_law_806 rfl (lv_at hl 5 rfl) ?_
    refine lv_iconst (v := 0) hx hb dL_law_807 (by decide) ?_
    refine va_lald hx hb hK8 hP _ 6 (gA gL) rfl (vp_in_iff.mpr (by decide)) dL_law_808 ?_
    refine lv_iload hx hb dL_law_809 (lv_at hl 0 rfl) ?_
    refine lv_i2l hx hb dL_law_811 rfl ?_
    refine W.lcmp hx hb dL_law_812 ?_
    refine lv_if_eq (tgt := 818) hx hb dL_law_813 (by decide) (fun _ => ?_) (fun h => absurd ?_ h)
    · refine lv_goto (tgt := 2250) hx hb dL_law_818 (by decide) ?_
      exact kk _ _ _ _ H locs ls hInv (cvP hP rfl) (cvD hD rfl) hS (lv_sub hl [2, 3, 4, 5, 6, 7] rfl)
    · rw [lg_cmp_eq, heq, if_pos hk0]; rfl
def OK_ownerOf (Inv : Mem → (Nat → Nat → Int32) → Prop) (x : Mem) (m : Nat → Nat → Int32) (p1 : Int32) (p2 : Int32) : Prop := ∃ (code : Int32) (r : Int32) (bb : Int32) (m' : Nat → Nat → Int32), (code = 0 ∨ code = 1 ∨ code = 2) ∧ D_X9_ownerOf x p1 p2 = some (code, r) ∧ D_X10_ownerOf m p1 p2 = some (bb, m') ∧ D_X10_thrown m' = code ∧ (code = 0 → r = bb) ∧ Inv x m'
set_option maxHeartbeats 4000000 in
theorem lw_ownerOf {Inv : Mem → (Nat → Nat → Int32) → Prop} {p : Program} {l : Launch} (hst0 : l.stackTraces = false) {e : Env} {s : State} {m : MethodId} {below : List Frame} {meth : Method} {c : Code} {b L : Nat} {xs : Nat → Int32} {A : Nat → Prop} {D : va_G} {cy : Nat → ClassId} {en g : Nat → Nat} {Q : State → Prop} (hC : LC p s m c b L xs A D cy en g) {ad : Nat → Nat → Nat} {am : Nat → Nat} {ob od : Nat} {x : Mem} {m0 : Nat → Nat → Int32} {fo : Nat → Int64} {fd : Nat → UInt64} {i : Int32} {H : Heap} {locs : List Loc} {ls : Array Slot} {cells slots : Nat} (h1 : vp_in (i + 1) L) (h2 : vp_in (i + 2) L) (h3 : vp_in (i + 3) L) (hcs : cells + 2 ≤ room_1.cells ∧ slots + 12 ≤ room_1.slots) (hop : OK_ownerOf Inv x m0 (xs (i + 1).toNatClampNeg) (xs (i + 2).toNatClampNeg)) (hP : va_P D vwCl ((cW cy ad en x ++ [(ob, .inl (cy 6, 1, .inr (.inl fo)))]) ++ (mW cy am m0 ++ [(od, .inl (cy 7, 1, .inr (.inr (.inr (.inl fd)))))])) H) (hD : va_D A ((cW cy ad en x ++ [(ob, .inl (cy 6, 1, .inr (.inl fo)))]) ++ (mW cy am m0 ++ [(od, .inl (cy 7, 1, .inr (.inr (.inr (.inl fd)))))]))) (hS : va_S A s.heap H locs) (hl : lv_has ls 9 [(0, .ref b), (1, .ref (ad 12 0)), (2, .ref (am 0)), (3, .ref ob), (4, .ref od), (5, .int i)]) (kk : ∀ (x' : Mem) (m' : Nat → Nat → Int32) (fo' : Nat → Int64) (fd' : Nat → UInt64) (H : Heap) (locs : List Loc) (ls : Array Slot), Inv x' m' → va_P D vwCl ((cW cy ad en x' ++ [(ob, .inl (cy 6, 1, .inr (.inl fo')))]) ++ (mW cy am m' ++ [(od, .inl (cy 7, 1, .inr (.inr (.inr (.inl fd')))))])) H → va_D A ((cW cy ad en x' ++ [(ob, .inl (cy 6, 1, .inr (.inl fo')))]) ++ (mW cy am m' ++ [(od, .inl (cy 7, 1, .inr (.inr (.inr (.inl fd')))))])) → va_S A s.heap H locs → lv_has ls 9 [(0, .ref b), (1, .ref (ad 12 0)), (2, .ref (am 0)), (3, .ref ob), (4, .ref od), (5, .int i)] → W p l e room_1 s m #[Value.ref b] below meth c H locs (cells + 2) (slots + 12) Q (F0 m 2250 ls [])) : W p l e room_1 s m #[Value.ref b] below meth c H locs cells slots Q (F0 m 821 ls []) := by
  obtain ⟨hx, hb, hml, hown, hw, hK8, hN, hST, hX, hbl, hbA, hA⟩ := hC
  have hK := hKL hK8
  have hcs0 : cells ≤ room_1.cells ∧ slots ≤ room_1.slots := ⟨Nat.le_trans (Nat.le_add_right _ 2) hcs.1, Nat.le_trans (Nat.le_add_right _ 12) hcs.2⟩
  have hcsA : cells + 2 ≤ room_1.cells ∧ slots + 12 ≤ room_1.slots := hcs
  obtain ⟨code, r, bb, m', hcd, hF, hFm, hthr, heq, hInv⟩ := hop
  refine lv_aload_n hx hb dL_law_821 rfl (lv_at hl 1 rfl) ?_
  refine lv_aload_n hx hb dL_law_822 rfl (lv_at hl 0 rfl) ?_
  refine lv_iload hx hb dL_law_823 (lv_at hl 5 rfl) ?_
  refine lv_iconst (v := 1) hx hb dL_law_825 (by decide) ?_
  refine lv_iadd hx hb dL_law_826 ?_
  refine va_sld hx hb hX hbl hbA hS h1 dL_law_827 ?_
  refine lv_aload_n hx hb dL_law_828 rfl (lv_at hl 0 rfl) ?_
  refine lv_iload hx hb dL_law_829 (lv_at hl 5 rfl) ?_
  refine lv_iconst (v := 2) hx hb dL_law_831 (by decide) ?_
  refine lv_iadd hx hb dL_law_832 ?_
  refine va_sld hx hb hX hbl hbA hS h2 dL_law_833 ?_
  refine lv_aload_n hx hb dL_law_834 rfl (lv_at hl 3 rfl) ?_
  refine fW (w1 := (cW cy ad en x ++ [((ob, .inl (cy 6, 1, .inr (.inl fo))) : Nat × va_E)])) (w2 := (mW cy am m0 ++ [((od, .inl (cy 7, 1, .inr (.inr (.inr (.inl fd))))) : Nat × va_E)])) (As := [.ref (ad 12 0), .int (xs (i + 1).toNatClampNeg), .int (xs (i + 2).toNatClampNeg), .ref ob]) (rest := []) hx hb hml hown hw hK8 hN hA hl.1 hP hD hS hST k_852 k_853 k_75 k_854 (met_L_ownerOf l hst0 D cy _ ad en g x (xs (i + 1).toNatClampNeg) (xs (i + 2).toNatClampNeg) ob fo code r hcd hF) ⟨rfl, rfl⟩ (n := 4) (by decide +kernel) rfl ⟨Nat.le_of_ble_eq_true rfl, Nat.le_of_ble_eq_true rfl⟩ hcs (Nat.le_of_ble_eq_true rfl) rfl dL_law_835 (fun H locs hP hD hS => ?_)
  refine lv_istore (lv' := [(6, .int code), (0, .ref b), (1, .ref (ad 12 0)), (2, .ref (am 0)), (3, .ref ob), (4, .ref od), (5, .int i)]) hx hb dL_law_838 hl (by decide) rfl (fun ls hl => ?_)
  refine lv_aload_n hx hb dL_law_840 rfl (lv_at hl 3 rfl) ?_
  refine lv_aload_n hx hb dL_law_841 rfl (lv_at hl 1 rfl) ?_
  refine lv_iload hx hb dL_law_842 (lv_at hl 6 rfl) ?_
  refine lv_iconst (v := 1) hx hb dL_law_844 (by decide) ?_
  refine lv_iadd hx hb dL_law_845 ?_
  refine va_sld hx hb hX hbl hbA hS h1 dL_law_846 ?_
  refine lv_aload_n hx hb dL_law_847 rfl (lv_at hl 1 rfl) ?_
  refine lv_iload hx hb dL_law_848 (lv_at hl 6 rfl) ?_
  refine lv_iconst (v := 2) hx hb dL_law_850 (by decide) ?_
  refine lv_iadd hx hb dL_law_851 ?_
  refine va_sld hx hb hX hbl hbA hS h2 dL_law_852 ?_
  have hP : va_P D vwCl ((mW cy am m0) ++ ((cW cy ad en x ++ [((ob, .inl (cy 6, 1, .inr (.inl (if code = 0 then (vp_updL fo (0 : Int32).toNatClampNeg r.toInt64) else fo)))) : Nat × va_E)]) ++ [((od, .inl (cy 7, 1, .inr (.inr (.inr (.inl fd))))) : Nat × va_E)])) H := pm_P pmM hP
  have hD : va_D A ((mW cy am m0) ++ ((cW cy ad en x ++ [((ob, .inl (cy 6, 1, .inr (.inl (if code = 0 then (vp_updL fo (0 : Int32).toNatClampNeg r.toInt64) else fo)))) : Nat × va_E)]) ++ [((od, .inl (cy 7, 1, .inr (.inr (.inr (.inl fd))))) : Nat × va_E)])) := pm_D pmM hD
  refine fV (w1 := (mW cy am m0)) (w2 := ((cW cy ad en x ++ [((ob, .inl (cy 6, 1, .inr (.inl (if code = 0 then (vp_updL fo (0 : Int32).toNatClampNeg r.toInt64) else fo)))) : Nat × va_E)]) ++ [((od, .inl (cy 7, 1, .inr (.inr (.inr (.inl fd))))) : Nat × va_E)])) (As := [.int (xs (i + 1).toNatClampNeg), .int (xs (i + 2).toNatClampNeg)]) (rest := []) hx hb hml hown hw hK8 hN hA hl.1 hP hD hS k_1802 k_1803 k_1804 k_90 k_1805 (met_X10_ownerOf l D cy _ am m0 (xs (i + 1).toNatClampNeg) (xs (i + 2).toNatClampNeg) bb m' hFm) (fun _ _ _ => trivial) Xok_T (gM (am := am) (r := 0) (m := m0) (f := m0 0) (by decide) rfl) rfl ⟨rfl, rfl⟩ (n := 2) (by decide +kernel) rfl ⟨Nat.le_of_ble_eq_true rfl, Nat.le_of_ble_eq_true rfl⟩ hcsA (Nat.le_of_ble_eq_true rfl) rfl dL_law_853 (fun H locs hP hD hS => ?_)
  have hP : va_P D vwCl ((cW cy ad en x ++ [(ob, .inl (cy 6, 1, .inr (.inl (if code = 0 then (vp_updL fo (0 : Int32).toNatClampNeg r.toInt64) else fo))))]) ++ (mW cy am m' ++ [(od, .inl (cy 7, 1, .inr (.inr (.inr (.inl fd)))))])) H := pm_P pmM.symm hP
  have hD : va_D A ((cW cy ad en x ++ [(ob, .inl (cy 6, 1, .inr (.inl (if code = 0 then (vp_updL fo (0 : Int32).toNatClampNeg r.toInt64) else fo))))]) ++ (mW cy am m' ++ [(od, .inl (cy 7, 1, .inr (.inr (.inr (.inl fd)))))])) := pm_D pmM.symm hD
  refine lv_istore (lv' := [(7, .int bb), (6, .int code), (0, .ref b), (1, .ref (ad 12 0)), (2, .ref (am 0)), (3, .ref ob), (4, .ref od), (5, .int i)]) hx hb dL_law_856 hl (by decide) rfl (fun ls hl => ?_)
  refine lv_aload_n hx hb dL_law_858 rfl (lv_at hl 4 rfl) ?_
  have hP : va_P D vwCl ((mW cy am m') ++ ((cW cy ad en x ++ [((ob, .inl (cy 6, 1, .inr (.inl (if code = 0 then (vp_updL fo (0 : Int32).toNatClampNeg r.toInt64) else fo)))) : Nat × va_E)]) ++ [((od, .inl (cy 7, 1, .inr (.inr (.inr (.inl fd))))) : Nat × va_E)])) H := pm_P pmM hP
  have hD : va_D A ((mW cy am m') ++ ((cW cy ad en x ++ [((ob, .inl (cy 6, 1, .inr (.inl (if code = 0 then (vp_updL fo (0 : Int32).toNatClampNeg r.toInt64) else fo)))) : Nat × va_E)]) ++ [((od, .inl (cy 7, 1, .inr (.inr (.inr (.inl fd))))) : Nat × va_E)])) := pm_D pmM hD
  refine fV (w1 := (mW cy am m')) (w2 := ((cW cy ad en x ++ [((ob, .inl (cy 6, 1, .inr (.inl (if code = 0 then (vp_updL fo (0 : Int32).toNatClampNeg r.toInt64) else fo)))) : Nat × va_E)]) ++ [((od, .inl (cy 7, 1, .inr (.inr (.inr (.inl fd))))) : Nat × va_E)])) (As := []) (rest := []) hx hb hml hown hw hK8 hN hA hl.1 hP hD hS k_1625 k_1626 k_1627 k_90 k_1628 (met_X10_thrown l D cy _ am m' code hthr) (fun _ _ _ => trivial) Xok_T (gM (am := am) (r := 0) (m := m') (f := m' 0) (by decide) rfl) rfl ⟨rfl, rfl⟩ (n := 0) (by decide +kernel) rfl ⟨Nat.le_of_ble_eq_true rfl, Nat.le_of_ble_eq_true rfl⟩ hcsA (Nat.le_of_ble_eq_true rfl) rfl dL_law_859 (fun H locs hP hD hS => ?_)
  have hP : va_P D vwCl ((cW cy ad en x ++ [(ob, .inl (cy 6, 1, .inr (.inl (if code = 0 then (vp_updL fo (0 : Int32).toNatClampNeg r.toInt64) else fo))))]) ++ (mW cy am m' ++ [(od, .inl (cy 7, 1, .inr (.inr (.inr (.inl fd)))))])) H := pm_P pmM.symm hP
  have hD : va_D A ((cW cy ad en x ++ [(ob, .inl (cy 6, 1, .inr (.inl (if code = 0 then (vp_updL fo (0 : Int32).toNatClampNeg r.toInt64) else fo))))]) ++ (mW cy am m' ++ [(od, .inl (cy 7, 1, .inr (.inr (.inr (.inl fd)))))])) := pm_D pmM.symm hD
  refine lv_iload hx hb dL_law_862 (lv_at hl 1 rfl) ?_
  refine lv_icmp_eq (tgt := 869) hx hb dL_law_864 (by decide) (fun _ => ?_) (fun h => absurd rfl h)
  refine lv_iload hx hb dL_law_869 (lv_at hl 1 rfl) ?_
  refine lv_if_ne (tgt := 886) hx hb dL_law_871 (by decide) (fun hk => ?_) (fun hk => ?_)
  · refine lv_goto (tgt := 2250) hx hb dL_law_886 (by decide) ?_
    exact kk _ _ _ _ H locs ls hInv (cvP hP rfl) (cvD hD rfl) hS (lv_sub hl [2, 3, 4, 5, 6, 7] rfl)
  · have hk0 : code = 0 := hk
    have heq := heq hk0
    refine lv_aload_n hx hb dL_law_874 rfl (lv_at hl 5 rfl) ?_
    refine lv_iconst (v := 0) hx hb dL_law_875 (by decide) ?_
    refine va_lald hx hb hK8 hP _ 6 (gA gL) rfl (vp_in_iff.mpr (by decide)) dL_law_876 ?_
    refine lv_iload hx hb dL_law_877 (lv_at hl 0 rfl) ?_
    refine lv_i2l hx hb dL_law_879 rfl ?_
    refine W.lcmp hx hb dL_law_880 ?_
    refine lv_if_eq (tgt := 886) hx hb dL_law_881 (by decide) (fun _ => ?_) (fun h => absurd ?_ h)
    · refine lv_goto (tgt := 2250) hx hb dL_law_886 (by decide) ?_
      exact kk _ _ _ _ H locs ls hInv (cvP hP rfl) (cvD hD rfl) hS (lv_sub hl [2, 3, 4, 5, 6, 7] rfl)
    · rw [lg_cmp_eq, heq, if_pos hk0]; rfl
def OK_vineyardOf (Inv : Mem → (Nat → Nat → Int32) → Prop) (x : Mem) (m : Nat → Nat → Int32) (p1 : Int32) (p2 : Int32) : Prop := ∃ (code : Int32) (r : Int32) (bb : Int32) (m' : Nat → Nat → Int32), (code = 0 ∨ code = 1 ∨ code = 2) ∧ D_X9_vineyardOf x p1 p2 = some (code, r) ∧ D_X10_vineyardOf m p1 p2 = some (bb, m') ∧ D_X10_thrown m' = code ∧ (code = 0 → r = bb) ∧ Inv x m'
set_option maxHeartbeats 4000000 in
theorem lw_vineyardOf {Inv : Mem → (Nat → Nat → Int32) → Prop} {p : Program} {l : Launch} (hst0 : l.stackTraces = false) {e : Env} {s : State} {m : MethodId} {below : List Frame} {meth : Method} {c : Code} {b L : Nat} {xs : Nat → Int32} {A : Nat → Prop} {D : va_G} {cy : Nat → ClassId} {en g : Nat → Nat} {Q : State → Prop} (hC : LC p s m c b L xs A D cy en g) {ad : Nat → Nat → Nat} {am : Nat → Nat} {ob od : Nat} {x : Mem} {m0 : Nat → Nat → Int32} {fo : Nat → Int64} {fd : Nat → UInt64} {i : Int32} {H : Heap} {locs : List Loc} {ls : Array Slot} {cells slots : Nat} (h1 : vp_in (i + 1) L) (h2 : vp_in (i + 2) L) (h3 : vp_in (i + 3) L) (hcs : cells + 2 ≤ room_1.cells ∧ slots + 12 ≤ room_1.slots) (hop : OK_vineyardOf Inv x m0 (xs (i + 1).toNatClampNeg) (xs (i + 2).toNatClampNeg)) (hP : va_P D vwCl ((cW cy ad en x ++ [(ob, .inl (cy 6, 1, .inr (.inl fo)))]) ++ (mW cy am m0 ++ [(od, .inl (cy 7, 1, .inr (.inr (.inr (.inl fd)))))])) H) (hD : va_D A ((cW cy ad en x ++ [(ob, .inl (cy 6, 1, .inr (.inl fo)))]) ++ (mW cy am m0 ++ [(od, .inl (cy 7, 1, .inr (.inr (.inr (.inl fd)))))]))) (hS : va_S A s.heap H locs) (hl : lv_has ls 9 [(0, .ref b), (1, .ref (ad 12 0)), (2, .ref (am 0)), (3, .ref ob), (4, .ref od), (5, .int i)]) (kk : ∀ (x' : Mem) (m' : Nat → Nat → Int32) (fo' : Nat → Int64) (fd' : Nat → UInt64) (H : Heap) (locs : List Loc) (ls : Array Slot), Inv x' m' → va_P D vwCl ((cW cy ad en x' ++ [(ob, .inl (cy 6, 1, .inr (.inl fo')))]) ++ (mW cy am m' ++ [(od, .inl (cy 7, 1, .inr (.inr (.inr (.inl fd')))))])) H → va_D A ((cW cy ad en x' ++ [(ob, .inl (cy 6, 1, .inr (.inl fo')))]) ++ (mW cy am m' ++ [(od, .inl (cy 7, 1, .inr (.inr (.inr (.inl fd')))))])) → va_S A s.heap H locs → lv_has ls 9 [(0, .ref b), (1, .ref (ad 12 0)), (2, .ref (am 0)), (3, .ref ob), (4, .ref od), (5, .int i)] → W p l e room_1 s m #[Value.ref b] below meth c H locs (cells + 2) (slots + 12) Q (F0 m 2250 ls [])) : W p l e room_1 s m #[Value.ref b] below meth c H locs cells slots Q (F0 m 889 ls []) := by
  obtain ⟨hx, hb, hml, hown, hw, hK8, hN, hST, hX, hbl, hbA, hA⟩ := hC
  have hK := hKL hK8
  have hcs0 : cells ≤ room_1.cells ∧ slots ≤ room_1.slots := ⟨Nat.le_trans (Nat.le_add_right _ 2) hcs.1, Nat.le_trans (Nat.le_add_right _ 12) hcs.2⟩
  have hcsA : cells + 2 ≤ room_1.cells ∧ slots + 12 ≤ room_1.slots := hcs
  obtain ⟨code, r, bb, m', hcd, hF, hFm, hthr, heq, hInv⟩ := hop
  refine lv_aload_n hx hb dL_law_889 rfl (lv_at hl 1 rfl) ?_
  refine lv_aload_n hx hb dL_law_890 rfl (lv_at hl 0 rfl) ?_
  refine lv_iload hx hb dL_law_891 (lv_at hl 5 rfl) ?_
  refine lv_iconst (v := 1) hx hb dL_law_893 (by decide) ?_
  refine lv_iadd hx hb dL_law_894 ?_
  refine va_sld hx hb hX hbl hbA hS h1 dL_law_895 ?_
  refine lv_aload_n hx hb dL_law_896 rfl (lv_at hl 0 rfl) ?_
  refine lv_iload hx hb dL_law_897 (lv_at hl 5 rfl) ?_
  refine lv_iconst (v := 2) hx hb dL_law_899 (by decide) ?_
  refine lv_iadd hx hb dL_law_900 ?_
  refine va_sld hx hb hX hbl hbA hS h2 dL_law_901 ?_
  refine lv_aload_n hx hb dL_law_902 rfl (lv_at hl 3 rfl) ?_
  refine fW (w1 := (cW cy ad en x ++ [((ob, .inl (cy 6, 1, .inr (.inl fo))) : Nat × va_E)])) (w2 := (mW cy am m0 ++ [((od, .inl (cy 7, 1, .inr (.inr (.inr (.inl fd))))) : Nat × va_E)])) (As := [.ref (ad 12 0), .int (xs (i + 1).toNatClampNeg), .int (xs (i + 2).toNatClampNeg), .ref ob]) (rest := []) hx hb hml hown hw hK8 hN hA hl.1 hP hD hS hST k_869 k_870 k_75 k_871 (met_L_vineyardOf l hst0 D cy _ ad en g x (xs (i + 1).toNatClampNeg) (xs (i + 2).toNatClampNeg) ob fo code r hcd hF) ⟨rfl, rfl⟩ (n := 4) (by decide +kernel) rfl ⟨Nat.le_of_ble_eq_true rfl, Nat.le_of_ble_eq_true rfl⟩ hcs (Nat.le_of_ble_eq_true rfl) rfl dL_law_903 (fun H locs hP hD hS => ?_)
  refine lv_istore (lv' := [(6, .int code), (0, .ref b), (1, .ref (ad 12 0)), (2, .ref (am 0)), (3, .ref ob), (4, .ref od), (5, .int i)]) hx hb dL_law_906 hl (by decide) rfl (fun ls hl => ?_)
  refine lv_aload_n hx hb dL_law_908 rfl (lv_at hl 3 rfl) ?_
  refine lv_aload_n hx hb dL_law_909 rfl (lv_at hl 1 rfl) ?_
  refine lv_iload hx hb dL_law_910 (lv_at hl 6 rfl) ?_
  refine lv_iconst (v := 1) hx hb dL_law_912 (by decide) ?_
  refine lv_iadd hx hb dL_law_913 ?_
  refine va_sld hx hb hX hbl hbA hS h1 dL_law_914 ?_
  refine lv_aload_n hx hb dL_law_915 rfl (lv_at hl 1 rfl) ?_
  refine lv_iload hx hb dL_law_916 (lv_at hl 6 rfl) ?_
  refine lv_iconst (v := 2) hx hb dL_law_918 (by decide) ?_
  refine lv_iadd hx hb dL_law_919 ?_
  refine va_sld hx hb hX hbl hbA hS h2 dL_law_920 ?_
  have hP : va_P D vwCl ((mW cy am m0) ++ ((cW cy ad en x ++ [((ob, .inl (cy 6, 1, .inr (.inl (if code = 0 then (vp_updL fo (0 : Int32).toNatClampNeg r.toInt64) else fo)))) : Nat × va_E)]) ++ [((od, .inl (cy 7, 1, .inr (.inr (.inr (.inl fd))))) : Nat × va_E)])) H := pm_P pmM hP
  have hD : va_D A ((mW cy am m0) ++ ((cW cy ad en x ++ [((ob, .inl (cy 6, 1, .inr (.inl (if code = 0 then (vp_updL fo (0 : Int32).toNatClampNeg r.toInt64) else fo)))) : Nat × va_E)]) ++ [((od, .inl (cy 7, 1, .inr (.inr (.inr (.inl fd))))) : Nat × va_E)])) := pm_D pmM hD
  refine fV (w1 := (mW cy am m0)) (w2 := ((cW cy ad en x ++ [((ob, .inl (cy 6, 1, .inr (.inl (if code = 0 then (vp_updL fo (0 : Int32).toNatClampNeg r.toInt64) else fo)))) : Nat × va_E)]) ++ [((od, .inl (cy 7, 1, .inr (.inr (.inr (.inl fd))))) : Nat × va_E)])) (As := [.int (xs (i + 1).toNatClampNeg), .int (xs (i + 2).toNatClampNeg)]) (rest := []) hx hb hml hown hw hK8 hN hA hl.1 hP hD hS k_1814 k_1815 k_1816 k_90 k_1817 (met_X10_vineyardOf l D cy _ am m0 (xs (i + 1).toNatClampNeg) (xs (i + 2).toNatClampNeg) bb m' hFm) (fun _ _ _ => trivial) Xok_T (gM (am := am) (r := 0) (m := m0) (f := m0 0) (by decide) rfl) rfl ⟨rfl, rfl⟩ (n := 2) (by decide +kernel) rfl ⟨Nat.le_of_ble_eq_true rfl, Nat.le_of_ble_eq_true rfl⟩ hcsA (Nat.le_of_ble_eq_true rfl) rfl dL_law_921 (fun H locs hP hD hS => ?_)
  have hP : va_P D vwCl ((cW cy ad en x ++ [(ob, .inl (cy 6, 1, .inr (.inl (if code = 0 then (vp_updL fo (0 : Int32).toNatClampNeg r.toInt64) else fo))))]) ++ (mW cy am m' ++ [(od, .inl (cy 7, 1, .inr (.inr (.inr (.inl fd)))))])) H := pm_P pmM.symm hP
  have hD : va_D A ((cW cy ad en x ++ [(ob, .inl (cy 6, 1, .inr (.inl (if code = 0 then (vp_updL fo (0 : Int32).toNatClampNeg r.toInt64) else fo))))]) ++ (mW cy am m' ++ [(od, .inl (cy 7, 1, .inr (.inr (.inr (.inl fd)))))])) := pm_D pmM.symm hD
  refine lv_istore (lv' := [(7, .int bb), (6, .int code), (0, .ref b), (1, .ref (ad 12 0)), (2, .ref (am 0)), (3, .ref ob), (4, .ref od), (5, .int i)]) hx hb dL_law_924 hl (by decide) rfl (fun ls hl => ?_)
  refine lv_aload_n hx hb dL_law_926 rfl (lv_at hl 4 rfl) ?_
  have hP : va_P D vwCl ((mW cy am m') ++ ((cW cy ad en x ++ [((ob, .inl (cy 6, 1, .inr (.inl (if code = 0 then (vp_updL fo (0 : Int32).toNatClampNeg r.toInt64) else fo)))) : Nat × va_E)]) ++ [((od, .inl (cy 7, 1, .inr (.inr (.inr (.inl fd))))) : Nat × va_E)])) H := pm_P pmM hP
  have hD : va_D A ((mW cy am m') ++ ((cW cy ad en x ++ [((ob, .inl (cy 6, 1, .inr (.inl (if code = 0 then (vp_updL fo (0 : Int32).toNatClampNeg r.toInt64) else fo)))) : Nat × va_E)]) ++ [((od, .inl (cy 7, 1, .inr (.inr (.inr (.inl fd))))) : Nat × va_E)])) := pm_D pmM hD
  refine fV (w1 := (mW cy am m')) (w2 := ((cW cy ad en x ++ [((ob, .inl (cy 6, 1, .inr (.inl (if code = 0 then (vp_updL fo (0 : Int32).toNatClampNeg r.toInt64) else fo)))) : Nat × va_E)]) ++ [((od, .inl (cy 7, 1, .inr (.inr (.inr (.inl fd))))) : Nat × va_E)])) (As := []) (rest := []) hx hb hml hown hw hK8 hN hA hl.1 hP hD hS k_1625 k_1626 k_1627 k_90 k_1628 (met_X10_thrown l D cy _ am m' code hthr) (fun _ _ _ => trivial) Xok_T (gM (am := am) (r := 0) (m := m') (f := m' 0) (by decide) rfl) rfl ⟨rfl, rfl⟩ (n := 0) (by decide +kernel) rfl ⟨Nat.le_of_ble_eq_true rfl, Nat.le_of_ble_eq_true rfl⟩ hcsA (Nat.le_of_ble_eq_true rfl) rfl dL_law_927 (fun H locs hP hD hS => ?_)
  have hP : va_P D vwCl ((cW cy ad en x ++ [(ob, .inl (cy 6, 1, .inr (.inl (if code = 0 then (vp_updL fo (0 : Int32).toNatClampNeg r.toInt64) else fo))))]) ++ (mW cy am m' ++ [(od, .inl (cy 7, 1, .inr (.inr (.inr (.inl fd)))))])) H := pm_P pmM.symm hP
  have hD : va_D A ((cW cy ad en x ++ [(ob, .inl (cy 6, 1, .inr (.inl (if code = 0 then (vp_updL fo (0 : Int32).toNatClampNeg r.toInt64) else fo))))]) ++ (mW cy am m' ++ [(od, .inl (cy 7, 1, .inr (.inr (.inr (.inl fd)))))])) := pm_D pmM.symm hD
  refine lv_iload hx hb dL_law_930 (lv_at hl 1 rfl) ?_
  refine lv_icmp_eq (tgt := 937) hx hb dL_law_932 (by decide) (fun _ => ?_) (fun h => absurd rfl h)
  refine lv_iload hx hb dL_law_937 (lv_at hl 1 rfl) ?_
  refine lv_if_ne (tgt := 954) hx hb dL_law_939 (by decide) (fun hk => ?_) (fun hk => ?_)
  · refine lv_goto (tgt := 2250) hx hb dL_law_954 (by decide) ?_
    exact kk _ _ _ _ H locs ls hInv (cvP hP rfl) (cvD hD rfl) hS (lv_sub hl [2, 3, 4, 5, 6, 7] rfl)
  · have hk0 : code = 0 := hk
    have heq := heq hk0
    refine lv_aload_n hx hb dL_law_942 rfl (lv_at hl 5 rfl) ?_
    refine lv_iconst (v := 0) hx hb dL_law_943 (by decide) ?_
    refine va_lald hx hb hK8 hP _ 6 (gA gL) rfl (vp_in_iff.mpr (by decide)) dL_law_944 ?_
    refine lv_iload hx hb dL_law_945 (lv_at hl 0 rfl) ?_
    refine lv_i2l hx hb dL_law_947 rfl ?_
    refine W.lcmp hx hb dL_law_948 ?_
    refine lv_if_eq (tgt := 954) hx hb dL_law_949 (by decide) (fun _ => ?_) (fun h => absurd ?_ h)
    · refine lv_goto (tgt := 2250) hx hb dL_law_954 (by decide) ?_
      exact kk _ _ _ _ H locs ls hInv (cvP hP rfl) (cvD hD rfl) hS (lv_sub hl [2, 3, 4, 5, 6, 7] rfl)
    · rw [lg_cmp_eq, heq, if_pos hk0]; rfl
def OK_clouds (Inv : Mem → (Nat → Nat → Int32) → Prop) (x : Mem) (m : Nat → Nat → Int32) (p1 : Int32) : Prop := ∃ (code : Int32) (r : Int32) (bb : Int32) (m' : Nat → Nat → Int32), (code = 0 ∨ code = 1) ∧ D_X9_clouds x p1 = some (code, r) ∧ D_X10_clouds m p1 = some (bb, m') ∧ D_X10_thrown m' = code ∧ (code = 0 → r = bb) ∧ Inv x m'
set_option maxHeartbeats 4000000 in
theorem lw_clouds {Inv : Mem → (Nat → Nat → Int32) → Prop} {p : Program} {l : Launch} (hst0 : l.stackTraces = false) {e : Env} {s : State} {m : MethodId} {below : List Frame} {meth : Method} {c : Code} {b L : Nat} {xs : Nat → Int32} {A : Nat → Prop} {D : va_G} {cy : Nat → ClassId} {en g : Nat → Nat} {Q : State → Prop} (hC : LC p s m c b L xs A D cy en g) {ad : Nat → Nat → Nat} {am : Nat → Nat} {ob od : Nat} {x : Mem} {m0 : Nat → Nat → Int32} {fo : Nat → Int64} {fd : Nat → UInt64} {i : Int32} {H : Heap} {locs : List Loc} {ls : Array Slot} {cells slots : Nat} (h1 : vp_in (i + 1) L) (h2 : vp_in (i + 2) L) (h3 : vp_in (i + 3) L) (hcs : cells + 2 ≤ room_1.cells ∧ slots + 12 ≤ room_1.slots) (hop : OK_clouds Inv x m0 (xs (i + 1).toNatClampNeg)) (hP : va_P D vwCl ((cW cy ad en x ++ [(ob, .inl (cy 6, 1, .inr (.inl fo)))]) ++ (mW cy am m0 ++ [(od, .inl (cy 7, 1, .inr (.inr (.inr (.inl fd)))))])) H) (hD : va_D A ((cW cy ad en x ++ [(ob, .inl (cy 6, 1, .inr (.inl fo)))]) ++ (mW cy am m0 ++ [(od, .inl (cy 7, 1, .inr (.inr (.inr (.inl fd)))))]))) (hS : va_S A s.heap H locs) (hl : lv_has ls 9 [(0, .ref b), (1, .ref (ad 12 0)), (2, .ref (am 0)), (3, .ref ob), (4, .ref od), (5, .int i)]) (kk : ∀ (x' : Mem) (m' : Nat → Nat → Int32) (fo' : Nat → Int64) (fd' : Nat → UInt64) (H : Heap) (locs : List Loc) (ls : Array Slot), Inv x' m' → va_P D vwCl ((cW cy ad en x' ++ [(ob, .inl (cy 6, 1, .inr (.inl fo')))]) ++ (mW cy am m' ++ [(od, .inl (cy 7, 1, .inr (.inr (.inr (.inl fd')))))])) H → va_D A ((cW cy ad en x' ++ [(ob, .inl (cy 6, 1, .inr (.inl fo')))]) ++ (mW cy am m' ++ [(od, .inl (cy 7, 1, .inr (.inr (.inr (.inl fd')))))])) → va_S A s.heap H locs → lv_has ls 9 [(0, .ref b), (1, .ref (ad 12 0)), (2, .ref (am 0)), (3, .ref ob), (4, .ref od), (5, .int i)] → W p l e room_1 s m #[Value.ref b] below meth c H locs (cells + 2) (slots + 12) Q (F0 m 2250 ls [])) : W p l e room_1 s m #[Value.ref b] below meth c H locs cells slots Q (F0 m 957 ls []) := by
  obtain ⟨hx, hb, hml, hown, hw, hK8, hN, hST, hX, hbl, hbA, hA⟩ := hC
  have hK := hKL hK8
  have hcs0 : cells ≤ room_1.cells ∧ slots ≤ room_1.slots := ⟨Nat.le_trans (Nat.le_add_right _ 2) hcs.1, Nat.le_trans (Nat.le_add_right _ 12) hcs.2⟩
  have hcsA : cells + 2 ≤ room_1.cells ∧ slots + 12 ≤ room_1.slots := hcs
  obtain ⟨code, r, bb, m', hcd, hF, hFm, hthr, heq, hInv⟩ := hop
  refine lv_aload_n hx hb dL_law_957 rfl (lv_at hl 1 rfl) ?_
  refine lv_aload_n hx hb dL_law_958 rfl (lv_at hl 0 rfl) ?_
  refine lv_iload hx hb dL_law_959 (lv_at hl 5 rfl) ?_
  refine lv_iconst (v := 1) hx hb dL_law_961 (by decide) ?_
  refine lv_iadd hx hb dL_law_962 ?_
  refine va_sld hx hb hX hbl hbA hS h1 dL_law_963 ?_
  refine lv_aload_n hx hb dL_law_964 rfl (lv_at hl 3 rfl) ?_
  refine fW (w1 := (cW cy ad en x ++ [((ob, .inl (cy 6, 1, .inr (.inl fo))) : Nat × va_E)])) (w2 := (mW cy am m0 ++ [((od, .inl (cy 7, 1, .inr (.inr (.inr (.inl fd))))) : Nat × va_E)])) (As := [.ref (ad 12 0), .int (xs (i + 1).toNatClampNeg), .ref ob]) (rest := []) hx hb hml hown hw hK8 hN hA hl.1 hP hD hS hST k_883 k_884 k_75 k_885 (met_L_clouds l hst0 D cy _ ad en g x (xs (i + 1).toNatClampNeg) ob fo code r hcd hF) ⟨rfl, rfl⟩ (n := 3) (by decide +kernel) rfl ⟨Nat.le_of_ble_eq_true rfl, Nat.le_of_ble_eq_true rfl⟩ hcs (Nat.le_of_ble_eq_true rfl) rfl dL_law_965 (fun H locs hP hD hS => ?_)
  refine lv_istore (lv' := [(6, .int code), (0, .ref b), (1, .ref (ad 12 0)), (2, .ref (am 0)), (3, .ref ob), (4, .ref od), (5, .int i)]) hx hb dL_law_968 hl (by decide) rfl (fun ls hl => ?_)
  refine lv_aload_n hx hb dL_law_970 rfl (lv_at hl 3 rfl) ?_
  refine lv_aload_n hx hb dL_law_971 rfl (lv_at hl 1 rfl) ?_
  refine lv_iload hx hb dL_law_972 (lv_at hl 6 rfl) ?_
  refine lv_iconst (v := 1) hx hb dL_law_974 (by decide) ?_
  refine lv_iadd hx hb dL_law_975 ?_
  refine va_sld hx hb hX hbl hbA hS h1 dL_law_976 ?_
  have hP : va_P D vwCl ((mW cy am m0) ++ ((cW cy ad en x ++ [((ob, .inl (cy 6, 1, .inr (.inl (if code = 0 then (vp_updL fo (0 : Int32).toNatClampNeg r.toInt64) else fo)))) : Nat × va_E)]) ++ [((od, .inl (cy 7, 1, .inr (.inr (.inr (.inl fd))))) : Nat × va_E)])) H := pm_P pmM hP
  have hD : va_D A ((mW cy am m0) ++ ((cW cy ad en x ++ [((ob, .inl (cy 6, 1, .inr (.inl (if code = 0 then (vp_updL fo (0 : Int32).toNatClampNeg r.toInt64) else fo)))) : Nat × va_E)]) ++ [((od, .inl (cy 7, 1, .inr (.inr (.inr (.inl fd))))) : Nat × va_E)])) := pm_D pmM hD
  refine fV (w1 := (mW cy am m0)) (w2 := ((cW cy ad en x ++ [((ob, .inl (cy 6, 1, .inr (.inl (if code = 0 then (vp_updL fo (0 : Int32).toNatClampNeg r.toInt64) else fo)))) : Nat × va_E)]) ++ [((od, .inl (cy 7, 1, .inr (.inr (.inr (.inl fd))))) : Nat × va_E)])) (As := [.int (xs (i + 1).toNatClampNeg)]) (rest := []) hx hb hml hown hw hK8 hN hA hl.1 hP hD hS k_1818 k_1819 k_1820 k_90 k_1821 (met_X10_clouds l D cy _ am m0 (xs (i + 1).toNatClampNeg) bb m' hFm) (fun _ _ _ => trivial) Xok_T (gM (am := am) (r := 0) (m := m0) (f := m0 0) (by decide) rfl) rfl ⟨rfl, rfl⟩ (n := 1) (by decide +kernel) rfl ⟨Nat.le_of_ble_eq_true rfl, Nat.le_of_ble_eq_true rfl⟩ hcsA (Nat.le_of_ble_eq_true rfl) rfl dL_law_977 (fun H locs hP hD hS => ?_)
  have hP : va_P D vwCl ((cW cy ad en x ++ [(ob, .inl (cy 6, 1, .inr (.inl (if code = 0 then (vp_updL fo (0 : Int32).toNatClampNeg r.toInt64) else fo))))]) ++ (mW cy am m' ++ [(od, .inl (cy 7, 1, .inr (.inr (.inr (.inl fd)))))])) H := pm_P pmM.symm hP
  have hD : va_D A ((cW cy ad en x ++ [(ob, .inl (cy 6, 1, .inr (.inl (if code = 0 then (vp_updL fo (0 : Int32).toNatClampNeg r.toInt64) else fo))))]) ++ (mW cy am m' ++ [(od, .inl (cy 7, 1, .inr (.inr (.inr (.inl fd)))))])) := pm_D pmM.symm hD
  refine lv_istore (lv' := [(7, .int bb), (6, .int code), (0, .ref b), (1, .ref (ad 12 0)), (2, .ref (am 0)), (3, .ref ob), (4, .ref od), (5, .int i)]) hx hb dL_law_980 hl (by decide) rfl (fun ls hl => ?_)
  refine lv_aload_n hx hb dL_law_982 rfl (lv_at hl 4 rfl) ?_
  have hP : va_P D vwCl ((mW cy am m') ++ ((cW cy ad en x ++ [((ob, .inl (cy 6, 1, .inr (.inl (if code = 0 then (vp_updL fo (0 : Int32).toNatClampNeg r.toInt64) else fo)))) : Nat × va_E)]) ++ [((od, .inl (cy 7, 1, .inr (.inr (.inr (.inl fd))))) : Nat × va_E)])) H := pm_P pmM hP
  have hD : va_D A ((mW cy am m') ++ ((cW cy ad en x ++ [((ob, .inl (cy 6, 1, .inr (.inl (if code = 0 then (vp_updL fo (0 : Int32).toNatClampNeg r.toInt64) else fo)))) : Nat × va_E)]) ++ [((od, .inl (cy 7, 1, .inr (.inr (.inr (.inl fd))))) : Nat × va_E)])) := pm_D pmM hD
  refine fV (w1 := (mW cy am m')) (w2 := ((cW cy ad en x ++ [((ob, .inl (cy 6, 1, .inr (.inl (if code = 0 then (vp_updL fo (0 : Int32).toNatClampNeg r.toInt64) else fo)))) : Nat × va_E)]) ++ [((od, .inl (cy 7, 1, .inr (.inr (.inr (.inl fd))))) : Nat × va_E)])) (As := []) (rest := []) hx hb hml hown hw hK8 hN hA hl.1 hP hD hS k_1625 k_1626 k_1627 k_90 k_1628 (met_X10_thrown l D cy _ am m' code hthr) (fun _ _ _ => trivial) Xok_T (gM (am := am) (r := 0) (m := m') (f := m' 0) (by decide) rfl) rfl ⟨rfl, rfl⟩ (n := 0) (by decide +kernel) rfl ⟨Nat.le_of_ble_eq_true rfl, Nat.le_of_ble_eq_true rfl⟩ hcsA (Nat.le_of_ble_eq_true rfl) rfl dL_law_983 (fun H locs hP hD hS => ?_)
  have hP : va_P D vwCl ((cW cy ad en x ++ [(ob, .inl (cy 6, 1, .inr (.inl (if code = 0 then (vp_updL fo (0 : Int32).toNatClampNeg r.toInt64) else fo))))]) ++ (mW cy am m' ++ [(od, .inl (cy 7, 1, .inr (.inr (.inr (.inl fd)))))])) H := pm_P pmM.symm hP
  have hD : va_D A ((cW cy ad en x ++ [(ob, .inl (cy 6, 1, .inr (.inl (if code = 0 then (vp_updL fo (0 : Int32).toNatClampNeg r.toInt64) else fo))))]) ++ (mW cy am m' ++ [(od, .inl (cy 7, 1, .inr (.inr (.inr (.inl fd)))))])) := pm_D pmM.symm hD
  refine lv_iload hx hb dL_law_986 (lv_at hl 1 rfl) ?_
  refine lv_icmp_eq (tgt := 993) hx hb dL_law_988 (by decide) (fun _ => ?_) (fun h => absurd rfl h)
  refine lv_iload hx hb dL_law_993 (lv_at hl 1 rfl) ?_
  refine lv_if_ne (tgt := 1010) hx hb dL_law_995 (by decide) (fun hk => ?_) (fun hk => ?_)
  · refine lv_goto (tgt := 2250) hx hb dL_law_1010 (by decide) ?_
    exact kk _ _ _ _ H locs ls hInv (cvP hP rfl) (cvD hD rfl) hS (lv_sub hl [2, 3, 4, 5, 6, 7] rfl)
  · have hk0 : code = 0 := hk
    have heq := heq hk0
    refine lv_aload_n hx hb dL_law_998 rfl (lv_at hl 5 rfl) ?_
    refine lv_iconst (v := 0) hx hb dL_law_999 (by decide) ?_
    refine va_lald hx hb hK8 hP _ 6 (gA gL) rfl (vp_in_iff.mpr (by decide)) dL_law_1000 ?_
    refine lv_iload hx hb dL_law_1001 (lv_at hl 0 rfl) ?_
    refine lv_i2l hx hb dL_law_1003 rfl ?_
    refine W.lcmp hx hb dL_law_1004 ?_
    refine lv_if_eq (tgt := 1010) hx hb dL_law_1005 (by decide) (fun _ => ?_) (fun h => absurd ?_ h)
    · refine lv_goto (tgt := 2250) hx hb dL_law_1010 (by decide) ?_
      exact kk _ _ _ _ H locs ls hInv (cvP hP rfl) (cvD hD rfl) hS (lv_sub hl [2, 3, 4, 5, 6, 7] rfl)
    · rw [lg_cmp_eq, heq, if_pos hk0]; rfl
def OK_cloudsAgain (Inv : Mem → (Nat → Nat → Int32) → Prop) (x : Mem) (m : Nat → Nat → Int32) (p1 : Int32) : Prop := ∃ (code : Int32) (r : Int32) (bb : Int32) (m' : Nat → Nat → Int32), (code = 0 ∨ code = 1) ∧ D_X9_cloudsAgain x p1 = some (code, r) ∧ D_X10_cloudsAgain m p1 = some (bb, m') ∧ D_X10_thrown m' = code ∧ (code = 0 → r = bb) ∧ Inv x m'
set_option maxHeartbeats 4000000 in
theorem lw_cloudsAgain {Inv : Mem → (Nat → Nat → Int32) → Prop} {p : Program} {l : Launch} (hst0 : l.stackTraces = false) {e : Env} {s : State} {m : MethodId} {below : List Frame} {meth : Method} {c : Code} {b L : Nat} {xs : Nat → Int32} {A : Nat → Prop} {D : va_G} {cy : Nat → ClassId} {en g : Nat → Nat} {Q : State → Prop} (hC : LC p s m c b L xs A D cy en g) {ad : Nat → Nat → Nat} {am : Nat → Nat} {ob od : Nat} {x : Mem} {m0 : Nat → Nat → Int32} {fo : Nat → Int64} {fd : Nat → UInt64} {i : Int32} {H : Heap} {locs : List Loc} {ls : Array Slot} {cells slots : Nat} (h1 : vp_in (i + 1) L) (h2 : vp_in (i + 2) L) (h3 : vp_in (i + 3) L) (hcs : cells + 2 ≤ room_1.cells ∧ slots + 12 ≤ room_1.slots) (hop : OK_cloudsAgain Inv x m0 (xs (i + 1).toNatClampNeg)) (hP : va_P D vwCl ((cW cy ad en x ++ [(ob, .inl (cy 6, 1, .inr (.inl fo)))]) ++ (mW cy am m0 ++ [(od, .inl (cy 7, 1, .inr (.inr (.inr (.inl fd)))))])) H) (hD : va_D A ((cW cy ad en x ++ [(ob, .inl (cy 6, 1, .inr (.inl fo)))]) ++ (mW cy am m0 ++ [(od, .inl (cy 7, 1, .inr (.inr (.inr (.inl fd)))))]))) (hS : va_S A s.heap H locs) (hl : lv_has ls 9 [(0, .ref b), (1, .ref (ad 12 0)), (2, .ref (am 0)), (3, .ref ob), (4, .ref od), (5, .int i)]) (kk : ∀ (x' : Mem) (m' : Nat → Nat → Int32) (fo' : Nat → Int64) (fd' : Nat → UInt64) (H : Heap) (locs : List Loc) (ls : Array Slot), Inv x' m' → va_P D vwCl ((cW cy ad en x' ++ [(ob, .inl (cy 6, 1, .inr (.inl fo')))]) ++ (mW cy am m' ++ [(od, .inl (cy 7, 1, .inr (.inr (.inr (.inl fd')))))])) H → va_D A ((cW cy ad en x' ++ [(ob, .inl (cy 6, 1, .inr (.inl fo')))]) ++ (mW cy am m' ++ [(od, .inl (cy 7, 1, .inr (.inr (.inr (.inl fd')))))])) → va_S A s.heap H locs → lv_has ls 9 [(0, .ref b), (1, .ref (ad 12 0)), (2, .ref (am 0)), (3, .ref ob), (4, .ref od), (5, .int i)] → W p l e room_1 s m #[Value.ref b] below meth c H locs (cells + 2) (slots + 12) Q (F0 m 2250 ls [])) : W p l e room_1 s m #[Value.ref b] below meth c H locs cells slots Q (F0 m 1013 ls []) := by
  obtain ⟨hx, hb, hml, hown, hw, hK8, hN, hST, hX, hbl, hbA, hA⟩ := hC
  have hK := hKL hK8
  have hcs0 : cells ≤ room_1.cells ∧ slots ≤ room_1.slots := ⟨Nat.le_trans (Nat.le_add_right _ 2) hcs.1, Nat.le_trans (Nat.le_add_right _ 12) hcs.2⟩
  have hcsA : cells + 2 ≤ room_1.cells ∧ slots + 12 ≤ room_1.slots := hcs
  obtain ⟨code, r, bb, m', hcd, hF, hFm, hthr, heq, hInv⟩ := hop
  refine lv_aload_n hx hb dL_law_1013 rfl (lv_at hl 1 rfl) ?_
  refine lv_aload_n hx hb dL_law_1014 rfl (lv_at hl 0 rfl) ?_
  refine lv_iload hx hb dL_law_1015 (lv_at hl 5 rfl) ?_
  refine lv_iconst (v := 1) hx hb dL_law_1017 (by decide) ?_
  refine lv_iadd hx hb dL_law_1018 ?_
  refine va_sld hx hb hX hbl hbA hS h1 dL_law_1019 ?_
  refine lv_aload_n hx hb dL_law_1020 rfl (lv_at hl 3 rfl) ?_
  refine fW (w1 := (cW cy ad en x ++ [((ob, .inl (cy 6, 1, .inr (.inl fo))) : Nat × va_E)])) (w2 := (mW cy am m0 ++ [((od, .inl (cy 7, 1, .inr (.inr (.inr (.inl fd))))) : Nat × va_E)])) (As := [.ref (ad 12 0), .int (xs (i + 1).toNatClampNeg), .ref ob]) (rest := []) hx hb hml hown hw hK8 hN hA hl.1 hP hD hS hST k_891 k_892 k_75 k_893 (met_L_cloudsAgain l hst0 D cy _ ad en g x (xs (i + 1).toNatClampNeg) ob fo code r hcd hF) ⟨rfl, rfl⟩ (n := 3) (by decide +kernel) rfl ⟨Nat.le_of_ble_eq_true rfl, Nat.le_of_ble_eq_true rfl⟩ hcs (Nat.le_of_ble_eq_true rfl) rfl dL_law_1021 (fun H locs hP hD hS => ?_)
  refine lv_istore (lv' := [(6, .int code), (0, .ref b), (1, .ref (ad 12 0)), (2, .ref (am 0)), (3, .ref ob), (4, .ref od), (5, .int i)]) hx hb dL_law_1024 hl (by decide) rfl (fun ls hl => ?_)
  refine lv_aload_n hx hb dL_law_1026 rfl (lv_at hl 3 rfl) ?_
  refine lv_aload_n hx hb dL_law_1027 rfl (lv_at hl 1 rfl) ?_
  refine lv_iload hx hb dL_law_1028 (lv_at hl 6 rfl) ?_
  refine lv_iconst (v := 1) hx hb dL_law_1030 (by decide) ?_
  refine lv_iadd hx hb dL_law_1031 ?_
  refine va_sld hx hb hX hbl hbA hS h1 dL_law_1032 ?_
  have hP : va_P D vwCl ((mW cy am m0) ++ ((cW cy ad en x ++ [((ob, .inl (cy 6, 1, .inr (.inl (if code = 0 then (vp_updL fo (0 : Int32).toNatClampNeg r.toInt64) else fo)))) : Nat × va_E)]) ++ [((od, .inl (cy 7, 1, .inr (.inr (.inr (.inl fd))))) : Nat × va_E)])) H := pm_P pmM hP
  have hD : va_D A ((mW cy am m0) ++ ((cW cy ad en x ++ [((ob, .inl (cy 6, 1, .inr (.inl (if code = 0 then (vp_updL fo (0 : Int32).toNatClampNeg r.toInt64) else fo)))) : Nat × va_E)]) ++ [((od, .inl (cy 7, 1, .inr (.inr (.inr (.inl fd))))) : Nat × va_E)])) := pm_D pmM hD
  refine fV (w1 := (mW cy am m0)) (w2 := ((cW cy ad en x ++ [((ob, .inl (cy 6, 1, .inr (.inl (if code = 0 then (vp_updL fo (0 : Int32).toNatClampNeg r.toInt64) else fo)))) : Nat × va_E)]) ++ [((od, .inl (cy 7, 1, .inr (.inr (.inr (.inl fd))))) : Nat × va_E)])) (As := [.int (xs (i + 1).toNatClampNeg)]) (rest := []) hx hb hml hown hw hK8 hN hA hl.1 hP hD hS k_1822 k_1823 k_1824 k_90 k_1825 (met_X10_cloudsAgain l D cy _ am m0 (xs (i + 1).toNatClampNeg) bb m' hFm) (fun _ _ _ => trivial) Xok_T (gM (am := am) (r := 0) (m := m0) (f := m0 0) (by decide) rfl) rfl ⟨rfl, rfl⟩ (n := 1) (by decide +kernel) rfl ⟨Nat.le_of_ble_eq_true rfl, Nat.le_of_ble_eq_true rfl⟩ hcsA (Nat.le_of_ble_eq_true rfl) rfl dL_law_1033 (fun H locs hP hD hS => ?_)
  have hP : va_P D vwCl ((cW cy ad en x ++ [(ob, .inl (cy 6, 1, .inr (.inl (if code = 0 then (vp_updL fo (0 : Int32).toNatClampNeg r.toInt64) else fo))))]) ++ (mW cy am m' ++ [(od, .inl (cy 7, 1, .inr (.inr (.inr (.inl fd)))))])) H := pm_P pmM.symm hP
  have hD : va_D A ((cW cy ad en x ++ [(ob, .inl (cy 6, 1, .inr (.inl (if code = 0 then (vp_updL fo (0 : Int32).toNatClampNeg r.toInt64) else fo))))]) ++ (mW cy am m' ++ [(od, .inl (cy 7, 1, .inr (.inr (.inr (.inl fd)))))])) := pm_D pmM.symm hD
  refine lv_istore (lv' := [(7, .int bb), (6, .int code), (0, .ref b), (1, .ref (ad 12 0)), (2, .ref (am 0)), (3, .ref ob), (4, .ref od), (5, .int i)]) hx hb dL_law_1036 hl (by decide) rfl (fun ls hl => ?_)
  refine lv_aload_n hx hb dL_law_1038 rfl (lv_at hl 4 rfl) ?_
  have hP : va_P D vwCl ((mW cy am m') ++ ((cW cy ad en x ++ [((ob, .inl (cy 6, 1, .inr (.inl (if code = 0 then (vp_updL fo (0 : Int32).toNatClampNeg r.toInt64) else fo)))) : Nat × va_E)]) ++ [((od, .inl (cy 7, 1, .inr (.inr (.inr (.inl fd))))) : Nat × va_E)])) H := pm_P pmM hP
  have hD : va_D A ((mW cy am m') ++ ((cW cy ad en x ++ [((ob, .inl (cy 6, 1, .inr (.inl (if code = 0 then (vp_updL fo (0 : Int32).toNatClampNeg r.toInt64) else fo)))) : Nat × va_E)]) ++ [((od, .inl (cy 7, 1, .inr (.inr (.inr (.inl fd))))) : Nat × va_E)])) := pm_D pmM hD
  refine fV (w1 := (mW cy am m')) (w2 := ((cW cy ad en x ++ [((ob, .inl (cy 6, 1, .inr (.inl (if code = 0 then (vp_updL fo (0 : Int32).toNatClampNeg r.toInt64) else fo)))) : Nat × va_E)]) ++ [((od, .inl (cy 7, 1, .inr (.inr (.inr (.inl fd))))) : Nat × va_E)])) (As := []) (rest := []) hx hb hml hown hw hK8 hN hA hl.1 hP hD hS k_1625 k_1626 k_1627 k_90 k_1628 (met_X10_thrown l D cy _ am m' code hthr) (fun _ _ _ => trivial) Xok_T (gM (am := am) (r := 0) (m := m') (f := m' 0) (by decide) rfl) rfl ⟨rfl, rfl⟩ (n := 0) (by decide +kernel) rfl ⟨Nat.le_of_ble_eq_true rfl, Nat.le_of_ble_eq_true rfl⟩ hcsA (Nat.le_of_ble_eq_true rfl) rfl dL_law_1039 (fun H locs hP hD hS => ?_)
  have hP : va_P D vwCl ((cW cy ad en x ++ [(ob, .inl (cy 6, 1, .inr (.inl (if code = 0 then (vp_updL fo (0 : Int32).toNatClampNeg r.toInt64) else fo))))]) ++ (mW cy am m' ++ [(od, .inl (cy 7, 1, .inr (.inr (.inr (.inl fd)))))])) H := pm_P pmM.symm hP
  have hD : va_D A ((cW cy ad en x ++ [(ob, .inl (cy 6, 1, .inr (.inl (if code = 0 then (vp_updL fo (0 : Int32).toNatClampNeg r.toInt64) else fo))))]) ++ (mW cy am m' ++ [(od, .inl (cy 7, 1, .inr (.inr (.inr (.inl fd)))))])) := pm_D pmM.symm hD
  refine lv_iload hx hb dL_law_1042 (lv_at hl 1 rfl) ?_
  refine lv_icmp_eq (tgt := 1049) hx hb dL_law_1044 (by decide) (fun _ => ?_) (fun h => absurd rfl h)
  refine lv_iload hx hb dL_law_1049 (lv_at hl 1 rfl) ?_
  refine lv_if_ne (tgt := 1066) hx hb dL_law_1051 (by decide) (fun hk => ?_) (fun hk => ?_)
  · refine lv_goto (tgt := 2250) hx hb dL_law_1066 (by decide) ?_
    exact kk _ _ _ _ H locs ls hInv (cvP hP rfl) (cvD hD rfl) hS (lv_sub hl [2, 3, 4, 5, 6, 7] rfl)
  · have hk0 : code = 0 := hk
    have heq := heq hk0
    refine lv_aload_n hx hb dL_law_1054 rfl (lv_at hl 5 rfl) ?_
    refine lv_iconst (v := 0) hx hb dL_law_1055 (by decide) ?_
    refine va_lald hx hb hK8 hP _ 6 (gA gL) rfl (vp_in_iff.mpr (by decide)) dL_law_1056 ?_
    refine lv_iload hx hb dL_law_1057 (lv_at hl 0 rfl) ?_
    refine lv_i2l hx hb dL_law_1059 rfl ?_
    refine W.lcmp hx hb dL_law_1060 ?_
    refine lv_if_eq (tgt := 1066) hx hb dL_law_1061 (by decide) (fun _ => ?_) (fun h => absurd ?_ h)
    · refine lv_goto (tgt := 2250) hx hb dL_law_1066 (by decide) ?_
      exact kk _ _ _ _ H locs ls hInv (cvP hP rfl) (cvD hD rfl) hS (lv_sub hl [2, 3, 4, 5, 6, 7] rfl)
    · rw [lg_cmp_eq, heq, if_pos hk0]; rfl
def OK_windTo (Inv : Mem → (Nat → Nat → Int32) → Prop) (x : Mem) (m : Nat → Nat → Int32) (p1 : Int32) (p2 : Int32) : Prop := ∃ (code : Int32) (r : Int32) (bb : Int32) (m' : Nat → Nat → Int32), (code = 0 ∨ code = 1) ∧ D_X9_windTo x p1 p2 = some (code, r) ∧ D_X10_windTo m p1 p2 = some (bb, m') ∧ D_X10_thrown m' = code ∧ (code = 0 → r = bb) ∧ Inv x m'
set_option maxHeartbeats 4000000 in
theorem lw_windTo {Inv : Mem → (Nat → Nat → Int32) → Prop} {p : Program} {l : Launch} (hst0 : l.stackTraces = false) {e : Env} {s : State} {m : MethodId} {below : List Frame} {meth : Method} {c : Code} {b L : Nat} {xs : Nat → Int32} {A : Nat → Prop} {D : va_G} {cy : Nat → ClassId} {en g : Nat → Nat} {Q : State → Prop} (hC : LC p s m c b L xs A D cy en g) {ad : Nat → Nat → Nat} {am : Nat → Nat} {ob od : Nat} {x : Mem} {m0 : Nat → Nat → Int32} {fo : Nat → Int64} {fd : Nat → UInt64} {i : Int32} {H : Heap} {locs : List Loc} {ls : Array Slot} {cells slots : Nat} (h1 : vp_in (i + 1) L) (h2 : vp_in (i + 2) L) (h3 : vp_in (i + 3) L) (hcs : cells + 2 ≤ room_1.cells ∧ slots + 12 ≤ room_1.slots) (hop : OK_windTo Inv x m0 (xs (i + 1).toNatClampNeg) (xs (i + 2).toNatClampNeg)) (hP : va_P D vwCl ((cW cy ad en x ++ [(ob, .inl (cy 6, 1, .inr (.inl fo)))]) ++ (mW cy am m0 ++ [(od, .inl (cy 7, 1, .inr (.inr (.inr (.inl fd)))))])) H) (hD : va_D A ((cW cy ad en x ++ [(ob, .inl (cy 6, 1, .inr (.inl fo)))]) ++ (mW cy am m0 ++ [(od, .inl (cy 7, 1, .inr (.inr (.inr (.inl fd)))))]))) (hS : va_S A s.heap H locs) (hl : lv_has ls 9 [(0, .ref b), (1, .ref (ad 12 0)), (2, .ref (am 0)), (3, .ref ob), (4, .ref od), (5, .int i)]) (kk : ∀ (x' : Mem) (m' : Nat → Nat → Int32) (fo' : Nat → Int64) (fd' : Nat → UInt64) (H : Heap) (locs : List Loc) (ls : Array Slot), Inv x' m' → va_P D vwCl ((cW cy ad en x' ++ [(ob, .inl (cy 6, 1, .inr (.inl fo')))]) ++ (mW cy am m' ++ [(od, .inl (cy 7, 1, .inr (.inr (.inr (.inl fd')))))])) H → va_D A ((cW cy ad en x' ++ [(ob, .inl (cy 6, 1, .inr (.inl fo')))]) ++ (mW cy am m' ++ [(od, .inl (cy 7, 1, .inr (.inr (.inr (.inl fd')))))])) → va_S A s.heap H locs → lv_has ls 9 [(0, .ref b), (1, .ref (ad 12 0)), (2, .ref (am 0)), (3, .ref ob), (4, .ref od), (5, .int i)] → W p l e room_1 s m #[Value.ref b] below meth c H locs (cells + 2) (slots + 12) Q (F0 m 2250 ls [])) : W p l e room_1 s m #[Value.ref b] below meth c H locs cells slots Q (F0 m 1069 ls []) := by
  obtain ⟨hx, hb, hml, hown, hw, hK8, hN, hST, hX, hbl, hbA, hA⟩ := hC
  have hK := hKL hK8
  have hcs0 : cells ≤ room_1.cells ∧ slots ≤ room_1.slots := ⟨Nat.le_trans (Nat.le_add_right _ 2) hcs.1, Nat.le_trans (Nat.le_add_right _ 12) hcs.2⟩
  have hcsA : cells + 2 ≤ room_1.cells ∧ slots + 12 ≤ room_1.slots := hcs
  obtain ⟨code, r, bb, m', hcd, hF, hFm, hthr, heq, hInv⟩ := hop
  refine lv_aload_n hx hb dL_law_1069 rfl (lv_at hl 1 rfl) ?_
  refine lv_aload_n hx hb dL_law_1070 rfl (lv_at hl 0 rfl) ?_
  refine lv_iload hx hb dL_law_1071 (lv_at hl 5 rfl) ?_
  refine lv_iconst (v := 1) hx hb dL_law_1073 (by decide) ?_
  refine lv_iadd hx hb dL_law_1074 ?_
  refine va_sld hx hb hX hbl hbA hS h1 dL_law_1075 ?_
  refine lv_aload_n hx hb dL_law_1076 rfl (lv_at hl 0 rfl) ?_
  refine lv_iload hx hb dL_law_1077 (lv_at hl 5 rfl) ?_
  refine lv_iconst (v := 2) hx hb dL_law_1079 (by decide) ?_
  refine lv_iadd hx hb dL_law_1080 ?_
  refine va_sld hx hb hX hbl hbA hS h2 dL_law_1081 ?_
  refine lv_aload_n hx hb dL_law_1082 rfl (lv_at hl 3 rfl) ?_
  refine fW (w1 := (cW cy ad en x ++ [((ob, .inl (cy 6, 1, .inr (.inl fo))) : Nat × va_E)])) (w2 := (mW cy am m0 ++ [((od, .inl (cy 7, 1, .inr (.inr (.inr (.inl fd))))) : Nat × va_E)])) (As := [.ref (ad 12 0), .int (xs (i + 1).toNatClampNeg), .int (xs (i + 2).toNatClampNeg), .ref ob]) (rest := []) hx hb hml hown hw hK8 hN hA hl.1 hP hD hS hST k_899 k_900 k_75 k_901 (met_L_windTo l hst0 D cy _ ad en g x (xs (i + 1).toNatClampNeg) (xs (i + 2).toNatClampNeg) ob fo code r hcd hF) ⟨rfl, rfl⟩ (n := 4) (by decide +kernel) rfl ⟨Nat.le_of_ble_eq_true rfl, Nat.le_of_ble_eq_true rfl⟩ hcs (Nat.le_of_ble_eq_true rfl) rfl dL_law_1083 (fun H locs hP hD hS => ?_)
  refine lv_istore (lv' := [(6, .int code), (0, .ref b), (1, .ref (ad 12 0)), (2, .ref (am 0)), (3, .ref ob), (4, .ref od), (5, .int i)]) hx hb dL_law_1086 hl (by decide) rfl (fun ls hl => ?_)
  refine lv_aload_n hx hb dL_law_1088 rfl (lv_at hl 3 rfl) ?_
  refine lv_aload_n hx hb dL_law_1089 rfl (lv_at hl 1 rfl) ?_
  refine lv_iload hx hb dL_law_1090 (lv_at hl 6 rfl) ?_
  refine lv_iconst (v := 1) hx hb dL_law_1092 (by decide) ?_
  refine lv_iadd hx hb dL_law_1093 ?_
  refine va_sld hx hb hX hbl hbA hS h1 dL_law_1094 ?_
  refine lv_aload_n hx hb dL_law_1095 rfl (lv_at hl 1 rfl) ?_
  refine lv_iload hx hb dL_law_1096 (lv_at hl 6 rfl) ?_
  refine lv_iconst (v := 2) hx hb dL_law_1098 (by decide) ?_
  refine lv_iadd hx hb dL_law_1099 ?_
  refine va_sld hx hb hX hbl hbA hS h2 dL_law_1100 ?_
  have hP : va_P D vwCl ((mW cy am m0) ++ ((cW cy ad en x ++ [((ob, .inl (cy 6, 1, .inr (.inl (if code = 0 then (vp_updL fo (0 : Int32).toNatClampNeg r.toInt64) else fo)))) : Nat × va_E)]) ++ [((od, .inl (cy 7, 1, .inr (.inr (.inr (.inl fd))))) : Nat × va_E)])) H := pm_P pmM hP
  have hD : va_D A ((mW cy am m0) ++ ((cW cy ad en x ++ [((ob, .inl (cy 6, 1, .inr (.inl (if code = 0 then (vp_updL fo (0 : Int32).toNatClampNeg r.toInt64) else fo)))) : Nat × va_E)]) ++ [((od, .inl (cy 7, 1, .inr (.inr (.inr (.inl fd))))) : Nat × va_E)])) := pm_D pmM hD
  refine fV (w1 := (mW cy am m0)) (w2 := ((cW cy ad en x ++ [((ob, .inl (cy 6, 1, .inr (.inl (if code = 0 then (vp_updL fo (0 : Int32).toNatClampNeg r.toInt64) else fo)))) : Nat × va_E)]) ++ [((od, .inl (cy 7, 1, .inr (.inr (.inr (.inl fd))))) : Nat × va_E)])) (As := [.int (xs (i + 1).toNatClampNeg), .int (xs (i + 2).toNatClampNeg)]) (rest := []) hx hb hml hown hw hK8 hN hA hl.1 hP hD hS k_1827 k_1828 k_1829 k_90 k_1830 (met_X10_windTo l D cy _ am m0 (xs (i + 1).toNatClampNeg) (xs (i + 2).toNatClampNeg) bb m' hFm) (fun _ _ _ => trivial) Xok_T (gM (am := am) (r := 0) (m := m0) (f := m0 0) (by decide) rfl) rfl ⟨rfl, rfl⟩ (n := 2) (by decide +kernel) rfl ⟨Nat.le_of_ble_eq_true rfl, Nat.le_of_ble_eq_true rfl⟩ hcsA (Nat.le_of_ble_eq_true rfl) rfl dL_law_1101 (fun H locs hP hD hS => ?_)
  have hP : va_P D vwCl ((cW cy ad en x ++ [(ob, .inl (cy 6, 1, .inr (.inl (if code = 0 then (vp_updL fo (0 : Int32).toNatClampNeg r.toInt64) else fo))))]) ++ (mW cy am m' ++ [(od, .inl (cy 7, 1, .inr (.inr (.inr (.inl fd)))))])) H := pm_P pmM.symm hP
  have hD : va_D A ((cW cy ad en x ++ [(ob, .inl (cy 6, 1, .inr (.inl (if code = 0 then (vp_updL fo (0 : Int32).toNatClampNeg r.toInt64) else fo))))]) ++ (mW cy am m' ++ [(od, .inl (cy 7, 1, .inr (.inr (.inr (.inl fd)))))])) := pm_D pmM.symm hD
  refine lv_istore (lv' := [(7, .int bb), (6, .int code), (0, .ref b), (1, .ref (ad 12 0)), (2, .ref (am 0)), (3, .ref ob), (4, .ref od), (5, .int i)]) hx hb dL_law_1104 hl (by decide) rfl (fun ls hl => ?_)
  refine lv_aload_n hx hb dL_law_1106 rfl (lv_at hl 4 rfl) ?_
  have hP : va_P D vwCl ((mW cy am m') ++ ((cW cy ad en x ++ [((ob, .inl (cy 6, 1, .inr (.inl (if code = 0 then (vp_updL fo (0 : Int32).toNatClampNeg r.toInt64) else fo)))) : Nat × va_E)]) ++ [((od, .inl (cy 7, 1, .inr (.inr (.inr (.inl fd))))) : Nat × va_E)])) H := pm_P pmM hP
  have hD : va_D A ((mW cy am m') ++ ((cW cy ad en x ++ [((ob, .inl (cy 6, 1, .inr (.inl (if code = 0 then (vp_updL fo (0 : Int32).toNatClampNeg r.toInt64) else fo)))) : Nat × va_E)]) ++ [((od, .inl (cy 7, 1, .inr (.inr (.inr (.inl fd))))) : Nat × va_E)])) := pm_D pmM hD
  refine fV (w1 := (mW cy am m')) (w2 := ((cW cy ad en x ++ [((ob, .inl (cy 6, 1, .inr (.inl (if code = 0 then (vp_updL fo (0 : Int32).toNatClampNeg r.toInt64) else fo)))) : Nat × va_E)]) ++ [((od, .inl (cy 7, 1, .inr (.inr (.inr (.inl fd))))) : Nat × va_E)])) (As := []) (rest := []) hx hb hml hown hw hK8 hN hA hl.1 hP hD hS k_1625 k_1626 k_1627 k_90 k_1628 (met_X10_thrown l D cy _ am m' code hthr) (fun _ _ _ => trivial) Xok_T (gM (am := am) (r := 0) (m := m') (f := m' 0) (by decide) rfl) rfl ⟨rfl, rfl⟩ (n := 0) (by decide +kernel) rfl ⟨Nat.le_of_ble_eq_true rfl, Nat.le_of_ble_eq_true rfl⟩ hcsA (Nat.le_of_ble_eq_true rfl) rfl dL_law_1107 (fun H locs hP hD hS => ?_)
  have hP : va_P D vwCl ((cW cy ad en x ++ [(ob, .inl (cy 6, 1, .inr (.inl (if code = 0 then (vp_updL fo (0 : Int32).toNatClampNeg r.toInt64) else fo))))]) ++ (mW cy am m' ++ [(od, .inl (cy 7, 1, .inr (.inr (.inr (.inl fd)))))])) H := pm_P pmM.symm hP
  have hD : va_D A ((cW cy ad en x ++ [(ob, .inl (cy 6, 1, .inr (.inl (if code = 0 then (vp_updL fo (0 : Int32).toNatClampNeg r.toInt64) else fo))))]) ++ (mW cy am m' ++ [(od, .inl (cy 7, 1, .inr (.inr (.inr (.inl fd)))))])) := pm_D pmM.symm hD
  refine lv_iload hx hb dL_law_1110 (lv_at hl 1 rfl) ?_
  refine lv_icmp_eq (tgt := 1117) hx hb dL_law_1112 (by decide) (fun _ => ?_) (fun h => absurd rfl h)
  refine lv_iload hx hb dL_law_1117 (lv_at hl 1 rfl) ?_
  refine lv_if_ne (tgt := 1134) hx hb dL_law_1119 (by decide) (fun hk => ?_) (fun hk => ?_)
  · refine lv_goto (tgt := 2250) hx hb dL_law_1134 (by decide) ?_
    exact kk _ _ _ _ H locs ls hInv (cvP hP rfl) (cvD hD rfl) hS (lv_sub hl [2, 3, 4, 5, 6, 7] rfl)
  · have hk0 : code = 0 := hk
    have heq := heq hk0
    refine lv_aload_n hx hb dL_law_1122 rfl (lv_at hl 5 rfl) ?_
    refine lv_iconst (v := 0) hx hb dL_law_1123 (by decide) ?_
    refine va_lald hx hb hK8 hP _ 6 (gA gL) rfl (vp_in_iff.mpr (by decide)) dL_law_1124 ?_
    refine lv_iload hx hb dL_law_1125 (lv_at hl 0 rfl) ?_
    refine lv_i2l hx hb dL_law_1127 rfl ?_
    refine W.lcmp hx hb dL_law_1128 ?_
    refine lv_if_eq (tgt := 1134) hx hb dL_law_1129 (by decide) (fun _ => ?_) (fun h => absurd ?_ h)
    · refine lv_goto (tgt := 2250) hx hb dL_law_1134 (by decide) ?_
      exact kk _ _ _ _ H locs ls hInv (cvP hP rfl) (cvD hD rfl) hS (lv_sub hl [2, 3, 4, 5, 6, 7] rfl)
    · rw [lg_cmp_eq, heq, if_pos hk0]; rfl
def OK_windToAgain (Inv : Mem → (Nat → Nat → Int32) → Prop) (x : Mem) (m : Nat → Nat → Int32) (p1 : Int32) (p2 : Int32) : Prop := ∃ (code : Int32) (r : Int32) (bb : Int32) (m' : Nat → Nat → Int32), (code = 0 ∨ code = 1) ∧ D_X9_windToAgain x p1 p2 = some (code, r) ∧ D_X10_windToAgain m p1 p2 = some (bb, m') ∧ D_X10_thrown m' = code ∧ (code = 0 → r = bb) ∧ Inv x m'
set_option maxHeartbeats 4000000 in
theorem lw_windToAgain {Inv : Mem → (Nat → Nat → Int32) → Prop} {p : Program} {l : Launch} (hst0 : l.stackTraces = false) {e : Env} {s : State} {m : MethodId} {below : List Frame} {meth : Method} {c : Code} {b L : Nat} {xs : Nat → Int32} {A : Nat → Prop} {D : va_G} {cy : Nat → ClassId} {en g : Nat → Nat} {Q : State → Prop} (hC : LC p s m c b L xs A D cy en g) {ad : Nat → Nat → Nat} {am : Nat → Nat} {ob od : Nat} {x : Mem} {m0 : Nat → Nat → Int32} {fo : Nat → Int64} {fd : Nat → UInt64} {i : Int32} {H : Heap} {locs : List Loc} {ls : Array Slot} {cells slots : Nat} (h1 : vp_in (i + 1) L) (h2 : vp_in (i + 2) L) (h3 : vp_in (i + 3) L) (hcs : cells + 2 ≤ room_1.cells ∧ slots + 12 ≤ room_1.slots) (hop : OK_windToAgain Inv x m0 (xs (i + 1).toNatClampNeg) (xs (i + 2).toNatClampNeg)) (hP : va_P D vwCl ((cW cy ad en x ++ [(ob, .inl (cy 6, 1, .inr (.inl fo)))]) ++ (mW cy am m0 ++ [(od, .inl (cy 7, 1, .inr (.inr (.inr (.inl fd)))))])) H) (hD : va_D A ((cW cy ad en x ++ [(ob, .inl (cy 6, 1, .inr (.inl fo)))]) ++ (mW cy am m0 ++ [(od, .inl (cy 7, 1, .inr (.inr (.inr (.inl fd)))))]))) (hS : va_S A s.heap H locs) (hl : lv_has ls 9 [(0, .ref b), (1, .ref (ad 12 0)), (2, .ref (am 0)), (3, .ref ob), (4, .ref od), (5, .int i)]) (kk : ∀ (x' : Mem) (m' : Nat → Nat → Int32) (fo' : Nat → Int64) (fd' : Nat → UInt64) (H : Heap) (locs : List Loc) (ls : Array Slot), Inv x' m' → va_P D vwCl ((cW cy ad en x' ++ [(ob, .inl (cy 6, 1, .inr (.inl fo')))]) ++ (mW cy am m' ++ [(od, .inl (cy 7, 1, .inr (.inr (.inr (.inl fd')))))])) H → va_D A ((cW cy ad en x' ++ [(ob, .inl (cy 6, 1, .inr (.inl fo')))]) ++ (mW cy am m' ++ [(od, .inl (cy 7, 1, .inr (.inr (.inr (.inl fd')))))])) → va_S A s.heap H locs → lv_has ls 9 [(0, .ref b), (1, .ref (ad 12 0)), (2, .ref (am 0)), (3, .ref ob), (4, .ref od), (5, .int i)] → W p l e room_1 s m #[Value.ref b] below meth c H locs (cells + 2) (slots + 12) Q (F0 m 2250 ls [])) : W p l e room_1 s m #[Value.ref b] below meth c H locs cells slots Q (F0 m 1137 ls []) := by
  obtain ⟨hx, hb, hml, hown, hw, hK8, hN, hST, hX, hbl, hbA, hA⟩ := hC
  have hK := hKL hK8
  have hcs0 : cells ≤ room_1.cells ∧ slots ≤ room_1.slots := ⟨Nat.le_trans (Nat.le_add_right _ 2) hcs.1, Nat.le_trans (Nat.le_add_right _ 12) hcs.2⟩
  have hcsA : cells + 2 ≤ room_1.cells ∧ slots + 12 ≤ room_1.slots := hcs
  obtain ⟨code, r, bb, m', hcd, hF, hFm, hthr, heq, hInv⟩ := hop
  refine lv_aload_n hx hb dL_law_1137 rfl (lv_at hl 1 rfl) ?_
  refine lv_aload_n hx hb dL_law_1138 rfl (lv_at hl 0 rfl) ?_
  refine lv_iload hx hb dL_law_1139 (lv_at hl 5 rfl) ?_
  refine lv_iconst (v := 1) hx hb dL_law_1141 (by decide) ?_
  refine lv_iadd hx hb dL_law_1142 ?_
  refine va_sld hx hb hX hbl hbA hS h1 dL_law_1143 ?_
  refine lv_aload_n hx hb dL_law_1144 rfl (lv_at hl 0 rfl) ?_
  refine lv_iload hx hb dL_law_1145 (lv_at hl 5 rfl) ?_
  refine lv_iconst (v := 2) hx hb dL_law_1147 (by decide) ?_
  refine lv_iadd hx hb dL_law_1148 ?_
  refine va_sld hx hb hX hbl hbA hS h2 dL_law_1149 ?_
  refine lv_aload_n hx hb dL_law_1150 rfl (lv_at hl 3 rfl) ?_
  refine fW (w1 := (cW cy ad en x ++ [((ob, .inl (cy 6, 1, .inr (.inl fo))) : Nat × va_E)])) (w2 := (mW cy am m0 ++ [((od, .inl (cy 7, 1, .inr (.inr (.inr (.inl fd))))) : Nat × va_E)])) (As := [.ref (ad 12 0), .int (xs (i + 1).toNatClampNeg), .int (xs (i + 2).toNatClampNeg), .ref ob]) (rest := []) hx hb hml hown hw hK8 hN hA hl.1 hP hD hS hST k_908 k_909 k_75 k_910 (met_L_windToAgain l hst0 D cy _ ad en g x (xs (i + 1).toNatClampNeg) (xs (i + 2).toNatClampNeg) ob fo code r hcd hF) ⟨rfl, rfl⟩ (n := 4) (by decide +kernel) rfl ⟨Nat.le_of_ble_eq_true rfl, Nat.le_of_ble_eq_true rfl⟩ hcs (Nat.le_of_ble_eq_true rfl) rfl dL_law_1151 (fun H locs hP hD hS => ?_)
  refine lv_istore (lv' := [(6, .int code), (0, .ref b), (1, .ref (ad 12 0)), (2, .ref (am 0)), (3, .ref ob), (4, .ref od), (5, .int i)]) hx hb dL_law_1154 hl (by decide) rfl (fun ls hl => ?_)
  refine lv_aload_n hx hb dL_law_1156 rfl (lv_at hl 3 rfl) ?_
  refine lv_aload_n hx hb dL_law_1157 rfl (lv_at hl 1 rfl) ?_
  refine lv_iload hx hb dL_law_1158 (lv_at hl 6 rfl) ?_
  refine lv_iconst (v := 1) hx hb dL_law_1160 (by decide) ?_
  refine lv_iadd hx hb dL_law_1161 ?_
  refine va_sld hx hb hX hbl hbA hS h1 dL_law_1162 ?_
  refine lv_aload_n hx hb dL_law_1163 rfl (lv_at hl 1 rfl) ?_
  refine lv_iload hx hb dL_law_1164 (lv_at hl 6 rfl) ?_
  refine lv_iconst (v := 2) hx hb dL_law_1166 (by decide) ?_
  refine lv_iadd hx hb dL_law_1167 ?_
  refine va_sld hx hb hX hbl hbA hS h2 dL_law_1168 ?_
  have hP : va_P D vwCl ((mW cy am m0) ++ ((cW cy ad en x ++ [((ob, .inl (cy 6, 1, .inr (.inl (if code = 0 then (vp_updL fo (0 : Int32).toNatClampNeg r.toInt64) else fo)))) : Nat × va_E)]) ++ [((od, .inl (cy 7, 1, .inr (.inr (.inr (.inl fd))))) : Nat × va_E)])) H := pm_P pmM hP
  have hD : va_D A ((mW cy am m0) ++ ((cW cy ad en x ++ [((ob, .inl (cy 6, 1, .inr (.inl (if code = 0 then (vp_updL fo (0 : Int32).toNatClampNeg r.toInt64) else fo)))) : Nat × va_E)]) ++ [((od, .inl (cy 7, 1, .inr (.inr (.inr (.inl fd))))) : Nat × va_E)])) := pm_D pmM hD
  refine fV (w1 := (mW cy am m0)) (w2 := ((cW cy ad en x ++ [((ob, .inl (cy 6, 1, .inr (.inl (if code = 0 then (vp_updL fo (0 : Int32).toNatClampNeg r.toInt64) else fo)))) : Nat × va_E)]) ++ [((od, .inl (cy 7, 1, .inr (.inr (.inr (.inl fd))))) : Nat × va_E)])) (As := [.int (xs (i + 1).toNatClampNeg), .int (xs (i + 2).toNatClampNeg)]) (rest := []) hx hb hml hown hw hK8 hN hA hl.1 hP hD hS k_1831 k_1832 k_1833 k_90 k_1834 (met_X10_windToAgain l D cy _ am m0 (xs (i + 1).toNatClampNeg) (xs (i + 2).toNatClampNeg) bb m' hFm) (fun _ _ _ => trivial) Xok_T (gM (am := am) (r := 0) (m := m0) (f := m0 0) (by decide) rfl) rfl ⟨rfl, rfl⟩ (n := 2) (by decide +kernel) rfl ⟨Nat.le_of_ble_eq_true rfl, Nat.le_of_ble_eq_true rfl⟩ hcsA (Nat.le_of_ble_eq_true rfl) rfl dL_law_1169 (fun H locs hP hD hS => ?_)
  have hP : va_P D vwCl ((cW cy ad en x ++ [(ob, .inl (cy 6, 1, .inr (.inl (if code = 0 then (vp_updL fo (0 : Int32).toNatClampNeg r.toInt64) else fo))))]) ++ (mW cy am m' ++ [(od, .inl (cy 7, 1, .inr (.inr (.inr (.inl fd)))))])) H := pm_P pmM.symm hP
  have hD : va_D A ((cW cy ad en x ++ [(ob, .inl (cy 6, 1, .inr (.inl (if code = 0 then (vp_updL fo (0 : Int32).toNatClampNeg r.toInt64) else fo))))]) ++ (mW cy am m' ++ [(od, .inl (cy 7, 1, .inr (.inr (.inr (.inl fd)))))])) := pm_D pmM.symm hD
  refine lv_istore (lv' := [(7, .int bb), (6, .int code), (0, .ref b), (1, .ref (ad 12 0)), (2, .ref (am 0)), (3, .ref ob), (4, .ref od), (5, .int i)]) hx hb dL_law_1172 hl (by decide) rfl (fun ls hl => ?_)
  refine lv_aload_n hx hb dL_law_1174 rfl (lv_at hl 4 rfl) ?_
  have hP : va_P D vwCl ((mW cy am m') ++ ((cW cy ad en x ++ [((ob, .inl (cy 6, 1, .inr (.inl (if code = 0 then (vp_updL fo (0 : Int32).toNatClampNeg r.toInt64) else fo)))) : Nat × va_E)]) ++ [((od, .inl (cy 7, 1, .inr (.inr (.inr (.inl fd))))) : Nat × va_E)])) H := pm_P pmM hP
  have hD : va_D A ((mW cy am m') ++ ((cW cy ad en x ++ [((ob, .inl (cy 6, 1, .inr (.inl (if code = 0 then (vp_updL fo (0 : Int32).toNatClampNeg r.toInt64) else fo)))) : Nat × va_E)]) ++ [((od, .inl (cy 7, 1, .inr (.inr (.inr (.inl fd))))) : Nat × va_E)])) := pm_D pmM hD
  refine fV (w1 := (mW cy am m')) (w2 := ((cW cy ad en x ++ [((ob, .inl (cy 6, 1, .inr (.inl (if code = 0 then (vp_updL fo (0 : Int32).toNatClampNeg r.toInt64) else fo)))) : Nat × va_E)]) ++ [((od, .inl (cy 7, 1, .inr (.inr (.inr (.inl fd))))) : Nat × va_E)])) (As := []) (rest := []) hx hb hml hown hw hK8 hN hA hl.1 hP hD hS k_1625 k_1626 k_1627 k_90 k_1628 (met_X10_thrown l D cy _ am m' code hthr) (fun _ _ _ => trivial) Xok_T (gM (am := am) (r := 0) (m := m') (f := m' 0) (by decide) rfl) rfl ⟨rfl, rfl⟩ (n := 0) (by decide +kernel) rfl ⟨Nat.le_of_ble_eq_true rfl, Nat.le_of_ble_eq_true rfl⟩ hcsA (Nat.le_of_ble_eq_true rfl) rfl dL_law_1175 (fun H locs hP hD hS => ?_)
  have hP : va_P D vwCl ((cW cy ad en x ++ [(ob, .inl (cy 6, 1, .inr (.inl (if code = 0 then (vp_updL fo (0 : Int32).toNatClampNeg r.toInt64) else fo))))]) ++ (mW cy am m' ++ [(od, .inl (cy 7, 1, .inr (.inr (.inr (.inl fd)))))])) H := pm_P pmM.symm hP
  have hD : va_D A ((cW cy ad en x ++ [(ob, .inl (cy 6, 1, .inr (.inl (if code = 0 then (vp_updL fo (0 : Int32).toNatClampNeg r.toInt64) else fo))))]) ++ (mW cy am m' ++ [(od, .inl (cy 7, 1, .inr (.inr (.inr (.inl fd)))))])) := pm_D pmM.symm hD
  refine lv_iload hx hb dL_law_1178 (lv_at hl 1 rfl) ?_
  refine lv_icmp_eq (tgt := 1185) hx hb dL_law_1180 (by decide) (fun _ => ?_) (fun h => absurd rfl h)
  refine lv_iload hx hb dL_law_1185 (lv_at hl 1 rfl) ?_
  refine lv_if_ne (tgt := 1202) hx hb dL_law_1187 (by decide) (fun hk => ?_) (fun hk => ?_)
  · refine lv_goto (tgt := 2250) hx hb dL_law_1202 (by decide) ?_
    exact kk _ _ _ _ H locs ls hInv (cvP hP rfl) (cvD hD rfl) hS (lv_sub hl [2, 3, 4, 5, 6, 7] rfl)
  · have hk0 : code = 0 := hk
    have heq := heq hk0
    refine lv_aload_n hx hb dL_law_1190 rfl (lv_at hl 5 rfl) ?_
    refine lv_iconst (v := 0) hx hb dL_law_1191 (by decide) ?_
    refine va_lald hx hb hK8 hP _ 6 (gA gL) rfl (vp_in_iff.mpr (by decide)) dL_law_1192 ?_
    refine lv_iload hx hb dL_law_1193 (lv_at hl 0 rfl) ?_
    refine lv_i2l hx hb dL_law_1195 rfl ?_
    refine W.lcmp hx hb dL_law_1196 ?_
    refine lv_if_eq (tgt := 1202) hx hb dL_law_1197 (by decide) (fun _ => ?_) (fun h => absurd ?_ h)
    · refine lv_goto (tgt := 2250) hx hb dL_law_1202 (by decide) ?_
      exact kk _ _ _ _ H locs ls hInv (cvP hP rfl) (cvD hD rfl) hS (lv_sub hl [2, 3, 4, 5, 6, 7] rfl)
    · rw [lg_cmp_eq, heq, if_pos hk0]; rfl
def OK_would (Inv : Mem → (Nat → Nat → Int32) → Prop) (x : Mem) (m : Nat → Nat → Int32) (p1 : Int32) (p2 : Int32) : Prop := ∃ (code : Int32) (r : Int32) (x' : Mem) (bb : Int32) (m' : Nat → Nat → Int32), (code = 0 ∨ code = 1 ∨ code = 2) ∧ D_X9_would x p1 p2 = some (code, r, x') ∧ D_X10_would m p1 p2 = some (bb, m') ∧ D_X10_thrown m' = code ∧ (code = 0 → r = bb) ∧ Inv x' m'
set_option maxHeartbeats 4000000 in
theorem lw_would {Inv : Mem → (Nat → Nat → Int32) → Prop} {p : Program} {l : Launch} (hst0 : l.stackTraces = false) {e : Env} {s : State} {m : MethodId} {below : List Frame} {meth : Method} {c : Code} {b L : Nat} {xs : Nat → Int32} {A : Nat → Prop} {D : va_G} {cy : Nat → ClassId} {en g : Nat → Nat} {Q : State → Prop} (hC : LC p s m c b L xs A D cy en g) {ad : Nat → Nat → Nat} {am : Nat → Nat} {ob od : Nat} {x : Mem} {m0 : Nat → Nat → Int32} {fo : Nat → Int64} {fd : Nat → UInt64} {i : Int32} {H : Heap} {locs : List Loc} {ls : Array Slot} {cells slots : Nat} (h1 : vp_in (i + 1) L) (h2 : vp_in (i + 2) L) (h3 : vp_in (i + 3) L) (hcs : cells + 2 ≤ room_1.cells ∧ slots + 12 ≤ room_1.slots) (hop : OK_would Inv x m0 (xs (i + 1).toNatClampNeg) (xs (i + 2).toNatClampNeg)) (hP : va_P D vwCl ((cW cy ad en x ++ [(ob, .inl (cy 6, 1, .inr (.inl fo)))]) ++ (mW cy am m0 ++ [(od, .inl (cy 7, 1, .inr (.inr (.inr (.inl fd)))))])) H) (hD : va_D A ((cW cy ad en x ++ [(ob, .inl (cy 6, 1, .inr (.inl fo)))]) ++ (mW cy am m0 ++ [(od, .inl (cy 7, 1, .inr (.inr (.inr (.inl fd)))))]))) (hS : va_S A s.heap H locs) (hl : lv_has ls 9 [(0, .ref b), (1, .ref (ad 12 0)), (2, .ref (am 0)), (3, .ref ob), (4, .ref od), (5, .int i)]) (kk : ∀ (x' : Mem) (m' : Nat → Nat → Int32) (fo' : Nat → Int64) (fd' : Nat → UInt64) (H : Heap) (locs : List Loc) (ls : Array Slot), Inv x' m' → va_P D vwCl ((cW cy ad en x' ++ [(ob, .inl (cy 6, 1, .inr (.inl fo')))]) ++ (mW cy am m' ++ [(od, .inl (cy 7, 1, .inr (.inr (.inr (.inl fd')))))])) H → va_D A ((cW cy ad en x' ++ [(ob, .inl (cy 6, 1, .inr (.inl fo')))]) ++ (mW cy am m' ++ [(od, .inl (cy 7, 1, .inr (.inr (.inr (.inl fd')))))])) → va_S A s.heap H locs → lv_has ls 9 [(0, .ref b), (1, .ref (ad 12 0)), (2, .ref (am 0)), (3, .ref ob), (4, .ref od), (5, .int i)] → W p l e room_1 s m #[Value.ref b] below meth c H locs (cells + 2) (slots + 12) Q (F0 m 2250 ls [])) : W p l e room_1 s m #[Value.ref b] below meth c H locs cells slots Q (F0 m 1205 ls []) := by
  obtain ⟨hx, hb, hml, hown, hw, hK8, hN, hST, hX, hbl, hbA, hA⟩ := hC
  have hK := hKL hK8
  have hcs0 : cells ≤ room_1.cells ∧ slots ≤ room_1.slots := ⟨Nat.le_trans (Nat.le_add_right _ 2) hcs.1, Nat.le_trans (Nat.le_add_right _ 12) hcs.2⟩
  have hcsA : cells + 2 ≤ room_1.cells ∧ slots + 12 ≤ room_1.slots := hcs
  obtain ⟨code, r, x', bb, m', hcd, hF, hFm, hthr, heq, hInv⟩ := hop
  refine lv_aload_n hx hb dL_law_1205 rfl (lv_at hl 1 rfl) ?_
  refine lv_aload_n hx hb dL_law_1206 rfl (lv_at hl 0 rfl) ?_
  refine lv_iload hx hb dL_law_1207 (lv_at hl 5 rfl) ?_
  refine lv_iconst (v := 1) hx hb dL_law_1209 (by decide) ?_
  refine lv_iadd hx hb dL_law_1210 ?_
  refine va_sld hx hb hX hbl hbA hS h1 dL_law_1211 ?_
  refine lv_aload_n hx hb dL_law_1212 rfl (lv_at hl 0 rfl) ?_
  refine lv_iload hx hb dL_law_1213 (lv_at hl 5 rfl) ?_
  refine lv_iconst (v := 2) hx hb dL_law_1215 (by decide) ?_
  refine lv_iadd hx hb dL_law_1216 ?_
  refine va_sld hx hb hX hbl hbA hS h2 dL_law_1217 ?_
  refine lv_aload_n hx hb dL_law_1218 rfl (lv_at hl 3 rfl) ?_
  refine fW (w1 := (cW cy ad en x ++ [((ob, .inl (cy 6, 1, .inr (.inl fo))) : Nat × va_E)])) (w2 := (mW cy am m0 ++ [((od, .inl (cy 7, 1, .inr (.inr (.inr (.inl fd))))) : Nat × va_E)])) (As := [.ref (ad 12 0), .int (xs (i + 1).toNatClampNeg), .int (xs (i + 2).toNatClampNeg), .ref ob]) (rest := []) hx hb hml hown hw hK8 hN hA hl.1 hP hD hS hST k_916 k_917 k_75 k_918 (met_L_would l hst0 D cy _ ad en g x (xs (i + 1).toNatClampNeg) (xs (i + 2).toNatClampNeg) ob fo code r x' hcd hF) ⟨rfl, rfl⟩ (n := 4) (by decide +kernel) rfl ⟨Nat.le_of_ble_eq_true rfl, Nat.le_of_ble_eq_true rfl⟩ hcs (Nat.le_of_ble_eq_true rfl) rfl dL_law_1219 (fun H locs hP hD hS => ?_)
  refine lv_istore (lv' := [(6, .int code), (0, .ref b), (1, .ref (ad 12 0)), (2, .ref (am 0)), (3, .ref ob), (4, .ref od), (5, .int i)]) hx hb dL_law_1222 hl (by decide) rfl (fun ls hl => ?_)
  refine lv_aload_n hx hb dL_law_1224 rfl (lv_at hl 3 rfl) ?_
  refine lv_aload_n hx hb dL_law_1225 rfl (lv_at hl 1 rfl) ?_
  refine lv_iload hx hb dL_law_1226 (lv_at hl 6 rfl) ?_
  refine lv_iconst (v := 1) hx hb dL_law_1228 (by decide) ?_
  refine lv_iadd hx hb dL_law_1229 ?_
  refine va_sld hx hb hX hbl hbA hS h1 dL_law_1230 ?_
  refine lv_aload_n hx hb dL_law_1231 rfl (lv_at hl 1 rfl) ?_
  refine lv_iload hx hb dL_law_1232 (lv_at hl 6 rfl) ?_
  refine lv_iconst (v := 2) hx hb dL_law_1234 (by decide) ?_
  refine lv_iadd hx hb dL_law_1235 ?_
  refine va_sld hx hb hX hbl hbA hS h2 dL_law_1236 ?_
  have hP : va_P D vwCl ((mW cy am m0) ++ ((cW cy ad en x' ++ [((ob, .inl (cy 6, 1, .inr (.inl (if code = 0 then (vp_updL fo (0 : Int32).toNatClampNeg r.toInt64) else fo)))) : Nat × va_E)]) ++ [((od, .inl (cy 7, 1, .inr (.inr (.inr (.inl fd))))) : Nat × va_E)])) H := pm_P pmM hP
  have hD : va_D A ((mW cy am m0) ++ ((cW cy ad en x' ++ [((ob, .inl (cy 6, 1, .inr (.inl (if code = 0 then (vp_updL fo (0 : Int32).toNatClampNeg r.toInt64) else fo)))) : Nat × va_E)]) ++ [((od, .inl (cy 7, 1, .inr (.inr (.inr (.inl fd))))) : Nat × va_E)])) := pm_D pmM hD
  refine fV (w1 := (mW cy am m0)) (w2 := ((cW cy ad en x' ++ [((ob, .inl (cy 6, 1, .inr (.inl (if code = 0 then (vp_updL fo (0 : Int32).toNatClampNeg r.toInt64) else fo)))) : Nat × va_E)]) ++ [((od, .inl (cy 7, 1, .inr (.inr (.inr (.inl fd))))) : Nat × va_E)])) (As := [.int (xs (i + 1).toNatClampNeg), .int (xs (i + 2).toNatClampNeg)]) (rest := []) hx hb hml hown hw hK8 hN hA hl.1 hP hD hS k_1836 k_1837 k_1838 k_90 k_1839 (met_X10_would l D cy _ am m0 (xs (i + 1).toNatClampNeg) (xs (i + 2).toNatClampNeg) bb m' hFm) (fun _ _ _ => trivial) Xok_T (gM (am := am) (r := 0) (m := m0) (f := m0 0) (by decide) rfl) rfl ⟨rfl, rfl⟩ (n := 2) (by decide +kernel) rfl ⟨Nat.le_of_ble_eq_true rfl, Nat.le_of_ble_eq_true rfl⟩ hcsA (Nat.le_of_ble_eq_true rfl) rfl dL_law_1237 (fun H locs hP hD hS => ?_)
  have hP : va_P D vwCl ((cW cy ad en x' ++ [(ob, .inl (cy 6, 1, .inr (.inl (if code = 0 then (vp_updL fo (0 : Int32).toNatClampNeg r.toInt64) else fo))))]) ++ (mW cy am m' ++ [(od, .inl (cy 7, 1, .inr (.inr (.inr (.inl fd)))))])) H := pm_P pmM.symm hP
  have hD : va_D A ((cW cy ad en x' ++ [(ob, .inl (cy 6, 1, .inr (.inl (if code = 0 then (vp_updL fo (0 : Int32).toNatClampNeg r.toInt64) else fo))))]) ++ (mW cy am m' ++ [(od, .inl (cy 7, 1, .inr (.inr (.inr (.inl fd)))))])) := pm_D pmM.symm hD
  refine lv_istore (lv' := [(7, .int bb), (6, .int code), (0, .ref b), (1, .ref (ad 12 0)), (2, .ref (am 0)), (3, .ref ob), (4, .ref od), (5, .int i)]) hx hb dL_law_1240 hl (by decide) rfl (fun ls hl => ?_)
  refine lv_aload_n hx hb dL_law_1242 rfl (lv_at hl 4 rfl) ?_
  have hP : va_P D vwCl ((mW cy am m') ++ ((cW cy ad en x' ++ [((ob, .inl (cy 6, 1, .inr (.inl (if code = 0 then (vp_updL fo (0 : Int32).toNatClampNeg r.toInt64) else fo)))) : Nat × va_E)]) ++ [((od, .inl (cy 7, 1, .inr (.inr (.inr (.inl fd))))) : Nat × va_E)])) H := pm_P pmM hP
  have hD : va_D A ((mW cy am m') ++ ((cW cy ad en x' ++ [((ob, .inl (cy 6, 1, .inr (.inl (if code = 0 then (vp_updL fo (0 : Int32).toNatClampNeg r.toInt64) else fo)))) : Nat × va_E)]) ++ [((od, .inl (cy 7, 1, .inr (.inr (.inr (.inl fd))))) : Nat × va_E)])) := pm_D pmM hD
  refine fV (w1 := (mW cy am m')) (w2 := ((cW cy ad en x' ++ [((ob, .inl (cy 6, 1, .inr (.inl (if code = 0 then (vp_updL fo (0 : Int32).toNatClampNeg r.toInt64) else fo)))) : Nat × va_E)]) ++ [((od, .inl (cy 7, 1, .inr (.inr (.inr (.inl fd))))) : Nat × va_E)])) (As := []) (rest := []) hx hb hml hown hw hK8 hN hA hl.1 hP hD hS k_1625 k_1626 k_1627 k_90 k_1628 (met_X10_thrown l D cy _ am m' code hthr) (fun _ _ _ => trivial) Xok_T (gM (am := am) (r := 0) (m := m') (f := m' 0) (by decide) rfl) rfl ⟨rfl, rfl⟩ (n := 0) (by decide +kernel) rfl ⟨Nat.le_of_ble_eq_true rfl, Nat.le_of_ble_eq_true rfl⟩ hcsA (Nat.le_of_ble_eq_true rfl) rfl dL_law_1243 (fun H locs hP hD hS => ?_)
  have hP : va_P D vwCl ((cW cy ad en x' ++ [(ob, .inl (cy 6, 1, .inr (.inl (if code = 0 then (vp_updL fo (0 : Int32).toNatClampNeg r.toInt64) else fo))))]) ++ (mW cy am m' ++ [(od, .inl (cy 7, 1, .inr (.inr (.inr (.inl fd)))))])) H := pm_P pmM.symm hP
  have hD : va_D A ((cW cy ad en x' ++ [(ob, .inl (cy 6, 1, .inr (.inl (if code = 0 then (vp_updL fo (0 : Int32).toNatClampNeg r.toInt64) else fo))))]) ++ (mW cy am m' ++ [(od, .inl (cy 7, 1, .inr (.inr (.inr (.inl fd)))))])) := pm_D pmM.symm hD
  refine lv_iload hx hb dL_law_1246 (lv_at hl 1 rfl) ?_
  refine lv_icmp_eq (tgt := 1253) hx hb dL_law_1248 (by decide) (fun _ => ?_) (fun h => absurd rfl h)
  refine lv_iload hx hb dL_law_1253 (lv_at hl 1 rfl) ?_
  refine lv_if_ne (tgt := 1270) hx hb dL_law_1255 (by decide) (fun hk => ?_) (fun hk => ?_)
  · refine lv_goto (tgt := 2250) hx hb dL_law_1270 (by decide) ?_
    exact kk _ _ _ _ H locs ls hInv (cvP hP rfl) (cvD hD rfl) hS (lv_sub hl [2, 3, 4, 5, 6, 7] rfl)
  · have hk0 : code = 0 := hk
    have heq := heq hk0
    refine lv_aload_n hx hb dL_law_1258 rfl (lv_at hl 5 rfl) ?_
    refine lv_iconst (v := 0) hx hb dL_law_1259 (by decide) ?_
    refine va_lald hx hb hK8 hP _ 6 (gA gL) rfl (vp_in_iff.mpr (by decide)) dL_law_1260 ?_
    refine lv_iload hx hb dL_law_1261 (lv_at hl 0 rfl) ?_
    refine lv_i2l hx hb dL_law_1263 rfl ?_
    refine W.lcmp hx hb dL_law_1264 ?_
    refine lv_if_eq (tgt := 1270) hx hb dL_law_1265 (by decide) (fun _ => ?_) (fun h => absurd ?_ h)
    · refine lv_goto (tgt := 2250) hx hb dL_law_1270 (by decide) ?_
      exact kk _ _ _ _ H locs ls hInv (cvP hP rfl) (cvD hD rfl) hS (lv_sub hl [2, 3, 4, 5, 6, 7] rfl)
    · rw [lg_cmp_eq, heq, if_pos hk0]; rfl
def OK_bestWind (Inv : Mem → (Nat → Nat → Int32) → Prop) (x : Mem) (m : Nat → Nat → Int32) (p1 : Int32) : Prop := ∃ (code : Int32) (r : Int32) (x' : Mem) (bb : Int32) (m' : Nat → Nat → Int32), (code = 0 ∨ code = 1) ∧ D_X9_bestWind x p1 = some (code, r, x') ∧ D_X10_bestWind m p1 = some (bb, m') ∧ D_X10_thrown m' = code ∧ (code = 0 → r = bb) ∧ Inv x' m'
set_option maxHeartbeats 4000000 in
theorem lw_bestWind {Inv : Mem → (Nat → Nat → Int32) → Prop} {p : Program} {l : Launch} (hst0 : l.stackTraces = false) {e : Env} {s : State} {m : MethodId} {below : List Frame} {meth : Method} {c : Code} {b L : Nat} {xs : Nat → Int32} {A : Nat → Prop} {D : va_G} {cy : Nat → ClassId} {en g : Nat → Nat} {Q : State → Prop} (hC : LC p s m c b L xs A D cy en g) {ad : Nat → Nat → Nat} {am : Nat → Nat} {ob od : Nat} {x : Mem} {m0 : Nat → Nat → Int32} {fo : Nat → Int64} {fd : Nat → UInt64} {i : Int32} {H : Heap} {locs : List Loc} {ls : Array Slot} {cells slots : Nat} (h1 : vp_in (i + 1) L) (h2 : vp_in (i + 2) L) (h3 : vp_in (i + 3) L) (hcs : cells + 2 ≤ room_1.cells ∧ slots + 12 ≤ room_1.slots) (hop : OK_bestWind Inv x m0 (xs (i + 1).toNatClampNeg)) (hP : va_P D vwCl ((cW cy ad en x ++ [(ob, .inl (cy 6, 1, .inr (.inl fo)))]) ++ (mW cy am m0 ++ [(od, .inl (cy 7, 1, .inr (.inr (.inr (.inl fd)))))])) H) (hD : va_D A ((cW cy ad en x ++ [(ob, .inl (cy 6, 1, .inr (.inl fo)))]) ++ (mW cy am m0 ++ [(od, .inl (cy 7, 1, .inr (.inr (.inr (.inl fd)))))]))) (hS : va_S A s.heap H locs) (hl : lv_has ls 9 [(0, .ref b), (1, .ref (ad 12 0)), (2, .ref (am 0)), (3, .ref ob), (4, .ref od), (5, .int i)]) (kk : ∀ (x' : Mem) (m' : Nat → Nat → Int32) (fo' : Nat → Int64) (fd' : Nat → UInt64) (H : Heap) (locs : List Loc) (ls : Array Slot), Inv x' m' → va_P D vwCl ((cW cy ad en x' ++ [(ob, .inl (cy 6, 1, .inr (.inl fo')))]) ++ (mW cy am m' ++ [(od, .inl (cy 7, 1, .inr (.inr (.inr (.inl fd')))))])) H → va_D A ((cW cy ad en x' ++ [(ob, .inl (cy 6, 1, .inr (.inl fo')))]) ++ (mW cy am m' ++ [(od, .inl (cy 7, 1, .inr (.inr (.inr (.inl fd')))))])) → va_S A s.heap H locs → lv_has ls 9 [(0, .ref b), (1, .ref (ad 12 0)), (2, .ref (am 0)), (3, .ref ob), (4, .ref od), (5, .int i)] → W p l e room_1 s m #[Value.ref b] below meth c H locs (cells + 2) (slots + 12) Q (F0 m 2250 ls [])) : W p l e room_1 s m #[Value.ref b] below meth c H locs cells slots Q (F0 m 1273 ls []) := by
  obtain ⟨hx, hb, hml, hown, hw, hK8, hN, hST, hX, hbl, hbA, hA⟩ := hC
  have hK := hKL hK8
  have hcs0 : cells ≤ room_1.cells ∧ slots ≤ room_1.slots := ⟨Nat.le_trans (Nat.le_add_right _ 2) hcs.1, Nat.le_trans (Nat.le_add_right _ 12) hcs.2⟩
  have hcsA : cells + 2 ≤ room_1.cells ∧ slots + 12 ≤ room_1.slots := hcs
  obtain ⟨code, r, x', bb, m', hcd, hF, hFm, hthr, heq, hInv⟩ := hop
  refine lv_aload_n hx hb dL_law_1273 rfl (lv_at hl 1 rfl) ?_
  refine lv_aload_n hx hb dL_law_1274 rfl (lv_at hl 0 rfl) ?_
  refine lv_iload hx hb dL_law_1275 (lv_at hl 5 rfl) ?_
  refine lv_iconst (v := 1) hx hb dL_law_1277 (by decide) ?_
  refine lv_iadd hx hb dL_law_1278 ?_
  refine va_sld hx hb hX hbl hbA hS h1 dL_law_1279 ?_
  refine lv_aload_n hx hb dL_law_1280 rfl (lv_at hl 3 rfl) ?_
  refine fW (w1 := (cW cy ad en x ++ [((ob, .inl (cy 6, 1, .inr (.inl fo))) : Nat × va_E)])) (w2 := (mW cy am m0 ++ [((od, .inl (cy 7, 1, .inr (.inr (.inr (.inl fd))))) : Nat × va_E)])) (As := [.ref (ad 12 0), .int (xs (i + 1).toNatClampNeg), .ref ob]) (rest := []) hx hb hml hown hw hK8 hN hA hl.1 hP hD hS hST k_929 k_930 k_75 k_931 (met_L_bestWind l hst0 D cy _ ad en g x (xs (i + 1).toNatClampNeg) ob fo code r x' hcd hF) ⟨rfl, rfl⟩ (n := 3) (by decide +kernel) rfl ⟨Nat.le_of_ble_eq_true rfl, Nat.le_of_ble_eq_true rfl⟩ hcs (Nat.le_of_ble_eq_true rfl) rfl dL_law_1281 (fun H locs hP hD hS => ?_)
  refine lv_istore (lv' := [(6, .int code), (0, .ref b), (1, .ref (ad 12 0)), (2, .ref (am 0)), (3, .ref ob), (4, .ref od), (5, .int i)]) hx hb dL_law_1284 hl (by decide) rfl (fun ls hl => ?_)
  refine lv_aload_n hx hb dL_law_1286 rfl (lv_at hl 3 rfl) ?_
  refine lv_aload_n hx hb dL_law_1287 rfl (lv_at hl 1 rfl) ?_
  refine lv_iload hx hb dL_law_1288 (lv_at hl 6 rfl) ?_
  refine lv_iconst (v := 1) hx hb dL_law_1290 (by decide) ?_
  refine lv_iadd hx hb dL_law_1291 ?_
  refine va_sld hx hb hX hbl hbA hS h1 dL_law_1292 ?_
  have hP : va_P D vwCl ((mW cy am m0) ++ ((cW cy ad en x' ++ [((ob, .inl (cy 6, 1, .inr (.inl (if code = 0 then (vp_updL fo (0 : Int32).toNatClampNeg r.toInt64) else fo)))) : Nat × va_E)]) ++ [((od, .inl (cy 7, 1, .inr (.inr (.inr (.inl fd))))) : Nat × va_E)])) H := pm_P pmM hP
  have hD : va_D A ((mW cy am m0) ++ ((cW cy ad en x' ++ [((ob, .inl (cy 6, 1, .inr (.inl (if code = 0 then (vp_updL fo (0 : Int32).toNatClampNeg r.toInt64) else fo)))) : Nat × va_E)]) ++ [((od, .inl (cy 7, 1, .inr (.inr (.inr (.inl fd))))) : Nat × va_E)])) := pm_D pmM hD
  refine fV (w1 := (mW cy am m0)) (w2 := ((cW cy ad en x' ++ [((ob, .inl (cy 6, 1, .inr (.inl (if code = 0 then (vp_updL fo (0 : Int32).toNatClampNeg r.toInt64) else fo)))) : Nat × va_E)]) ++ [((od, .inl (cy 7, 1, .inr (.inr (.inr (.inl fd))))) : Nat × va_E)])) (As := [.int (xs (i + 1).toNatClampNeg)]) (rest := []) hx hb hml hown hw hK8 hN hA hl.1 hP hD hS k_1844 k_1845 k_1846 k_90 k_1847 (met_X10_bestWind l D cy _ am m0 (xs (i + 1).toNatClampNeg) bb m' hFm) (fun _ _ _ => trivial) Xok_T (gM (am := am) (r := 0) (m := m0) (f := m0 0) (by decide) rfl) rfl ⟨rfl, rfl⟩ (n := 1) (by decide +kernel) rfl ⟨Nat.le_of_ble_eq_true rfl, Nat.le_of_ble_eq_true rfl⟩ hcsA (Nat.le_of_ble_eq_true rfl) rfl dL_law_1293 (fun H locs hP hD hS => ?_)
  have hP : va_P D vwCl ((cW cy ad en x' ++ [(ob, .inl (cy 6, 1, .inr (.inl (if code = 0 then (vp_updL fo (0 : Int32).toNatClampNeg r.toInt64) else fo))))]) ++ (mW cy am m' ++ [(od, .inl (cy 7, 1, .inr (.inr (.inr (.inl fd)))))])) H := pm_P pmM.symm hP
  have hD : va_D A ((cW cy ad en x' ++ [(ob, .inl (cy 6, 1, .inr (.inl (if code = 0 then (vp_updL fo (0 : Int32).toNatClampNeg r.toInt64) else fo))))]) ++ (mW cy am m' ++ [(od, .inl (cy 7, 1, .inr (.inr (.inr (.inl fd)))))])) := pm_D pmM.symm hD
  refine lv_istore (lv' := [(7, .int bb), (6, .int code), (0, .ref b), (1, .ref (ad 12 0)), (2, .ref (am 0)), (3, .ref ob), (4, .ref od), (5, .int i)]) hx hb dL_law_1296 hl (by decide) rfl (fun ls hl => ?_)
  refine lv_aload_n hx hb dL_law_1298 rfl (lv_at hl 4 rfl) ?_
  have hP : va_P D vwCl ((mW cy am m') ++ ((cW cy ad en x' ++ [((ob, .inl (cy 6, 1, .inr (.inl (if code = 0 then (vp_updL fo (0 : Int32).toNatClampNeg r.toInt64) else fo)))) : Nat × va_E)]) ++ [((od, .inl (cy 7, 1, .inr (.inr (.inr (.inl fd))))) : Nat × va_E)])) H := pm_P pmM hP
  have hD : va_D A ((mW cy am m') ++ ((cW cy ad en x' ++ [((ob, .inl (cy 6, 1, .inr (.inl (if code = 0 then (vp_updL fo (0 : Int32).toNatClampNeg r.toInt64) else fo)))) : Nat × va_E)]) ++ [((od, .inl (cy 7, 1, .inr (.inr (.inr (.inl fd))))) : Nat × va_E)])) := pm_D pmM hD
  refine fV (w1 := (mW cy am m')) (w2 := ((cW cy ad en x' ++ [((ob, .inl (cy 6, 1, .inr (.inl (if code = 0 then (vp_updL fo (0 : Int32).toNatClampNeg r.toInt64) else fo)))) : Nat × va_E)]) ++ [((od, .inl (cy 7, 1, .inr (.inr (.inr (.inl fd))))) : Nat × va_E)])) (As := []) (rest := []) hx hb hml hown hw hK8 hN hA hl.1 hP hD hS k_1625 k_1626 k_1627 k_90 k_1628 (met_X10_thrown l D cy _ am m' code hthr) (fun _ _ _ => trivial) Xok_T (gM (am := am) (r := 0) (m := m') (f := m' 0) (by decide) rfl) rfl ⟨rfl, rfl⟩ (n := 0) (by decide +kernel) rfl ⟨Nat.le_of_ble_eq_true rfl, Nat.le_of_ble_eq_true rfl⟩ hcsA (Nat.le_of_ble_eq_true rfl) rfl dL_law_1299 (fun H locs hP hD hS => ?_)
  have hP : va_P D vwCl ((cW cy ad en x' ++ [(ob, .inl (cy 6, 1, .inr (.inl (if code = 0 then (vp_updL fo (0 : Int32).toNatClampNeg r.toInt64) else fo))))]) ++ (mW cy am m' ++ [(od, .inl (cy 7, 1, .inr (.inr (.inr (.inl fd)))))])) H := pm_P pmM.symm hP
  have hD : va_D A ((cW cy ad en x' ++ [(ob, .inl (cy 6, 1, .inr (.inl (if code = 0 then (vp_updL fo (0 : Int32).toNatClampNeg r.toInt64) else fo))))]) ++ (mW cy am m' ++ [(od, .inl (cy 7, 1, .inr (.inr (.inr (.inl fd)))))])) := pm_D pmM.symm hD
  refine lv_iload hx hb dL_law_1302 (lv_at hl 1 rfl) ?_
  refine lv_icmp_eq (tgt := 1309) hx hb dL_law_1304 (by decide) (fun _ => ?_) (fun h => absurd rfl h)
  refine lv_iload hx hb dL_law_1309 (lv_at hl 1 rfl) ?_
  refine lv_if_ne (tgt := 1326) hx hb dL_law_1311 (by decide) (fun hk => ?_) (fun hk => ?_)
  · refine lv_goto (tgt := 2250) hx hb dL_law_1326 (by decide) ?_
    exact kk _ _ _ _ H locs ls hInv (cvP hP rfl) (cvD hD rfl) hS (lv_sub hl [2, 3, 4, 5, 6, 7] rfl)
  · have hk0 : code = 0 := hk
    have heq := heq hk0
    refine lv_aload_n hx hb dL_law_1314 rfl (lv_at hl 5 rfl) ?_
    refine lv_iconst (v := 0) hx hb dL_law_1315 (by decide) ?_
    refine va_lald hx hb hK8 hP _ 6 (gA gL) rfl (vp_in_iff.mpr (by decide)) dL_law_1316 ?_
    refine lv_iload hx hb dL_law_1317 (lv_at hl 0 rfl) ?_
    refine lv_i2l hx hb dL_law_1319 rfl ?_
    refine W.lcmp hx hb dL_law_1320 ?_
    refine lv_if_eq (tgt := 1326) hx hb dL_law_1321 (by decide) (fun _ => ?_) (fun h => absurd ?_ h)
    · refine lv_goto (tgt := 2250) hx hb dL_law_1326 (by decide) ?_
      exact kk _ _ _ _ H locs ls hInv (cvP hP rfl) (cvD hD rfl) hS (lv_sub hl [2, 3, 4, 5, 6, 7] rfl)
    · rw [lg_cmp_eq, heq, if_pos hk0]; rfl
def OK_recorded (Inv : Mem → (Nat → Nat → Int32) → Prop) (x : Mem) (m : Nat → Nat → Int32) (p1 : Int32) (p2 : Int32) : Prop := ∃ (code : Int32) (r : Int32) (bb : Int32) (m' : Nat → Nat → Int32), (code = 0 ∨ code = 1) ∧ D_X9_recorded x p1 p2 = some (code, r) ∧ D_X10_recorded m p1 p2 = some (bb, m') ∧ D_X10_thrown m' = code ∧ (code = 0 → r = bb) ∧ Inv x m'
set_option maxHeartbeats 4000000 in
theorem lw_recorded {Inv : Mem → (Nat → Nat → Int32) → Prop} {p : Program} {l : Launch} (hst0 : l.stackTraces = false) {e : Env} {s : State} {m : MethodId} {below : List Frame} {meth : Method} {c : Code} {b L : Nat} {xs : Nat → Int32} {A : Nat → Prop} {D : va_G} {cy : Nat → ClassId} {en g : Nat → Nat} {Q : State → Prop} (hC : LC p s m c b L xs A D cy en g) {ad : Nat → Nat → Nat} {am : Nat → Nat} {ob od : Nat} {x : Mem} {m0 : Nat → Nat → Int32} {fo : Nat → Int64} {fd : Nat → UInt64} {i : Int32} {H : Heap} {locs : List Loc} {ls : Array Slot} {cells slots : Nat} (h1 : vp_in (i + 1) L) (h2 : vp_in (i + 2) L) (h3 : vp_in (i + 3) L) (hcs : cells + 2 ≤ room_1.cells ∧ slots + 12 ≤ room_1.slots) (hop : OK_recorded Inv x m0 (xs (i + 1).toNatClampNeg) (xs (i + 2).toNatClampNeg)) (hP : va_P D vwCl ((cW cy ad en x ++ [(ob, .inl (cy 6, 1, .inr (.inl fo)))]) ++ (mW cy am m0 ++ [(od, .inl (cy 7, 1, .inr (.inr (.inr (.inl fd)))))])) H) (hD : va_D A ((cW cy ad en x ++ [(ob, .inl (cy 6, 1, .inr (.inl fo)))]) ++ (mW cy am m0 ++ [(od, .inl (cy 7, 1, .inr (.inr (.inr (.inl fd)))))]))) (hS : va_S A s.heap H locs) (hl : lv_has ls 9 [(0, .ref b), (1, .ref (ad 12 0)), (2, .ref (am 0)), (3, .ref ob), (4, .ref od), (5, .int i)]) (kk : ∀ (x' : Mem) (m' : Nat → Nat → Int32) (fo' : Nat → Int64) (fd' : Nat → UInt64) (H : Heap) (locs : List Loc) (ls : Array Slot), Inv x' m' → va_P D vwCl ((cW cy ad en x' ++ [(ob, .inl (cy 6, 1, .inr (.inl fo')))]) ++ (mW cy am m' ++ [(od, .inl (cy 7, 1, .inr (.inr (.inr (.inl fd')))))])) H → va_D A ((cW cy ad en x' ++ [(ob, .inl (cy 6, 1, .inr (.inl fo')))]) ++ (mW cy am m' ++ [(od, .inl (cy 7, 1, .inr (.inr (.inr (.inl fd')))))])) → va_S A s.heap H locs → lv_has ls 9 [(0, .ref b), (1, .ref (ad 12 0)), (2, .ref (am 0)), (3, .ref ob), (4, .ref od), (5, .int i)] → W p l e room_1 s m #[Value.ref b] below meth c H locs (cells + 2) (slots + 12) Q (F0 m 2250 ls [])) : W p l e room_1 s m #[Value.ref b] below meth c H locs cells slots Q (F0 m 1329 ls []) := by
  obtain ⟨hx, hb, hml, hown, hw, hK8, hN, hST, hX, hbl, hbA, hA⟩ := hC
  have hK := hKL hK8
  have hcs0 : cells ≤ room_1.cells ∧ slots ≤ room_1.slots := ⟨Nat.le_trans (Nat.le_add_right _ 2) hcs.1, Nat.le_trans (Nat.le_add_right _ 12) hcs.2⟩
  have hcsA : cells + 2 ≤ room_1.cells ∧ slots + 12 ≤ room_1.slots := hcs
  obtain ⟨code, r, bb, m', hcd, hF, hFm, hthr, heq, hInv⟩ := hop
  refine lv_aload_n hx hb dL_law_1329 rfl (lv_at hl 1 rfl) ?_
  refine lv_aload_n hx hb dL_law_1330 rfl (lv_at hl 0 rfl) ?_
  refine lv_iload hx hb dL_law_1331 (lv_at hl 5 rfl) ?_
  refine lv_iconst (v := 1) hx hb dL_law_1333 (by decide) ?_
  refine lv_iadd hx hb dL_law_1334 ?_
  refine va_sld hx hb hX hbl hbA hS h1 dL_law_1335 ?_
  refine lv_aload_n hx hb dL_law_1336 rfl (lv_at hl 0 rfl) ?_
  refine lv_iload hx hb dL_law_1337 (lv_at hl 5 rfl) ?_
  refine lv_iconst (v := 2) hx hb dL_law_1339 (by decide) ?_
  refine lv_iadd hx hb dL_law_1340 ?_
  refine va_sld hx hb hX hbl hbA hS h2 dL_law_1341 ?_
  refine lv_aload_n hx hb dL_law_1342 rfl (lv_at hl 3 rfl) ?_
  refine fW (w1 := (cW cy ad en x ++ [((ob, .inl (cy 6, 1, .inr (.inl fo))) : Nat × va_E)])) (w2 := (mW cy am m0 ++ [((od, .inl (cy 7, 1, .inr (.inr (.inr (.inl fd))))) : Nat × va_E)])) (As := [.ref (ad 12 0), .int (xs (i + 1).toNatClampNeg), .int (xs (i + 2).toNatClampNeg), .ref ob]) (rest := []) hx hb hml hown hw hK8 hN hA hl.1 hP hD hS hST k_936 k_937 k_75 k_938 (met_L_recorded l hst0 D cy _ ad en g x (xs (i + 1).toNatClampNeg) (xs (i + 2).toNatClampNeg) ob fo code r hcd hF) ⟨rfl, rfl⟩ (n := 4) (by decide +kernel) rfl ⟨Nat.le_of_ble_eq_true rfl, Nat.le_of_ble_eq_true rfl⟩ hcs (Nat.le_of_ble_eq_true rfl) rfl dL_law_1343 (fun H locs hP hD hS => ?_)
  refine lv_istore (lv' := [(6, .int code), (0, .ref b), (1, .ref (ad 12 0)), (2, .ref (am 0)), (3, .ref ob), (4, .ref od), (5, .int i)]) hx hb dL_law_1346 hl (by decide) rfl (fun ls hl => ?_)
  refine lv_aload_n hx hb dL_law_1348 rfl (lv_at hl 3 rfl) ?_
  refine lv_aload_n hx hb dL_law_1349 rfl (lv_at hl 1 rfl) ?_
  refine lv_iload hx hb dL_law_1350 (lv_at hl 6 rfl) ?_
  refine lv_iconst (v := 1) hx hb dL_law_1352 (by decide) ?_
  refine lv_iadd hx hb dL_law_1353 ?_
  refine va_sld hx hb hX hbl hbA hS h1 dL_law_1354 ?_
  refine lv_aload_n hx hb dL_law_1355 rfl (lv_at hl 1 rfl) ?_
  refine lv_iload hx hb dL_law_1356 (lv_at hl 6 rfl) ?_
  refine lv_iconst (v := 2) hx hb dL_law_1358 (by decide) ?_
  refine lv_iadd hx hb dL_law_1359 ?_
  refine va_sld hx hb hX hbl hbA hS h2 dL_law_1360 ?_
  have hP : va_P D vwCl ((mW cy am m0) ++ ((cW cy ad en x ++ [((ob, .inl (cy 6, 1, .inr (.inl (if code = 0 then (vp_updL fo (0 : Int32).toNatClampNeg r.toInt64) else fo)))) : Nat × va_E)]) ++ [((od, .inl (cy 7, 1, .inr (.inr (.inr (.inl fd))))) : Nat × va_E)])) H := pm_P pmM hP
  have hD : va_D A ((mW cy am m0) ++ ((cW cy ad en x ++ [((ob, .inl (cy 6, 1, .inr (.inl (if code = 0 then (vp_updL fo (0 : Int32).toNatClampNeg r.toInt64) else fo)))) : Nat × va_E)]) ++ [((od, .inl (cy 7, 1, .inr (.inr (.inr (.inl fd))))) : Nat × va_E)])) := pm_D pmM hD
  refine fV (w1 := (mW cy am m0)) (w2 := ((cW cy ad en x ++ [((ob, .inl (cy 6, 1, .inr (.inl (if code = 0 then (vp_updL fo (0 : Int32).toNatClampNeg r.toInt64) else fo)))) : Nat × va_E)]) ++ [((od, .inl (cy 7, 1, .inr (.inr (.inr (.inl fd))))) : Nat × va_E)])) (As := [.int (xs (i + 1).toNatClampNeg), .int (xs (i + 2).toNatClampNeg)]) (rest := []) hx hb hml hown hw hK8 hN hA hl.1 hP hD hS k_1848 k_1849 k_1850 k_90 k_1851 (met_X10_recorded l D cy _ am m0 (xs (i + 1).toNatClampNeg) (xs (i + 2).toNatClampNeg) bb m' hFm) (fun _ _ _ => trivial) Xok_T (gM (am := am) (r := 0) (m := m0) (f := m0 0) (by decide) rfl) rfl ⟨rfl, rfl⟩ (n := 2) (by decide +kernel) rfl ⟨Nat.le_of_ble_eq_true rfl, Nat.le_of_ble_eq_true rfl⟩ hcsA (Nat.le_of_ble_eq_true rfl) rfl dL_law_1361 (fun H locs hP hD hS => ?_)
  have hP : va_P D vwCl ((cW cy ad en x ++ [(ob, .inl (cy 6, 1, .inr (.inl (if code = 0 then (vp_updL fo (0 : Int32).toNatClampNeg r.toInt64) else fo))))]) ++ (mW cy am m' ++ [(od, .inl (cy 7, 1, .inr (.inr (.inr (.inl fd)))))])) H := pm_P pmM.symm hP
  have hD : va_D A ((cW cy ad en x ++ [(ob, .inl (cy 6, 1, .inr (.inl (if code = 0 then (vp_updL fo (0 : Int32).toNatClampNeg r.toInt64) else fo))))]) ++ (mW cy am m' ++ [(od, .inl (cy 7, 1, .inr (.inr (.inr (.inl fd)))))])) := pm_D pmM.symm hD
  refine lv_istore (lv' := [(7, .int bb), (6, .int code), (0, .ref b), (1, .ref (ad 12 0)), (2, .ref (am 0)), (3, .ref ob), (4, .ref od), (5, .int i)]) hx hb dL_law_1364 hl (by decide) rfl (fun ls hl => ?_)
  refine lv_aload_n hx hb dL_law_1366 rfl (lv_at hl 4 rfl) ?_
  have hP : va_P D vwCl ((mW cy am m') ++ ((cW cy ad en x ++ [((ob, .inl (cy 6, 1, .inr (.inl (if code = 0 then (vp_updL fo (0 : Int32).toNatClampNeg r.toInt64) else fo)))) : Nat × va_E)]) ++ [((od, .inl (cy 7, 1, .inr (.inr (.inr (.inl fd))))) : Nat × va_E)])) H := pm_P pmM hP
  have hD : va_D A ((mW cy am m') ++ ((cW cy ad en x ++ [((ob, .inl (cy 6, 1, .inr (.inl (if code = 0 then (vp_updL fo (0 : Int32).toNatClampNeg r.toInt64) else fo)))) : Nat × va_E)]) ++ [((od, .inl (cy 7, 1, .inr (.inr (.inr (.inl fd))))) : Nat × va_E)])) := pm_D pmM hD
  refine fV (w1 := (mW cy am m')) (w2 := ((cW cy ad en x ++ [((ob, .inl (cy 6, 1, .inr (.inl (if code = 0 then (vp_updL fo (0 : Int32).toNatClampNeg r.toInt64) else fo)))) : Nat × va_E)]) ++ [((od, .inl (cy 7, 1, .inr (.inr (.inr (.inl fd))))) : Nat × va_E)])) (As := []) (rest := []) hx hb hml hown hw hK8 hN hA hl.1 hP hD hS k_1625 k_1626 k_1627 k_90 k_1628 (met_X10_thrown l D cy _ am m' code hthr) (fun _ _ _ => trivial) Xok_T (gM (am := am) (r := 0) (m := m') (f := m' 0) (by decide) rfl) rfl ⟨rfl, rfl⟩ (n := 0) (by decide +kernel) rfl ⟨Nat.le_of_ble_eq_true rfl, Nat.le_of_ble_eq_true rfl⟩ hcsA (Nat.le_of_ble_eq_true rfl) rfl dL_law_1367 (fun H locs hP hD hS => ?_)
  have hP : va_P D vwCl ((cW cy ad en x ++ [(ob, .inl (cy 6, 1, .inr (.inl (if code = 0 then (vp_updL fo (0 : Int32).toNatClampNeg r.toInt64) else fo))))]) ++ (mW cy am m' ++ [(od, .inl (cy 7, 1, .inr (.inr (.inr (.inl fd)))))])) H := pm_P pmM.symm hP
  have hD : va_D A ((cW cy ad en x ++ [(ob, .inl (cy 6, 1, .inr (.inl (if code = 0 then (vp_updL fo (0 : Int32).toNatClampNeg r.toInt64) else fo))))]) ++ (mW cy am m' ++ [(od, .inl (cy 7, 1, .inr (.inr (.inr (.inl fd)))))])) := pm_D pmM.symm hD
  refine lv_iload hx hb dL_law_1370 (lv_at hl 1 rfl) ?_
  refine lv_icmp_eq (tgt := 1377) hx hb dL_law_1372 (by decide) (fun _ => ?_) (fun h => absurd rfl h)
  refine lv_iload hx hb dL_law_1377 (lv_at hl 1 rfl) ?_
  refine lv_if_ne (tgt := 1394) hx hb dL_law_1379 (by decide) (fun hk => ?_) (fun hk => ?_)
  · refine lv_goto (tgt := 2250) hx hb dL_law_1394 (by decide) ?_
    exact kk _ _ _ _ H locs ls hInv (cvP hP rfl) (cvD hD rfl) hS (lv_sub hl [2, 3, 4, 5, 6, 7] rfl)
  · have hk0 : code = 0 := hk
    have heq := heq hk0
    refine lv_aload_n hx hb dL_law_1382 rfl (lv_at hl 5 rfl) ?_
    refine lv_iconst (v := 0) hx hb dL_law_1383 (by decide) ?_
    refine va_lald hx hb hK8 hP _ 6 (gA gL) rfl (vp_in_iff.mpr (by decide)) dL_law_1384 ?_
    refine lv_iload hx hb dL_law_1385 (lv_at hl 0 rfl) ?_
    refine lv_i2l hx hb dL_law_1387 rfl ?_
    refine W.lcmp hx hb dL_law_1388 ?_
    refine lv_if_eq (tgt := 1394) hx hb dL_law_1389 (by decide) (fun _ => ?_) (fun h => absurd ?_ h)
    · refine lv_goto (tgt := 2250) hx hb dL_law_1394 (by decide) ?_
      exact kk _ _ _ _ H locs ls hInv (cvP hP rfl) (cvD hD rfl) hS (lv_sub hl [2, 3, 4, 5, 6, 7] rfl)
    · rw [lg_cmp_eq, heq, if_pos hk0]; rfl
def OK_coins (Inv : Mem → (Nat → Nat → Int32) → Prop) (x : Mem) (m : Nat → Nat → Int32) : Prop := ∃ (r : Int32) (bb : Int32) (m' : Nat → Nat → Int32), D_X9_coins x = some r ∧ D_X10_coins m = some (bb, m') ∧ r = bb ∧ Inv x m'
set_option maxHeartbeats 4000000 in
theorem lw_coins {Inv : Mem → (Nat → Nat → Int32) → Prop} {p : Program} {l : Launch} (hst0 : l.stackTraces = false) {e : Env} {s : State} {m : MethodId} {below : List Frame} {meth : Method} {c : Code} {b L : Nat} {xs : Nat → Int32} {A : Nat → Prop} {D : va_G} {cy : Nat → ClassId} {en g : Nat → Nat} {Q : State → Prop} (hC : LC p s m c b L xs A D cy en g) {ad : Nat → Nat → Nat} {am : Nat → Nat} {ob od : Nat} {x : Mem} {m0 : Nat → Nat → Int32} {fo : Nat → Int64} {fd : Nat → UInt64} {i : Int32} {H : Heap} {locs : List Loc} {ls : Array Slot} {cells slots : Nat} (h1 : vp_in (i + 1) L) (h2 : vp_in (i + 2) L) (h3 : vp_in (i + 3) L) (hcs : cells + 2 ≤ room_1.cells ∧ slots + 12 ≤ room_1.slots) (hop : OK_coins Inv x m0) (hP : va_P D vwCl ((cW cy ad en x ++ [(ob, .inl (cy 6, 1, .inr (.inl fo)))]) ++ (mW cy am m0 ++ [(od, .inl (cy 7, 1, .inr (.inr (.inr (.inl fd)))))])) H) (hD : va_D A ((cW cy ad en x ++ [(ob, .inl (cy 6, 1, .inr (.inl fo)))]) ++ (mW cy am m0 ++ [(od, .inl (cy 7, 1, .inr (.inr (.inr (.inl fd)))))]))) (hS : va_S A s.heap H locs) (hl : lv_has ls 9 [(0, .ref b), (1, .ref (ad 12 0)), (2, .ref (am 0)), (3, .ref ob), (4, .ref od), (5, .int i)]) (kk : ∀ (x' : Mem) (m' : Nat → Nat → Int32) (fo' : Nat → Int64) (fd' : Nat → UInt64) (H : Heap) (locs : List Loc) (ls : Array Slot), Inv x' m' → va_P D vwCl ((cW cy ad en x' ++ [(ob, .inl (cy 6, 1, .inr (.inl fo')))]) ++ (mW cy am m' ++ [(od, .inl (cy 7, 1, .inr (.inr (.inr (.inl fd')))))])) H → va_D A ((cW cy ad en x' ++ [(ob, .inl (cy 6, 1, .inr (.inl fo')))]) ++ (mW cy am m' ++ [(od, .inl (cy 7, 1, .inr (.inr (.inr (.inl fd')))))])) → va_S A s.heap H locs → lv_has ls 9 [(0, .ref b), (1, .ref (ad 12 0)), (2, .ref (am 0)), (3, .ref ob), (4, .ref od), (5, .int i)] → W p l e room_1 s m #[Value.ref b] below meth c H locs (cells + 2) (slots + 12) Q (F0 m 2250 ls [])) : W p l e room_1 s m #[Value.ref b] below meth c H locs cells slots Q (F0 m 1397 ls []) := by
  obtain ⟨hx, hb, hml, hown, hw, hK8, hN, hST, hX, hbl, hbA, hA⟩ := hC
  have hK := hKL hK8
  have hcs0 : cells ≤ room_1.cells ∧ slots ≤ room_1.slots := ⟨Nat.le_trans (Nat.le_add_right _ 2) hcs.1, Nat.le_trans (Nat.le_add_right _ 12) hcs.2⟩
  have hcsA : cells + 2 ≤ room_1.cells ∧ slots + 12 ≤ room_1.slots := hcs
  obtain ⟨r, bb, m', hF, hFm, heq, hInv⟩ := hop
  have hcmp : r = bb := heq
  have kk := fun x' m' fo' fd' H locs ls a1 a2 a3 a4 a5 => W.widen (Nat.le_add_right cells 2) (Nat.le_add_right slots 12) (kk x' m' fo' fd' H locs ls a1 a2 a3 a4 a5)
  refine lv_aload_n hx hb dL_law_1397 rfl (lv_at hl 1 rfl) ?_
  have hP : va_P D vwCl ((cW cy ad en x) ++ ([((ob, .inl (cy 6, 1, .inr (.inl fo))) : Nat × va_E)] ++ (mW cy am m0 ++ [((od, .inl (cy 7, 1, .inr (.inr (.inr (.inl fd))))) : Nat × va_E)]))) H := cvP hP (List.append_assoc _ _ _)
  have hD : va_D A ((cW cy ad en x) ++ ([((ob, .inl (cy 6, 1, .inr (.inl fo))) : Nat × va_E)] ++ (mW cy am m0 ++ [((od, .inl (cy 7, 1, .inr (.inr (.inr (.inl fd))))) : Nat × va_E)]))) := cvD hD (List.append_assoc _ _ _)
  refine fV (w1 := (cW cy ad en x)) (w2 := ([((ob, .inl (cy 6, 1, .inr (.inl fo))) : Nat × va_E)] ++ (mW cy am m0 ++ [((od, .inl (cy 7, 1, .inr (.inr (.inr (.inl fd))))) : Nat × va_E)]))) (As := []) (rest := []) hx hb hml hown hw hK8 hN hA hl.1 hP hD hS k_469 k_470 k_471 k_76 k_472 (met_X9_coins l D cy _ ad en g x r hF) (fun _ _ _ => trivial) Xok_T (gY (x := x) (r := 0) (f := x 12 0) (by decide) rfl) rfl ⟨rfl, rfl⟩ (n := 0) (by decide +kernel) rfl ⟨Nat.le_of_ble_eq_true rfl, Nat.le_of_ble_eq_true rfl⟩ hcs0 (Nat.le_of_ble_eq_true rfl) rfl dL_law_1398 (fun H locs hP hD hS => ?_)
  have hP : va_P D vwCl ((cW cy ad en x ++ [(ob, .inl (cy 6, 1, .inr (.inl fo)))]) ++ (mW cy am m0 ++ [(od, .inl (cy 7, 1, .inr (.inr (.inr (.inl fd)))))])) H := cvP hP (List.append_assoc _ _ _).symm
  have hD : va_D A ((cW cy ad en x ++ [(ob, .inl (cy 6, 1, .inr (.inl fo)))]) ++ (mW cy am m0 ++ [(od, .inl (cy 7, 1, .inr (.inr (.inr (.inl fd)))))])) := cvD hD (List.append_assoc _ _ _).symm
  refine lv_aload_n hx hb dL_law_1401 rfl (lv_at hl 2 rfl) ?_
  have hP : va_P D vwCl ((mW cy am m0) ++ ((cW cy ad en x ++ [((ob, .inl (cy 6, 1, .inr (.inl fo))) : Nat × va_E)]) ++ [((od, .inl (cy 7, 1, .inr (.inr (.inr (.inl fd))))) : Nat × va_E)])) H := pm_P pmM hP
  have hD : va_D A ((mW cy am m0) ++ ((cW cy ad en x ++ [((ob, .inl (cy 6, 1, .inr (.inl fo))) : Nat × va_E)]) ++ [((od, .inl (cy 7, 1, .inr (.inr (.inr (.inl fd))))) : Nat × va_E)])) := pm_D pmM hD
  refine fV (w1 := (mW cy am m0)) (w2 := ((cW cy ad en x ++ [((ob, .inl (cy 6, 1, .inr (.inl fo))) : Nat × va_E)]) ++ [((od, .inl (cy 7, 1, .inr (.inr (.inr (.inl fd))))) : Nat × va_E)])) (As := []) (rest := [.int r]) hx hb hml hown hw hK8 hN hA hl.1 hP hD hS k_1852 k_1853 k_1854 k_90 k_1855 (met_X10_coins l D cy _ am m0 bb m' hFm) (fun _ _ _ => trivial) Xok_T (gM (am := am) (r := 0) (m := m0) (f := m0 0) (by decide) rfl) rfl ⟨rfl, rfl⟩ (n := 0) (by decide +kernel) rfl ⟨Nat.le_of_ble_eq_true rfl, Nat.le_of_ble_eq_true rfl⟩ hcs0 (Nat.le_of_ble_eq_true rfl) rfl dL_law_1402 (fun H locs hP hD hS => ?_)
  have hP : va_P D vwCl ((cW cy ad en x ++ [(ob, .inl (cy 6, 1, .inr (.inl fo)))]) ++ (mW cy am m' ++ [(od, .inl (cy 7, 1, .inr (.inr (.inr (.inl fd)))))])) H := pm_P pmM.symm hP
  have hD : va_D A ((cW cy ad en x ++ [(ob, .inl (cy 6, 1, .inr (.inl fo)))]) ++ (mW cy am m' ++ [(od, .inl (cy 7, 1, .inr (.inr (.inr (.inl fd)))))])) := pm_D pmM.symm hD
  refine lv_icmp_eq (tgt := 2250) hx hb dL_law_1405 (by decide) (fun _ => ?_) (fun h => absurd hcmp h)
  exact kk _ _ _ _ H locs ls hInv (cvP hP rfl) (cvD hD rfl) hS (lv_sub hl [0, 1, 2, 3, 4, 5] rfl)
def OK_coinsAgain (Inv : Mem → (Nat → Nat → Int32) → Prop) (x : Mem) (m : Nat → Nat → Int32) : Prop := ∃ (r : Int32) (bb : Int32) (m' : Nat → Nat → Int32), D_X9_coinsAgain x = r ∧ D_X10_coinsAgain m = some (bb, m') ∧ r = bb ∧ Inv x m'
set_option maxHeartbeats 4000000 in
theorem lw_coinsAgain {Inv : Mem → (Nat → Nat → Int32) → Prop} {p : Program} {l : Launch} (hst0 : l.stackTraces = false) {e : Env} {s : State} {m : MethodId} {below : List Frame} {meth : Method} {c : Code} {b L : Nat} {xs : Nat → Int32} {A : Nat → Prop} {D : va_G} {cy : Nat → ClassId} {en g : Nat → Nat} {Q : State → Prop} (hC : LC p s m c b L xs A D cy en g) {ad : Nat → Nat → Nat} {am : Nat → Nat} {ob od : Nat} {x : Mem} {m0 : Nat → Nat → Int32} {fo : Nat → Int64} {fd : Nat → UInt64} {i : Int32} {H : Heap} {locs : List Loc} {ls : Array Slot} {cells slots : Nat} (h1 : vp_in (i + 1) L) (h2 : vp_in (i + 2) L) (h3 : vp_in (i + 3) L) (hcs : cells + 2 ≤ room_1.cells ∧ slots + 12 ≤ room_1.slots) (hop : OK_coinsAgain Inv x m0) (hP : va_P D vwCl ((cW cy ad en x ++ [(ob, .inl (cy 6, 1, .inr (.inl fo)))]) ++ (mW cy am m0 ++ [(od, .inl (cy 7, 1, .inr (.inr (.inr (.inl fd)))))])) H) (hD : va_D A ((cW cy ad en x ++ [(ob, .inl (cy 6, 1, .inr (.inl fo)))]) ++ (mW cy am m0 ++ [(od, .inl (cy 7, 1, .inr (.inr (.inr (.inl fd)))))]))) (hS : va_S A s.heap H locs) (hl : lv_has ls 9 [(0, .ref b), (1, .ref (ad 12 0)), (2, .ref (am 0)), (3, .ref ob), (4, .ref od), (5, .int i)]) (kk : ∀ (x' : Mem) (m' : Nat → Nat → Int32) (fo' : Nat → Int64) (fd' : Nat → UInt64) (H : Heap) (locs : List Loc) (ls : Array Slot), Inv x' m' → va_P D vwCl ((cW cy ad en x' ++ [(ob, .inl (cy 6, 1, .inr (.inl fo')))]) ++ (mW cy am m' ++ [(od, .inl (cy 7, 1, .inr (.inr (.inr (.inl fd')))))])) H → va_D A ((cW cy ad en x' ++ [(ob, .inl (cy 6, 1, .inr (.inl fo')))]) ++ (mW cy am m' ++ [(od, .inl (cy 7, 1, .inr (.inr (.inr (.inl fd')))))])) → va_S A s.heap H locs → lv_has ls 9 [(0, .ref b), (1, .ref (ad 12 0)), (2, .ref (am 0)), (3, .ref ob), (4, .ref od), (5, .int i)] → W p l e room_1 s m #[Value.ref b] below meth c H locs (cells + 2) (slots + 12) Q (F0 m 2250 ls [])) : W p l e room_1 s m #[Value.ref b] below meth c H locs cells slots Q (F0 m 1410 ls []) := by
  obtain ⟨hx, hb, hml, hown, hw, hK8, hN, hST, hX, hbl, hbA, hA⟩ := hC
  have hK := hKL hK8
  have hcs0 : cells ≤ room_1.cells ∧ slots ≤ room_1.slots := ⟨Nat.le_trans (Nat.le_add_right _ 2) hcs.1, Nat.le_trans (Nat.le_add_right _ 12) hcs.2⟩
  have hcsA : cells + 2 ≤ room_1.cells ∧ slots + 12 ≤ room_1.slots := hcs
  obtain ⟨r, bb, m', hF, hFm, heq, hInv⟩ := hop
  have hcmp : r = bb := heq
  have kk := fun x' m' fo' fd' H locs ls a1 a2 a3 a4 a5 => W.widen (Nat.le_add_right cells 2) (Nat.le_add_right slots 12) (kk x' m' fo' fd' H locs ls a1 a2 a3 a4 a5)
  refine lv_aload_n hx hb dL_law_1410 rfl (lv_at hl 1 rfl) ?_
  have hP : va_P D vwCl ((cW cy ad en x) ++ ([((ob, .inl (cy 6, 1, .inr (.inl fo))) : Nat × va_E)] ++ (mW cy am m0 ++ [((od, .inl (cy 7, 1, .inr (.inr (.inr (.inl fd))))) : Nat × va_E)]))) H := cvP hP (List.append_assoc _ _ _)
  have hD : va_D A ((cW cy ad en x) ++ ([((ob, .inl (cy 6, 1, .inr (.inl fo))) : Nat × va_E)] ++ (mW cy am m0 ++ [((od, .inl (cy 7, 1, .inr (.inr (.inr (.inl fd))))) : Nat × va_E)]))) := cvD hD (List.append_assoc _ _ _)
  refine fV (w1 := (cW cy ad en x)) (w2 := ([((ob, .inl (cy 6, 1, .inr (.inl fo))) : Nat × va_E)] ++ (mW cy am m0 ++ [((od, .inl (cy 7, 1, .inr (.inr (.inr (.inl fd))))) : Nat × va_E)]))) (As := []) (rest := []) hx hb hml hown hw hK8 hN hA hl.1 hP hD hS k_477 k_478 k_479 k_76 k_480 (met_X9_coinsAgain l D cy _ ad en g x r hF) (fun _ _ _ => trivial) Xok_T (gY (x := x) (r := 0) (f := x 12 0) (by decide) rfl) rfl ⟨rfl, rfl⟩ (n := 0) (by decide +kernel) rfl ⟨Nat.le_of_ble_eq_true rfl, Nat.le_of_ble_eq_true rfl⟩ hcs0 (Nat.le_of_ble_eq_true rfl) rfl dL_law_1411 (fun H locs hP hD hS => ?_)
  have hP : va_P D vwCl ((cW cy ad en x ++ [(ob, .inl (cy 6, 1, .inr (.inl fo)))]) ++ (mW cy am m0 ++ [(od, .inl (cy 7, 1, .inr (.inr (.inr (.inl fd)))))])) H := cvP hP (List.append_assoc _ _ _).symm
  have hD : va_D A ((cW cy ad en x ++ [(ob, .inl (cy 6, 1, .inr (.inl fo)))]) ++ (mW cy am m0 ++ [(od, .inl (cy 7, 1, .inr (.inr (.inr (.inl fd)))))])) := cvD hD (List.append_assoc _ _ _).symm
  refine lv_aload_n hx hb dL_law_1414 rfl (lv_at hl 2 rfl) ?_
  have hP : va_P D vwCl ((mW cy am m0) ++ ((cW cy ad en x ++ [((ob, .inl (cy 6, 1, .inr (.inl fo))) : Nat × va_E)]) ++ [((od, .inl (cy 7, 1, .inr (.inr (.inr (.inl fd))))) : Nat × va_E)])) H := pm_P pmM hP
  have hD : va_D A ((mW cy am m0) ++ ((cW cy ad en x ++ [((ob, .inl (cy 6, 1, .inr (.inl fo))) : Nat × va_E)]) ++ [((od, .inl (cy 7, 1, .inr (.inr (.inr (.inl fd))))) : Nat × va_E)])) := pm_D pmM hD
  refine fV (w1 := (mW cy am m0)) (w2 := ((cW cy ad en x ++ [((ob, .inl (cy 6, 1, .inr (.inl fo))) : Nat × va_E)]) ++ [((od, .inl (cy 7, 1, .inr (.inr (.inr (.inl fd))))) : Nat × va_E)])) (As := []) (rest := [.int r]) hx hb hml hown hw hK8 hN hA hl.1 hP hD hS k_1856 k_1857 k_1858 k_90 k_1859 (met_X10_coinsAgain l D cy _ am m0 bb m' hFm) (fun _ _ _ => trivial) Xok_T (gM (am := am) (r := 0) (m := m0) (f := m0 0) (by decide) rfl) rfl ⟨rfl, rfl⟩ (n := 0) (by decide +kernel) rfl ⟨Nat.le_of_ble_eq_true rfl, Nat.le_of_ble_eq_true rfl⟩ hcs0 (Nat.le_of_ble_eq_true rfl) rfl dL_law_1415 (fun H locs hP hD hS => ?_)
  have hP : va_P D vwCl ((cW cy ad en x ++ [(ob, .inl (cy 6, 1, .inr (.inl fo)))]) ++ (mW cy am m' ++ [(od, .inl (cy 7, 1, .inr (.inr (.inr (.inl fd)))))])) H := pm_P pmM.symm hP
  have hD : va_D A ((cW cy ad en x ++ [(ob, .inl (cy 6, 1, .inr (.inl fo)))]) ++ (mW cy am m' ++ [(od, .inl (cy 7, 1, .inr (.inr (.inr (.inl fd)))))])) := pm_D pmM.symm hD
  refine lv_icmp_eq (tgt := 2250) hx hb dL_law_1418 (by decide) (fun _ => ?_) (fun h => absurd hcmp h)
  exact kk _ _ _ _ H locs ls hInv (cvP hP rfl) (cvD hD rfl) hS (lv_sub hl [0, 1, 2, 3, 4, 5] rfl)
def OK_greatest (Inv : Mem → (Nat → Nat → Int32) → Prop) (x : Mem) (m : Nat → Nat → Int32) (p1 : Int32) : Prop := ∃ (code : Int32) (r : Int32) (bb : Int32) (m' : Nat → Nat → Int32), (code = 0 ∨ code = 1) ∧ D_X9_greatest x p1 = some (code, r) ∧ D_X10_greatest m p1 = some (bb, m') ∧ D_X10_thrown m' = code ∧ (code = 0 → r = bb) ∧ Inv x m'
set_option maxHeartbeats 4000000 in
theorem lw_greatest {Inv : Mem → (Nat → Nat → Int32) → Prop} {p : Program} {l : Launch} (hst0 : l.stackTraces = false) {e : Env} {s : State} {m : MethodId} {below : List Frame} {meth : Method} {c : Code} {b L : Nat} {xs : Nat → Int32} {A : Nat → Prop} {D : va_G} {cy : Nat → ClassId} {en g : Nat → Nat} {Q : State → Prop} (hC : LC p s m c b L xs A D cy en g) {ad : Nat → Nat → Nat} {am : Nat → Nat} {ob od : Nat} {x : Mem} {m0 : Nat → Nat → Int32} {fo : Nat → Int64} {fd : Nat → UInt64} {i : Int32} {H : Heap} {locs : List Loc} {ls : Array Slot} {cells slots : Nat} (h1 : vp_in (i + 1) L) (h2 : vp_in (i + 2) L) (h3 : vp_in (i + 3) L) (hcs : cells + 2 ≤ room_1.cells ∧ slots + 12 ≤ room_1.slots) (hop : OK_greatest Inv x m0 (xs (i + 1).toNatClampNeg)) (hP : va_P D vwCl ((cW cy ad en x ++ [(ob, .inl (cy 6, 1, .inr (.inl fo)))]) ++ (mW cy am m0 ++ [(od, .inl (cy 7, 1, .inr (.inr (.inr (.inl fd)))))])) H) (hD : va_D A ((cW cy ad en x ++ [(ob, .inl (cy 6, 1, .inr (.inl fo)))]) ++ (mW cy am m0 ++ [(od, .inl (cy 7, 1, .inr (.inr (.inr (.inl fd)))))]))) (hS : va_S A s.heap H locs) (hl : lv_has ls 9 [(0, .ref b), (1, .ref (ad 12 0)), (2, .ref (am 0)), (3, .ref ob), (4, .ref od), (5, .int i)]) (kk : ∀ (x' : Mem) (m' : Nat → Nat → Int32) (fo' : Nat → Int64) (fd' : Nat → UInt64) (H : Heap) (locs : List Loc) (ls : Array Slot), Inv x' m' → va_P D vwCl ((cW cy ad en x' ++ [(ob, .inl (cy 6, 1, .inr (.inl fo')))]) ++ (mW cy am m' ++ [(od, .inl (cy 7, 1, .inr (.inr (.inr (.inl fd')))))])) H → va_D A ((cW cy ad en x' ++ [(ob, .inl (cy 6, 1, .inr (.inl fo')))]) ++ (mW cy am m' ++ [(od, .inl (cy 7, 1, .inr (.inr (.inr (.inl fd')))))])) → va_S A s.heap H locs → lv_has ls 9 [(0, .ref b), (1, .ref (ad 12 0)), (2, .ref (am 0)), (3, .ref ob), (4, .ref od), (5, .int i)] → W p l e room_1 s m #[Value.ref b] below meth c H locs (cells + 2) (slots + 12) Q (F0 m 2250 ls [])) : W p l e room_1 s m #[Value.ref b] below meth c H locs cells slots Q (F0 m 1423 ls []) := by
  obtain ⟨hx, hb, hml, hown, hw, hK8, hN, hST, hX, hbl, hbA, hA⟩ := hC
  have hK := hKL hK8
  have hcs0 : cells ≤ room_1.cells ∧ slots ≤ room_1.slots := ⟨Nat.le_trans (Nat.le_add_right _ 2) hcs.1, Nat.le_trans (Nat.le_add_right _ 12) hcs.2⟩
  have hcsA : cells + 2 ≤ room_1.cells ∧ slots + 12 ≤ room_1.slots := hcs
  obtain ⟨code, r, bb, m', hcd, hF, hFm, hthr, heq, hInv⟩ := hop
  refine lv_aload_n hx hb dL_law_1423 rfl (lv_at hl 1 rfl) ?_
  refine lv_aload_n hx hb dL_law_1424 rfl (lv_at hl 0 rfl) ?_
  refine lv_iload hx hb dL_law_1425 (lv_at hl 5 rfl) ?_
  refine lv_iconst (v := 1) hx hb dL_law_1427 (by decide) ?_
  refine lv_iadd hx hb dL_law_1428 ?_
  refine va_sld hx hb hX hbl hbA hS h1 dL_law_1429 ?_
  refine lv_aload_n hx hb dL_law_1430 rfl (lv_at hl 3 rfl) ?_
  refine fW (w1 := (cW cy ad en x ++ [((ob, .inl (cy 6, 1, .inr (.inl fo))) : Nat × va_E)])) (w2 := (mW cy am m0 ++ [((od, .inl (cy 7, 1, .inr (.inr (.inr (.inl fd))))) : Nat × va_E)])) (As := [.ref (ad 12 0), .int (xs (i + 1).toNatClampNeg), .ref ob]) (rest := []) hx hb hml hown hw hK8 hN hA hl.1 hP hD hS hST k_975 k_976 k_75 k_977 (met_L_greatest l hst0 D cy _ ad en g x (xs (i + 1).toNatClampNeg) ob fo code r hcd hF) ⟨rfl, rfl⟩ (n := 3) (by decide +kernel) rfl ⟨Nat.le_of_ble_eq_true rfl, Nat.le_of_ble_eq_true rfl⟩ hcs (Nat.le_of_ble_eq_true rfl) rfl dL_law_1431 (fun H locs hP hD hS => ?_)
  refine lv_istore (lv' := [(6, .int code), (0, .ref b), (1, .ref (ad 12 0)), (2, .ref (am 0)), (3, .ref ob), (4, .ref od), (5, .int i)]) hx hb dL_law_1434 hl (by decide) rfl (fun ls hl => ?_)
  refine lv_aload_n hx hb dL_law_1436 rfl (lv_at hl 3 rfl) ?_
  refine lv_aload_n hx hb dL_law_1437 rfl (lv_at hl 1 rfl) ?_
  refine lv_iload hx hb dL_law_1438 (lv_at hl 6 rfl) ?_
  refine lv_iconst (v := 1) hx hb dL_law_1440 (by decide) ?_
  refine lv_iadd hx hb dL_law_1441 ?_
  refine va_sld hx hb hX hbl hbA hS h1 dL_law_1442 ?_
  have hP : va_P D vwCl ((mW cy am m0) ++ ((cW cy ad en x ++ [((ob, .inl (cy 6, 1, .inr (.inl (if code = 0 then (vp_updL fo (0 : Int32).toNatClampNeg r.toInt64) else fo)))) : Nat × va_E)]) ++ [((od, .inl (cy 7, 1, .inr (.inr (.inr (.inl fd))))) : Nat × va_E)])) H := pm_P pmM hP
  have hD : va_D A ((mW cy am m0) ++ ((cW cy ad en x ++ [((ob, .inl (cy 6, 1, .inr (.inl (if code = 0 then (vp_updL fo (0 : Int32).toNatClampNeg r.toInt64) else fo)))) : Nat × va_E)]) ++ [((od, .inl (cy 7, 1, .inr (.inr (.inr (.inl fd))))) : Nat × va_E)])) := pm_D pmM hD
  refine fV (w1 := (mW cy am m0)) (w2 := ((cW cy ad en x ++ [((ob, .inl (cy 6, 1, .inr (.inl (if code = 0 then (vp_updL fo (0 : Int32).toNatClampNeg r.toInt64) else fo)))) : Nat × va_E)]) ++ [((od, .inl (cy 7, 1, .inr (.inr (.inr (.inl fd))))) : Nat × va_E)])) (As := [.int (xs (i + 1).toNatClampNeg)]) (rest := []) hx hb hml hown hw hK8 hN hA hl.1 hP hD hS k_1861 k_1862 k_1863 k_90 k_1864 (met_X10_greatest l D cy _ am m0 (xs (i + 1).toNatClampNeg) bb m' hFm) (fun _ _ _ => trivial) Xok_T (gM (am := am) (r := 0) (m := m0) (f := m0 0) (by decide) rfl) rfl ⟨rfl, rfl⟩ (n := 1) (by decide +kernel) rfl ⟨Nat.le_of_ble_eq_true rfl, Nat.le_of_ble_eq_true rfl⟩ hcsA (Nat.le_of_ble_eq_true rfl) rfl dL_law_1443 (fun H locs hP hD hS => ?_)
  have hP : va_P D vwCl ((cW cy ad en x ++ [(ob, .inl (cy 6, 1, .inr (.inl (if code = 0 then (vp_updL fo (0 : Int32).toNatClampNeg r.toInt64) else fo))))]) ++ (mW cy am m' ++ [(od, .inl (cy 7, 1, .inr (.inr (.inr (.inl fd)))))])) H := pm_P pmM.symm hP
  have hD : va_D A ((cW cy ad en x ++ [(ob, .inl (cy 6, 1, .inr (.inl (if code = 0 then (vp_updL fo (0 : Int32).toNatClampNeg r.toInt64) else fo))))]) ++ (mW cy am m' ++ [(od, .inl (cy 7, 1, .inr (.inr (.inr (.inl fd)))))])) := pm_D pmM.symm hD
  refine lv_istore (lv' := [(7, .int bb), (6, .int code), (0, .ref b), (1, .ref (ad 12 0)), (2, .ref (am 0)), (3, .ref ob), (4, .ref od), (5, .int i)]) hx hb dL_law_1446 hl (by decide) rfl (fun ls hl => ?_)
  refine lv_aload_n hx hb dL_law_1448 rfl (lv_at hl 4 rfl) ?_
  have hP : va_P D vwCl ((mW cy am m') ++ ((cW cy ad en x ++ [((ob, .inl (cy 6, 1, .inr (.inl (if code = 0 then (vp_updL fo (0 : Int32).toNatClampNeg r.toInt64) else fo)))) : Nat × va_E)]) ++ [((od, .inl (cy 7, 1, .inr (.inr (.inr (.inl fd))))) : Nat × va_E)])) H := pm_P pmM hP
  have hD : va_D A ((mW cy am m') ++ ((cW cy ad en x ++ [((ob, .inl (cy 6, 1, .inr (.inl (if code = 0 then (vp_updL fo (0 : Int32).toNatClampNeg r.toInt64) else fo)))) : Nat × va_E)]) ++ [((od, .inl (cy 7, 1, .inr (.inr (.inr (.inl fd))))) : Nat × va_E)])) := pm_D pmM hD
  refine fV (w1 := (mW cy am m')) (w2 := ((cW cy ad en x ++ [((ob, .inl (cy 6, 1, .inr (.inl (if code = 0 then (vp_updL fo (0 : Int32).toNatClampNeg r.toInt64) else fo)))) : Nat × va_E)]) ++ [((od, .inl (cy 7, 1, .inr (.inr (.inr (.inl fd))))) : Nat × va_E)])) (As := []) (rest := []) hx hb hml hown hw hK8 hN hA hl.1 hP hD hS k_1625 k_1626 k_1627 k_90 k_1628 (met_X10_thrown l D cy _ am m' code hthr) (fun _ _ _ => trivial) Xok_T (gM (am := am) (r := 0) (m := m') (f := m' 0) (by decide) rfl) rfl ⟨rfl, rfl⟩ (n := 0) (by decide +kernel) rfl ⟨Nat.le_of_ble_eq_true rfl, Nat.le_of_ble_eq_true rfl⟩ hcsA (Nat.le_of_ble_eq_true rfl) rfl dL_law_1449 (fun H locs hP hD hS => ?_)
  have hP : va_P D vwCl ((cW cy ad en x ++ [(ob, .inl (cy 6, 1, .inr (.inl (if code = 0 then (vp_updL fo (0 : Int32).toNatClampNeg r.toInt64) else fo))))]) ++ (mW cy am m' ++ [(od, .inl (cy 7, 1, .inr (.inr (.inr (.inl fd)))))])) H := pm_P pmM.symm hP
  have hD : va_D A ((cW cy ad en x ++ [(ob, .inl (cy 6, 1, .inr (.inl (if code = 0 then (vp_updL fo (0 : Int32).toNatClampNeg r.toInt64) else fo))))]) ++ (mW cy am m' ++ [(od, .inl (cy 7, 1, .inr (.inr (.inr (.inl fd)))))])) := pm_D pmM.symm hD
  refine lv_iload hx hb dL_law_1452 (lv_at hl 1 rfl) ?_
  refine lv_icmp_eq (tgt := 1459) hx hb dL_law_1454 (by decide) (fun _ => ?_) (fun h => absurd rfl h)
  refine lv_iload hx hb dL_law_1459 (lv_at hl 1 rfl) ?_
  refine lv_if_ne (tgt := 1476) hx hb dL_law_1461 (by decide) (fun hk => ?_) (fun hk => ?_)
  · refine lv_goto (tgt := 2250) hx hb dL_law_1476 (by decide) ?_
    exact kk _ _ _ _ H locs ls hInv (cvP hP rfl) (cvD hD rfl) hS (lv_sub hl [2, 3, 4, 5, 6, 7] rfl)
  · have hk0 : code = 0 := hk
    have heq := heq hk0
    refine lv_aload_n hx hb dL_law_1464 rfl (lv_at hl 5 rfl) ?_
    refine lv_iconst (v := 0) hx hb dL_law_1465 (by decide) ?_
    refine va_lald hx hb hK8 hP _ 6 (gA gL) rfl (vp_in_iff.mpr (by decide)) dL_law_1466 ?_
    refine lv_iload hx hb dL_law_1467 (lv_at hl 0 rfl) ?_
    refine lv_i2l hx hb dL_law_1469 rfl ?_
    refine W.lcmp hx hb dL_law_1470 ?_
    refine lv_if_eq (tgt := 1476) hx hb dL_law_1471 (by decide) (fun _ => ?_) (fun h => absurd ?_ h)
    · refine lv_goto (tgt := 2250) hx hb dL_law_1476 (by decide) ?_
      exact kk _ _ _ _ H locs ls hInv (cvP hP rfl) (cvD hD rfl) hS (lv_sub hl [2, 3, 4, 5, 6, 7] rfl)
    · rw [lg_cmp_eq, heq, if_pos hk0]; rfl
def OK_ranked (Inv : Mem → (Nat → Nat → Int32) → Prop) (x : Mem) (m : Nat → Nat → Int32) (p1 : Int32) : Prop := ∃ (code : Int32) (r : Int32) (bb : Int32) (m' : Nat → Nat → Int32), (code = 0 ∨ code = 1) ∧ D_X9_ranked x p1 = some (code, r) ∧ D_X10_ranked m p1 = some (bb, m') ∧ D_X10_thrown m' = code ∧ (code = 0 → r = bb) ∧ Inv x m'
set_option maxHeartbeats 4000000 in
theorem lw_ranked {Inv : Mem → (Nat → Nat → Int32) → Prop} {p : Program} {l : Launch} (hst0 : l.stackTraces = false) {e : Env} {s : State} {m : MethodId} {below : List Frame} {meth : Method} {c : Code} {b L : Nat} {xs : Nat → Int32} {A : Nat → Prop} {D : va_G} {cy : Nat → ClassId} {en g : Nat → Nat} {Q : State → Prop} (hC : LC p s m c b L xs A D cy en g) {ad : Nat → Nat → Nat} {am : Nat → Nat} {ob od : Nat} {x : Mem} {m0 : Nat → Nat → Int32} {fo : Nat → Int64} {fd : Nat → UInt64} {i : Int32} {H : Heap} {locs : List Loc} {ls : Array Slot} {cells slots : Nat} (h1 : vp_in (i + 1) L) (h2 : vp_in (i + 2) L) (h3 : vp_in (i + 3) L) (hcs : cells + 2 ≤ room_1.cells ∧ slots + 12 ≤ room_1.slots) (hop : OK_ranked Inv x m0 (xs (i + 1).toNatClampNeg)) (hP : va_P D vwCl ((cW cy ad en x ++ [(ob, .inl (cy 6, 1, .inr (.inl fo)))]) ++ (mW cy am m0 ++ [(od, .inl (cy 7, 1, .inr (.inr (.inr (.inl fd)))))])) H) (hD : va_D A ((cW cy ad en x ++ [(ob, .inl (cy 6, 1, .inr (.inl fo)))]) ++ (mW cy am m0 ++ [(od, .inl (cy 7, 1, .inr (.inr (.inr (.inl fd)))))]))) (hS : va_S A s.heap H locs) (hl : lv_has ls 9 [(0, .ref b), (1, .ref (ad 12 0)), (2, .ref (am 0)), (3, .ref ob), (4, .ref od), (5, .int i)]) (kk : ∀ (x' : Mem) (m' : Nat → Nat → Int32) (fo' : Nat → Int64) (fd' : Nat → UInt64) (H : Heap) (locs : List Loc) (ls : Array Slot), Inv x' m' → va_P D vwCl ((cW cy ad en x' ++ [(ob, .inl (cy 6, 1, .inr (.inl fo')))]) ++ (mW cy am m' ++ [(od, .inl (cy 7, 1, .inr (.inr (.inr (.inl fd')))))])) H → va_D A ((cW cy ad en x' ++ [(ob, .inl (cy 6, 1, .inr (.inl fo')))]) ++ (mW cy am m' ++ [(od, .inl (cy 7, 1, .inr (.inr (.inr (.inl fd')))))])) → va_S A s.heap H locs → lv_has ls 9 [(0, .ref b), (1, .ref (ad 12 0)), (2, .ref (am 0)), (3, .ref ob), (4, .ref od), (5, .int i)] → W p l e room_1 s m #[Value.ref b] below meth c H locs (cells + 2) (slots + 12) Q (F0 m 2250 ls [])) : W p l e room_1 s m #[Value.ref b] below meth c H locs cells slots Q (F0 m 1479 ls []) := by
  obtain ⟨hx, hb, hml, hown, hw, hK8, hN, hST, hX, hbl, hbA, hA⟩ := hC
  have hK := hKL hK8
  have hcs0 : cells ≤ room_1.cells ∧ slots ≤ room_1.slots := ⟨Nat.le_trans (Nat.le_add_right _ 2) hcs.1, Nat.le_trans (Nat.le_add_right _ 12) hcs.2⟩
  have hcsA : cells + 2 ≤ room_1.cells ∧ slots + 12 ≤ room_1.slots := hcs
  obtain ⟨code, r, bb, m', hcd, hF, hFm, hthr, heq, hInv⟩ := hop
  refine lv_aload_n hx hb dL_law_1479 rfl (lv_at hl 1 rfl) ?_
  refine lv_aload_n hx hb dL_law_1480 rfl (lv_at hl 0 rfl) ?_
  refine lv_iload hx hb dL_law_1481 (lv_at hl 5 rfl) ?_
  refine lv_iconst (v := 1) hx hb dL_law_1483 (by decide) ?_
  refine lv_iadd hx hb dL_law_1484 ?_
  refine va_sld hx hb hX hbl hbA hS h1 dL_law_1485 ?_
  refine lv_aload_n hx hb dL_law_1486 rfl (lv_at hl 3 rfl) ?_
  refine fW (w1 := (cW cy ad en x ++ [((ob, .inl (cy 6, 1, .inr (.inl fo))) : Nat × va_E)])) (w2 := (mW cy am m0 ++ [((od, .inl (cy 7, 1, .inr (.inr (.inr (.inl fd))))) : Nat × va_E)])) (As := [.ref (ad 12 0), .int (xs (i + 1).toNatClampNeg), .ref ob]) (rest := []) hx hb hml hown hw hK8 hN hA hl.1 hP hD hS hST k_999 k_1000 k_75 k_1001 (met_L_ranked l hst0 D cy _ ad en g x (xs (i + 1).toNatClampNeg) ob fo code r hcd hF) ⟨rfl, rfl⟩ (n := 3) (by decide +kernel) rfl ⟨Nat.le_of_ble_eq_true rfl, Nat.le_of_ble_eq_true rfl⟩ hcs (Nat.le_of_ble_eq_true rfl) rfl dL_law_1487 (fun H locs hP hD hS => ?_)
  refine lv_istore (lv' := [(6, .int code), (0, .ref b), (1, .ref (ad 12 0)), (2, .ref (am 0)), (3, .ref ob), (4, .ref od), (5, .int i)]) hx hb dL_law_1490 hl (by decide) rfl (fun ls hl => ?_)
  refine lv_aload_n hx hb dL_law_1492 rfl (lv_at hl 3 rfl) ?_
  refine lv_aload_n hx hb dL_law_1493 rfl (lv_at hl 1 rfl) ?_
  refine lv_iload hx hb dL_law_1494 (lv_at hl 6 rfl) ?_
  refine lv_iconst (v := 1) hx hb dL_law_1496 (by decide) ?_
  refine lv_iadd hx hb dL_law_1497 ?_
  refine va_sld hx hb hX hbl hbA hS h1 dL_law_1498 ?_
  have hP : va_P D vwCl ((mW cy am m0) ++ ((cW cy ad en x ++ [((ob, .inl (cy 6, 1, .inr (.inl (if code = 0 then (vp_updL fo (0 : Int32).toNatClampNeg r.toInt64) else fo)))) : Nat × va_E)]) ++ [((od, .inl (cy 7, 1, .inr (.inr (.inr (.inl fd))))) : Nat × va_E)])) H := pm_P pmM hP
  have hD : va_D A ((mW cy am m0) ++ ((cW cy ad en x ++ [((ob, .inl (cy 6, 1, .inr (.inl (if code = 0 then (vp_updL fo (0 : Int32).toNatClampNeg r.toInt64) else fo)))) : Nat × va_E)]) ++ [((od, .inl (cy 7, 1, .inr (.inr (.inr (.inl fd))))) : Nat × va_E)])) := pm_D pmM hD
  refine fV (w1 := (mW cy am m0)) (w2 := ((cW cy ad en x ++ [((ob, .inl (cy 6, 1, .inr (.inl (if code = 0 then (vp_updL fo (0 : Int32).toNatClampNeg r.toInt64) else fo)))) : Nat × va_E)]) ++ [((od, .inl (cy 7, 1, .inr (.inr (.inr (.inl fd))))) : Nat × va_E)])) (As := [.int (xs (i + 1).toNatClampNeg)]) (rest := []) hx hb hml hown hw hK8 hN hA hl.1 hP hD hS k_1865 k_1866 k_1867 k_90 k_1868 (met_X10_ranked l D cy _ am m0 (xs (i + 1).toNatClampNeg) bb m' hFm) (fun _ _ _ => trivial) Xok_T (gM (am := am) (r := 0) (m := m0) (f := m0 0) (by decide) rfl) rfl ⟨rfl, rfl⟩ (n := 1) (by decide +kernel) rfl ⟨Nat.le_of_ble_eq_true rfl, Nat.le_of_ble_eq_true rfl⟩ hcsA (Nat.le_of_ble_eq_true rfl) rfl dL_law_1499 (fun H locs hP hD hS => ?_)
  have hP : va_P D vwCl ((cW cy ad en x ++ [(ob, .inl (cy 6, 1, .inr (.inl (if code = 0 then (vp_updL fo (0 : Int32).toNatClampNeg r.toInt64) else fo))))]) ++ (mW cy am m' ++ [(od, .inl (cy 7, 1, .inr (.inr (.inr (.inl fd)))))])) H := pm_P pmM.symm hP
  have hD : va_D A ((cW cy ad en x ++ [(ob, .inl (cy 6, 1, .inr (.inl (if code = 0 then (vp_updL fo (0 : Int32).toNatClampNeg r.toInt64) else fo))))]) ++ (mW cy am m' ++ [(od, .inl (cy 7, 1, .inr (.inr (.inr (.inl fd)))))])) := pm_D pmM.symm hD
  refine lv_istore (lv' := [(7, .int bb), (6, .int code), (0, .ref b), (1, .ref (ad 12 0)), (2, .ref (am 0)), (3, .ref ob), (4, .ref od), (5, .int i)]) hx hb dL_law_1502 hl (by decide) rfl (fun ls hl => ?_)
  refine lv_aload_n hx hb dL_law_1504 rfl (lv_at hl 4 rfl) ?_
  have hP : va_P D vwCl ((mW cy am m') ++ ((cW cy ad en x ++ [((ob, .inl (cy 6, 1, .inr (.inl (if code = 0 then (vp_updL fo (0 : Int32).toNatClampNeg r.toInt64) else fo)))) : Nat × va_E)]) ++ [((od, .inl (cy 7, 1, .inr (.inr (.inr (.inl fd))))) : Nat × va_E)])) H := pm_P pmM hP
  have hD : va_D A ((mW cy am m') ++ ((cW cy ad en x ++ [((ob, .inl (cy 6, 1, .inr (.inl (if code = 0 then (vp_updL fo (0 : Int32).toNatClampNeg r.toInt64) else fo)))) : Nat × va_E)]) ++ [((od, .inl (cy 7, 1, .inr (.inr (.inr (.inl fd))))) : Nat × va_E)])) := pm_D pmM hD
  refine fV (w1 := (mW cy am m')) (w2 := ((cW cy ad en x ++ [((ob, .inl (cy 6, 1, .inr (.inl (if code = 0 then (vp_updL fo (0 : Int32).toNatClampNeg r.toInt64) else fo)))) : Nat × va_E)]) ++ [((od, .inl (cy 7, 1, .inr (.inr (.inr (.inl fd))))) : Nat × va_E)])) (As := []) (rest := []) hx hb hml hown hw hK8 hN hA hl.1 hP hD hS k_1625 k_1626 k_1627 k_90 k_1628 (met_X10_thrown l D cy _ am m' code hthr) (fun _ _ _ => trivial) Xok_T (gM (am := am) (r := 0) (m := m') (f := m' 0) (by decide) rfl) rfl ⟨rfl, rfl⟩ (n := 0) (by decide +kernel) rfl ⟨Nat.le_of_ble_eq_true rfl, Nat.le_of_ble_eq_true rfl⟩ hcsA (Nat.le_of_ble_eq_true rfl) rfl dL_law_1505 (fun H locs hP hD hS => ?_)
  have hP : va_P D vwCl ((cW cy ad en x ++ [(ob, .inl (cy 6, 1, .inr (.inl (if code = 0 then (vp_updL fo (0 : Int32).toNatClampNeg r.toInt64) else fo))))]) ++ (mW cy am m' ++ [(od, .inl (cy 7, 1, .inr (.inr (.inr (.inl fd)))))])) H := pm_P pmM.symm hP
  have hD : va_D A ((cW cy ad en x ++ [(ob, .inl (cy 6, 1, .inr (.inl (if code = 0 then (vp_updL fo (0 : Int32).toNatClampNeg r.toInt64) else fo))))]) ++ (mW cy am m' ++ [(od, .inl (cy 7, 1, .inr (.inr (.inr (.inl fd)))))])) := pm_D pmM.symm hD
  refine lv_iload hx hb dL_law_1508 (lv_at hl 1 rfl) ?_
  refine lv_icmp_eq (tgt := 1515) hx hb dL_law_1510 (by decide) (fun _ => ?_) (fun h => absurd rfl h)
  refine lv_iload hx hb dL_law_1515 (lv_at hl 1 rfl) ?_
  refine lv_if_ne (tgt := 1532) hx hb dL_law_1517 (by decide) (fun hk => ?_) (fun hk => ?_)
  · refine lv_goto (tgt := 2250) hx hb dL_law_1532 (by decide) ?_
    exact kk _ _ _ _ H locs ls hInv (cvP hP rfl) (cvD hD rfl) hS (lv_sub hl [2, 3, 4, 5, 6, 7] rfl)
  · have hk0 : code = 0 := hk
    have heq := heq hk0
    refine lv_aload_n hx hb dL_law_1520 rfl (lv_at hl 5 rfl) ?_
    refine lv_iconst (v := 0) hx hb dL_law_1521 (by decide) ?_
    refine va_lald hx hb hK8 hP _ 6 (gA gL) rfl (vp_in_iff.mpr (by decide)) dL_law_1522 ?_
    refine lv_iload hx hb dL_law_1523 (lv_at hl 0 rfl) ?_
    refine lv_i2l hx hb dL_law_1525 rfl ?_
    refine W.lcmp hx hb dL_law_1526 ?_
    refine lv_if_eq (tgt := 1532) hx hb dL_law_1527 (by decide) (fun _ => ?_) (fun h => absurd ?_ h)
    · refine lv_goto (tgt := 2250) hx hb dL_law_1532 (by decide) ?_
      exact kk _ _ _ _ H locs ls hInv (cvP hP rfl) (cvD hD rfl) hS (lv_sub hl [2, 3, 4, 5, 6, 7] rfl)
    · rw [lg_cmp_eq, heq, if_pos hk0]; rfl
def OK_feed (Inv : Mem → (Nat → Nat → Int32) → Prop) (x : Mem) (m : Nat → Nat → Int32) (p1 : Int32) : Prop := ∃ (code : Int32) (r : Int32) (x' : Mem) (bb : Int32) (m' : Nat → Nat → Int32), (code = 0 ∨ code = 1) ∧ D_X9_feed x p1 = some (code, r, x') ∧ D_X10_feed m p1 = some (bb, m') ∧ D_X10_thrown m' = code ∧ (code = 0 → r = bb) ∧ Inv x' m'
set_option maxHeartbeats 4000000 in
theorem lw_feed {Inv : Mem → (Nat → Nat → Int32) → Prop} {p : Program} {l : Launch} (hst0 : l.stackTraces = false) {e : Env} {s : State} {m : MethodId} {below : List Frame} {meth : Method} {c : Code} {b L : Nat} {xs : Nat → Int32} {A : Nat → Prop} {D : va_G} {cy : Nat → ClassId} {en g : Nat → Nat} {Q : State → Prop} (hC : LC p s m c b L xs A D cy en g) {ad : Nat → Nat → Nat} {am : Nat → Nat} {ob od : Nat} {x : Mem} {m0 : Nat → Nat → Int32} {fo : Nat → Int64} {fd : Nat → UInt64} {i : Int32} {H : Heap} {locs : List Loc} {ls : Array Slot} {cells slots : Nat} (h1 : vp_in (i + 1) L) (h2 : vp_in (i + 2) L) (h3 : vp_in (i + 3) L) (hcs : cells + 2 ≤ room_1.cells ∧ slots + 12 ≤ room_1.slots) (hop : OK_feed Inv x m0 ((((xs (i + 1).toNatClampNeg)).toUInt32 % 65536).toInt32)) (hP : va_P D vwCl ((cW cy ad en x ++ [(ob, .inl (cy 6, 1, .inr (.inl fo)))]) ++ (mW cy am m0 ++ [(od, .inl (cy 7, 1, .inr (.inr (.inr (.inl fd)))))])) H) (hD : va_D A ((cW cy ad en x ++ [(ob, .inl (cy 6, 1, .inr (.inl fo)))]) ++ (mW cy am m0 ++ [(od, .inl (cy 7, 1, .inr (.inr (.inr (.inl fd)))))]))) (hS : va_S A s.heap H locs) (hl : lv_has ls 9 [(0, .ref b), (1, .ref (ad 12 0)), (2, .ref (am 0)), (3, .ref ob), (4, .ref od), (5, .int i)]) (kk : ∀ (x' : Mem) (m' : Nat → Nat → Int32) (fo' : Nat → Int64) (fd' : Nat → UInt64) (H : Heap) (locs : List Loc) (ls : Array Slot), Inv x' m' → va_P D vwCl ((cW cy ad en x' ++ [(ob, .inl (cy 6, 1, .inr (.inl fo')))]) ++ (mW cy am m' ++ [(od, .inl (cy 7, 1, .inr (.inr (.inr (.inl fd')))))])) H → va_D A ((cW cy ad en x' ++ [(ob, .inl (cy 6, 1, .inr (.inl fo')))]) ++ (mW cy am m' ++ [(od, .inl (cy 7, 1, .inr (.inr (.inr (.inl fd')))))])) → va_S A s.heap H locs → lv_has ls 9 [(0, .ref b), (1, .ref (ad 12 0)), (2, .ref (am 0)), (3, .ref ob), (4, .ref od), (5, .int i)] → W p l e room_1 s m #[Value.ref b] below meth c H locs (cells + 2) (slots + 12) Q (F0 m 2250 ls [])) : W p l e room_1 s m #[Value.ref b] below meth c H locs cells slots Q (F0 m 1535 ls []) := by
  obtain ⟨hx, hb, hml, hown, hw, hK8, hN, hST, hX, hbl, hbA, hA⟩ := hC
  have hK := hKL hK8
  have hcs0 : cells ≤ room_1.cells ∧ slots ≤ room_1.slots := ⟨Nat.le_trans (Nat.le_add_right _ 2) hcs.1, Nat.le_trans (Nat.le_add_right _ 12) hcs.2⟩
  have hcsA : cells + 2 ≤ room_1.cells ∧ slots + 12 ≤ room_1.slots := hcs
  obtain ⟨code, r, x', bb, m', hcd, hF, hFm, hthr, heq, hInv⟩ := hop
  refine lv_aload_n hx hb dL_law_1535 rfl (lv_at hl 1 rfl) ?_
  refine lv_aload_n hx hb dL_law_1536 rfl (lv_at hl 0 rfl) ?_
  refine lv_iload hx hb dL_law_1537 (lv_at hl 5 rfl) ?_
  refine lv_iconst (v := 1) hx hb dL_law_1539 (by decide) ?_
  refine lv_iadd hx hb dL_law_1540 ?_
  refine va_sld hx hb hX hbl hbA hS h1 dL_law_1541 ?_
  refine lv_i2c (v := ((((xs (i + 1).toNatClampNeg)).toUInt32 % 65536).toInt32)) hx hb dL_law_1542 rfl ?_
  refine lv_aload_n hx hb dL_law_1543 rfl (lv_at hl 3 rfl) ?_
  refine fW (w1 := (cW cy ad en x ++ [((ob, .inl (cy 6, 1, .inr (.inl fo))) : Nat × va_E)])) (w2 := (mW cy am m0 ++ [((od, .inl (cy 7, 1, .inr (.inr (.inr (.inl fd))))) : Nat × va_E)])) (As := [.ref (ad 12 0), .int ((((xs (i + 1).toNatClampNeg)).toUInt32 % 65536).toInt32), .ref ob]) (rest := []) hx hb hml hown hw hK8 hN hA hl.1 hP hD hS hST k_1018 k_1019 k_75 k_1020 (met_L_feed l hst0 D cy _ ad en g x ((((xs (i + 1).toNatClampNeg)).toUInt32 % 65536).toInt32) ob fo code r x' hcd hF) ⟨rfl, rfl⟩ (n := 3) (by decide +kernel) rfl ⟨Nat.le_of_ble_eq_true rfl, Nat.le_of_ble_eq_true rfl⟩ hcs (Nat.le_of_ble_eq_true rfl) rfl dL_law_1544 (fun H locs hP hD hS => ?_)
  refine lv_istore (lv' := [(6, .int code), (0, .ref b), (1, .ref (ad 12 0)), (2, .ref (am 0)), (3, .ref ob), (4, .ref od), (5, .int i)]) hx hb dL_law_1547 hl (by decide) rfl (fun ls hl => ?_)
  refine lv_aload_n hx hb dL_law_1549 rfl (lv_at hl 3 rfl) ?_
  refine lv_aload_n hx hb dL_law_1550 rfl (lv_at hl 1 rfl) ?_
  refine lv_iload hx hb dL_law_1551 (lv_at hl 6 rfl) ?_
  refine lv_iconst (v := 1) hx hb dL_law_1553 (by decide) ?_
  refine lv_iadd hx hb dL_law_1554 ?_
  refine va_sld hx hb hX hbl hbA hS h1 dL_law_1555 ?_
  refine lv_i2c (v := ((((xs (i + 1).toNatClampNeg)).toUInt32 % 65536).toInt32)) hx hb dL_law_1556 rfl ?_
  have hP : va_P D vwCl ((mW cy am m0) ++ ((cW cy ad en x' ++ [((ob, .inl (cy 6, 1, .inr (.inl (if code = 0 then (vp_updL fo (0 : Int32).toNatClampNeg r.toInt64) else fo)))) : Nat × va_E)]) ++ [((od, .inl (cy 7, 1, .inr (.inr (.inr (.inl fd))))) : Nat × va_E)])) H := pm_P pmM hP
  have hD : va_D A ((mW cy am m0) ++ ((cW cy ad en x' ++ [((ob, .inl (cy 6, 1, .inr (.inl (if code = 0 then (vp_updL fo (0 : Int32).toNatClampNeg r.toInt64) else fo)))) : Nat × va_E)]) ++ [((od, .inl (cy 7, 1, .inr (.inr (.inr (.inl fd))))) : Nat × va_E)])) := pm_D pmM hD
  refine fV (w1 := (mW cy am m0)) (w2 := ((cW cy ad en x' ++ [((ob, .inl (cy 6, 1, .inr (.inl (if code = 0 then (vp_updL fo (0 : Int32).toNatClampNeg r.toInt64) else fo)))) : Nat × va_E)]) ++ [((od, .inl (cy 7, 1, .inr (.inr (.inr (.inl fd))))) : Nat × va_E)])) (As := [.int ((((xs (i + 1).toNatClampNeg)).toUInt32 % 65536).toInt32)]) (rest := []) hx hb hml hown hw hK8 hN hA hl.1 hP hD hS k_1869 k_1870 k_1871 k_90 k_1872 (met_X10_feed l D cy _ am m0 ((((xs (i + 1).toNatClampNeg)).toUInt32 % 65536).toInt32) bb m' hFm) (fun _ _ _ => trivial) Xok_T (gM (am := am) (r := 0) (m := m0) (f := m0 0) (by decide) rfl) rfl ⟨rfl, rfl⟩ (n := 1) (by decide +kernel) rfl ⟨Nat.le_of_ble_eq_true rfl, Nat.le_of_ble_eq_true rfl⟩ hcsA (Nat.le_of_ble_eq_true rfl) rfl dL_law_1557 (fun H locs hP hD hS => ?_)
  have hP : va_P D vwCl ((cW cy ad en x' ++ [(ob, .inl (cy 6, 1, .inr (.inl (if code = 0 then (vp_updL fo (0 : Int32).toNatClampNeg r.toInt64) else fo))))]) ++ (mW cy am m' ++ [(od, .inl (cy 7, 1, .inr (.inr (.inr (.inl fd)))))])) H := pm_P pmM.symm hP
  have hD : va_D A ((cW cy ad en x' ++ [(ob, .inl (cy 6, 1, .inr (.inl (if code = 0 then (vp_updL fo (0 : Int32).toNatClampNeg r.toInt64) else fo))))]) ++ (mW cy am m' ++ [(od, .inl (cy 7, 1, .inr (.inr (.inr (.inl fd)))))])) := pm_D pmM.symm hD
  refine lv_istore (lv' := [(7, .int bb), (6, .int code), (0, .ref b), (1, .ref (ad 12 0)), (2, .ref (am 0)), (3, .ref ob), (4, .ref od), (5, .int i)]) hx hb dL_law_1560 hl (by decide) rfl (fun ls hl => ?_)
  refine lv_aload_n hx hb dL_law_1562 rfl (lv_at hl 4 rfl) ?_
  have hP : va_P D vwCl ((mW cy am m') ++ ((cW cy ad en x' ++ [((ob, .inl (cy 6, 1, .inr (.inl (if code = 0 then (vp_updL fo (0 : Int32).toNatClampNeg r.toInt64) else fo)))) : Nat × va_E)]) ++ [((od, .inl (cy 7, 1, .inr (.inr (.inr (.inl fd))))) : Nat × va_E)])) H := pm_P pmM hP
  have hD : va_D A ((mW cy am m') ++ ((cW cy ad en x' ++ [((ob, .inl (cy 6, 1, .inr (.inl (if code = 0 then (vp_updL fo (0 : Int32).toNatClampNeg r.toInt64) else fo)))) : Nat × va_E)]) ++ [((od, .inl (cy 7, 1, .inr (.inr (.inr (.inl fd))))) : Nat × va_E)])) := pm_D pmM hD
  refine fV (w1 := (mW cy am m')) (w2 := ((cW cy ad en x' ++ [((ob, .inl (cy 6, 1, .inr (.inl (if code = 0 then (vp_updL fo (0 : Int32).toNatClampNeg r.toInt64) else fo)))) : Nat × va_E)]) ++ [((od, .inl (cy 7, 1, .inr (.inr (.inr (.inl fd))))) : Nat × va_E)])) (As := []) (rest := []) hx hb hml hown hw hK8 hN hA hl.1 hP hD hS k_1625 k_1626 k_1627 k_90 k_1628 (met_X10_thrown l D cy _ am m' code hthr) (fun _ _ _ => trivial) Xok_T (gM (am := am) (r := 0) (m := m') (f := m' 0) (by decide) rfl) rfl ⟨rfl, rfl⟩ (n := 0) (by decide +kernel) rfl ⟨Nat.le_of_ble_eq_true rfl, Nat.le_of_ble_eq_true rfl⟩ hcsA (Nat.le_of_ble_eq_true rfl) rfl dL_law_1563 (fun H locs hP hD hS => ?_)
  have hP : va_P D vwCl ((cW cy ad en x' ++ [(ob, .inl (cy 6, 1, .inr (.inl (if code = 0 then (vp_updL fo (0 : Int32).toNatClampNeg r.toInt64) else fo))))]) ++ (mW cy am m' ++ [(od, .inl (cy 7, 1, .inr (.inr (.inr (.inl fd)))))])) H := pm_P pmM.symm hP
  have hD : va_D A ((cW cy ad en x' ++ [(ob, .inl (cy 6, 1, .inr (.inl (if code = 0 then (vp_updL fo (0 : Int32).toNatClampNeg r.toInt64) else fo))))]) ++ (mW cy am m' ++ [(od, .inl (cy 7, 1, .inr (.inr (.inr (.inl fd)))))])) := pm_D pmM.symm hD
  refine lv_iload hx hb dL_law_1566 (lv_at hl 1 rfl) ?_
  refine lv_icmp_eq (tgt := 1573) hx hb dL_law_1568 (by decide) (fun _ => ?_) (fun h => absurd rfl h)
  refine lv_iload hx hb dL_law_1573 (lv_at hl 1 rfl) ?_
  refine lv_if_ne (tgt := 1590) hx hb dL_law_1575 (by decide) (fun hk => ?_) (fun hk => ?_)
  · refine lv_goto (tgt := 2250) hx hb dL_law_1590 (by decide) ?_
    exact kk _ _ _ _ H locs ls hInv (cvP hP rfl) (cvD hD rfl) hS (lv_sub hl [2, 3, 4, 5, 6, 7] rfl)
  · have hk0 : code = 0 := hk
    have heq := heq hk0
    refine lv_aload_n hx hb dL_law_1578 rfl (lv_at hl 5 rfl) ?_
    refine lv_iconst (v := 0) hx hb dL_law_1579 (by decide) ?_
    refine va_lald hx hb hK8 hP _ 6 (gA gL) rfl (vp_in_iff.mpr (by decide)) dL_law_1580 ?_
    refine lv_iload hx hb dL_law_1581 (lv_at hl 0 rfl) ?_
    refine lv_i2l hx hb dL_law_1583 rfl ?_
    refine W.lcmp hx hb dL_law_1584 ?_
    refine lv_if_eq (tgt := 1590) hx hb dL_law_1585 (by decide) (fun _ => ?_) (fun h => absurd ?_ h)
    · refine lv_goto (tgt := 2250) hx hb dL_law_1590 (by decide) ?_
      exact kk _ _ _ _ H locs ls hInv (cvP hP rfl) (cvD hD rfl) hS (lv_sub hl [2, 3, 4, 5, 6, 7] rfl)
    · rw [lg_cmp_eq, heq, if_pos hk0]; rfl
def OK_run (Inv : Mem → (Nat → Nat → Int32) → Prop) (x : Mem) (m : Nat → Nat → Int32) : Prop := ∃ (code : Int32) (r : Int32) (x' : Mem) (bb : Int32) (m' : Nat → Nat → Int32), (code = 0 ∨ code = 1 ∨ code = 2) ∧ D_X9_run x = some (code, r, x') ∧ D_X10_run m = some (bb, m') ∧ D_X10_thrown m' = code ∧ (code = 0 → r = bb) ∧ Inv x' m'
set_option maxHeartbeats 4000000 in
theorem lw_run {Inv : Mem → (Nat → Nat → Int32) → Prop} {p : Program} {l : Launch} (hst0 : l.stackTraces = false) {e : Env} {s : State} {m : MethodId} {below : List Frame} {meth : Method} {c : Code} {b L : Nat} {xs : Nat → Int32} {A : Nat → Prop} {D : va_G} {cy : Nat → ClassId} {en g : Nat → Nat} {Q : State → Prop} (hC : LC p s m c b L xs A D cy en g) {ad : Nat → Nat → Nat} {am : Nat → Nat} {ob od : Nat} {x : Mem} {m0 : Nat → Nat → Int32} {fo : Nat → Int64} {fd : Nat → UInt64} {i : Int32} {H : Heap} {locs : List Loc} {ls : Array Slot} {cells slots : Nat} (h1 : vp_in (i + 1) L) (h2 : vp_in (i + 2) L) (h3 : vp_in (i + 3) L) (hcs : cells + 2 ≤ room_1.cells ∧ slots + 12 ≤ room_1.slots) (hop : OK_run Inv x m0) (hP : va_P D vwCl ((cW cy ad en x ++ [(ob, .inl (cy 6, 1, .inr (.inl fo)))]) ++ (mW cy am m0 ++ [(od, .inl (cy 7, 1, .inr (.inr (.inr (.inl fd)))))])) H) (hD : va_D A ((cW cy ad en x ++ [(ob, .inl (cy 6, 1, .inr (.inl fo)))]) ++ (mW cy am m0 ++ [(od, .inl (cy 7, 1, .inr (.inr (.inr (.inl fd)))))]))) (hS : va_S A s.heap H locs) (hl : lv_has ls 9 [(0, .ref b), (1, .ref (ad 12 0)), (2, .ref (am 0)), (3, .ref ob), (4, .ref od), (5, .int i)]) (kk : ∀ (x' : Mem) (m' : Nat → Nat → Int32) (fo' : Nat → Int64) (fd' : Nat → UInt64) (H : Heap) (locs : List Loc) (ls : Array Slot), Inv x' m' → va_P D vwCl ((cW cy ad en x' ++ [(ob, .inl (cy 6, 1, .inr (.inl fo')))]) ++ (mW cy am m' ++ [(od, .inl (cy 7, 1, .inr (.inr (.inr (.inl fd')))))])) H → va_D A ((cW cy ad en x' ++ [(ob, .inl (cy 6, 1, .inr (.inl fo')))]) ++ (mW cy am m' ++ [(od, .inl (cy 7, 1, .inr (.inr (.inr (.inl fd')))))])) → va_S A s.heap H locs → lv_has ls 9 [(0, .ref b), (1, .ref (ad 12 0)), (2, .ref (am 0)), (3, .ref ob), (4, .ref od), (5, .int i)] → W p l e room_1 s m #[Value.ref b] below meth c H locs (cells + 2) (slots + 12) Q (F0 m 2250 ls [])) : W p l e room_1 s m #[Value.ref b] below meth c H locs cells slots Q (F0 m 1593 ls []) := by
  obtain ⟨hx, hb, hml, hown, hw, hK8, hN, hST, hX, hbl, hbA, hA⟩ := hC
  have hK := hKL hK8
  have hcs0 : cells ≤ room_1.cells ∧ slots ≤ room_1.slots := ⟨Nat.le_trans (Nat.le_add_right _ 2) hcs.1, Nat.le_trans (Nat.le_add_right _ 12) hcs.2⟩
  have hcsA : cells + 2 ≤ room_1.cells ∧ slots + 12 ≤ room_1.slots := hcs
  obtain ⟨code, r, x', bb, m', hcd, hF, hFm, hthr, heq, hInv⟩ := hop
  refine lv_aload_n hx hb dL_law_1593 rfl (lv_at hl 1 rfl) ?_
  refine lv_aload_n hx hb dL_law_1594 rfl (lv_at hl 3 rfl) ?_
  refine fW (w1 := (cW cy ad en x ++ [((ob, .inl (cy 6, 1, .inr (.inl fo))) : Nat × va_E)])) (w2 := (mW cy am m0 ++ [((od, .inl (cy 7, 1, .inr (.inr (.inr (.inl fd))))) : Nat × va_E)])) (As := [.ref (ad 12 0), .ref ob]) (rest := []) hx hb hml hown hw hK8 hN hA hl.1 hP hD hS hST k_1051 k_1052 k_75 k_1053 (met_L_run l hst0 D cy _ ad en g x ob fo code r x' hcd hF) ⟨rfl, rfl⟩ (n := 2) (by decide +kernel) rfl ⟨Nat.le_of_ble_eq_true rfl, Nat.le_of_ble_eq_true rfl⟩ hcs (Nat.le_of_ble_eq_true rfl) rfl dL_law_1595 (fun H locs hP hD hS => ?_)
  refine lv_istore (lv' := [(6, .int code), (0, .ref b), (1, .ref (ad 12 0)), (2, .ref (am 0)), (3, .ref ob), (4, .ref od), (5, .int i)]) hx hb dL_law_1598 hl (by decide) rfl (fun ls hl => ?_)
  refine lv_aload_n hx hb dL_law_1600 rfl (lv_at hl 3 rfl) ?_
  have hP : va_P D vwCl ((mW cy am m0) ++ ((cW cy ad en x' ++ [((ob, .inl (cy 6, 1, .inr (.inl (if code = 0 then (vp_updL fo (0 : Int32).toNatClampNeg r.toInt64) else fo)))) : Nat × va_E)]) ++ [((od, .inl (cy 7, 1, .inr (.inr (.inr (.inl fd))))) : Nat × va_E)])) H := pm_P pmM hP
  have hD : va_D A ((mW cy am m0) ++ ((cW cy ad en x' ++ [((ob, .inl (cy 6, 1, .inr (.inl (if code = 0 then (vp_updL fo (0 : Int32).toNatClampNeg r.toInt64) else fo)))) : Nat × va_E)]) ++ [((od, .inl (cy 7, 1, .inr (.inr (.inr (.inl fd))))) : Nat × va_E)])) := pm_D pmM hD
  refine fV (w1 := (mW cy am m0)) (w2 := ((cW cy ad en x' ++ [((ob, .inl (cy 6, 1, .inr (.inl (if code = 0 then (vp_updL fo (0 : Int32).toNatClampNeg r.toInt64) else fo)))) : Nat × va_E)]) ++ [((od, .inl (cy 7, 1, .inr (.inr (.inr (.inl fd))))) : Nat × va_E)])) (As := []) (rest := []) hx hb hml hown hw hK8 hN hA hl.1 hP hD hS k_1873 k_1874 k_1875 k_90 k_1876 (met_X10_run l D cy _ am m0 bb m' hFm) (fun _ _ _ => trivial) Xok_T (gM (am := am) (r := 0) (m := m0) (f := m0 0) (by decide) rfl) rfl ⟨rfl, rfl⟩ (n := 0) (by decide +kernel) rfl ⟨Nat.le_of_ble_eq_true rfl, Nat.le_of_ble_eq_true rfl⟩ hcsA (Nat.le_of_ble_eq_true rfl) rfl dL_law_1601 (fun H locs hP hD hS => ?_)
  have hP : va_P D vwCl ((cW cy ad en x' ++ [(ob, .inl (cy 6, 1, .inr (.inl (if code = 0 then (vp_updL fo (0 : Int32).toNatClampNeg r.toInt64) else fo))))]) ++ (mW cy am m' ++ [(od, .inl (cy 7, 1, .inr (.inr (.inr (.inl fd)))))])) H := pm_P pmM.symm hP
  have hD : va_D A ((cW cy ad en x' ++ [(ob, .inl (cy 6, 1, .inr (.inl (if code = 0 then (vp_updL fo (0 : Int32).toNatClampNeg r.toInt64) else fo))))]) ++ (mW cy am m' ++ [(od, .inl (cy 7, 1, .inr (.inr (.inr (.inl fd)))))])) := pm_D pmM.symm hD
  refine lv_istore (lv' := [(7, .int bb), (6, .int code), (0, .ref b), (1, .ref (ad 12 0)), (2, .ref (am 0)), (3, .ref ob), (4, .ref od), (5, .int i)]) hx hb dL_law_1604 hl (by decide) rfl (fun ls hl => ?_)
  refine lv_aload_n hx hb dL_law_1606 rfl (lv_at hl 4 rfl) ?_
  have hP : va_P D vwCl ((mW cy am m') ++ ((cW cy ad en x' ++ [((ob, .inl (cy 6, 1, .inr (.inl (if code = 0 then (vp_updL fo (0 : Int32).toNatClampNeg r.toInt64) else fo)))) : Nat × va_E)]) ++ [((od, .inl (cy 7, 1, .inr (.inr (.inr (.inl fd))))) : Nat × va_E)])) H := pm_P pmM hP
  have hD : va_D A ((mW cy am m') ++ ((cW cy ad en x' ++ [((ob, .inl (cy 6, 1, .inr (.inl (if code = 0 then (vp_updL fo (0 : Int32).toNatClampNeg r.toInt64) else fo)))) : Nat × va_E)]) ++ [((od, .inl (cy 7, 1, .inr (.inr (.inr (.inl fd))))) : Nat × va_E)])) := pm_D pmM hD
  refine fV (w1 := (mW cy am m')) (w2 := ((cW cy ad en x' ++ [((ob, .inl (cy 6, 1, .inr (.inl (if code = 0 then (vp_updL fo (0 : Int32).toNatClampNeg r.toInt64) else fo)))) : Nat × va_E)]) ++ [((od, .inl (cy 7, 1, .inr (.inr (.inr (.inl fd))))) : Nat × va_E)])) (As := []) (rest := []) hx hb hml hown hw hK8 hN hA hl.1 hP hD hS k_1625 k_1626 k_1627 k_90 k_1628 (met_X10_thrown l D cy _ am m' code hthr) (fun _ _ _ => trivial) Xok_T (gM (am := am) (r := 0) (m := m') (f := m' 0) (by decide) rfl) rfl ⟨rfl, rfl⟩ (n := 0) (by decide +kernel) rfl ⟨Nat.le_of_ble_eq_true rfl, Nat.le_of_ble_eq_true rfl⟩ hcsA (Nat.le_of_ble_eq_true rfl) rfl dL_law_1607 (fun H locs hP hD hS => ?_)
  have hP : va_P D vwCl ((cW cy ad en x' ++ [(ob, .inl (cy 6, 1, .inr (.inl (if code = 0 then (vp_updL fo (0 : Int32).toNatClampNeg r.toInt64) else fo))))]) ++ (mW cy am m' ++ [(od, .inl (cy 7, 1, .inr (.inr (.inr (.inl fd)))))])) H := pm_P pmM.symm hP
  have hD : va_D A ((cW cy ad en x' ++ [(ob, .inl (cy 6, 1, .inr (.inl (if code = 0 then (vp_updL fo (0 : Int32).toNatClampNeg r.toInt64) else fo))))]) ++ (mW cy am m' ++ [(od, .inl (cy 7, 1, .inr (.inr (.inr (.inl fd)))))])) := pm_D pmM.symm hD
  refine lv_iload hx hb dL_law_1610 (lv_at hl 1 rfl) ?_
  refine lv_icmp_eq (tgt := 1617) hx hb dL_law_1612 (by decide) (fun _ => ?_) (fun h => absurd rfl h)
  refine lv_iload hx hb dL_law_1617 (lv_at hl 1 rfl) ?_
  refine lv_if_ne (tgt := 1634) hx hb dL_law_1619 (by decide) (fun hk => ?_) (fun hk => ?_)
  · refine lv_goto (tgt := 2250) hx hb dL_law_1634 (by decide) ?_
    exact kk _ _ _ _ H locs ls hInv (cvP hP rfl) (cvD hD rfl) hS (lv_sub hl [2, 3, 4, 5, 6, 7] rfl)
  · have hk0 : code = 0 := hk
    have heq := heq hk0
    refine lv_aload_n hx hb dL_law_1622 rfl (lv_at hl 5 rfl) ?_
    refine lv_iconst (v := 0) hx hb dL_law_1623 (by decide) ?_
    refine va_lald hx hb hK8 hP _ 6 (gA gL) rfl (vp_in_iff.mpr (by decide)) dL_law_1624 ?_
    refine lv_iload hx hb dL_law_1625 (lv_at hl 0 rfl) ?_
    refine lv_i2l hx hb dL_law_1627 rfl ?_
    refine W.lcmp hx hb dL_law_1628 ?_
    refine lv_if_eq (tgt := 1634) hx hb dL_law_1629 (by decide) (fun _ => ?_) (fun h => absurd ?_ h)
    · refine lv_goto (tgt := 2250) hx hb dL_law_1634 (by decide) ?_
      exact kk _ _ _ _ H locs ls hInv (cvP hP rfl) (cvD hD rfl) hS (lv_sub hl [2, 3, 4, 5, 6, 7] rfl)
    · rw [lg_cmp_eq, heq, if_pos hk0]; rfl
def OK_faultPosition (Inv : Mem → (Nat → Nat → Int32) → Prop) (x : Mem) (m : Nat → Nat → Int32) : Prop := ∃ (code : Int32) (r : Int32) (bb : Int32) (m' : Nat → Nat → Int32), (code = 0 ∨ code = 1) ∧ D_X9_faultPosition x = (code, r) ∧ D_X10_faultPosition m = (bb, m') ∧ D_X10_thrown m' = code ∧ (code = 0 → r = bb) ∧ Inv x m'
set_option maxHeartbeats 4000000 in
theorem lw_faultPosition {Inv : Mem → (Nat → Nat → Int32) → Prop} {p : Program} {l : Launch} (hst0 : l.stackTraces = false) {e : Env} {s : State} {m : MethodId} {below : List Frame} {meth : Method} {c : Code} {b L : Nat} {xs : Nat → Int32} {A : Nat → Prop} {D : va_G} {cy : Nat → ClassId} {en g : Nat → Nat} {Q : State → Prop} (hC : LC p s m c b L xs A D cy en g) {ad : Nat → Nat → Nat} {am : Nat → Nat} {ob od : Nat} {x : Mem} {m0 : Nat → Nat → Int32} {fo : Nat → Int64} {fd : Nat → UInt64} {i : Int32} {H : Heap} {locs : List Loc} {ls : Array Slot} {cells slots : Nat} (h1 : vp_in (i + 1) L) (h2 : vp_in (i + 2) L) (h3 : vp_in (i + 3) L) (hcs : cells + 2 ≤ room_1.cells ∧ slots + 12 ≤ room_1.slots) (hop : OK_faultPosition Inv x m0) (hP : va_P D vwCl ((cW cy ad en x ++ [(ob, .inl (cy 6, 1, .inr (.inl fo)))]) ++ (mW cy am m0 ++ [(od, .inl (cy 7, 1, .inr (.inr (.inr (.inl fd)))))])) H) (hD : va_D A ((cW cy ad en x ++ [(ob, .inl (cy 6, 1, .inr (.inl fo)))]) ++ (mW cy am m0 ++ [(od, .inl (cy 7, 1, .inr (.inr (.inr (.inl fd)))))]))) (hS : va_S A s.heap H locs) (hl : lv_has ls 9 [(0, .ref b), (1, .ref (ad 12 0)), (2, .ref (am 0)), (3, .ref ob), (4, .ref od), (5, .int i)]) (kk : ∀ (x' : Mem) (m' : Nat → Nat → Int32) (fo' : Nat → Int64) (fd' : Nat → UInt64) (H : Heap) (locs : List Loc) (ls : Array Slot), Inv x' m' → va_P D vwCl ((cW cy ad en x' ++ [(ob, .inl (cy 6, 1, .inr (.inl fo')))]) ++ (mW cy am m' ++ [(od, .inl (cy 7, 1, .inr (.inr (.inr (.inl fd')))))])) H → va_D A ((cW cy ad en x' ++ [(ob, .inl (cy 6, 1, .inr (.inl fo')))]) ++ (mW cy am m' ++ [(od, .inl (cy 7, 1, .inr (.inr (.inr (.inl fd')))))])) → va_S A s.heap H locs → lv_has ls 9 [(0, .ref b), (1, .ref (ad 12 0)), (2, .ref (am 0)), (3, .ref ob), (4, .ref od), (5, .int i)] → W p l e room_1 s m #[Value.ref b] below meth c H locs (cells + 2) (slots + 12) Q (F0 m 2250 ls [])) : W p l e room_1 s m #[Value.ref b] below meth c H locs cells slots Q (F0 m 1637 ls []) := by
  obtain ⟨hx, hb, hml, hown, hw, hK8, hN, hST, hX, hbl, hbA, hA⟩ := hC
  have hK := hKL hK8
  have hcs0 : cells ≤ room_1.cells ∧ slots ≤ room_1.slots := ⟨Nat.le_trans (Nat.le_add_right _ 2) hcs.1, Nat.le_trans (Nat.le_add_right _ 12) hcs.2⟩
  have hcsA : cells + 2 ≤ room_1.cells ∧ slots + 12 ≤ room_1.slots := hcs
  obtain ⟨code, r, bb, m', hcd, hF, hFm, hthr, heq, hInv⟩ := hop
  refine lv_aload_n hx hb dL_law_1637 rfl (lv_at hl 1 rfl) ?_
  refine lv_aload_n hx hb dL_law_1638 rfl (lv_at hl 3 rfl) ?_
  refine fW (w1 := (cW cy ad en x ++ [((ob, .inl (cy 6, 1, .inr (.inl fo))) : Nat × va_E)])) (w2 := (mW cy am m0 ++ [((od, .inl (cy 7, 1, .inr (.inr (.inr (.inl fd))))) : Nat × va_E)])) (As := [.ref (ad 12 0), .ref ob]) (rest := []) hx hb hml hown hw hK8 hN hA hl.1 hP hD hS hST k_1176 k_1177 k_75 k_1178 (met_L_faultPosition l hst0 D cy _ ad en g x ob fo code r hcd (congrArg some hF)) ⟨rfl, rfl⟩ (n := 2) (by decide +kernel) rfl ⟨Nat.le_of_ble_eq_true rfl, Nat.le_of_ble_eq_true rfl⟩ hcs (Nat.le_of_ble_eq_true rfl) rfl dL_law_1639 (fun H locs hP hD hS => ?_)
  refine lv_istore (lv' := [(6, .int code), (0, .ref b), (1, .ref (ad 12 0)), (2, .ref (am 0)), (3, .ref ob), (4, .ref od), (5, .int i)]) hx hb dL_law_1642 hl (by decide) rfl (fun ls hl => ?_)
  refine lv_aload_n hx hb dL_law_1644 rfl (lv_at hl 3 rfl) ?_
  have hP : va_P D vwCl ((mW cy am m0) ++ ((cW cy ad en x ++ [((ob, .inl (cy 6, 1, .inr (.inl (if code = 0 then (vp_updL fo (0 : Int32).toNatClampNeg r.toInt64) else fo)))) : Nat × va_E)]) ++ [((od, .inl (cy 7, 1, .inr (.inr (.inr (.inl fd))))) : Nat × va_E)])) H := pm_P pmM hP
  have hD : va_D A ((mW cy am m0) ++ ((cW cy ad en x ++ [((ob, .inl (cy 6, 1, .inr (.inl (if code = 0 then (vp_updL fo (0 : Int32).toNatClampNeg r.toInt64) else fo)))) : Nat × va_E)]) ++ [((od, .inl (cy 7, 1, .inr (.inr (.inr (.inl fd))))) : Nat × va_E)])) := pm_D pmM hD
  refine fV (w1 := (mW cy am m0)) (w2 := ((cW cy ad en x ++ [((ob, .inl (cy 6, 1, .inr (.inl (if code = 0 then (vp_updL fo (0 : Int32).toNatClampNeg r.toInt64) else fo)))) : Nat × va_E)]) ++ [((od, .inl (cy 7, 1, .inr (.inr (.inr (.inl fd))))) : Nat × va_E)])) (As := []) (rest := []) hx hb hml hown hw hK8 hN hA hl.1 hP hD hS k_1924 k_1925 k_1926 k_90 k_1927 (met_X10_faultPosition l D cy _ am m0 bb m' hFm) (fun _ _ _ => trivial) Xok_T (gM (am := am) (r := 0) (m := m0) (f := m0 0) (by decide) rfl) rfl ⟨rfl, rfl⟩ (n := 0) (by decide +kernel) rfl ⟨Nat.le_of_ble_eq_true rfl, Nat.le_of_ble_eq_true rfl⟩ hcsA (Nat.le_of_ble_eq_true rfl) rfl dL_law_1645 (fun H locs hP hD hS => ?_)
  have hP : va_P D vwCl ((cW cy ad en x ++ [(ob, .inl (cy 6, 1, .inr (.inl (if code = 0 then (vp_updL fo (0 : Int32).toNatClampNeg r.toInt64) else fo))))]) ++ (mW cy am m' ++ [(od, .inl (cy 7, 1, .inr (.inr (.inr (.inl fd)))))])) H := pm_P pmM.symm hP
  have hD : va_D A ((cW cy ad en x ++ [(ob, .inl (cy 6, 1, .inr (.inl (if code = 0 then (vp_updL fo (0 : Int32).toNatClampNeg r.toInt64) else fo))))]) ++ (mW cy am m' ++ [(od, .inl (cy 7, 1, .inr (.inr (.inr (.inl fd)))))])) := pm_D pmM.symm hD
  refine lv_istore (lv' := [(7, .int bb), (6, .int code), (0, .ref b), (1, .ref (ad 12 0)), (2, .ref (am 0)), (3, .ref ob), (4, .ref od), (5, .int i)]) hx hb dL_law_1648 hl (by decide) rfl (fun ls hl => ?_)
  refine lv_aload_n hx hb dL_law_1650 rfl (lv_at hl 4 rfl) ?_
  have hP : va_P D vwCl ((mW cy am m') ++ ((cW cy ad en x ++ [((ob, .inl (cy 6, 1, .inr (.inl (if code = 0 then (vp_updL fo (0 : Int32).toNatClampNeg r.toInt64) else fo)))) : Nat × va_E)]) ++ [((od, .inl (cy 7, 1, .inr (.inr (.inr (.inl fd))))) : Nat × va_E)])) H := pm_P pmM hP
  have hD : va_D A ((mW cy am m') ++ ((cW cy ad en x ++ [((ob, .inl (cy 6, 1, .inr (.inl (if code = 0 then (vp_updL fo (0 : Int32).toNatClampNeg r.toInt64) else fo)))) : Nat × va_E)]) ++ [((od, .inl (cy 7, 1, .inr (.inr (.inr (.inl fd))))) : Nat × va_E)])) := pm_D pmM hD
  refine fV (w1 := (mW cy am m')) (w2 := ((cW cy ad en x ++ [((ob, .inl (cy 6, 1, .inr (.inl (if code = 0 then (vp_updL fo (0 : Int32).toNatClampNeg r.toInt64) else fo)))) : Nat × va_E)]) ++ [((od, .inl (cy 7, 1, .inr (.inr (.inr (.inl fd))))) : Nat × va_E)])) (As := []) (rest := []) hx hb hml hown hw hK8 hN hA hl.1 hP hD hS k_1625 k_1626 k_1627 k_90 k_1628 (met_X10_thrown l D cy _ am m' code hthr) (fun _ _ _ => trivial) Xok_T (gM (am := am) (r := 0) (m := m') (f := m' 0) (by decide) rfl) rfl ⟨rfl, rfl⟩ (n := 0) (by decide +kernel) rfl ⟨Nat.le_of_ble_eq_true rfl, Nat.le_of_ble_eq_true rfl⟩ hcsA (Nat.le_of_ble_eq_true rfl) rfl dL_law_1651 (fun H locs hP hD hS => ?_)
  have hP : va_P D vwCl ((cW cy ad en x ++ [(ob, .inl (cy 6, 1, .inr (.inl (if code = 0 then (vp_updL fo (0 : Int32).toNatClampNeg r.toInt64) else fo))))]) ++ (mW cy am m' ++ [(od, .inl (cy 7, 1, .inr (.inr (.inr (.inl fd)))))])) H := pm_P pmM.symm hP
  have hD : va_D A ((cW cy ad en x ++ [(ob, .inl (cy 6, 1, .inr (.inl (if code = 0 then (vp_updL fo (0 : Int32).toNatClampNeg r.toInt64) else fo))))]) ++ (mW cy am m' ++ [(od, .inl (cy 7, 1, .inr (.inr (.inr (.inl fd)))))])) := pm_D pmM.symm hD
  refine lv_iload hx hb dL_law_1654 (lv_at hl 1 rfl) ?_
  refine lv_icmp_eq (tgt := 1661) hx hb dL_law_1656 (by decide) (fun _ => ?_) (fun h => absurd rfl h)
  refine lv_iload hx hb dL_law_1661 (lv_at hl 1 rfl) ?_
  refine lv_if_ne (tgt := 1678) hx hb dL_law_1663 (by decide) (fun hk => ?_) (fun hk => ?_)
  · refine lv_goto (tgt := 2250) hx hb dL_law_1678 (by decide) ?_
    exact kk _ _ _ _ H locs ls hInv (cvP hP rfl) (cvD hD rfl) hS (lv_sub hl [2, 3, 4, 5, 6, 7] rfl)
  · have hk0 : code = 0 := hk
    have heq := heq hk0
    refine lv_aload_n hx hb dL_law_1666 rfl (lv_at hl 5 rfl) ?_
    refine lv_iconst (v := 0) hx hb dL_law_1667 (by decide) ?_
    refine va_lald hx hb hK8 hP _ 6 (gA gL) rfl (vp_in_iff.mpr (by decide)) dL_law_1668 ?_
    refine lv_iload hx hb dL_law_1669 (lv_at hl 0 rfl) ?_
    refine lv_i2l hx hb dL_law_1671 rfl ?_
    refine W.lcmp hx hb dL_law_1672 ?_
    refine lv_if_eq (tgt := 1678) hx hb dL_law_1673 (by decide) (fun _ => ?_) (fun h => absurd ?_ h)
    · refine lv_goto (tgt := 2250) hx hb dL_law_1678 (by decide) ?_
      exact kk _ _ _ _ H locs ls hInv (cvP hP rfl) (cvD hD rfl) hS (lv_sub hl [2, 3, 4, 5, 6, 7] rfl)
    · rw [lg_cmp_eq, heq, if_pos hk0]; rfl
def OK_reason (Inv : Mem → (Nat → Nat → Int32) → Prop) (x : Mem) (m : Nat → Nat → Int32) (p1 : Int32) (p2 : Int32) : Prop := ∃ (code : Int32) (r : Int32) (bb : Int32) (m' : Nat → Nat → Int32), (code = 0 ∨ code = 1) ∧ D_X9_reason x p1 p2 = (code, r) ∧ D_X10_reason m p1 p2 = (bb, m') ∧ D_X10_thrown m' = code ∧ (code = 0 → r = bb) ∧ Inv x m'
set_option maxHeartbeats 4000000 in
theorem lw_reason {Inv : Mem → (Nat → Nat → Int32) → Prop} {p : Program} {l : Launch} (hst0 : l.stackTraces = false) {e : Env} {s : State} {m : MethodId} {below : List Frame} {meth : Method} {c : Code} {b L : Nat} {xs : Nat → Int32} {A : Nat → Prop} {D : va_G} {cy : Nat → ClassId} {en g : Nat → Nat} {Q : State → Prop} (hC : LC p s m c b L xs A D cy en g) {ad : Nat → Nat → Nat} {am : Nat → Nat} {ob od : Nat} {x : Mem} {m0 : Nat → Nat → Int32} {fo : Nat → Int64} {fd : Nat → UInt64} {i : Int32} {H : Heap} {locs : List Loc} {ls : Array Slot} {cells slots : Nat} (h1 : vp_in (i + 1) L) (h2 : vp_in (i + 2) L) (h3 : vp_in (i + 3) L) (hcs : cells + 2 ≤ room_1.cells ∧ slots + 12 ≤ room_1.slots) (hop : OK_reason Inv x m0 (if (xs (i + 1).toNatClampNeg) = 0 then 0 else 1) (if (xs (i + 2).toNatClampNeg) = 0 then 0 else 1)) (hP : va_P D vwCl ((cW cy ad en x ++ [(ob, .inl (cy 6, 1, .inr (.inl fo)))]) ++ (mW cy am m0 ++ [(od, .inl (cy 7, 1, .inr (.inr (.inr (.inl fd)))))])) H) (hD : va_D A ((cW cy ad en x ++ [(ob, .inl (cy 6, 1, .inr (.inl fo)))]) ++ (mW cy am m0 ++ [(od, .inl (cy 7, 1, .inr (.inr (.inr (.inl fd)))))]))) (hS : va_S A s.heap H locs) (hl : lv_has ls 9 [(0, .ref b), (1, .ref (ad 12 0)), (2, .ref (am 0)), (3, .ref ob), (4, .ref od), (5, .int i)]) (kk : ∀ (x' : Mem) (m' : Nat → Nat → Int32) (fo' : Nat → Int64) (fd' : Nat → UInt64) (H : Heap) (locs : List Loc) (ls : Array Slot), Inv x' m' → va_P D vwCl ((cW cy ad en x' ++ [(ob, .inl (cy 6, 1, .inr (.inl fo')))]) ++ (mW cy am m' ++ [(od, .inl (cy 7, 1, .inr (.inr (.inr (.inl fd')))))])) H → va_D A ((cW cy ad en x' ++ [(ob, .inl (cy 6, 1, .inr (.inl fo')))]) ++ (mW cy am m' ++ [(od, .inl (cy 7, 1, .inr (.inr (.inr (.inl fd')))))])) → va_S A s.heap H locs → lv_has ls 9 [(0, .ref b), (1, .ref (ad 12 0)), (2, .ref (am 0)), (3, .ref ob), (4, .ref od), (5, .int i)] → W p l e room_1 s m #[Value.ref b] below meth c H locs (cells + 2) (slots + 12) Q (F0 m 2250 ls [])) : W p l e room_1 s m #[Value.ref b] below meth c H locs cells slots Q (F0 m 1681 ls []) := by
  obtain ⟨hx, hb, hml, hown, hw, hK8, hN, hST, hX, hbl, hbA, hA⟩ := hC
  have hK := hKL hK8
  have hcs0 : cells ≤ room_1.cells ∧ slots ≤ room_1.slots := ⟨Nat.le_trans (Nat.le_add_right _ 2) hcs.1, Nat.le_trans (Nat.le_add_right _ 12) hcs.2⟩
  have hcsA : cells + 2 ≤ room_1.cells ∧ slots + 12 ≤ room_1.slots := hcs
  by_cases e1 : (xs (i + 1).toNatClampNeg) = 0
  · rw [if_pos e1] at hop
    by_cases e2 : (xs (i + 2).toNatClampNeg) = 0
    · rw [if_pos e2] at hop
      obtain ⟨code, r, bb, m', hcd, hF, hFm, hthr, heq, hInv⟩ := hop
      refine lv_aload_n hx hb dL_law_1681 rfl (lv_at hl 1 rfl) ?_
      refine lv_aload_n hx hb dL_law_1682 rfl (lv_at hl 0 rfl) ?_
      refine lv_iload hx hb dL_law_1683 (lv_at hl 5 rfl) ?_
      refine lv_iconst (v := 1) hx hb dL_law_1685 (by decide) ?_
      refine lv_iadd hx hb dL_law_1686 ?_
      refine va_sld hx hb hX hbl hbA hS h1 dL_law_1687 ?_
      refine lv_if_eq (tgt := 1695) hx hb dL_law_1688 (by decide) (fun _ => ?_) (fun h => absurd e1 h)
      refine lv_iconst (v := 0) hx hb dL_law_1695 (by decide) ?_
      refine lv_aload_n hx hb dL_law_1696 rfl (lv_at hl 0 rfl) ?_
      refine lv_iload hx hb dL_law_1697 (lv_at hl 5 rfl) ?_
      refine lv_iconst (v := 2) hx hb dL_law_1699 (by decide) ?_
      refine lv_iadd hx hb dL_law_1700 ?_
      refine va_sld hx hb hX hbl hbA hS h2 dL_law_1701 ?_
      refine lv_if_eq (tgt := 1709) hx hb dL_law_1702 (by decide) (fun _ => ?_) (fun h => absurd e2 h)
      refine lv_iconst (v := 0) hx hb dL_law_1709 (by decide) ?_
      refine lv_aload_n hx hb dL_law_1710 rfl (lv_at hl 3 rfl) ?_
      refine fW (w1 := (cW cy ad en x ++ [((ob, .inl (cy 6, 1, .inr (.inl fo))) : Nat × va_E)])) (w2 := (mW cy am m0 ++ [((od, .inl (cy 7, 1, .inr (.inr (.inr (.inl fd))))) : Nat × va_E)])) (As := [.ref (ad 12 0), .int 0, .int 0, .ref ob]) (rest := []) hx hb hml hown hw hK8 hN hA hl.1 hP hD hS hST k_1184 k_1185 k_75 k_1186 (met_L_reason l hst0 D cy _ ad en g x 0 0 ob fo (Or.inl rfl) (Or.inl rfl) code r hcd (congrArg some hF)) ⟨rfl, rfl⟩ (n := 4) (by decide +kernel) rfl ⟨Nat.le_of_ble_eq_true rfl, Nat.le_of_ble_eq_true rfl⟩ hcs (Nat.le_of_ble_eq_true rfl) rfl dL_law_1711 (fun H locs hP hD hS => ?_)
      refine lv_istore (lv' := [(6, .int code), (0, .ref b), (1, .ref (ad 12 0)), (2, .ref (am 0)), (3, .ref ob), (4, .ref od), (5, .int i)]) hx hb dL_law_1714 hl (by decide) rfl (fun ls hl => ?_)
      refine lv_aload_n hx hb dL_law_1716 rfl (lv_at hl 3 rfl) ?_
      refine lv_aload_n hx hb dL_law_1717 rfl (lv_at hl 1 rfl) ?_
      refine lv_iload hx hb dL_law_1718 (lv_at hl 6 rfl) ?_
      refine lv_iconst (v := 1) hx hb dL_law_1720 (by decide) ?_
      refine lv_iadd hx hb dL_law_1721 ?_
      refine va_sld hx hb hX hbl hbA hS h1 dL_law_1722 ?_
      refine lv_if_eq (tgt := 1730) hx hb dL_law_1723 (by decide) (fun _ => ?_) (fun h => absurd e1 h)
      refine lv_iconst (v := 0) hx hb dL_law_1730 (by decide) ?_
      refine lv_aload_n hx hb dL_law_1731 rfl (lv_at hl 1 rfl) ?_
      refine lv_iload hx hb dL_law_1732 (lv_at hl 6 rfl) ?_
      refine lv_iconst (v := 2) hx hb dL_law_1734 (by decide) ?_
      refine lv_iadd hx hb dL_law_1735 ?_
      refine va_sld hx hb hX hbl hbA hS h2 dL_law_1736 ?_
      refine lv_if_eq (tgt := 1744) hx hb dL_law_1737 (by decide) (fun _ => ?_) (fun h => absurd e2 h)
      refine lv_iconst (v := 0) hx hb dL_law_1744 (by decide) ?_
      have hP : va_P D vwCl ((mW cy am m0) ++ ((cW cy ad en x ++ [((ob, .inl (cy 6, 1, .inr (.inl (if code = 0 then (vp_updL fo (0 : Int32).toNatClampNeg r.toInt64) else fo)))) : Nat × va_E)]) ++ [((od, .inl (cy 7, 1, .inr (.inr (.inr (.inl fd))))) : Nat × va_E)])) H := pm_P pmM hP
      have hD : va_D A ((mW cy am m0) ++ ((cW cy ad en x ++ [((ob, .inl (cy 6, 1, .inr (.inl (if code = 0 then (vp_updL fo (0 : Int32).toNatClampNeg r.toInt64) else fo)))) : Nat × va_E)]) ++ [((od, .inl (cy 7, 1, .inr (.inr (.inr (.inl fd))))) : Nat × va_E)])) := pm_D pmM hD
      refine fV (w1 := (mW cy am m0)) (w2 := ((cW cy ad en x ++ [((ob, .inl (cy 6, 1, .inr (.inl (if code = 0 then (vp_updL fo (0 : Int32).toNatClampNeg r.toInt64) else fo)))) : Nat × va_E)]) ++ [((od, .inl (cy 7, 1, .inr (.inr (.inr (.inl fd))))) : Nat × va_E)])) (As := [.int 0, .int 0]) (rest := []) hx hb hml hown hw hK8 hN hA hl.1 hP hD hS k_1629 k_1630 k_1631 k_90 k_1632 (met_X10_reason l D cy _ am m0 0 0 (Or.inl rfl) (Or.inl rfl) bb m' hFm) (fun _ _ _ => trivial) Xok_T (gM (am := am) (r := 0) (m := m0) (f := m0 0) (by decide) rfl) rfl ⟨rfl, rfl⟩ (n := 2) (by decide +kernel) rfl ⟨Nat.le_of_ble_eq_true rfl, Nat.le_of_ble_eq_true rfl⟩ hcsA (Nat.le_of_ble_eq_true rfl) rfl dL_law_1745 (fun H locs hP hD hS => ?_)
      have hP : va_P D vwCl ((cW cy ad en x ++ [(ob, .inl (cy 6, 1, .inr (.inl (if code = 0 then (vp_updL fo (0 : Int32).toNatClampNeg r.toInt64) else fo))))]) ++ (mW cy am m' ++ [(od, .inl (cy 7, 1, .inr (.inr (.inr (.inl fd)))))])) H := pm_P pmM.symm hP
      have hD : va_D A ((cW cy ad en x ++ [(ob, .inl (cy 6, 1, .inr (.inl (if code = 0 then (vp_updL fo (0 : Int32).toNatClampNeg r.toInt64) else fo))))]) ++ (mW cy am m' ++ [(od, .inl (cy 7, 1, .inr (.inr (.inr (.inl fd)))))])) := pm_D pmM.symm hD
      refine lv_istore (lv' := [(7, .int bb), (6, .int code), (0, .ref b), (1, .ref (ad 12 0)), (2, .ref (am 0)), (3, .ref ob), (4, .ref od), (5, .int i)]) hx hb dL_law_1748 hl (by decide) rfl (fun ls hl => ?_)
      refine lv_aload_n hx hb dL_law_1750 rfl (lv_at hl 4 rfl) ?_
      have hP : va_P D vwCl ((mW cy am m') ++ ((cW cy ad en x ++ [((ob, .inl (cy 6, 1, .inr (.inl (if code = 0 then (vp_updL fo (0 : Int32).toNatClampNeg r.toInt64) else fo)))) : Nat × va_E)]) ++ [((od, .inl (cy 7, 1, .inr (.inr (.inr (.inl fd))))) : Nat × va_E)])) H := pm_P pmM hP
      have hD : va_D A ((mW cy am m') ++ ((cW cy ad en x ++ [((ob, .inl (cy 6, 1, .inr (.inl (if code = 0 then (vp_updL fo (0 : Int32).toNatClampNeg r.toInt64) else fo)))) : Nat × va_E)]) ++ [((od, .inl (cy 7, 1, .inr (.inr (.inr (.inl fd))))) : Nat × va_E)])) := pm_D pmM hD
      refine fV (w1 := (mW cy am m')) (w2 := ((cW cy ad en x ++ [((ob, .inl (cy 6, 1, .inr (.inl (if code = 0 then (vp_updL fo (0 : Int32).toNatClampNeg r.toInt64) else fo)))) : Nat × va_E)]) ++ [((od, .inl (cy 7, 1, .inr (.inr (.inr (.inl fd))))) : Nat × va_E)])) (As := []) (rest := []) hx hb hml hown hw hK8 hN hA hl.1 hP hD hS k_1625 k_1626 k_1627 k_90 k_1628 (met_X10_thrown l D cy _ am m' code hthr) (fun _ _ _ => trivial) Xok_T (gM (am := am) (r := 0) (m := m') (f := m' 0) (by decide) rfl) rfl ⟨rfl, rfl⟩ (n := 0) (by decide +kernel) rfl ⟨Nat.le_of_ble_eq_true rfl, Nat.le_of_ble_eq_true rfl⟩ hcsA (Nat.le_of_ble_eq_true rfl) rfl dL_law_1751 (fun H locs hP hD hS => ?_)
      have hP : va_P D vwCl ((cW cy ad en x ++ [(ob, .inl (cy 6, 1, .inr (.inl (if code = 0 then (vp_updL fo (0 : Int32).toNatClampNeg r.toInt64) else fo))))]) ++ (mW cy am m' ++ [(od, .inl (cy 7, 1, .inr (.inr (.inr (.inl fd)))))])) H := pm_P pmM.symm hP
      have hD : va_D A ((cW cy ad en x ++ [(ob, .inl (cy 6, 1, .inr (.inl (if code = 0 then (vp_updL fo (0 : Int32).toNatClampNeg r.toInt64) else fo))))]) ++ (mW cy am m' ++ [(od, .inl (cy 7, 1, .inr (.inr (.inr (.inl fd)))))])) := pm_D pmM.symm hD
      refine lv_iload hx hb dL_law_1754 (lv_at hl 1 rfl) ?_
      refine lv_icmp_eq (tgt := 1761) hx hb dL_law_1756 (by decide) (fun _ => ?_) (fun h => absurd rfl h)
      refine lv_iload hx hb dL_law_1761 (lv_at hl 1 rfl) ?_
      refine lv_if_ne (tgt := 1778) hx hb dL_law_1763 (by decide) (fun hk => ?_) (fun hk => ?_)
      · refine lv_goto (tgt := 2250) hx hb dL_law_1778 (by decide) ?_
        exact kk _ _ _ _ H locs ls hInv (cvP hP rfl) (cvD hD rfl) hS (lv_sub hl [2, 3, 4, 5, 6, 7] rfl)
      · have hk0 : code = 0 := hk
        have heq := heq hk0
        refine lv_aload_n hx hb dL_law_1766 rfl (lv_at hl 5 rfl) ?_
        refine lv_iconst (v := 0) hx hb dL_law_1767 (by decide) ?_
        refine va_lald hx hb hK8 hP _ 6 (gA gL) rfl (vp_in_iff.mpr (by decide)) dL_law_1768 ?_
        refine lv_iload hx hb dL_law_1769 (lv_at hl 0 rfl) ?_
        refine lv_i2l hx hb dL_law_1771 rfl ?_
        refine W.lcmp hx hb dL_law_1772 ?_
        refine lv_if_eq (tgt := 1778) hx hb dL_law_1773 (by decide) (fun _ => ?_) (fun h => absurd ?_ h)
        · refine lv_goto (tgt := 2250) hx hb dL_law_1778 (by decide) ?_
          exact kk _ _ _ _ H locs ls hInv (cvP hP rfl) (cvD hD rfl) hS (lv_sub hl [2, 3, 4, 5, 6, 7] rfl)
        · rw [lg_cmp_eq, heq, if_pos hk0]; rfl
    · rw [if_neg e2] at hop
      obtain ⟨code, r, bb, m', hcd, hF, hFm, hthr, heq, hInv⟩ := hop
      refine lv_aload_n hx hb dL_law_1681 rfl (lv_at hl 1 rfl) ?_
      refine lv_aload_n hx hb dL_law_1682 rfl (lv_at hl 0 rfl) ?_
      refine lv_iload hx hb dL_law_1683 (lv_at hl 5 rfl) ?_
      refine lv_iconst (v := 1) hx hb dL_law_1685 (by decide) ?_
      refine lv_iadd hx hb dL_law_1686 ?_
      refine va_sld hx hb hX hbl hbA hS h1 dL_law_1687 ?_
      refine lv_if_eq (tgt := 1695) hx hb dL_law_1688 (by decide) (fun _ => ?_) (fun h => absurd e1 h)
      refine lv_iconst (v := 0) hx hb dL_law_1695 (by decide) ?_
      refine lv_aload_n hx hb dL_law_1696 rfl (lv_at hl 0 rfl) ?_
      refine lv_iload hx hb dL_law_1697 (lv_at hl 5 rfl) ?_
      refine lv_iconst (v := 2) hx hb dL_law_1699 (by decide) ?_
      refine lv_iadd hx hb dL_law_1700 ?_
      refine va_sld hx hb hX hbl hbA hS h2 dL_law_1701 ?_
      refine lv_if_eq (tgt := 1709) hx hb dL_law_1702 (by decide) (fun h => absurd h e2) (fun _ => ?_)
      refine lv_iconst (v := 1) hx hb dL_law_1705 (by decide) ?_
      refine lv_goto (tgt := 1710) hx hb dL_law_1706 (by decide) ?_
      refine lv_aload_n hx hb dL_law_1710 rfl (lv_at hl 3 rfl) ?_
      refine fW (w1 := (cW cy ad en x ++ [((ob, .inl (cy 6, 1, .inr (.inl fo))) : Nat × va_E)])) (w2 := (mW cy am m0 ++ [((od, .inl (cy 7, 1, .inr (.inr (.inr (.inl fd))))) : Nat × va_E)])) (As := [.ref (ad 12 0), .int 0, .int 1, .ref ob]) (rest := []) hx hb hml hown hw hK8 hN hA hl.1 hP hD hS hST k_1184 k_1185 k_75 k_1186 (met_L_reason l hst0 D cy _ ad en g x 0 1 ob fo (Or.inl rfl) (Or.inr rfl) code r hcd (congrArg some hF)) ⟨rfl, rfl⟩ (n := 4) (by decide +kernel) rfl ⟨Nat.le_of_ble_eq_true rfl, Nat.le_of_ble_eq_true rfl⟩ hcs (Nat.le_of_ble_eq_true rfl) rfl dL_law_1711 (fun H locs hP hD hS => ?_)
      refine lv_istore (lv' := [(6, .int code), (0, .ref b), (1, .ref (ad 12 0)), (2, .ref (am 0)), (3, .ref ob), (4, .ref od), (5, .int i)]) hx hb dL_law_1714 hl (by decide) rfl (fun ls hl => ?_)
      refine lv_aload_n hx hb dL_law_1716 rfl (lv_at hl 3 rfl) ?_
      refine lv_aload_n hx hb dL_law_1717 rfl (lv_at hl 1 rfl) ?_
      refine lv_iload hx hb dL_law_1718 (lv_at hl 6 rfl) ?_
      refine lv_iconst (v := 1) hx hb dL_law_1720 (by decide) ?_
      refine lv_iadd hx hb dL_law_1721 ?_
      refine va_sld hx hb hX hbl hbA hS h1 dL_law_1722 ?_
      refine lv_if_eq (tgt := 1730) hx hb dL_law_1723 (by decide) (fun _ => ?_) (fun h => absurd e1 h)
      refine lv_iconst (v := 0) hx hb dL_law_1730 (by decide) ?_
      refine lv_aload_n hx hb dL_law_1731 rfl (lv_at hl 1 rfl) ?_
      refine lv_iload hx hb dL_law_1732 (lv_at hl 6 rfl) ?_
      refine lv_iconst (v := 2) hx hb dL_law_1734 (by decide) ?_
      refine lv_iadd hx hb dL_law_1735 ?_
      refine va_sld hx hb hX hbl hbA hS h2 dL_law_1736 ?_
      refine lv_if_eq (tgt := 1744) hx hb dL_law_1737 (by decide) (fun h => absurd h e2) (fun _ => ?_)
      refine lv_iconst (v := 1) hx hb dL_law_1740 (by decide) ?_
      refine lv_goto (tgt := 1745) hx hb dL_law_1741 (by decide) ?_
      have hP : va_P D vwCl ((mW cy am m0) ++ ((cW cy ad en x ++ [((ob, .inl (cy 6, 1, .inr (.inl (if code = 0 then (vp_updL fo (0 : Int32).toNatClampNeg r.toInt64) else fo)))) : Nat × va_E)]) ++ [((od, .inl (cy 7, 1, .inr (.inr (.inr (.inl fd))))) : Nat × va_E)])) H := pm_P pmM hP
      have hD : va_D A ((mW cy am m0) ++ ((cW cy ad en x ++ [((ob, .inl (cy 6, 1, .inr (.inl (if code = 0 then (vp_updL fo (0 : Int32).toNatClampNeg r.toInt64) else fo)))) : Nat × va_E)]) ++ [((od, .inl (cy 7, 1, .inr (.inr (.inr (.inl fd))))) : Nat × va_E)])) := pm_D pmM hD
      refine fV (w1 := (mW cy am m0)) (w2 := ((cW cy ad en x ++ [((ob, .inl (cy 6, 1, .inr (.inl (if code = 0 then (vp_updL fo (0 : Int32).toNatClampNeg r.toInt64) else fo)))) : Nat × va_E)]) ++ [((od, .inl (cy 7, 1, .inr (.inr (.inr (.inl fd))))) : Nat × va_E)])) (As := [.int 0, .int 1]) (rest := []) hx hb hml hown hw hK8 hN hA hl.1 hP hD hS k_1629 k_1630 k_1631 k_90 k_1632 (met_X10_reason l D cy _ am m0 0 1 (Or.inl rfl) (Or.inr rfl) bb m' hFm) (fun _ _ _ => trivial) Xok_T (gM (am := am) (r := 0) (m := m0) (f := m0 0) (by decide) rfl) rfl ⟨rfl, rfl⟩ (n := 2) (by decide +kernel) rfl ⟨Nat.le_of_ble_eq_true rfl, Nat.le_of_ble_eq_true rfl⟩ hcsA (Nat.le_of_ble_eq_true rfl) rfl dL_law_1745 (fun H locs hP hD hS => ?_)
      have hP : va_P D vwCl ((cW cy ad en x ++ [(ob, .inl (cy 6, 1, .inr (.inl (if code = 0 then (vp_updL fo (0 : Int32).toNatClampNeg r.toInt64) else fo))))]) ++ (mW cy am m' ++ [(od, .inl (cy 7, 1, .inr (.inr (.inr (.inl fd)))))])) H := pm_P pmM.symm hP
      have hD : va_D A ((cW cy ad en x ++ [(ob, .inl (cy 6, 1, .inr (.inl (if code = 0 then (vp_updL fo (0 : Int32).toNatClampNeg r.toInt64) else fo))))]) ++ (mW cy am m' ++ [(od, .inl (cy 7, 1, .inr (.inr (.inr (.inl fd)))))])) := pm_D pmM.symm hD
      refine lv_istore (lv' := [(7, .int bb), (6, .int code), (0, .ref b), (1, .ref (ad 12 0)), (2, .ref (am 0)), (3, .ref ob), (4, .ref od), (5, .int i)]) hx hb dL_law_1748 hl (by decide) rfl (fun ls hl => ?_)
      refine lv_aload_n hx hb dL_law_1750 rfl (lv_at hl 4 rfl) ?_
      have hP : va_P D vwCl ((mW cy am m') ++ ((cW cy ad en x ++ [((ob, .inl (cy 6, 1, .inr (.inl (if code = 0 then (vp_updL fo (0 : Int32).toNatClampNeg r.toInt64) else fo)))) : Nat × va_E)]) ++ [((od, .inl (cy 7, 1, .inr (.inr (.inr (.inl fd))))) : Nat × va_E)])) H := pm_P pmM hP
      have hD : va_D A ((mW cy am m') ++ ((cW cy ad en x ++ [((ob, .inl (cy 6, 1, .inr (.inl (if code = 0 then (vp_updL fo (0 : Int32).toNatClampNeg r.toInt64) else fo)))) : Nat × va_E)]) ++ [((od, .inl (cy 7, 1, .inr (.inr (.inr (.inl fd))))) : Nat × va_E)])) := pm_D pmM hD
      refine fV (w1 := (mW cy am m')) (w2 := ((cW cy ad en x ++ [((ob, .inl (cy 6, 1, .inr (.inl (if code = 0 then (vp_updL fo (0 : Int32).toNatClampNeg r.toInt64) else fo)))) : Nat × va_E)]) ++ [((od, .inl (cy 7, 1, .inr (.inr (.inr (.inl fd))))) : Nat × va_E)])) (As := []) (rest := []) hx hb hml hown hw hK8 hN hA hl.1 hP hD hS k_1625 k_1626 k_1627 k_90 k_1628 (met_X10_thrown l D cy _ am m' code hthr) (fun _ _ _ => trivial) Xok_T (gM (am := am) (r := 0) (m := m') (f := m' 0) (by decide) rfl) rfl ⟨rfl, rfl⟩ (n := 0) (by decide +kernel) rfl ⟨Nat.le_of_ble_eq_true rfl, Nat.le_of_ble_eq_true rfl⟩ hcsA (Nat.le_of_ble_eq_true rfl) rfl dL_law_1751 (fun H locs hP hD hS => ?_)
      have hP : va_P D vwCl ((cW cy ad en x ++ [(ob, .inl (cy 6, 1, .inr (.inl (if code = 0 then (vp_updL fo (0 : Int32).toNatClampNeg r.toInt64) else fo))))]) ++ (mW cy am m' ++ [(od, .inl (cy 7, 1, .inr (.inr (.inr (.inl fd)))))])) H := pm_P pmM.symm hP
      have hD : va_D A ((cW cy ad en x ++ [(ob, .inl (cy 6, 1, .inr (.inl (if code = 0 then (vp_updL fo (0 : Int32).toNatClampNeg r.toInt64) else fo))))]) ++ (mW cy am m' ++ [(od, .inl (cy 7, 1, .inr (.inr (.inr (.inl fd)))))])) := pm_D pmM.symm hD
      refine lv_iload hx hb dL_law_1754 (lv_at hl 1 rfl) ?_
      refine lv_icmp_eq (tgt := 1761) hx hb dL_law_1756 (by decide) (fun _ => ?_) (fun h => absurd rfl h)
      refine lv_iload hx hb dL_law_1761 (lv_at hl 1 rfl) ?_
      refine lv_if_ne (tgt := 1778) hx hb dL_law_1763 (by decide) (fun hk => ?_) (fun hk => ?_)
      · refine lv_goto (tgt := 2250) hx hb dL_law_1778 (by decide) ?_
        exact kk _ _ _ _ H locs ls hInv (cvP hP rfl) (cvD hD rfl) hS (lv_sub hl [2, 3, 4, 5, 6, 7] rfl)
      · have hk0 : code = 0 := hk
        have heq := heq hk0
        refine lv_aload_n hx hb dL_law_1766 rfl (lv_at hl 5 rfl) ?_
        refine lv_iconst (v := 0) hx hb dL_law_1767 (by decide) ?_
        refine va_lald hx hb hK8 hP _ 6 (gA gL) rfl (vp_in_iff.mpr (by decide)) dL_law_1768 ?_
        refine lv_iload hx hb dL_law_1769 (lv_at hl 0 rfl) ?_
        refine lv_i2l hx hb dL_law_1771 rfl ?_
        refine W.lcmp hx hb dL_law_1772 ?_
        refine lv_if_eq (tgt := 1778) hx hb dL_law_1773 (by decide) (fun _ => ?_) (fun h => absurd ?_ h)
        · refine lv_goto (tgt := 2250) hx hb dL_law_1778 (by decide) ?_
          exact kk _ _ _ _ H locs ls hInv (cvP hP rfl) (cvD hD rfl) hS (lv_sub hl [2, 3, 4, 5, 6, 7] rfl)
        · rw [lg_cmp_eq, heq, if_pos hk0]; rfl
  · rw [if_neg e1] at hop
    by_cases e2 : (xs (i + 2).toNatClampNeg) = 0
    · rw [if_pos e2] at hop
      obtain ⟨code, r, bb, m', hcd, hF, hFm, hthr, heq, hInv⟩ := hop
      refine lv_aload_n hx hb dL_law_1681 rfl (lv_at hl 1 rfl) ?_
      refine lv_aload_n hx hb dL_law_1682 rfl (lv_at hl 0 rfl) ?_
      refine lv_iload hx hb dL_law_1683 (lv_at hl 5 rfl) ?_
      refine lv_iconst (v := 1) hx hb dL_law_1685 (by decide) ?_
      refine lv_iadd hx hb dL_law_1686 ?_
      refine va_sld hx hb hX hbl hbA hS h1 dL_law_1687 ?_
      refine lv_if_eq (tgt := 1695) hx hb dL_law_1688 (by decide) (fun h => absurd h e1) (fun _ => ?_)
      refine lv_iconst (v := 1) hx hb dL_law_1691 (by decide) ?_
      refine lv_goto (tgt := 1696) hx hb dL_law_1692 (by decide) ?_
      refine lv_aload_n hx hb dL_law_1696 rfl (lv_at hl 0 rfl) ?_
      refine lv_iload hx hb dL_law_1697 (lv_at hl 5 rfl) ?_
      refine lv_iconst (v := 2) hx hb dL_law_1699 (by decide) ?_
      refine lv_iadd hx hb dL_law_1700 ?_
      refine va_sld hx hb hX hbl hbA hS h2 dL_law_1701 ?_
      refine lv_if_eq (tgt := 1709) hx hb dL_law_1702 (by decide) (fun _ => ?_) (fun h => absurd e2 h)
      refine lv_iconst (v := 0) hx hb dL_law_1709 (by decide) ?_
      refine lv_aload_n hx hb dL_law_1710 rfl (lv_at hl 3 rfl) ?_
      refine fW (w1 := (cW cy ad en x ++ [((ob, .inl (cy 6, 1, .inr (.inl fo))) : Nat × va_E)])) (w2 := (mW cy am m0 ++ [((od, .inl (cy 7, 1, .inr (.inr (.inr (.inl fd))))) : Nat × va_E)])) (As := [.ref (ad 12 0), .int 1, .int 0, .ref ob]) (rest := []) hx hb hml hown hw hK8 hN hA hl.1 hP hD hS hST k_1184 k_1185 k_75 k_1186 (met_L_reason l hst0 D cy _ ad en g x 1 0 ob fo (Or.inr rfl) (Or.inl rfl) code r hcd (congrArg some hF)) ⟨rfl, rfl⟩ (n := 4) (by decide +kernel) rfl ⟨Nat.le_of_ble_eq_true rfl, Nat.le_of_ble_eq_true rfl⟩ hcs (Nat.le_of_ble_eq_true rfl) rfl dL_law_1711 (fun H locs hP hD hS => ?_)
      refine lv_istore (lv' := [(6, .int code), (0, .ref b), (1, .ref (ad 12 0)), (2, .ref (am 0)), (3, .ref ob), (4, .ref od), (5, .int i)]) hx hb dL_law_1714 hl (by decide) rfl (fun ls hl => ?_)
      refine lv_aload_n hx hb dL_law_1716 rfl (lv_at hl 3 rfl) ?_
      refine lv_aload_n hx hb dL_law_1717 rfl (lv_at hl 1 rfl) ?_
      refine lv_iload hx hb dL_law_1718 (lv_at hl 6 rfl) ?_
      refine lv_iconst (v := 1) hx hb dL_law_1720 (by decide) ?_
      refine lv_iadd hx hb dL_law_1721 ?_
      refine va_sld hx hb hX hbl hbA hS h1 dL_law_1722 ?_
      refine lv_if_eq (tgt := 1730) hx hb dL_law_1723 (by decide) (fun h => absurd h e1) (fun _ => ?_)
      refine lv_iconst (v := 1) hx hb dL_law_1726 (by decide) ?_
      refine lv_goto (tgt := 1731) hx hb dL_law_1727 (by decide) ?_
      refine lv_aload_n hx hb dL_law_1731 rfl (lv_at hl 1 rfl) ?_
      refine lv_iload hx hb dL_law_1732 (lv_at hl 6 rfl) ?_
      refine lv_iconst (v := 2) hx hb dL_law_1734 (by decide) ?_
      refine lv_iadd hx hb dL_law_1735 ?_
      refine va_sld hx hb hX hbl hbA hS h2 dL_law_1736 ?_
      refine lv_if_eq (tgt := 1744) hx hb dL_law_1737 (by decide) (fun _ => ?_) (fun h => absurd e2 h)
      refine lv_iconst (v := 0) hx hb dL_law_1744 (by decide) ?_
      have hP : va_P D vwCl ((mW cy am m0) ++ ((cW cy ad en x ++ [((ob, .inl (cy 6, 1, .inr (.inl (if code = 0 then (vp_updL fo (0 : Int32).toNatClampNeg r.toInt64) else fo)))) : Nat × va_E)]) ++ [((od, .inl (cy 7, 1, .inr (.inr (.inr (.inl fd))))) : Nat × va_E)])) H := pm_P pmM hP
      have hD : va_D A ((mW cy am m0) ++ ((cW cy ad en x ++ [((ob, .inl (cy 6, 1, .inr (.inl (if code = 0 then (vp_updL fo (0 : Int32).toNatClampNeg r.toInt64) else fo)))) : Nat × va_E)]) ++ [((od, .inl (cy 7, 1, .inr (.inr (.inr (.inl fd))))) : Nat × va_E)])) := pm_D pmM hD
      refine fV (w1 := (mW cy am m0)) (w2 := ((cW cy ad en x ++ [((ob, .inl (cy 6, 1, .inr (.inl (if code = 0 then (vp_updL fo (0 : Int32).toNatClampNeg r.toInt64) else fo)))) : Nat × va_E)]) ++ [((od, .inl (cy 7, 1, .inr (.inr (.inr (.inl fd))))) : Nat × va_E)])) (As := [.int 1, .int 0]) (rest := []) hx hb hml hown hw hK8 hN hA hl.1 hP hD hS k_1629 k_1630 k_1631 k_90 k_1632 (met_X10_reason l D cy _ am m0 1 0 (Or.inr rfl) (Or.inl rfl) bb m' hFm) (fun _ _ _ => trivial) Xok_T (gM (am := am) (r := 0) (m := m0) (f := m0 0) (by decide) rfl) rfl ⟨rfl, rfl⟩ (n := 2) (by decide +kernel) rfl ⟨Nat.le_of_ble_eq_true rfl, Nat.le_of_ble_eq_true rfl⟩ hcsA (Nat.le_of_ble_eq_true rfl) rfl dL_law_1745 (fun H locs hP hD hS => ?_)
      have hP : va_P D vwCl ((cW cy ad en x ++ [(ob, .inl (cy 6, 1, .inr (.inl (if code = 0 then (vp_updL fo (0 : Int32).toNatClampNeg r.toInt64) else fo))))]) ++ (mW cy am m' ++ [(od, .inl (cy 7, 1, .inr (.inr (.inr (.inl fd)))))])) H := pm_P pmM.symm hP
      have hD : va_D A ((cW cy ad en x ++ [(ob, .inl (cy 6, 1, .inr (.inl (if code = 0 then (vp_updL fo (0 : Int32).toNatClampNeg r.toInt64) else fo))))]) ++ (mW cy am m' ++ [(od, .inl (cy 7, 1, .inr (.inr (.inr (.inl fd)))))])) := pm_D pmM.symm hD
      refine lv_istore (lv' := [(7, .int bb), (6, .int code), (0, .ref b), (1, .ref (ad 12 0)), (2, .ref (am 0)), (3, .ref ob), (4, .ref od), (5, .int i)]) hx hb dL_law_1748 hl (by decide) rfl (fun ls hl => ?_)
      refine lv_aload_n hx hb dL_law_1750 rfl (lv_at hl 4 rfl) ?_
      have hP : va_P D vwCl ((mW cy am m') ++ ((cW cy ad en x ++ [((ob, .inl (cy 6, 1, .inr (.inl (if code = 0 then (vp_updL fo (0 : Int32).toNatClampNeg r.toInt64) else fo)))) : Nat × va_E)]) ++ [((od, .inl (cy 7, 1, .inr (.inr (.inr (.inl fd))))) : Nat × va_E)])) H := pm_P pmM hP
      have hD : va_D A ((mW cy am m') ++ ((cW cy ad en x ++ [((ob, .inl (cy 6, 1, .inr (.inl (if code = 0 then (vp_updL fo (0 : Int32).toNatClampNeg r.toInt64) else fo)))) : Nat × va_E)]) ++ [((od, .inl (cy 7, 1, .inr (.inr (.inr (.inl fd))))) : Nat × va_E)])) := pm_D pmM hD
      refine fV (w1 := (mW cy am m')) (w2 := ((cW cy ad en x ++ [((ob, .inl (cy 6, 1, .inr (.inl (if code = 0 then (vp_updL fo (0 : Int32).toNatClampNeg r.toInt64) else fo)))) : Nat × va_E)]) ++ [((od, .inl (cy 7, 1, .inr (.inr (.inr (.inl fd))))) : Nat × va_E)])) (As := []) (rest := []) hx hb hml hown hw hK8 hN hA hl.1 hP hD hS k_1625 k_1626 k_1627 k_90 k_1628 (met_X10_thrown l D cy _ am m' code hthr) (fun _ _ _ => trivial) Xok_T (gM (am := am) (r := 0) (m := m') (f := m' 0) (by decide) rfl) rfl ⟨rfl, rfl⟩ (n := 0) (by decide +kernel) rfl ⟨Nat.le_of_ble_eq_true rfl, Nat.le_of_ble_eq_true rfl⟩ hcsA (Nat.le_of_ble_eq_true rfl) rfl dL_law_1751 (fun H locs hP hD hS => ?_)
      have hP : va_P D vwCl ((cW cy ad en x ++ [(ob, .inl (cy 6, 1, .inr (.inl (if code = 0 then (vp_updL fo (0 : Int32).toNatClampNeg r.toInt64) else fo))))]) ++ (mW cy am m' ++ [(od, .inl (cy 7, 1, .inr (.inr (.inr (.inl fd)))))])) H := pm_P pmM.symm hP
      have hD : va_D A ((cW cy ad en x ++ [(ob, .inl (cy 6, 1, .inr (.inl (if code = 0 then (vp_updL fo (0 : Int32).toNatClampNeg r.toInt64) else fo))))]) ++ (mW cy am m' ++ [(od, .inl (cy 7, 1, .inr (.inr (.inr (.inl fd)))))])) := pm_D pmM.symm hD
      refine lv_iload hx hb dL_law_1754 (lv_at hl 1 rfl) ?_
      refine lv_icmp_eq (tgt := 1761) hx hb dL_law_1756 (by decide) (fun _ => ?_) (fun h => absurd rfl h)
      refine lv_iload hx hb dL_law_1761 (lv_at hl 1 rfl) ?_
      refine lv_if_ne (tgt := 1778) hx hb dL_law_1763 (by decide) (fun hk => ?_) (fun hk => ?_)
      · refine lv_goto (tgt := 2250) hx hb dL_law_1778 (by decide) ?_
        exact kk _ _ _ _ H locs ls hInv (cvP hP rfl) (cvD hD rfl) hS (lv_sub hl [2, 3, 4, 5, 6, 7] rfl)
      · have hk0 : code = 0 := hk
        have heq := heq hk0
        refine lv_aload_n hx hb dL_law_1766 rfl (lv_at hl 5 rfl) ?_
        refine lv_iconst (v := 0) hx hb dL_law_1767 (by decide) ?_
        refine va_lald hx hb hK8 hP _ 6 (gA gL) rfl (vp_in_iff.mpr (by decide)) dL_law_1768 ?_
        refine lv_iload hx hb dL_law_1769 (lv_at hl 0 rfl) ?_
        refine lv_i2l hx hb dL_law_1771 rfl ?_
        refine W.lcmp hx hb dL_law_1772 ?_
        refine lv_if_eq (tgt := 1778) hx hb dL_law_1773 (by decide) (fun _ => ?_) (fun h => absurd ?_ h)
        · refine lv_goto (tgt := 2250) hx hb dL_law_1778 (by decide) ?_
          exact kk _ _ _ _ H locs ls hInv (cvP hP rfl) (cvD hD rfl) hS (lv_sub hl [2, 3, 4, 5, 6, 7] rfl)
        · rw [lg_cmp_eq, heq, if_pos hk0]; rfl
    · rw [if_neg e2] at hop
      obtain ⟨code, r, bb, m', hcd, hF, hFm, hthr, heq, hInv⟩ := hop
      refine lv_aload_n hx hb dL_law_1681 rfl (lv_at hl 1 rfl) ?_
      refine lv_aload_n hx hb dL_law_1682 rfl (lv_at hl 0 rfl) ?_
      refine lv_iload hx hb dL_law_1683 (lv_at hl 5 rfl) ?_
      refine lv_iconst (v := 1) hx hb dL_law_1685 (by decide) ?_
      refine lv_iadd hx hb dL_law_1686 ?_
      refine va_sld hx hb hX hbl hbA hS h1 dL_law_1687 ?_
      refine lv_if_eq (tgt := 1695) hx hb dL_law_1688 (by decide) (fun h => absurd h e1) (fun _ => ?_)
      refine lv_iconst (v := 1) hx hb dL_law_1691 (by decide) ?_
      refine lv_goto (tgt := 1696) hx hb dL_law_1692 (by decide) ?_
      refine lv_aload_n hx hb dL_law_1696 rfl (lv_at hl 0 rfl) ?_
      refine lv_iload hx hb dL_law_1697 (lv_at hl 5 rfl) ?_
      refine lv_iconst (v := 2) hx hb dL_law_1699 (by decide) ?_
      refine lv_iadd hx hb dL_law_1700 ?_
      refine va_sld hx hb hX hbl hbA hS h2 dL_law_1701 ?_
      refine lv_if_eq (tgt := 1709) hx hb dL_law_1702 (by decide) (fun h => absurd h e2) (fun _ => ?_)
      refine lv_iconst (v := 1) hx hb dL_law_1705 (by decide) ?_
      refine lv_goto (tgt := 1710) hx hb dL_law_1706 (by decide) ?_
      refine lv_aload_n hx hb dL_law_1710 rfl (lv_at hl 3 rfl) ?_
      refine fW (w1 := (cW cy ad en x ++ [((ob, .inl (cy 6, 1, .inr (.inl fo))) : Nat × va_E)])) (w2 := (mW cy am m0 ++ [((od, .inl (cy 7, 1, .inr (.inr (.inr (.inl fd))))) : Nat × va_E)])) (As := [.ref (ad 12 0), .int 1, .int 1, .ref ob]) (rest := []) hx hb hml hown hw hK8 hN hA hl.1 hP hD hS hST k_1184 k_1185 k_75 k_1186 (met_L_reason l hst0 D cy _ ad en g x 1 1 ob fo (Or.inr rfl) (Or.inr rfl) code r hcd (congrArg some hF)) ⟨rfl, rfl⟩ (n := 4) (by decide +kernel) rfl ⟨Nat.le_of_ble_eq_true rfl, Nat.le_of_ble_eq_true rfl⟩ hcs (Nat.le_of_ble_eq_true rfl) rfl dL_law_1711 (fun H locs hP hD hS => ?_)
      refine lv_istore (lv' := [(6, .int code), (0, .ref b), (1, .ref (ad 12 0)), (2, .ref (am 0)), (3, .ref ob), (4, .ref od), (5, .int i)]) hx hb dL_law_1714 hl (by decide) rfl (fun ls hl => ?_)
      refine lv_aload_n hx hb dL_law_1716 rfl (lv_at hl 3 rfl) ?_
      refine lv_aload_n hx hb dL_law_1717 rfl (lv_at hl 1 rfl) ?_
      refine lv_iload hx hb dL_law_1718 (lv_at hl 6 rfl) ?_
      refine lv_iconst (v := 1) hx hb dL_law_1720 (by decide) ?_
      refine lv_iadd hx hb dL_law_1721 ?_
      refine va_sld hx hb hX hbl hbA hS h1 dL_law_1722 ?_
      refine lv_if_eq (tgt := 1730) hx hb dL_law_1723 (by decide) (fun h => absurd h e1) (fun _ => ?_)
      refine lv_iconst (v := 1) hx hb dL_law_1726 (by decide) ?_
      refine lv_goto (tgt := 1731) hx hb dL_law_1727 (by decide) ?_
      refine lv_aload_n hx hb dL_law_1731 rfl (lv_at hl 1 rfl) ?_
      refine lv_iload hx hb dL_law_1732 (lv_at hl 6 rfl) ?_
      refine lv_iconst (v := 2) hx hb dL_law_1734 (by decide) ?_
      refine lv_iadd hx hb dL_law_1735 ?_
      refine va_sld hx hb hX hbl hbA hS h2 dL_law_1736 ?_
      refine lv_if_eq (tgt := 1744) hx hb dL_law_1737 (by decide) (fun h => absurd h e2) (fun _ => ?_)
      refine lv_iconst (v := 1) hx hb dL_law_1740 (by decide) ?_
      refine lv_goto (tgt := 1745) hx hb dL_law_1741 (by decide) ?_
      have hP : va_P D vwCl ((mW cy am m0) ++ ((cW cy ad en x ++ [((ob, .inl (cy 6, 1, .inr (.inl (if code = 0 then (vp_updL fo (0 : Int32).toNatClampNeg r.toInt64) else fo)))) : Nat × va_E)]) ++ [((od, .inl (cy 7, 1, .inr (.inr (.inr (.inl fd))))) : Nat × va_E)])) H := pm_P pmM hP
      have hD : va_D A ((mW cy am m0) ++ ((cW cy ad en x ++ [((ob, .inl (cy 6, 1, .inr (.inl (if code = 0 then (vp_updL fo (0 : Int32).toNatClampNeg r.toInt64) else fo)))) : Nat × va_E)]) ++ [((od, .inl (cy 7, 1, .inr (.inr (.inr (.inl fd))))) : Nat × va_E)])) := pm_D pmM hD
      refine fV (w1 := (mW cy am m0)) (w2 := ((cW cy ad en x ++ [((ob, .inl (cy 6, 1, .inr (.inl (if code = 0 then (vp_updL fo (0 : Int32).toNatClampNeg r.toInt64) else fo)))) : Nat × va_E)]) ++ [((od, .inl (cy 7, 1, .inr (.inr (.inr (.inl fd))))) : Nat × va_E)])) (As := [.int 1, .int 1]) (rest := []) hx hb hml hown hw hK8 hN hA hl.1 hP hD hS k_1629 k_1630 k_1631 k_90 k_1632 (met_X10_reason l D cy _ am m0 1 1 (Or.inr rfl) (Or.inr rfl) bb m' hFm) (fun _ _ _ => trivial) Xok_T (gM (am := am) (r := 0) (m := m0) (f := m0 0) (by decide) rfl) rfl ⟨rfl, rfl⟩ (n := 2) (by decide +kernel) rfl ⟨Nat.le_of_ble_eq_true rfl, Nat.le_of_ble_eq_true rfl⟩ hcsA (Nat.le_of_ble_eq_true rfl) rfl dL_law_1745 (fun H locs hP hD hS => ?_)
      have hP : va_P D vwCl ((cW cy ad en x ++ [(ob, .inl (cy 6, 1, .inr (.inl (if code = 0 then (vp_updL fo (0 : Int32).toNatClampNeg r.toInt64) else fo))))]) ++ (mW cy am m' ++ [(od, .inl (cy 7, 1, .inr (.inr (.inr (.inl fd)))))])) H := pm_P pmM.symm hP
      have hD : va_D A ((cW cy ad en x ++ [(ob, .inl (cy 6, 1, .inr (.inl (if code = 0 then (vp_updL fo (0 : Int32).toNatClampNeg r.toInt64) else fo))))]) ++ (mW cy am m' ++ [(od, .inl (cy 7, 1, .inr (.inr (.inr (.inl fd)))))])) := pm_D pmM.symm hD
      refine lv_istore (lv' := [(7, .int bb), (6, .int code), (0, .ref b), (1, .ref (ad 12 0)), (2, .ref (am 0)), (3, .ref ob), (4, .ref od), (5, .int i)]) hx hb dL_law_1748 hl (by decide) rfl (fun ls hl => ?_)
      refine lv_aload_n hx hb dL_law_1750 rfl (lv_at hl 4 rfl) ?_
      have hP : va_P D vwCl ((mW cy am m') ++ ((cW cy ad en x ++ [((ob, .inl (cy 6, 1, .inr (.inl (if code = 0 then (vp_updL fo (0 : Int32).toNatClampNeg r.toInt64) else fo)))) : Nat × va_E)]) ++ [((od, .inl (cy 7, 1, .inr (.inr (.inr (.inl fd))))) : Nat × va_E)])) H := pm_P pmM hP
      have hD : va_D A ((mW cy am m') ++ ((cW cy ad en x ++ [((ob, .inl (cy 6, 1, .inr (.inl (if code = 0 then (vp_updL fo (0 : Int32).toNatClampNeg r.toInt64) else fo)))) : Nat × va_E)]) ++ [((od, .inl (cy 7, 1, .inr (.inr (.inr (.inl fd))))) : Nat × va_E)])) := pm_D pmM hD
      refine fV (w1 := (mW cy am m')) (w2 := ((cW cy ad en x ++ [((ob, .inl (cy 6, 1, .inr (.inl (if code = 0 then (vp_updL fo (0 : Int32).toNatClampNeg r.toInt64) else fo)))) : Nat × va_E)]) ++ [((od, .inl (cy 7, 1, .inr (.inr (.inr (.inl fd))))) : Nat × va_E)])) (As := []) (rest := []) hx hb hml hown hw hK8 hN hA hl.1 hP hD hS k_1625 k_1626 k_1627 k_90 k_1628 (met_X10_thrown l D cy _ am m' code hthr) (fun _ _ _ => trivial) Xok_T (gM (am := am) (r := 0) (m := m') (f := m' 0) (by decide) rfl) rfl ⟨rfl, rfl⟩ (n := 0) (by decide +kernel) rfl ⟨Nat.le_of_ble_eq_true rfl, Nat.le_of_ble_eq_true rfl⟩ hcsA (Nat.le_of_ble_eq_true rfl) rfl dL_law_1751 (fun H locs hP hD hS => ?_)
      have hP : va_P D vwCl ((cW cy ad en x ++ [(ob, .inl (cy 6, 1, .inr (.inl (if code = 0 then (vp_updL fo (0 : Int32).toNatClampNeg r.toInt64) else fo))))]) ++ (mW cy am m' ++ [(od, .inl (cy 7, 1, .inr (.inr (.inr (.inl fd)))))])) H := pm_P pmM.symm hP
      have hD : va_D A ((cW cy ad en x ++ [(ob, .inl (cy 6, 1, .inr (.inl (if code = 0 then (vp_updL fo (0 : Int32).toNatClampNeg r.toInt64) else fo))))]) ++ (mW cy am m' ++ [(od, .inl (cy 7, 1, .inr (.inr (.inr (.inl fd)))))])) := pm_D pmM.symm hD
      refine lv_iload hx hb dL_law_1754 (lv_at hl 1 rfl) ?_
      refine lv_icmp_eq (tgt := 1761) hx hb dL_law_1756 (by decide) (fun _ => ?_) (fun h => absurd rfl h)
      refine lv_iload hx hb dL_law_1761 (lv_at hl 1 rfl) ?_
      refine lv_if_ne (tgt := 1778) hx hb dL_law_1763 (by decide) (fun hk => ?_) (fun hk => ?_)
      · refine lv_goto (tgt := 2250) hx hb dL_law_1778 (by decide) ?_
        exact kk _ _ _ _ H locs ls hInv (cvP hP rfl) (cvD hD rfl) hS (lv_sub hl [2, 3, 4, 5, 6, 7] rfl)
      · have hk0 : code = 0 := hk
        have heq := heq hk0
        refine lv_aload_n hx hb dL_law_1766 rfl (lv_at hl 5 rfl) ?_
        refine lv_iconst (v := 0) hx hb dL_law_1767 (by decide) ?_
        refine va_lald hx hb hK8 hP _ 6 (gA gL) rfl (vp_in_iff.mpr (by decide)) dL_law_1768 ?_
        refine lv_iload hx hb dL_law_1769 (lv_at hl 0 rfl) ?_
        refine lv_i2l hx hb dL_law_1771 rfl ?_
        refine W.lcmp hx hb dL_law_1772 ?_
        refine lv_if_eq (tgt := 1778) hx hb dL_law_1773 (by decide) (fun _ => ?_) (fun h => absurd ?_ h)
        · refine lv_goto (tgt := 2250) hx hb dL_law_1778 (by decide) ?_
          exact kk _ _ _ _ H locs ls hInv (cvP hP rfl) (cvD hD rfl) hS (lv_sub hl [2, 3, 4, 5, 6, 7] rfl)
        · rw [lg_cmp_eq, heq, if_pos hk0]; rfl
def OK_line (Inv : Mem → (Nat → Nat → Int32) → Prop) (x : Mem) (m : Nat → Nat → Int32) (p1 : Int32) : Prop := ∃ (code : Int32) (r : Int32) (x' : Mem) (bb : Int32) (m' : Nat → Nat → Int32), (code = 0 ∨ code = 1) ∧ D_X9_line x p1 = some (code, r, x') ∧ D_X10_line m p1 = some (bb, m') ∧ D_X10_thrown m' = code ∧ (code = 0 → r = bb) ∧ Inv x' m'
set_option maxHeartbeats 4000000 in
theorem lw_line {Inv : Mem → (Nat → Nat → Int32) → Prop} {p : Program} {l : Launch} (hst0 : l.stackTraces = false) {e : Env} {s : State} {m : MethodId} {below : List Frame} {meth : Method} {c : Code} {b L : Nat} {xs : Nat → Int32} {A : Nat → Prop} {D : va_G} {cy : Nat → ClassId} {en g : Nat → Nat} {Q : State → Prop} (hC : LC p s m c b L xs A D cy en g) {ad : Nat → Nat → Nat} {am : Nat → Nat} {ob od : Nat} {x : Mem} {m0 : Nat → Nat → Int32} {fo : Nat → Int64} {fd : Nat → UInt64} {i : Int32} {H : Heap} {locs : List Loc} {ls : Array Slot} {cells slots : Nat} (h1 : vp_in (i + 1) L) (h2 : vp_in (i + 2) L) (h3 : vp_in (i + 3) L) (hcs : cells + 2 ≤ room_1.cells ∧ slots + 12 ≤ room_1.slots) (hop : OK_line Inv x m0 (xs (i + 1).toNatClampNeg)) (hP : va_P D vwCl ((cW cy ad en x ++ [(ob, .inl (cy 6, 1, .inr (.inl fo)))]) ++ (mW cy am m0 ++ [(od, .inl (cy 7, 1, .inr (.inr (.inr (.inl fd)))))])) H) (hD : va_D A ((cW cy ad en x ++ [(ob, .inl (cy 6, 1, .inr (.inl fo)))]) ++ (mW cy am m0 ++ [(od, .inl (cy 7, 1, .inr (.inr (.inr (.inl fd)))))]))) (hS : va_S A s.heap H locs) (hl : lv_has ls 9 [(0, .ref b), (1, .ref (ad 12 0)), (2, .ref (am 0)), (3, .ref ob), (4, .ref od), (5, .int i)]) (kk : ∀ (x' : Mem) (m' : Nat → Nat → Int32) (fo' : Nat → Int64) (fd' : Nat → UInt64) (H : Heap) (locs : List Loc) (ls : Array Slot), Inv x' m' → va_P D vwCl ((cW cy ad en x' ++ [(ob, .inl (cy 6, 1, .inr (.inl fo')))]) ++ (mW cy am m' ++ [(od, .inl (cy 7, 1, .inr (.inr (.inr (.inl fd')))))])) H → va_D A ((cW cy ad en x' ++ [(ob, .inl (cy 6, 1, .inr (.inl fo')))]) ++ (mW cy am m' ++ [(od, .inl (cy 7, 1, .inr (.inr (.inr (.inl fd')))))])) → va_S A s.heap H locs → lv_has ls 9 [(0, .ref b), (1, .ref (ad 12 0)), (2, .ref (am 0)), (3, .ref ob), (4, .ref od), (5, .int i)] → W p l e room_1 s m #[Value.ref b] below meth c H locs (cells + 2) (slots + 12) Q (F0 m 2250 ls [])) : W p l e room_1 s m #[Value.ref b] below meth c H locs cells slots Q (F0 m 1781 ls []) := by
  obtain ⟨hx, hb, hml, hown, hw, hK8, hN, hST, hX, hbl, hbA, hA⟩ := hC
  have hK := hKL hK8
  have hcs0 : cells ≤ room_1.cells ∧ slots ≤ room_1.slots := ⟨Nat.le_trans (Nat.le_add_right _ 2) hcs.1, Nat.le_trans (Nat.le_add_right _ 12) hcs.2⟩
  have hcsA : cells + 2 ≤ room_1.cells ∧ slots + 12 ≤ room_1.slots := hcs
  obtain ⟨code, r, x', bb, m', hcd, hF, hFm, hthr, heq, hInv⟩ := hop
  refine lv_aload_n hx hb dL_law_1781 rfl (lv_at hl 1 rfl) ?_
  refine lv_aload_n hx hb dL_law_1782 rfl (lv_at hl 0 rfl) ?_
  refine lv_iload hx hb dL_law_1783 (lv_at hl 5 rfl) ?_
  refine lv_iconst (v := 1) hx hb dL_law_1785 (by decide) ?_
  refine lv_iadd hx hb dL_law_1786 ?_
  refine va_sld hx hb hX hbl hbA hS h1 dL_law_1787 ?_
  refine lv_aload_n hx hb dL_law_1788 rfl (lv_at hl 3 rfl) ?_
  refine fW (w1 := (cW cy ad en x ++ [((ob, .inl (cy 6, 1, .inr (.inl fo))) : Nat × va_E)])) (w2 := (mW cy am m0 ++ [((od, .inl (cy 7, 1, .inr (.inr (.inr (.inl fd))))) : Nat × va_E)])) (As := [.ref (ad 12 0), .int (xs (i + 1).toNatClampNeg), .ref ob]) (rest := []) hx hb hml hown hw hK8 hN hA hl.1 hP hD hS hST k_1192 k_1193 k_75 k_1194 (met_L_line l hst0 D cy _ ad en g x (xs (i + 1).toNatClampNeg) ob fo code r x' hcd hF) ⟨rfl, rfl⟩ (n := 3) (by decide +kernel) rfl ⟨Nat.le_of_ble_eq_true rfl, Nat.le_of_ble_eq_true rfl⟩ hcs (Nat.le_of_ble_eq_true rfl) rfl dL_law_1789 (fun H locs hP hD hS => ?_)
  refine lv_istore (lv' := [(6, .int code), (0, .ref b), (1, .ref (ad 12 0)), (2, .ref (am 0)), (3, .ref ob), (4, .ref od), (5, .int i)]) hx hb dL_law_1792 hl (by decide) rfl (fun ls hl => ?_)
  refine lv_aload_n hx hb dL_law_1794 rfl (lv_at hl 3 rfl) ?_
  refine lv_aload_n hx hb dL_law_1795 rfl (lv_at hl 1 rfl) ?_
  refine lv_iload hx hb dL_law_1796 (lv_at hl 6 rfl) ?_
  refine lv_iconst (v := 1) hx hb dL_law_1798 (by decide) ?_
  refine lv_iadd hx hb dL_law_1799 ?_
  refine va_sld hx hb hX hbl hbA hS h1 dL_law_1800 ?_
  have hP : va_P D vwCl ((mW cy am m0) ++ ((cW cy ad en x' ++ [((ob, .inl (cy 6, 1, .inr (.inl (if code = 0 then (vp_updL fo (0 : Int32).toNatClampNeg r.toInt64) else fo)))) : Nat × va_E)]) ++ [((od, .inl (cy 7, 1, .inr (.inr (.inr (.inl fd))))) : Nat × va_E)])) H := pm_P pmM hP
  have hD : va_D A ((mW cy am m0) ++ ((cW cy ad en x' ++ [((ob, .inl (cy 6, 1, .inr (.inl (if code = 0 then (vp_updL fo (0 : Int32).toNatClampNeg r.toInt64) else fo)))) : Nat × va_E)]) ++ [((od, .inl (cy 7, 1, .inr (.inr (.inr (.inl fd))))) : Nat × va_E)])) := pm_D pmM hD
  refine fV (w1 := (mW cy am m0)) (w2 := ((cW cy ad en x' ++ [((ob, .inl (cy 6, 1, .inr (.inl (if code = 0 then (vp_updL fo (0 : Int32).toNatClampNeg r.toInt64) else fo)))) : Nat × va_E)]) ++ [((od, .inl (cy 7, 1, .inr (.inr (.inr (.inl fd))))) : Nat × va_E)])) (As := [.int (xs (i + 1).toNatClampNeg)]) (rest := []) hx hb hml hown hw hK8 hN hA hl.1 hP hD hS k_1928 k_1929 k_1930 k_90 k_1931 (met_X10_line l D cy _ am m0 (xs (i + 1).toNatClampNeg) bb m' hFm) (fun _ _ _ => trivial) Xok_T (gM (am := am) (r := 0) (m := m0) (f := m0 0) (by decide) rfl) rfl ⟨rfl, rfl⟩ (n := 1) (by decide +kernel) rfl ⟨Nat.le_of_ble_eq_true rfl, Nat.le_of_ble_eq_true rfl⟩ hcsA (Nat.le_of_ble_eq_true rfl) rfl dL_law_1801 (fun H locs hP hD hS => ?_)
  have hP : va_P D vwCl ((cW cy ad en x' ++ [(ob, .inl (cy 6, 1, .inr (.inl (if code = 0 then (vp_updL fo (0 : Int32).toNatClampNeg r.toInt64) else fo))))]) ++ (mW cy am m' ++ [(od, .inl (cy 7, 1, .inr (.inr (.inr (.inl fd)))))])) H := pm_P pmM.symm hP
  have hD : va_D A ((cW cy ad en x' ++ [(ob, .inl (cy 6, 1, .inr (.inl (if code = 0 then (vp_updL fo (0 : Int32).toNatClampNeg r.toInt64) else fo))))]) ++ (mW cy am m' ++ [(od, .inl (cy 7, 1, .inr (.inr (.inr (.inl fd)))))])) := pm_D pmM.symm hD
  refine lv_istore (lv' := [(7, .int bb), (6, .int code), (0, .ref b), (1, .ref (ad 12 0)), (2, .ref (am 0)), (3, .ref ob), (4, .ref od), (5, .int i)]) hx hb dL_law_1804 hl (by decide) rfl (fun ls hl => ?_)
  refine lv_aload_n hx hb dL_law_1806 rfl (lv_at hl 4 rfl) ?_
  have hP : va_P D vwCl ((mW cy am m') ++ ((cW cy ad en x' ++ [((ob, .inl (cy 6, 1, .inr (.inl (if code = 0 then (vp_updL fo (0 : Int32).toNatClampNeg r.toInt64) else fo)))) : Nat × va_E)]) ++ [((od, .inl (cy 7, 1, .inr (.inr (.inr (.inl fd))))) : Nat × va_E)])) H := pm_P pmM hP
  have hD : va_D A ((mW cy am m') ++ ((cW cy ad en x' ++ [((ob, .inl (cy 6, 1, .inr (.inl (if code = 0 then (vp_updL fo (0 : Int32).toNatClampNeg r.toInt64) else fo)))) : Nat × va_E)]) ++ [((od, .inl (cy 7, 1, .inr (.inr (.inr (.inl fd))))) : Nat × va_E)])) := pm_D pmM hD
  refine fV (w1 := (mW cy am m')) (w2 := ((cW cy ad en x' ++ [((ob, .inl (cy 6, 1, .inr (.inl (if code = 0 then (vp_updL fo (0 : Int32).toNatClampNeg r.toInt64) else fo)))) : Nat × va_E)]) ++ [((od, .inl (cy 7, 1, .inr (.inr (.inr (.inl fd))))) : Nat × va_E)])) (As := []) (rest := []) hx hb hml hown hw hK8 hN hA hl.1 hP hD hS k_1625 k_1626 k_1627 k_90 k_1628 (met_X10_thrown l D cy _ am m' code hthr) (fun _ _ _ => trivial) Xok_T (gM (am := am) (r := 0) (m := m') (f := m' 0) (by decide) rfl) rfl ⟨rfl, rfl⟩ (n := 0) (by decide +kernel) rfl ⟨Nat.le_of_ble_eq_true rfl, Nat.le_of_ble_eq_true rfl⟩ hcsA (Nat.le_of_ble_eq_true rfl) rfl dL_law_1807 (fun H locs hP hD hS => ?_)
  have hP : va_P D vwCl ((cW cy ad en x' ++ [(ob, .inl (cy 6, 1, .inr (.inl (if code = 0 then (vp_updL fo (0 : Int32).toNatClampNeg r.toInt64) else fo))))]) ++ (mW cy am m' ++ [(od, .inl (cy 7, 1, .inr (.inr (.inr (.inl fd)))))])) H := pm_P pmM.symm hP
  have hD : va_D A ((cW cy ad en x' ++ [(ob, .inl (cy 6, 1, .inr (.inl (if code = 0 then (vp_updL fo (0 : Int32).toNatClampNeg r.toInt64) else fo))))]) ++ (mW cy am m' ++ [(od, .inl (cy 7, 1, .inr (.inr (.inr (.inl fd)))))])) := pm_D pmM.symm hD
  refine lv_iload hx hb dL_law_1810 (lv_at hl 1 rfl) ?_
  refine lv_icmp_eq (tgt := 1817) hx hb dL_law_1812 (by decide) (fun _ => ?_) (fun h => absurd rfl h)
  refine lv_iload hx hb dL_law_1817 (lv_at hl 1 rfl) ?_
  refine lv_if_ne (tgt := 1834) hx hb dL_law_1819 (by decide) (fun hk => ?_) (fun hk => ?_)
  · refine lv_goto (tgt := 2250) hx hb dL_law_1834 (by decide) ?_
    exact kk _ _ _ _ H locs ls hInv (cvP hP rfl) (cvD hD rfl) hS (lv_sub hl [2, 3, 4, 5, 6, 7] rfl)
  · have hk0 : code = 0 := hk
    have heq := heq hk0
    refine lv_aload_n hx hb dL_law_1822 rfl (lv_at hl 5 rfl) ?_
    refine lv_iconst (v := 0) hx hb dL_law_1823 (by decide) ?_
    refine va_lald hx hb hK8 hP _ 6 (gA gL) rfl (vp_in_iff.mpr (by decide)) dL_law_1824 ?_
    refine lv_iload hx hb dL_law_1825 (lv_at hl 0 rfl) ?_
    refine lv_i2l hx hb dL_law_1827 rfl ?_
    refine W.lcmp hx hb dL_law_1828 ?_
    refine lv_if_eq (tgt := 1834) hx hb dL_law_1829 (by decide) (fun _ => ?_) (fun h => absurd ?_ h)
    · refine lv_goto (tgt := 2250) hx hb dL_law_1834 (by decide) ?_
      exact kk _ _ _ _ H locs ls hInv (cvP hP rfl) (cvD hD rfl) hS (lv_sub hl [2, 3, 4, 5, 6, 7] rfl)
    · rw [lg_cmp_eq, heq, if_pos hk0]; rfl
def OK_dawnLine (Inv : Mem → (Nat → Nat → Int32) → Prop) (x : Mem) (m : Nat → Nat → Int32) (p1 : Int32) : Prop := ∃ (code : Int32) (r : Int32) (x' : Mem) (bb : Int32) (m' : Nat → Nat → Int32), (code = 0 ∨ code = 1) ∧ D_X9_dawnLine x p1 = some (code, r, x') ∧ D_X10_dawnLine m p1 = some (bb, m') ∧ D_X10_thrown m' = code ∧ (code = 0 → r = bb) ∧ Inv x' m'
set_option maxHeartbeats 4000000 in
theorem lw_dawnLine {Inv : Mem → (Nat → Nat → Int32) → Prop} {p : Program} {l : Launch} (hst0 : l.stackTraces = false) {e : Env} {s : State} {m : MethodId} {below : List Frame} {meth : Method} {c : Code} {b L : Nat} {xs : Nat → Int32} {A : Nat → Prop} {D : va_G} {cy : Nat → ClassId} {en g : Nat → Nat} {Q : State → Prop} (hC : LC p s m c b L xs A D cy en g) {ad : Nat → Nat → Nat} {am : Nat → Nat} {ob od : Nat} {x : Mem} {m0 : Nat → Nat → Int32} {fo : Nat → Int64} {fd : Nat → UInt64} {i : Int32} {H : Heap} {locs : List Loc} {ls : Array Slot} {cells slots : Nat} (h1 : vp_in (i + 1) L) (h2 : vp_in (i + 2) L) (h3 : vp_in (i + 3) L) (hcs : cells + 2 ≤ room_1.cells ∧ slots + 12 ≤ room_1.slots) (hop : OK_dawnLine Inv x m0 (xs (i + 1).toNatClampNeg)) (hP : va_P D vwCl ((cW cy ad en x ++ [(ob, .inl (cy 6, 1, .inr (.inl fo)))]) ++ (mW cy am m0 ++ [(od, .inl (cy 7, 1, .inr (.inr (.inr (.inl fd)))))])) H) (hD : va_D A ((cW cy ad en x ++ [(ob, .inl (cy 6, 1, .inr (.inl fo)))]) ++ (mW cy am m0 ++ [(od, .inl (cy 7, 1, .inr (.inr (.inr (.inl fd)))))]))) (hS : va_S A s.heap H locs) (hl : lv_has ls 9 [(0, .ref b), (1, .ref (ad 12 0)), (2, .ref (am 0)), (3, .ref ob), (4, .ref od), (5, .int i)]) (kk : ∀ (x' : Mem) (m' : Nat → Nat → Int32) (fo' : Nat → Int64) (fd' : Nat → UInt64) (H : Heap) (locs : List Loc) (ls : Array Slot), Inv x' m' → va_P D vwCl ((cW cy ad en x' ++ [(ob, .inl (cy 6, 1, .inr (.inl fo')))]) ++ (mW cy am m' ++ [(od, .inl (cy 7, 1, .inr (.inr (.inr (.inl fd')))))])) H → va_D A ((cW cy ad en x' ++ [(ob, .inl (cy 6, 1, .inr (.inl fo')))]) ++ (mW cy am m' ++ [(od, .inl (cy 7, 1, .inr (.inr (.inr (.inl fd')))))])) → va_S A s.heap H locs → lv_has ls 9 [(0, .ref b), (1, .ref (ad 12 0)), (2, .ref (am 0)), (3, .ref ob), (4, .ref od), (5, .int i)] → W p l e room_1 s m #[Value.ref b] below meth c H locs (cells + 2) (slots + 12) Q (F0 m 2250 ls [])) : W p l e room_1 s m #[Value.ref b] below meth c H locs cells slots Q (F0 m 1837 ls []) := by
  obtain ⟨hx, hb, hml, hown, hw, hK8, hN, hST, hX, hbl, hbA, hA⟩ := hC
  have hK := hKL hK8
  have hcs0 : cells ≤ room_1.cells ∧ slots ≤ room_1.slots := ⟨Nat.le_trans (Nat.le_add_right _ 2) hcs.1, Nat.le_trans (Nat.le_add_right _ 12) hcs.2⟩
  have hcsA : cells + 2 ≤ room_1.cells ∧ slots + 12 ≤ room_1.slots := hcs
  obtain ⟨code, r, x', bb, m', hcd, hF, hFm, hthr, heq, hInv⟩ := hop
  refine lv_aload_n hx hb dL_law_1837 rfl (lv_at hl 1 rfl) ?_
  refine lv_aload_n hx hb dL_law_1838 rfl (lv_at hl 0 rfl) ?_
  refine lv_iload hx hb dL_law_1839 (lv_at hl 5 rfl) ?_
  refine lv_iconst (v := 1) hx hb dL_law_1841 (by decide) ?_
  refine lv_iadd hx hb dL_law_1842 ?_
  refine va_sld hx hb hX hbl hbA hS h1 dL_law_1843 ?_
  refine lv_aload_n hx hb dL_law_1844 rfl (lv_at hl 3 rfl) ?_
  refine fW (w1 := (cW cy ad en x ++ [((ob, .inl (cy 6, 1, .inr (.inl fo))) : Nat × va_E)])) (w2 := (mW cy am m0 ++ [((od, .inl (cy 7, 1, .inr (.inr (.inr (.inl fd))))) : Nat × va_E)])) (As := [.ref (ad 12 0), .int (xs (i + 1).toNatClampNeg), .ref ob]) (rest := []) hx hb hml hown hw hK8 hN hA hl.1 hP hD hS hST k_1451 k_1452 k_75 k_1453 (met_L_dawnLine l hst0 D cy _ ad en g x (xs (i + 1).toNatClampNeg) ob fo code r x' hcd hF) ⟨rfl, rfl⟩ (n := 3) (by decide +kernel) rfl ⟨Nat.le_of_ble_eq_true rfl, Nat.le_of_ble_eq_true rfl⟩ hcs (Nat.le_of_ble_eq_true rfl) rfl dL_law_1845 (fun H locs hP hD hS => ?_)
  refine lv_istore (lv' := [(6, .int code), (0, .ref b), (1, .ref (ad 12 0)), (2, .ref (am 0)), (3, .ref ob), (4, .ref od), (5, .int i)]) hx hb dL_law_1848 hl (by decide) rfl (fun ls hl => ?_)
  refine lv_aload_n hx hb dL_law_1850 rfl (lv_at hl 3 rfl) ?_
  refine lv_aload_n hx hb dL_law_1851 rfl (lv_at hl 1 rfl) ?_
  refine lv_iload hx hb dL_law_1852 (lv_at hl 6 rfl) ?_
  refine lv_iconst (v := 1) hx hb dL_law_1854 (by decide) ?_
  refine lv_iadd hx hb dL_law_1855 ?_
  refine va_sld hx hb hX hbl hbA hS h1 dL_law_1856 ?_
  have hP : va_P D vwCl ((mW cy am m0) ++ ((cW cy ad en x' ++ [((ob, .inl (cy 6, 1, .inr (.inl (if code = 0 then (vp_updL fo (0 : Int32).toNatClampNeg r.toInt64) else fo)))) : Nat × va_E)]) ++ [((od, .inl (cy 7, 1, .inr (.inr (.inr (.inl fd))))) : Nat × va_E)])) H := pm_P pmM hP
  have hD : va_D A ((mW cy am m0) ++ ((cW cy ad en x' ++ [((ob, .inl (cy 6, 1, .inr (.inl (if code = 0 then (vp_updL fo (0 : Int32).toNatClampNeg r.toInt64) else fo)))) : Nat × va_E)]) ++ [((od, .inl (cy 7, 1, .inr (.inr (.inr (.inl fd))))) : Nat × va_E)])) := pm_D pmM hD
  refine fV (w1 := (mW cy am m0)) (w2 := ((cW cy ad en x' ++ [((ob, .inl (cy 6, 1, .inr (.inl (if code = 0 then (vp_updL fo (0 : Int32).toNatClampNeg r.toInt64) else fo)))) : Nat × va_E)]) ++ [((od, .inl (cy 7, 1, .inr (.inr (.inr (.inl fd))))) : Nat × va_E)])) (As := [.int (xs (i + 1).toNatClampNeg)]) (rest := []) hx hb hml hown hw hK8 hN hA hl.1 hP hD hS k_1940 k_1941 k_1942 k_90 k_1943 (met_X10_dawnLine l D cy _ am m0 (xs (i + 1).toNatClampNeg) bb m' hFm) (fun _ _ _ => trivial) Xok_T (gM (am := am) (r := 0) (m := m0) (f := m0 0) (by decide) rfl) rfl ⟨rfl, rfl⟩ (n := 1) (by decide +kernel) rfl ⟨Nat.le_of_ble_eq_true rfl, Nat.le_of_ble_eq_true rfl⟩ hcsA (Nat.le_of_ble_eq_true rfl) rfl dL_law_1857 (fun H locs hP hD hS => ?_)
  have hP : va_P D vwCl ((cW cy ad en x' ++ [(ob, .inl (cy 6, 1, .inr (.inl (if code = 0 then (vp_updL fo (0 : Int32).toNatClampNeg r.toInt64) else fo))))]) ++ (mW cy am m' ++ [(od, .inl (cy 7, 1, .inr (.inr (.inr (.inl fd)))))])) H := pm_P pmM.symm hP
  have hD : va_D A ((cW cy ad en x' ++ [(ob, .inl (cy 6, 1, .inr (.inl (if code = 0 then (vp_updL fo (0 : Int32).toNatClampNeg r.toInt64) else fo))))]) ++ (mW cy am m' ++ [(od, .inl (cy 7, 1, .inr (.inr (.inr (.inl fd)))))])) := pm_D pmM.symm hD
  refine lv_istore (lv' := [(7, .int bb), (6, .int code), (0, .ref b), (1, .ref (ad 12 0)), (2, .ref (am 0)), (3, .ref ob), (4, .ref od), (5, .int i)]) hx hb dL_law_1860 hl (by decide) rfl (fun ls hl => ?_)
  refine lv_aload_n hx hb dL_law_1862 rfl (lv_at hl 4 rfl) ?_
  have hP : va_P D vwCl ((mW cy am m') ++ ((cW cy ad en x' ++ [((ob, .inl (cy 6, 1, .inr (.inl (if code = 0 then (vp_updL fo (0 : Int32).toNatClampNeg r.toInt64) else fo)))) : Nat × va_E)]) ++ [((od, .inl (cy 7, 1, .inr (.inr (.inr (.inl fd))))) : Nat × va_E)])) H := pm_P pmM hP
  have hD : va_D A ((mW cy am m') ++ ((cW cy ad en x' ++ [((ob, .inl (cy 6, 1, .inr (.inl (if code = 0 then (vp_updL fo (0 : Int32).toNatClampNeg r.toInt64) else fo)))) : Nat × va_E)]) ++ [((od, .inl (cy 7, 1, .inr (.inr (.inr (.inl fd))))) : Nat × va_E)])) := pm_D pmM hD
  refine fV (w1 := (mW cy am m')) (w2 := ((cW cy ad en x' ++ [((ob, .inl (cy 6, 1, .inr (.inl (if code = 0 then (vp_updL fo (0 : Int32).toNatClampNeg r.toInt64) else fo)))) : Nat × va_E)]) ++ [((od, .inl (cy 7, 1, .inr (.inr (.inr (.inl fd))))) : Nat × va_E)])) (As := []) (rest := []) hx hb hml hown hw hK8 hN hA hl.1 hP hD hS k_1625 k_1626 k_1627 k_90 k_1628 (met_X10_thrown l D cy _ am m' code hthr) (fun _ _ _ => trivial) Xok_T (gM (am := am) (r := 0) (m := m') (f := m' 0) (by decide) rfl) rfl ⟨rfl, rfl⟩ (n := 0) (by decide +kernel) rfl ⟨Nat.le_of_ble_eq_true rfl, Nat.le_of_ble_eq_true rfl⟩ hcsA (Nat.le_of_ble_eq_true rfl) rfl dL_law_1863 (fun H locs hP hD hS => ?_)
  have hP : va_P D vwCl ((cW cy ad en x' ++ [(ob, .inl (cy 6, 1, .inr (.inl (if code = 0 then (vp_updL fo (0 : Int32).toNatClampNeg r.toInt64) else fo))))]) ++ (mW cy am m' ++ [(od, .inl (cy 7, 1, .inr (.inr (.inr (.inl fd)))))])) H := pm_P pmM.symm hP
  have hD : va_D A ((cW cy ad en x' ++ [(ob, .inl (cy 6, 1, .inr (.inl (if code = 0 then (vp_updL fo (0 : Int32).toNatClampNeg r.toInt64) else fo))))]) ++ (mW cy am m' ++ [(od, .inl (cy 7, 1, .inr (.inr (.inr (.inl fd)))))])) := pm_D pmM.symm hD
  refine lv_iload hx hb dL_law_1866 (lv_at hl 1 rfl) ?_
  refine lv_icmp_eq (tgt := 1873) hx hb dL_law_1868 (by decide) (fun _ => ?_) (fun h => absurd rfl h)
  refine lv_iload hx hb dL_law_1873 (lv_at hl 1 rfl) ?_
  refine lv_if_ne (tgt := 1890) hx hb dL_law_1875 (by decide) (fun hk => ?_) (fun hk => ?_)
  · refine lv_goto (tgt := 2250) hx hb dL_law_1890 (by decide) ?_
    exact kk _ _ _ _ H locs ls hInv (cvP hP rfl) (cvD hD rfl) hS (lv_sub hl [2, 3, 4, 5, 6, 7] rfl)
  · have hk0 : code = 0 := hk
    have heq := heq hk0
    refine lv_aload_n hx hb dL_law_1878 rfl (lv_at hl 5 rfl) ?_
    refine lv_iconst (v := 0) hx hb dL_law_1879 (by decide) ?_
    refine va_lald hx hb hK8 hP _ 6 (gA gL) rfl (vp_in_iff.mpr (by decide)) dL_law_1880 ?_
    refine lv_iload hx hb dL_law_1881 (lv_at hl 0 rfl) ?_
    refine lv_i2l hx hb dL_law_1883 rfl ?_
    refine W.lcmp hx hb dL_law_1884 ?_
    refine lv_if_eq (tgt := 1890) hx hb dL_law_1885 (by decide) (fun _ => ?_) (fun h => absurd ?_ h)
    · refine lv_goto (tgt := 2250) hx hb dL_law_1890 (by decide) ?_
      exact kk _ _ _ _ H locs ls hInv (cvP hP rfl) (cvD hD rfl) hS (lv_sub hl [2, 3, 4, 5, 6, 7] rfl)
    · rw [lg_cmp_eq, heq, if_pos hk0]; rfl
def OK_character (Inv : Mem → (Nat → Nat → Int32) → Prop) (x : Mem) (m : Nat → Nat → Int32) (p1 : Int32) : Prop := ∃ (code : Int32) (r : Int32) (bb : Int32) (m' : Nat → Nat → Int32), (code = 0 ∨ code = 1) ∧ D_X9_character x p1 = some (code, r) ∧ D_X10_character m p1 = some (bb, m') ∧ D_X10_thrown m' = code ∧ (code = 0 → r = bb) ∧ Inv x m'
set_option maxHeartbeats 4000000 in
theorem lw_character {Inv : Mem → (Nat → Nat → Int32) → Prop} {p : Program} {l : Launch} (hst0 : l.stackTraces = false) {e : Env} {s : State} {m : MethodId} {below : List Frame} {meth : Method} {c : Code} {b L : Nat} {xs : Nat → Int32} {A : Nat → Prop} {D : va_G} {cy : Nat → ClassId} {en g : Nat → Nat} {Q : State → Prop} (hC : LC p s m c b L xs A D cy en g) {ad : Nat → Nat → Nat} {am : Nat → Nat} {ob od : Nat} {x : Mem} {m0 : Nat → Nat → Int32} {fo : Nat → Int64} {fd : Nat → UInt64} {i : Int32} {H : Heap} {locs : List Loc} {ls : Array Slot} {cells slots : Nat} (h1 : vp_in (i + 1) L) (h2 : vp_in (i + 2) L) (h3 : vp_in (i + 3) L) (hcs : cells + 2 ≤ room_1.cells ∧ slots + 12 ≤ room_1.slots) (hop : OK_character Inv x m0 (xs (i + 1).toNatClampNeg)) (hP : va_P D vwCl ((cW cy ad en x ++ [(ob, .inl (cy 6, 1, .inr (.inl fo)))]) ++ (mW cy am m0 ++ [(od, .inl (cy 7, 1, .inr (.inr (.inr (.inl fd)))))])) H) (hD : va_D A ((cW cy ad en x ++ [(ob, .inl (cy 6, 1, .inr (.inl fo)))]) ++ (mW cy am m0 ++ [(od, .inl (cy 7, 1, .inr (.inr (.inr (.inl fd)))))]))) (hS : va_S A s.heap H locs) (hl : lv_has ls 9 [(0, .ref b), (1, .ref (ad 12 0)), (2, .ref (am 0)), (3, .ref ob), (4, .ref od), (5, .int i)]) (kk : ∀ (x' : Mem) (m' : Nat → Nat → Int32) (fo' : Nat → Int64) (fd' : Nat → UInt64) (H : Heap) (locs : List Loc) (ls : Array Slot), Inv x' m' → va_P D vwCl ((cW cy ad en x' ++ [(ob, .inl (cy 6, 1, .inr (.inl fo')))]) ++ (mW cy am m' ++ [(od, .inl (cy 7, 1, .inr (.inr (.inr (.inl fd')))))])) H → va_D A ((cW cy ad en x' ++ [(ob, .inl (cy 6, 1, .inr (.inl fo')))]) ++ (mW cy am m' ++ [(od, .inl (cy 7, 1, .inr (.inr (.inr (.inl fd')))))])) → va_S A s.heap H locs → lv_has ls 9 [(0, .ref b), (1, .ref (ad 12 0)), (2, .ref (am 0)), (3, .ref ob), (4, .ref od), (5, .int i)] → W p l e room_1 s m #[Value.ref b] below meth c H locs (cells + 2) (slots + 12) Q (F0 m 2250 ls [])) : W p l e room_1 s m #[Value.ref b] below meth c H locs cells slots Q (F0 m 1893 ls []) := by
  obtain ⟨hx, hb, hml, hown, hw, hK8, hN, hST, hX, hbl, hbA, hA⟩ := hC
  have hK := hKL hK8
  have hcs0 : cells ≤ room_1.cells ∧ slots ≤ room_1.slots := ⟨Nat.le_trans (Nat.le_add_right _ 2) hcs.1, Nat.le_trans (Nat.le_add_right _ 12) hcs.2⟩
  have hcsA : cells + 2 ≤ room_1.cells ∧ slots + 12 ≤ room_1.slots := hcs
  obtain ⟨code, r, bb, m', hcd, hF, hFm, hthr, heq, hInv⟩ := hop
  refine lv_aload_n hx hb dL_law_1893 rfl (lv_at hl 1 rfl) ?_
  refine lv_aload_n hx hb dL_law_1894 rfl (lv_at hl 0 rfl) ?_
  refine lv_iload hx hb dL_law_1895 (lv_at hl 5 rfl) ?_
  refine lv_iconst (v := 1) hx hb dL_law_1897 (by decide) ?_
  refine lv_iadd hx hb dL_law_1898 ?_
  refine va_sld hx hb hX hbl hbA hS h1 dL_law_1899 ?_
  refine lv_aload_n hx hb dL_law_1900 rfl (lv_at hl 3 rfl) ?_
  refine fW (w1 := (cW cy ad en x ++ [((ob, .inl (cy 6, 1, .inr (.inl fo))) : Nat × va_E)])) (w2 := (mW cy am m0 ++ [((od, .inl (cy 7, 1, .inr (.inr (.inr (.inl fd))))) : Nat × va_E)])) (As := [.ref (ad 12 0), .int (xs (i + 1).toNatClampNeg), .ref ob]) (rest := []) hx hb hml hown hw hK8 hN hA hl.1 hP hD hS hST k_1466 k_1467 k_75 k_1468 (met_L_character l hst0 D cy _ ad en g x (xs (i + 1).toNatClampNeg) ob fo code r hcd hF) ⟨rfl, rfl⟩ (n := 3) (by decide +kernel) rfl ⟨Nat.le_of_ble_eq_true rfl, Nat.le_of_ble_eq_true rfl⟩ hcs (Nat.le_of_ble_eq_true rfl) rfl dL_law_1901 (fun H locs hP hD hS => ?_)
  refine lv_istore (lv' := [(6, .int code), (0, .ref b), (1, .ref (ad 12 0)), (2, .ref (am 0)), (3, .ref ob), (4, .ref od), (5, .int i)]) hx hb dL_law_1904 hl (by decide) rfl (fun ls hl => ?_)
  refine lv_aload_n hx hb dL_law_1906 rfl (lv_at hl 3 rfl) ?_
  refine lv_aload_n hx hb dL_law_1907 rfl (lv_at hl 1 rfl) ?_
  refine lv_iload hx hb dL_law_1908 (lv_at hl 6 rfl) ?_
  refine lv_iconst (v := 1) hx hb dL_law_1910 (by decide) ?_
  refine lv_iadd hx hb dL_law_1911 ?_
  refine va_sld hx hb hX hbl hbA hS h1 dL_law_1912 ?_
  have hP : va_P D vwCl ((mW cy am m0) ++ ((cW cy ad en x ++ [((ob, .inl (cy 6, 1, .inr (.inl (if code = 0 then (vp_updL fo (0 : Int32).toNatClampNeg r.toInt64) else fo)))) : Nat × va_E)]) ++ [((od, .inl (cy 7, 1, .inr (.inr (.inr (.inl fd))))) : Nat × va_E)])) H := pm_P pmM hP
  have hD : va_D A ((mW cy am m0) ++ ((cW cy ad en x ++ [((ob, .inl (cy 6, 1, .inr (.inl (if code = 0 then (vp_updL fo (0 : Int32).toNatClampNeg r.toInt64) else fo)))) : Nat × va_E)]) ++ [((od, .inl (cy 7, 1, .inr (.inr (.inr (.inl fd))))) : Nat × va_E)])) := pm_D pmM hD
  refine fV (w1 := (mW cy am m0)) (w2 := ((cW cy ad en x ++ [((ob, .inl (cy 6, 1, .inr (.inl (if code = 0 then (vp_updL fo (0 : Int32).toNatClampNeg r.toInt64) else fo)))) : Nat × va_E)]) ++ [((od, .inl (cy 7, 1, .inr (.inr (.inr (.inl fd))))) : Nat × va_E)])) (As := [.int (xs (i + 1).toNatClampNeg)]) (rest := []) hx hb hml hown hw hK8 hN hA hl.1 hP hD hS k_1944 k_1945 k_1946 k_90 k_1947 (met_X10_character l D cy _ am m0 (xs (i + 1).toNatClampNeg) bb m' hFm) (fun _ _ _ => trivial) Xok_T (gM (am := am) (r := 0) (m := m0) (f := m0 0) (by decide) rfl) rfl ⟨rfl, rfl⟩ (n := 1) (by decide +kernel) rfl ⟨Nat.le_of_ble_eq_true rfl, Nat.le_of_ble_eq_true rfl⟩ hcsA (Nat.le_of_ble_eq_true rfl) rfl dL_law_1913 (fun H locs hP hD hS => ?_)
  have hP : va_P D vwCl ((cW cy ad en x ++ [(ob, .inl (cy 6, 1, .inr (.inl (if code = 0 then (vp_updL fo (0 : Int32).toNatClampNeg r.toInt64) else fo))))]) ++ (mW cy am m' ++ [(od, .inl (cy 7, 1, .inr (.inr (.inr (.inl fd)))))])) H := pm_P pmM.symm hP
  have hD : va_D A ((cW cy ad en x ++ [(ob, .inl (cy 6, 1, .inr (.inl (if code = 0 then (vp_updL fo (0 : Int32).toNatClampNeg r.toInt64) else fo))))]) ++ (mW cy am m' ++ [(od, .inl (cy 7, 1, .inr (.inr (.inr (.inl fd)))))])) := pm_D pmM.symm hD
  refine lv_istore (lv' := [(7, .int bb), (6, .int code), (0, .ref b), (1, .ref (ad 12 0)), (2, .ref (am 0)), (3, .ref ob), (4, .ref od), (5, .int i)]) hx hb dL_law_1916 hl (by decide) rfl (fun ls hl => ?_)
  refine lv_aload_n hx hb dL_law_1918 rfl (lv_at hl 4 rfl) ?_
  have hP : va_P D vwCl ((mW cy am m') ++ ((cW cy ad en x ++ [((ob, .inl (cy 6, 1, .inr (.inl (if code = 0 then (vp_updL fo (0 : Int32).toNatClampNeg r.toInt64) else fo)))) : Nat × va_E)]) ++ [((od, .inl (cy 7, 1, .inr (.inr (.inr (.inl fd))))) : Nat × va_E)])) H := pm_P pmM hP
  have hD : va_D A ((mW cy am m') ++ ((cW cy ad en x ++ [((ob, .inl (cy 6, 1, .inr (.inl (if code = 0 then (vp_updL fo (0 : Int32).toNatClampNeg r.toInt64) else fo)))) : Nat × va_E)]) ++ [((od, .inl (cy 7, 1, .inr (.inr (.inr (.inl fd))))) : Nat × va_E)])) := pm_D pmM hD
  refine fV (w1 := (mW cy am m')) (w2 := ((cW cy ad en x ++ [((ob, .inl (cy 6, 1, .inr (.inl (if code = 0 then (vp_updL fo (0 : Int32).toNatClampNeg r.toInt64) else fo)))) : Nat × va_E)]) ++ [((od, .inl (cy 7, 1, .inr (.inr (.inr (.inl fd))))) : Nat × va_E)])) (As := []) (rest := []) hx hb hml hown hw hK8 hN hA hl.1 hP hD hS k_1625 k_1626 k_1627 k_90 k_1628 (met_X10_thrown l D cy _ am m' code hthr) (fun _ _ _ => trivial) Xok_T (gM (am := am) (r := 0) (m := m') (f := m' 0) (by decide) rfl) rfl ⟨rfl, rfl⟩ (n := 0) (by decide +kernel) rfl ⟨Nat.le_of_ble_eq_true rfl, Nat.le_of_ble_eq_true rfl⟩ hcsA (Nat.le_of_ble_eq_true rfl) rfl dL_law_1919 (fun H locs hP hD hS => ?_)
  have hP : va_P D vwCl ((cW cy ad en x ++ [(ob, .inl (cy 6, 1, .inr (.inl (if code = 0 then (vp_updL fo (0 : Int32).toNatClampNeg r.toInt64) else fo))))]) ++ (mW cy am m' ++ [(od, .inl (cy 7, 1, .inr (.inr (.inr (.inl fd)))))])) H := pm_P pmM.symm hP
  have hD : va_D A ((cW cy ad en x ++ [(ob, .inl (cy 6, 1, .inr (.inl (if code = 0 then (vp_updL fo (0 : Int32).toNatClampNeg r.toInt64) else fo))))]) ++ (mW cy am m' ++ [(od, .inl (cy 7, 1, .inr (.inr (.inr (.inl fd)))))])) := pm_D pmM.symm hD
  refine lv_iload hx hb dL_law_1922 (lv_at hl 1 rfl) ?_
  refine lv_icmp_eq (tgt := 1929) hx hb dL_law_1924 (by decide) (fun _ => ?_) (fun h => absurd rfl h)
  refine lv_iload hx hb dL_law_1929 (lv_at hl 1 rfl) ?_
  refine lv_if_ne (tgt := 1946) hx hb dL_law_1931 (by decide) (fun hk => ?_) (fun hk => ?_)
  · refine lv_goto (tgt := 2250) hx hb dL_law_1946 (by decide) ?_
    exact kk _ _ _ _ H locs ls hInv (cvP hP rfl) (cvD hD rfl) hS (lv_sub hl [2, 3, 4, 5, 6, 7] rfl)
  · have hk0 : code = 0 := hk
    have heq := heq hk0
    refine lv_aload_n hx hb dL_law_1934 rfl (lv_at hl 5 rfl) ?_
    refine lv_iconst (v := 0) hx hb dL_law_1935 (by decide) ?_
    refine va_lald hx hb hK8 hP _ 6 (gA gL) rfl (vp_in_iff.mpr (by decide)) dL_law_1936 ?_
    refine lv_iload hx hb dL_law_1937 (lv_at hl 0 rfl) ?_
    refine lv_i2l hx hb dL_law_1939 rfl ?_
    refine W.lcmp hx hb dL_law_1940 ?_
    refine lv_if_eq (tgt := 1946) hx hb dL_law_1941 (by decide) (fun _ => ?_) (fun h => absurd ?_ h)
    · refine lv_goto (tgt := 2250) hx hb dL_law_1946 (by decide) ?_
      exact kk _ _ _ _ H locs ls hInv (cvP hP rfl) (cvD hD rfl) hS (lv_sub hl [2, 3, 4, 5, 6, 7] rfl)
    · rw [lg_cmp_eq, heq, if_pos hk0]; rfl
def OK_meanSize (Inv : Mem → (Nat → Nat → Int32) → Prop) (x : Mem) (m : Nat → Nat → Int32) : Prop := ∃ (code : Int32) (r : UInt64) (bb : UInt64) (m' : Nat → Nat → Int32), (code = 0 ∨ code = 1) ∧ D_X9_meanSize x = some (code, r) ∧ D_X10_meanSize m = some (bb, m') ∧ D_X10_thrown m' = code ∧ (code = 0 → r = bb ∧ Op.cmpValue (FP.dcmp r r) .l = 0) ∧ Inv x m'
set_option maxHeartbeats 4000000 in
theorem lw_meanSize {Inv : Mem → (Nat → Nat → Int32) → Prop} {p : Program} {l : Launch} (hst0 : l.stackTraces = false) {e : Env} {s : State} {m : MethodId} {below : List Frame} {meth : Method} {c : Code} {b L : Nat} {xs : Nat → Int32} {A : Nat → Prop} {D : va_G} {cy : Nat → ClassId} {en g : Nat → Nat} {Q : State → Prop} (hC : LC p s m c b L xs A D cy en g) {ad : Nat → Nat → Nat} {am : Nat → Nat} {ob od : Nat} {x : Mem} {m0 : Nat → Nat → Int32} {fo : Nat → Int64} {fd : Nat → UInt64} {i : Int32} {H : Heap} {locs : List Loc} {ls : Array Slot} {cells slots : Nat} (h1 : vp_in (i + 1) L) (h2 : vp_in (i + 2) L) (h3 : vp_in (i + 3) L) (hcs : cells + 2 ≤ room_1.cells ∧ slots + 12 ≤ room_1.slots) (hop : OK_meanSize Inv x m0) (hP : va_P D vwCl ((cW cy ad en x ++ [(ob, .inl (cy 6, 1, .inr (.inl fo)))]) ++ (mW cy am m0 ++ [(od, .inl (cy 7, 1, .inr (.inr (.inr (.inl fd)))))])) H) (hD : va_D A ((cW cy ad en x ++ [(ob, .inl (cy 6, 1, .inr (.inl fo)))]) ++ (mW cy am m0 ++ [(od, .inl (cy 7, 1, .inr (.inr (.inr (.inl fd)))))]))) (hS : va_S A s.heap H locs) (hl : lv_has ls 9 [(0, .ref b), (1, .ref (ad 12 0)), (2, .ref (am 0)), (3, .ref ob), (4, .ref od), (5, .int i)]) (kk : ∀ (x' : Mem) (m' : Nat → Nat → Int32) (fo' : Nat → Int64) (fd' : Nat → UInt64) (H : Heap) (locs : List Loc) (ls : Array Slot), Inv x' m' → va_P D vwCl ((cW cy ad en x' ++ [(ob, .inl (cy 6, 1, .inr (.inl fo')))]) ++ (mW cy am m' ++ [(od, .inl (cy 7, 1, .inr (.inr (.inr (.inl fd')))))])) H → va_D A ((cW cy ad en x' ++ [(ob, .inl (cy 6, 1, .inr (.inl fo')))]) ++ (mW cy am m' ++ [(od, .inl (cy 7, 1, .inr (.inr (.inr (.inl fd')))))])) → va_S A s.heap H locs → lv_has ls 9 [(0, .ref b), (1, .ref (ad 12 0)), (2, .ref (am 0)), (3, .ref ob), (4, .ref od), (5, .int i)] → W p l e room_1 s m #[Value.ref b] below meth c H locs (cells + 2) (slots + 12) Q (F0 m 2250 ls [])) : W p l e room_1 s m #[Value.ref b] below meth c H locs cells slots Q (F0 m 1949 ls []) := by
  obtain ⟨hx, hb, hml, hown, hw, hK8, hN, hST, hX, hbl, hbA, hA⟩ := hC
  have hK := hKL hK8
  have hcs0 : cells ≤ room_1.cells ∧ slots ≤ room_1.slots := ⟨Nat.le_trans (Nat.le_add_right _ 2) hcs.1, Nat.le_trans (Nat.le_add_right _ 12) hcs.2⟩
  have hcsA : cells + 2 ≤ room_1.cells ∧ slots + 12 ≤ room_1.slots := hcs
  obtain ⟨code, r, bb, m', hcd, hF, hFm, hthr, heq, hInv⟩ := hop
  refine lv_aload_n hx hb dL_law_1949 rfl (lv_at hl 1 rfl) ?_
  refine lv_aload hx hb dL_law_1950 (lv_at hl 4 rfl) ?_
  have hP : va_P D vwCl ((cW cy ad en x ++ [((od, .inl (cy 7, 1, .inr (.inr (.inr (.inl fd))))) : Nat × va_E)]) ++ (mW cy am m0 ++ [((ob, .inl (cy 6, 1, .inr (.inl fo))) : Nat × va_E)])) H := pm_P pmD hP
  have hD : va_D A ((cW cy ad en x ++ [((od, .inl (cy 7, 1, .inr (.inr (.inr (.inl fd))))) : Nat × va_E)]) ++ (mW cy am m0 ++ [((ob, .inl (cy 6, 1, .inr (.inl fo))) : Nat × va_E)])) := pm_D pmD hD
  refine fW (w1 := (cW cy ad en x ++ [((od, .inl (cy 7, 1, .inr (.inr (.inr (.inl fd))))) : Nat × va_E)])) (w2 := (mW cy am m0 ++ [((ob, .inl (cy 6, 1, .inr (.inl fo))) : Nat × va_E)])) (As := [.ref (ad 12 0), .ref od]) (rest := []) hx hb hml hown hw hK8 hN hA hl.1 hP hD hS hST k_1484 k_1485 k_75 k_1486 (met_L_meanSize l hst0 D cy _ ad en g x od fd code r hcd hF) ⟨rfl, rfl⟩ (n := 2) (by decide +kernel) rfl ⟨Nat.le_of_ble_eq_true rfl, Nat.le_of_ble_eq_true rfl⟩ hcs (Nat.le_of_ble_eq_true rfl) rfl dL_law_1952 (fun H locs hP hD hS => ?_)
  have hP : va_P D vwCl ((cW cy ad en x ++ [(ob, .inl (cy 6, 1, .inr (.inl fo)))]) ++ (mW cy am m0 ++ [(od, .inl (cy 7, 1, .inr (.inr (.inr (.inl (if code = 0 then (vf_upd fd (0 : Int32).toNatClampNeg r) else fd))))))])) H := pm_P pmD hP
  have hD : va_D A ((cW cy ad en x ++ [(ob, .inl (cy 6, 1, .inr (.inl fo)))]) ++ (mW cy am m0 ++ [(od, .inl (cy 7, 1, .inr (.inr (.inr (.inl (if code = 0 then (vf_upd fd (0 : Int32).toNatClampNeg r) else fd))))))])) := pm_D pmD hD
  refine lv_istore (lv' := [(6, .int code), (0, .ref b), (1, .ref (ad 12 0)), (2, .ref (am 0)), (3, .ref ob), (4, .ref od), (5, .int i)]) hx hb dL_law_1955 hl (by decide) rfl (fun ls hl => ?_)
  refine lv_aload_n hx hb dL_law_1957 rfl (lv_at hl 3 rfl) ?_
  have hP : va_P D vwCl ((mW cy am m0) ++ ((cW cy ad en x ++ [((ob, .inl (cy 6, 1, .inr (.inl fo))) : Nat × va_E)]) ++ [((od, .inl (cy 7, 1, .inr (.inr (.inr (.inl (if code = 0 then (vf_upd fd (0 : Int32).toNatClampNeg r) else fd)))))) : Nat × va_E)])) H := pm_P pmM hP
  have hD : va_D A ((mW cy am m0) ++ ((cW cy ad en x ++ [((ob, .inl (cy 6, 1, .inr (.inl fo))) : Nat × va_E)]) ++ [((od, .inl (cy 7, 1, .inr (.inr (.inr (.inl (if code = 0 then (vf_upd fd (0 : Int32).toNatClampNeg r) else fd)))))) : Nat × va_E)])) := pm_D pmM hD
  refine fVd (w1 := (mW cy am m0)) (w2 := ((cW cy ad en x ++ [((ob, .inl (cy 6, 1, .inr (.inl fo))) : Nat × va_E)]) ++ [((od, .inl (cy 7, 1, .inr (.inr (.inr (.inl (if code = 0 then (vf_upd fd (0 : Int32).toNatClampNeg r) else fd)))))) : Nat × va_E)])) (As := []) (rest := []) hx hb hml hown hw hK8 hN hA hl.1 hP hD hS k_1948 k_1949 k_1950 k_90 k_1951 (met_X10_meanSize l D cy _ am m0 bb m' hFm) (fun _ _ _ => trivial) Xok_T (gM (am := am) (r := 0) (m := m0) (f := m0 0) (by decide) rfl) rfl ⟨rfl, rfl⟩ (n := 0) (by decide +kernel) rfl ⟨Nat.le_of_ble_eq_true rfl, Nat.le_of_ble_eq_true rfl⟩ hcsA (Nat.le_of_ble_eq_true rfl) rfl dL_law_1958 (fun H locs hP hD hS => ?_)
  have hP : va_P D vwCl ((cW cy ad en x ++ [(ob, .inl (cy 6, 1, .inr (.inl fo)))]) ++ (mW cy am m' ++ [(od, .inl (cy 7, 1, .inr (.inr (.inr (.inl (if code = 0 then (vf_upd fd (0 : Int32).toNatClampNeg r) else fd))))))])) H := pm_P pmM.symm hP
  have hD : va_D A ((cW cy ad en x ++ [(ob, .inl (cy 6, 1, .inr (.inl fo)))]) ++ (mW cy am m' ++ [(od, .inl (cy 7, 1, .inr (.inr (.inr (.inl (if code = 0 then (vf_upd fd (0 : Int32).toNatClampNeg r) else fd))))))])) := pm_D pmM.symm hD
  refine lv_dstore (lv' := [(7, .double bb), (6, .int code), (0, .ref b), (1, .ref (ad 12 0)), (2, .ref (am 0)), (3, .ref ob), (4, .ref od), (5, .int i)]) hx hb dL_law_1961 hl (by decide) rfl (fun ls hl => ?_)
  refine lv_aload_n hx hb dL_law_1963 rfl (lv_at hl 4 rfl) ?_
  have hP : va_P D vwCl ((mW cy am m') ++ ((cW cy ad en x ++ [((ob, .inl (cy 6, 1, .inr (.inl fo))) : Nat × va_E)]) ++ [((od, .inl (cy 7, 1, .inr (.inr (.inr (.inl (if code = 0 then (vf_upd fd (0 : Int32).toNatClampNeg r) else fd)))))) : Nat × va_E)])) H := pm_P pmM hP
  have hD : va_D A ((mW cy am m') ++ ((cW cy ad en x ++ [((ob, .inl (cy 6, 1, .inr (.inl fo))) : Nat × va_E)]) ++ [((od, .inl (cy 7, 1, .inr (.inr (.inr (.inl (if code = 0 then (vf_upd fd (0 : Int32).toNatClampNeg r) else fd)))))) : Nat × va_E)])) := pm_D pmM hD
  refine fV (w1 := (mW cy am m')) (w2 := ((cW cy ad en x ++ [((ob, .inl (cy 6, 1, .inr (.inl fo))) : Nat × va_E)]) ++ [((od, .inl (cy 7, 1, .inr (.inr (.inr (.inl (if code = 0 then (vf_upd fd (0 : Int32).toNatClampNeg r) else fd)))))) : Nat × va_E)])) (As := []) (rest := []) hx hb hml hown hw hK8 hN hA hl.1 hP hD hS k_1625 k_1626 k_1627 k_90 k_1628 (met_X10_thrown l D cy _ am m' code hthr) (fun _ _ _ => trivial) Xok_T (gM (am := am) (r := 0) (m := m') (f := m' 0) (by decide) rfl) rfl ⟨rfl, rfl⟩ (n := 0) (by decide +kernel) rfl ⟨Nat.le_of_ble_eq_true rfl, Nat.le_of_ble_eq_true rfl⟩ hcsA (Nat.le_of_ble_eq_true rfl) rfl dL_law_1964 (fun H locs hP hD hS => ?_)
  have hP : va_P D vwCl ((cW cy ad en x ++ [(ob, .inl (cy 6, 1, .inr (.inl fo)))]) ++ (mW cy am m' ++ [(od, .inl (cy 7, 1, .inr (.inr (.inr (.inl (if code = 0 then (vf_upd fd (0 : Int32).toNatClampNeg r) else fd))))))])) H := pm_P pmM.symm hP
  have hD : va_D A ((cW cy ad en x ++ [(ob, .inl (cy 6, 1, .inr (.inl fo)))]) ++ (mW cy am m' ++ [(od, .inl (cy 7, 1, .inr (.inr (.inr (.inl (if code = 0 then (vf_upd fd (0 : Int32).toNatClampNeg r) else fd))))))])) := pm_D pmM.symm hD
  refine lv_iload hx hb dL_law_1967 (lv_at hl 1 rfl) ?_
  refine lv_icmp_eq (tgt := 1974) hx hb dL_law_1969 (by decide) (fun _ => ?_) (fun h => absurd rfl h)
  refine lv_iload hx hb dL_law_1974 (lv_at hl 1 rfl) ?_
  refine lv_if_ne (tgt := 2011) hx hb dL_law_1976 (by decide) (fun hk => ?_) (fun hk => ?_)
  · refine lv_goto (tgt := 2250) hx hb dL_law_2011 (by decide) ?_
    exact kk _ _ _ _ H locs ls hInv (cvP hP rfl) (cvD hD rfl) hS (lv_sub hl [2, 3, 4, 5, 6, 7] rfl)
  · have hk0 : code = 0 := hk
    have heq := heq hk0
    obtain ⟨heq, hcz⟩ := heq
    refine lv_aload hx hb dL_law_1979 (lv_at hl 6 rfl) ?_
    refine lv_iconst (v := 0) hx hb dL_law_1981 (by decide) ?_
    refine va_dald hx hb hK8 hP _ 7 gLR rfl (vp_in_iff.mpr (by decide)) dL_law_1982 ?_
    refine lv_dload hx hb dL_law_1983 (lv_at hl 0 rfl) ?_
    refine lv_dcmp hx hb dL_law_1985 ?_
    refine lv_if_eq (tgt := 2011) hx hb dL_law_1986 (by decide) (fun _ => ?_) (fun h => absurd ?_ h)
    · refine lv_goto (tgt := 2250) hx hb dL_law_2011 (by decide) ?_
      exact kk _ _ _ _ H locs ls hInv (cvP hP rfl) (cvD hD rfl) hS (lv_sub hl [2, 3, 4, 5, 6, 7] rfl)
    · rw [if_pos hk0, ← heq]; exact hcz
def OK_titledShare (Inv : Mem → (Nat → Nat → Int32) → Prop) (x : Mem) (m : Nat → Nat → Int32) : Prop := ∃ (code : Int32) (r : UInt32) (bb : UInt32) (m' : Nat → Nat → Int32), (code = 0 ∨ code = 1) ∧ D_X9_titledShare x = some (code, r) ∧ D_X10_titledShare m = some (bb, m') ∧ D_X10_thrown m' = code ∧ (code = 0 → r = bb ∧ vf_n64 (FP.f2d r) ∧ Op.cmpValue (FP.dcmp (FP.f2d r) (FP.f2d r)) .l = 0) ∧ Inv x m'
set_option maxHeartbeats 4000000 in
theorem lw_titledShare {Inv : Mem → (Nat → Nat → Int32) → Prop} {p : Program} {l : Launch} (hst0 : l.stackTraces = false) {e : Env} {s : State} {m : MethodId} {below : List Frame} {meth : Method} {c : Code} {b L : Nat} {xs : Nat → Int32} {A : Nat → Prop} {D : va_G} {cy : Nat → ClassId} {en g : Nat → Nat} {Q : State → Prop} (hC : LC p s m c b L xs A D cy en g) {ad : Nat → Nat → Nat} {am : Nat → Nat} {ob od : Nat} {x : Mem} {m0 : Nat → Nat → Int32} {fo : Nat → Int64} {fd : Nat → UInt64} {i : Int32} {H : Heap} {locs : List Loc} {ls : Array Slot} {cells slots : Nat} (h1 : vp_in (i + 1) L) (h2 : vp_in (i + 2) L) (h3 : vp_in (i + 3) L) (hcs : cells + 2 ≤ room_1.cells ∧ slots + 12 ≤ room_1.slots) (hop : OK_titledShare Inv x m0) (hP : va_P D vwCl ((cW cy ad en x ++ [(ob, .inl (cy 6, 1, .inr (.inl fo)))]) ++ (mW cy am m0 ++ [(od, .inl (cy 7, 1, .inr (.inr (.inr (.inl fd)))))])) H) (hD : va_D A ((cW cy ad en x ++ [(ob, .inl (cy 6, 1, .inr (.inl fo)))]) ++ (mW cy am m0 ++ [(od, .inl (cy 7, 1, .inr (.inr (.inr (.inl fd)))))]))) (hS : va_S A s.heap H locs) (hl : lv_has ls 9 [(0, .ref b), (1, .ref (ad 12 0)), (2, .ref (am 0)), (3, .ref ob), (4, .ref od), (5, .int i)]) (kk : ∀ (x' : Mem) (m' : Nat → Nat → Int32) (fo' : Nat → Int64) (fd' : Nat → UInt64) (H : Heap) (locs : List Loc) (ls : Array Slot), Inv x' m' → va_P D vwCl ((cW cy ad en x' ++ [(ob, .inl (cy 6, 1, .inr (.inl fo')))]) ++ (mW cy am m' ++ [(od, .inl (cy 7, 1, .inr (.inr (.inr (.inl fd')))))])) H → va_D A ((cW cy ad en x' ++ [(ob, .inl (cy 6, 1, .inr (.inl fo')))]) ++ (mW cy am m' ++ [(od, .inl (cy 7, 1, .inr (.inr (.inr (.inl fd')))))])) → va_S A s.heap H locs → lv_has ls 9 [(0, .ref b), (1, .ref (ad 12 0)), (2, .ref (am 0)), (3, .ref ob), (4, .ref od), (5, .int i)] → W p l e room_1 s m #[Value.ref b] below meth c H locs (cells + 2) (slots + 12) Q (F0 m 2250 ls [])) : W p l e room_1 s m #[Value.ref b] below meth c H locs cells slots Q (F0 m 2014 ls []) := by
  obtain ⟨hx, hb, hml, hown, hw, hK8, hN, hST, hX, hbl, hbA, hA⟩ := hC
  have hK := hKL hK8
  have hcs0 : cells ≤ room_1.cells ∧ slots ≤ room_1.slots := ⟨Nat.le_trans (Nat.le_add_right _ 2) hcs.1, Nat.le_trans (Nat.le_add_right _ 12) hcs.2⟩
  have hcsA : cells + 2 ≤ room_1.cells ∧ slots + 12 ≤ room_1.slots := hcs
  obtain ⟨code, r, bb, m', hcd, hF, hFm, hthr, heq, hInv⟩ := hop
  refine lv_aload_n hx hb dL_law_2014 rfl (lv_at hl 1 rfl) ?_
  refine lv_aload hx hb dL_law_2015 (lv_at hl 4 rfl) ?_
  have hP : va_P D vwCl ((cW cy ad en x ++ [((od, .inl (cy 7, 1, .inr (.inr (.inr (.inl fd))))) : Nat × va_E)]) ++ (mW cy am m0 ++ [((ob, .inl (cy 6, 1, .inr (.inl fo))) : Nat × va_E)])) H := pm_P pmD hP
  have hD : va_D A ((cW cy ad en x ++ [((od, .inl (cy 7, 1, .inr (.inr (.inr (.inl fd))))) : Nat × va_E)]) ++ (mW cy am m0 ++ [((ob, .inl (cy 6, 1, .inr (.inl fo))) : Nat × va_E)])) := pm_D pmD hD
  refine fW (w1 := (cW cy ad en x ++ [((od, .inl (cy 7, 1, .inr (.inr (.inr (.inl fd))))) : Nat × va_E)])) (w2 := (mW cy am m0 ++ [((ob, .inl (cy 6, 1, .inr (.inl fo))) : Nat × va_E)])) (As := [.ref (ad 12 0), .ref od]) (rest := []) hx hb hml hown hw hK8 hN hA hl.1 hP hD hS hST k_1512 k_1513 k_75 k_1514 (met_L_titledShare l hst0 D cy _ ad en g x od fd code r hcd hF (fun h => (heq h).2.1)) ⟨rfl, rfl⟩ (n := 2) (by decide +kernel) rfl ⟨Nat.le_of_ble_eq_true rfl, Nat.le_of_ble_eq_true rfl⟩ hcs (Nat.le_of_ble_eq_true rfl) rfl dL_law_2017 (fun H locs hP hD hS => ?_)
  have hP : va_P D vwCl ((cW cy ad en x ++ [(ob, .inl (cy 6, 1, .inr (.inl fo)))]) ++ (mW cy am m0 ++ [(od, .inl (cy 7, 1, .inr (.inr (.inr (.inl (if code = 0 then (vf_upd fd (0 : Int32).toNatClampNeg (FP.f2d r)) else fd))))))])) H := pm_P pmD hP
  have hD : va_D A ((cW cy ad en x ++ [(ob, .inl (cy 6, 1, .inr (.inl fo)))]) ++ (mW cy am m0 ++ [(od, .inl (cy 7, 1, .inr (.inr (.inr (.inl (if code = 0 then (vf_upd fd (0 : Int32).toNatClampNeg (FP.f2d r)) else fd))))))])) := pm_D pmD hD
  refine lv_istore (lv' := [(6, .int code), (0, .ref b), (1, .ref (ad 12 0)), (2, .ref (am 0)), (3, .ref ob), (4, .ref od), (5, .int i)]) hx hb dL_law_2020 hl (by decide) rfl (fun ls hl => ?_)
  refine lv_aload_n hx hb dL_law_2022 rfl (lv_at hl 3 rfl) ?_
  have hP : va_P D vwCl ((mW cy am m0) ++ ((cW cy ad en x ++ [((ob, .inl (cy 6, 1, .inr (.inl fo))) : Nat × va_E)]) ++ [((od, .inl (cy 7, 1, .inr (.inr (.inr (.inl (if code = 0 then (vf_upd fd (0 : Int32).toNatClampNeg (FP.f2d r)) else fd)))))) : Nat × va_E)])) H := pm_P pmM hP
  have hD : va_D A ((mW cy am m0) ++ ((cW cy ad en x ++ [((ob, .inl (cy 6, 1, .inr (.inl fo))) : Nat × va_E)]) ++ [((od, .inl (cy 7, 1, .inr (.inr (.inr (.inl (if code = 0 then (vf_upd fd (0 : Int32).toNatClampNeg (FP.f2d r)) else fd)))))) : Nat × va_E)])) := pm_D pmM hD
  refine fVf (w1 := (mW cy am m0)) (w2 := ((cW cy ad en x ++ [((ob, .inl (cy 6, 1, .inr (.inl fo))) : Nat × va_E)]) ++ [((od, .inl (cy 7, 1, .inr (.inr (.inr (.inl (if code = 0 then (vf_upd fd (0 : Int32).toNatClampNeg (FP.f2d r)) else fd)))))) : Nat × va_E)])) (As := []) (rest := []) hx hb hml hown hw hK8 hN hA hl.1 hP hD hS k_1956 k_1957 k_1958 k_90 k_1959 (met_X10_titledShare l D cy _ am m0 bb m' hFm) (fun _ _ _ => trivial) Xok_T (gM (am := am) (r := 0) (m := m0) (f := m0 0) (by decide) rfl) rfl ⟨rfl, rfl⟩ (n := 0) (by decide +kernel) rfl ⟨Nat.le_of_ble_eq_true rfl, Nat.le_of_ble_eq_true rfl⟩ hcsA (Nat.le_of_ble_eq_true rfl) rfl dL_law_2023 (fun H locs hP hD hS => ?_)
  have hP : va_P D vwCl ((cW cy ad en x ++ [(ob, .inl (cy 6, 1, .inr (.inl fo)))]) ++ (mW cy am m' ++ [(od, .inl (cy 7, 1, .inr (.inr (.inr (.inl (if code = 0 then (vf_upd fd (0 : Int32).toNatClampNeg (FP.f2d r)) else fd))))))])) H := pm_P pmM.symm hP
  have hD : va_D A ((cW cy ad en x ++ [(ob, .inl (cy 6, 1, .inr (.inl fo)))]) ++ (mW cy am m' ++ [(od, .inl (cy 7, 1, .inr (.inr (.inr (.inl (if code = 0 then (vf_upd fd (0 : Int32).toNatClampNeg (FP.f2d r)) else fd))))))])) := pm_D pmM.symm hD
  refine lv_fstore (lv' := [(7, .float bb), (6, .int code), (0, .ref b), (1, .ref (ad 12 0)), (2, .ref (am 0)), (3, .ref ob), (4, .ref od), (5, .int i)]) hx hb dL_law_2026 hl (by decide) rfl (fun ls hl => ?_)
  refine lv_aload_n hx hb dL_law_2028 rfl (lv_at hl 4 rfl) ?_
  have hP : va_P D vwCl ((mW cy am m') ++ ((cW cy ad en x ++ [((ob, .inl (cy 6, 1, .inr (.inl fo))) : Nat × va_E)]) ++ [((od, .inl (cy 7, 1, .inr (.inr (.inr (.inl (if code = 0 then (vf_upd fd (0 : Int32).toNatClampNeg (FP.f2d r)) else fd)))))) : Nat × va_E)])) H := pm_P pmM hP
  have hD : va_D A ((mW cy am m') ++ ((cW cy ad en x ++ [((ob, .inl (cy 6, 1, .inr (.inl fo))) : Nat × va_E)]) ++ [((od, .inl (cy 7, 1, .inr (.inr (.inr (.inl (if code = 0 then (vf_upd fd (0 : Int32).toNatClampNeg (FP.f2d r)) else fd)))))) : Nat × va_E)])) := pm_D pmM hD
  refine fV (w1 := (mW cy am m')) (w2 := ((cW cy ad en x ++ [((ob, .inl (cy 6, 1, .inr (.inl fo))) : Nat × va_E)]) ++ [((od, .inl (cy 7, 1, .inr (.inr (.inr (.inl (if code = 0 then (vf_upd fd (0 : Int32).toNatClampNeg (FP.f2d r)) else fd)))))) : Nat × va_E)])) (As := []) (rest := []) hx hb hml hown hw hK8 hN hA hl.1 hP hD hS k_1625 k_1626 k_1627 k_90 k_1628 (met_X10_thrown l D cy _ am m' code hthr) (fun _ _ _ => trivial) Xok_T (gM (am := am) (r := 0) (m := m') (f := m' 0) (by decide) rfl) rfl ⟨rfl, rfl⟩ (n := 0) (by decide +kernel) rfl ⟨Nat.le_of_ble_eq_true rfl, Nat.le_of_ble_eq_true rfl⟩ hcsA (Nat.le_of_ble_eq_true rfl) rfl dL_law_2029 (fun H locs hP hD hS => ?_)
  have hP : va_P D vwCl ((cW cy ad en x ++ [(ob, .inl (cy 6, 1, .inr (.inl fo)))]) ++ (mW cy am m' ++ [(od, .inl (cy 7, 1, .inr (.inr (.inr (.inl (if code = 0 then (vf_upd fd (0 : Int32).toNatClampNeg (FP.f2d r)) else fd))))))])) H := pm_P pmM.symm hP
  have hD : va_D A ((cW cy ad en x ++ [(ob, .inl (cy 6, 1, .inr (.inl fo)))]) ++ (mW cy am m' ++ [(od, .inl (cy 7, 1, .inr (.inr (.inr (.inl (if code = 0 then (vf_upd fd (0 : Int32).toNatClampNeg (FP.f2d r)) else fd))))))])) := pm_D pmM.symm hD
  refine lv_iload hx hb dL_law_2032 (lv_at hl 1 rfl) ?_
  refine lv_icmp_eq (tgt := 2039) hx hb dL_law_2034 (by decide) (fun _ => ?_) (fun h => absurd rfl h)
  refine lv_iload hx hb dL_law_2039 (lv_at hl 1 rfl) ?_
  refine lv_if_ne (tgt := 2077) hx hb dL_law_2041 (by decide) (fun hk => ?_) (fun hk => ?_)
  · refine lv_goto (tgt := 2250) hx hb dL_law_2077 (by decide) ?_
    exact kk _ _ _ _ H locs ls hInv (cvP hP rfl) (cvD hD rfl) hS (lv_sub hl [2, 3, 4, 5, 6, 7] rfl)
  · have hk0 : code = 0 := hk
    have heq := heq hk0
    obtain ⟨heq, hn9, hcz⟩ := heq
    refine lv_aload hx hb dL_law_2044 (lv_at hl 6 rfl) ?_
    refine lv_iconst (v := 0) hx hb dL_law_2046 (by decide) ?_
    refine va_dald hx hb hK8 hP _ 7 gLR rfl (vp_in_iff.mpr (by decide)) dL_law_2047 ?_
    refine lv_fload hx hb dL_law_2048 (lv_at hl 0 rfl) ?_
    refine lv_f2d hx hb dL_law_2050 (heq ▸ hn9) ?_
    refine lv_dcmp hx hb dL_law_2051 ?_
    refine lv_if_eq (tgt := 2077) hx hb dL_law_2052 (by decide) (fun _ => ?_) (fun h => absurd ?_ h)
    · refine lv_goto (tgt := 2250) hx hb dL_law_2077 (by decide) ?_
      exact kk _ _ _ _ H locs ls hInv (cvP hP rfl) (cvD hD rfl) hS (lv_sub hl [2, 3, 4, 5, 6, 7] rfl)
    · rw [if_pos hk0, ← heq]; exact hcz
def OK_account (Inv : Mem → (Nat → Nat → Int32) → Prop) (x : Mem) (m : Nat → Nat → Int32) (p1 : Int32) : Prop := ∃ (code : Int32) (r : Int32) (bb : Int32) (m' : Nat → Nat → Int32), (code = 0 ∨ code = 1) ∧ D_X9_account x p1 = some (code, r) ∧ D_X10_account m p1 = some (bb, m') ∧ D_X10_thrown m' = code ∧ (code = 0 → r = bb) ∧ Inv x m'
set_option maxHeartbeats 4000000 in
theorem lw_account {Inv : Mem → (Nat → Nat → Int32) → Prop} {p : Program} {l : Launch} (hst0 : l.stackTraces = false) {e : Env} {s : State} {m : MethodId} {below : List Frame} {meth : Method} {c : Code} {b L : Nat} {xs : Nat → Int32} {A : Nat → Prop} {D : va_G} {cy : Nat → ClassId} {en g : Nat → Nat} {Q : State → Prop} (hC : LC p s m c b L xs A D cy en g) {ad : Nat → Nat → Nat} {am : Nat → Nat} {ob od : Nat} {x : Mem} {m0 : Nat → Nat → Int32} {fo : Nat → Int64} {fd : Nat → UInt64} {i : Int32} {H : Heap} {locs : List Loc} {ls : Array Slot} {cells slots : Nat} (h1 : vp_in (i + 1) L) (h2 : vp_in (i + 2) L) (h3 : vp_in (i + 3) L) (hcs : cells + 2 ≤ room_1.cells ∧ slots + 12 ≤ room_1.slots) (hop : OK_account Inv x m0 (xs (i + 1).toNatClampNeg)) (hP : va_P D vwCl ((cW cy ad en x ++ [(ob, .inl (cy 6, 1, .inr (.inl fo)))]) ++ (mW cy am m0 ++ [(od, .inl (cy 7, 1, .inr (.inr (.inr (.inl fd)))))])) H) (hD : va_D A ((cW cy ad en x ++ [(ob, .inl (cy 6, 1, .inr (.inl fo)))]) ++ (mW cy am m0 ++ [(od, .inl (cy 7, 1, .inr (.inr (.inr (.inl fd)))))]))) (hS : va_S A s.heap H locs) (hl : lv_has ls 9 [(0, .ref b), (1, .ref (ad 12 0)), (2, .ref (am 0)), (3, .ref ob), (4, .ref od), (5, .int i)]) (kk : ∀ (x' : Mem) (m' : Nat → Nat → Int32) (fo' : Nat → Int64) (fd' : Nat → UInt64) (H : Heap) (locs : List Loc) (ls : Array Slot), Inv x' m' → va_P D vwCl ((cW cy ad en x' ++ [(ob, .inl (cy 6, 1, .inr (.inl fo')))]) ++ (mW cy am m' ++ [(od, .inl (cy 7, 1, .inr (.inr (.inr (.inl fd')))))])) H → va_D A ((cW cy ad en x' ++ [(ob, .inl (cy 6, 1, .inr (.inl fo')))]) ++ (mW cy am m' ++ [(od, .inl (cy 7, 1, .inr (.inr (.inr (.inl fd')))))])) → va_S A s.heap H locs → lv_has ls 9 [(0, .ref b), (1, .ref (ad 12 0)), (2, .ref (am 0)), (3, .ref ob), (4, .ref od), (5, .int i)] → W p l e room_1 s m #[Value.ref b] below meth c H locs (cells + 2) (slots + 12) Q (F0 m 2250 ls [])) : W p l e room_1 s m #[Value.ref b] below meth c H locs cells slots Q (F0 m 2080 ls []) := by
  obtain ⟨hx, hb, hml, hown, hw, hK8, hN, hST, hX, hbl, hbA, hA⟩ := hC
  have hK := hKL hK8
  have hcs0 : cells ≤ room_1.cells ∧ slots ≤ room_1.slots := ⟨Nat.le_trans (Nat.le_add_right _ 2) hcs.1, Nat.le_trans (Nat.le_add_right _ 12) hcs.2⟩
  have hcsA : cells + 2 ≤ room_1.cells ∧ slots + 12 ≤ room_1.slots := hcs
  obtain ⟨code, r, bb, m', hcd, hF, hFm, hthr, heq, hInv⟩ := hop
  refine lv_aload_n hx hb dL_law_2080 rfl (lv_at hl 1 rfl) ?_
  refine lv_aload_n hx hb dL_law_2081 rfl (lv_at hl 0 rfl) ?_
  refine lv_iload hx hb dL_law_2082 (lv_at hl 5 rfl) ?_
  refine lv_iconst (v := 1) hx hb dL_law_2084 (by decide) ?_
  refine lv_iadd hx hb dL_law_2085 ?_
  refine va_sld hx hb hX hbl hbA hS h1 dL_law_2086 ?_
  refine lv_aload_n hx hb dL_law_2087 rfl (lv_at hl 3 rfl) ?_
  refine fW (w1 := (cW cy ad en x ++ [((ob, .inl (cy 6, 1, .inr (.inl fo))) : Nat × va_E)])) (w2 := (mW cy am m0 ++ [((od, .inl (cy 7, 1, .inr (.inr (.inr (.inl fd))))) : Nat × va_E)])) (As := [.ref (ad 12 0), .int (xs (i + 1).toNatClampNeg), .ref ob]) (rest := []) hx hb hml hown hw hK8 hN hA hl.1 hP hD hS hST k_1523 k_1524 k_75 k_1525 (met_L_account l hst0 D cy _ ad en g x (xs (i + 1).toNatClampNeg) ob fo code r hcd hF) ⟨rfl, rfl⟩ (n := 3) (by decide +kernel) rfl ⟨Nat.le_of_ble_eq_true rfl, Nat.le_of_ble_eq_true rfl⟩ hcs (Nat.le_of_ble_eq_true rfl) rfl dL_law_2088 (fun H locs hP hD hS => ?_)
  refine lv_istore (lv' := [(6, .int code), (0, .ref b), (1, .ref (ad 12 0)), (2, .ref (am 0)), (3, .ref ob), (4, .ref od), (5, .int i)]) hx hb dL_law_2091 hl (by decide) rfl (fun ls hl => ?_)
  refine lv_aload_n hx hb dL_law_2093 rfl (lv_at hl 3 rfl) ?_
  refine lv_aload_n hx hb dL_law_2094 rfl (lv_at hl 1 rfl) ?_
  refine lv_iload hx hb dL_law_2095 (lv_at hl 6 rfl) ?_
  refine lv_iconst (v := 1) hx hb dL_law_2097 (by decide) ?_
  refine lv_iadd hx hb dL_law_2098 ?_
  refine va_sld hx hb hX hbl hbA hS h1 dL_law_2099 ?_
  have hP : va_P D vwCl ((mW cy am m0) ++ ((cW cy ad en x ++ [((ob, .inl (cy 6, 1, .inr (.inl (if code = 0 then (vp_updL fo (0 : Int32).toNatClampNeg r.toInt64) else fo)))) : Nat × va_E)]) ++ [((od, .inl (cy 7, 1, .inr (.inr (.inr (.inl fd))))) : Nat × va_E)])) H := pm_P pmM hP
  have hD : va_D A ((mW cy am m0) ++ ((cW cy ad en x ++ [((ob, .inl (cy 6, 1, .inr (.inl (if code = 0 then (vp_updL fo (0 : Int32).toNatClampNeg r.toInt64) else fo)))) : Nat × va_E)]) ++ [((od, .inl (cy 7, 1, .inr (.inr (.inr (.inl fd))))) : Nat × va_E)])) := pm_D pmM hD
  refine fV (w1 := (mW cy am m0)) (w2 := ((cW cy ad en x ++ [((ob, .inl (cy 6, 1, .inr (.inl (if code = 0 then (vp_updL fo (0 : Int32).toNatClampNeg r.toInt64) else fo)))) : Nat × va_E)]) ++ [((od, .inl (cy 7, 1, .inr (.inr (.inr (.inl fd))))) : Nat × va_E)])) (As := [.int (xs (i + 1).toNatClampNeg)]) (rest := []) hx hb hml hown hw hK8 hN hA hl.1 hP hD hS k_1960 k_1961 k_1962 k_90 k_1963 (met_X10_account l D cy _ am m0 (xs (i + 1).toNatClampNeg) bb m' hFm) (fun _ _ _ => trivial) Xok_T (gM (am := am) (r := 0) (m := m0) (f := m0 0) (by decide) rfl) rfl ⟨rfl, rfl⟩ (n := 1) (by decide +kernel) rfl ⟨Nat.le_of_ble_eq_true rfl, Nat.le_of_ble_eq_true rfl⟩ hcsA (Nat.le_of_ble_eq_true rfl) rfl dL_law_2100 (fun H locs hP hD hS => ?_)
  have hP : va_P D vwCl ((cW cy ad en x ++ [(ob, .inl (cy 6, 1, .inr (.inl (if code = 0 then (vp_updL fo (0 : Int32).toNatClampNeg r.toInt64) else fo))))]) ++ (mW cy am m' ++ [(od, .inl (cy 7, 1, .inr (.inr (.inr (.inl fd)))))])) H := pm_P pmM.symm hP
  have hD : va_D A ((cW cy ad en x ++ [(ob, .inl (cy 6, 1, .inr (.inl (if code = 0 then (vp_updL fo (0 : Int32).toNatClampNeg r.toInt64) else fo))))]) ++ (mW cy am m' ++ [(od, .inl (cy 7, 1, .inr (.inr (.inr (.inl fd)))))])) := pm_D pmM.symm hD
  refine lv_istore (lv' := [(7, .int bb), (6, .int code), (0, .ref b), (1, .ref (ad 12 0)), (2, .ref (am 0)), (3, .ref ob), (4, .ref od), (5, .int i)]) hx hb dL_law_2103 hl (by decide) rfl (fun ls hl => ?_)
  refine lv_aload_n hx hb dL_law_2105 rfl (lv_at hl 4 rfl) ?_
  have hP : va_P D vwCl ((mW cy am m') ++ ((cW cy ad en x ++ [((ob, .inl (cy 6, 1, .inr (.inl (if code = 0 then (vp_updL fo (0 : Int32).toNatClampNeg r.toInt64) else fo)))) : Nat × va_E)]) ++ [((od, .inl (cy 7, 1, .inr (.inr (.inr (.inl fd))))) : Nat × va_E)])) H := pm_P pmM hP
  have hD : va_D A ((mW cy am m') ++ ((cW cy ad en x ++ [((ob, .inl (cy 6, 1, .inr (.inl (if code = 0 then (vp_updL fo (0 : Int32).toNatClampNeg r.toInt64) else fo)))) : Nat × va_E)]) ++ [((od, .inl (cy 7, 1, .inr (.inr (.inr (.inl fd))))) : Nat × va_E)])) := pm_D pmM hD
  refine fV (w1 := (mW cy am m')) (w2 := ((cW cy ad en x ++ [((ob, .inl (cy 6, 1, .inr (.inl (if code = 0 then (vp_updL fo (0 : Int32).toNatClampNeg r.toInt64) else fo)))) : Nat × va_E)]) ++ [((od, .inl (cy 7, 1, .inr (.inr (.inr (.inl fd))))) : Nat × va_E)])) (As := []) (rest := []) hx hb hml hown hw hK8 hN hA hl.1 hP hD hS k_1625 k_1626 k_1627 k_90 k_1628 (met_X10_thrown l D cy _ am m' code hthr) (fun _ _ _ => trivial) Xok_T (gM (am := am) (r := 0) (m := m') (f := m' 0) (by decide) rfl) rfl ⟨rfl, rfl⟩ (n := 0) (by decide +kernel) rfl ⟨Nat.le_of_ble_eq_true rfl, Nat.le_of_ble_eq_true rfl⟩ hcsA (Nat.le_of_ble_eq_true rfl) rfl dL_law_2106 (fun H locs hP hD hS => ?_)
  have hP : va_P D vwCl ((cW cy ad en x ++ [(ob, .inl (cy 6, 1, .inr (.inl (if code = 0 then (vp_updL fo (0 : Int32).toNatClampNeg r.toInt64) else fo))))]) ++ (mW cy am m' ++ [(od, .inl (cy 7, 1, .inr (.inr (.inr (.inl fd)))))])) H := pm_P pmM.symm hP
  have hD : va_D A ((cW cy ad en x ++ [(ob, .inl (cy 6, 1, .inr (.inl (if code = 0 then (vp_updL fo (0 : Int32).toNatClampNeg r.toInt64) else fo))))]) ++ (mW cy am m' ++ [(od, .inl (cy 7, 1, .inr (.inr (.inr (.inl fd)))))])) := pm_D pmM.symm hD
  refine lv_iload hx hb dL_law_2109 (lv_at hl 1 rfl) ?_
  refine lv_icmp_eq (tgt := 2116) hx hb dL_law_2111 (by decide) (fun _ => ?_) (fun h => absurd rfl h)
  refine lv_iload hx hb dL_law_2116 (lv_at hl 1 rfl) ?_
  refine lv_if_ne (tgt := 2133) hx hb dL_law_2118 (by decide) (fun hk => ?_) (fun hk => ?_)
  · refine lv_goto (tgt := 2250) hx hb dL_law_2133 (by decide) ?_
    exact kk _ _ _ _ H locs ls hInv (cvP hP rfl) (cvD hD rfl) hS (lv_sub hl [2, 3, 4, 5, 6, 7] rfl)
  · have hk0 : code = 0 := hk
    have heq := heq hk0
    refine lv_aload_n hx hb dL_law_2121 rfl (lv_at hl 5 rfl) ?_
    refine lv_iconst (v := 0) hx hb dL_law_2122 (by decide) ?_
    refine va_lald hx hb hK8 hP _ 6 (gA gL) rfl (vp_in_iff.mpr (by decide)) dL_law_2123 ?_
    refine lv_iload hx hb dL_law_2124 (lv_at hl 0 rfl) ?_
    refine lv_i2l hx hb dL_law_2126 rfl ?_
    refine W.lcmp hx hb dL_law_2127 ?_
    refine lv_if_eq (tgt := 2133) hx hb dL_law_2128 (by decide) (fun _ => ?_) (fun h => absurd ?_ h)
    · refine lv_goto (tgt := 2250) hx hb dL_law_2133 (by decide) ?_
      exact kk _ _ _ _ H locs ls hInv (cvP hP rfl) (cvD hD rfl) hS (lv_sub hl [2, 3, 4, 5, 6, 7] rfl)
    · rw [lg_cmp_eq, heq, if_pos hk0]; rfl
def OK_isBalanced (Inv : Mem → (Nat → Nat → Int32) → Prop) (x : Mem) (m : Nat → Nat → Int32) : Prop := ∃ (r : Int32) (bb : Int32) (m' : Nat → Nat → Int32), D_X9_isBalanced x = some r ∧ D_X10_isBalanced m = (bb, m') ∧ r = bb ∧ Inv x m'
set_option maxHeartbeats 4000000 in
theorem lw_isBalanced {Inv : Mem → (Nat → Nat → Int32) → Prop} {p : Program} {l : Launch} (hst0 : l.stackTraces = false) {e : Env} {s : State} {m : MethodId} {below : List Frame} {meth : Method} {c : Code} {b L : Nat} {xs : Nat → Int32} {A : Nat → Prop} {D : va_G} {cy : Nat → ClassId} {en g : Nat → Nat} {Q : State → Prop} (hC : LC p s m c b L xs A D cy en g) {ad : Nat → Nat → Nat} {am : Nat → Nat} {ob od : Nat} {x : Mem} {m0 : Nat → Nat → Int32} {fo : Nat → Int64} {fd : Nat → UInt64} {i : Int32} {H : Heap} {locs : List Loc} {ls : Array Slot} {cells slots : Nat} (h1 : vp_in (i + 1) L) (h2 : vp_in (i + 2) L) (h3 : vp_in (i + 3) L) (hcs : cells + 2 ≤ room_1.cells ∧ slots + 12 ≤ room_1.slots) (hop : OK_isBalanced Inv x m0) (hP : va_P D vwCl ((cW cy ad en x ++ [(ob, .inl (cy 6, 1, .inr (.inl fo)))]) ++ (mW cy am m0 ++ [(od, .inl (cy 7, 1, .inr (.inr (.inr (.inl fd)))))])) H) (hD : va_D A ((cW cy ad en x ++ [(ob, .inl (cy 6, 1, .inr (.inl fo)))]) ++ (mW cy am m0 ++ [(od, .inl (cy 7, 1, .inr (.inr (.inr (.inl fd)))))]))) (hS : va_S A s.heap H locs) (hl : lv_has ls 9 [(0, .ref b), (1, .ref (ad 12 0)), (2, .ref (am 0)), (3, .ref ob), (4, .ref od), (5, .int i)]) (kk : ∀ (x' : Mem) (m' : Nat → Nat → Int32) (fo' : Nat → Int64) (fd' : Nat → UInt64) (H : Heap) (locs : List Loc) (ls : Array Slot), Inv x' m' → va_P D vwCl ((cW cy ad en x' ++ [(ob, .inl (cy 6, 1, .inr (.inl fo')))]) ++ (mW cy am m' ++ [(od, .inl (cy 7, 1, .inr (.inr (.inr (.inl fd')))))])) H → va_D A ((cW cy ad en x' ++ [(ob, .inl (cy 6, 1, .inr (.inl fo')))]) ++ (mW cy am m' ++ [(od, .inl (cy 7, 1, .inr (.inr (.inr (.inl fd')))))])) → va_S A s.heap H locs → lv_has ls 9 [(0, .ref b), (1, .ref (ad 12 0)), (2, .ref (am 0)), (3, .ref ob), (4, .ref od), (5, .int i)] → W p l e room_1 s m #[Value.ref b] below meth c H locs (cells + 2) (slots + 12) Q (F0 m 2250 ls [])) : W p l e room_1 s m #[Value.ref b] below meth c H locs cells slots Q (F0 m 2136 ls []) := by
  obtain ⟨hx, hb, hml, hown, hw, hK8, hN, hST, hX, hbl, hbA, hA⟩ := hC
  have hK := hKL hK8
  have hcs0 : cells ≤ room_1.cells ∧ slots ≤ room_1.slots := ⟨Nat.le_trans (Nat.le_add_right _ 2) hcs.1, Nat.le_trans (Nat.le_add_right _ 12) hcs.2⟩
  have hcsA : cells + 2 ≤ room_1.cells ∧ slots + 12 ≤ room_1.slots := hcs
  obtain ⟨r, bb, m', hF, hFm, heq, hInv⟩ := hop
  have hcmp : r = bb := heq
  have kk := fun x' m' fo' fd' H locs ls a1 a2 a3 a4 a5 => W.widen (Nat.le_add_right cells 2) (Nat.le_add_right slots 12) (kk x' m' fo' fd' H locs ls a1 a2 a3 a4 a5)
  refine lv_aload_n hx hb dL_law_2136 rfl (lv_at hl 1 rfl) ?_
  have hP : va_P D vwCl ((cW cy ad en x) ++ ([((ob, .inl (cy 6, 1, .inr (.inl fo))) : Nat × va_E)] ++ (mW cy am m0 ++ [((od, .inl (cy 7, 1, .inr (.inr (.inr (.inl fd))))) : Nat × va_E)]))) H := cvP hP (List.append_assoc _ _ _)
  have hD : va_D A ((cW cy ad en x) ++ ([((ob, .inl (cy 6, 1, .inr (.inl fo))) : Nat × va_E)] ++ (mW cy am m0 ++ [((od, .inl (cy 7, 1, .inr (.inr (.inr (.inl fd))))) : Nat × va_E)]))) := cvD hD (List.append_assoc _ _ _)
  refine fV (w1 := (cW cy ad en x)) (w2 := ([((ob, .inl (cy 6, 1, .inr (.inl fo))) : Nat × va_E)] ++ (mW cy am m0 ++ [((od, .inl (cy 7, 1, .inr (.inr (.inr (.inl fd))))) : Nat × va_E)]))) (As := []) (rest := []) hx hb hml hown hw hK8 hN hA hl.1 hP hD hS k_485 k_486 k_487 k_76 k_488 (met_X9_isBalanced l D cy _ ad en g x r hF) (fun _ _ _ => trivial) Xok_T (gY (x := x) (r := 0) (f := x 12 0) (by decide) rfl) rfl ⟨rfl, rfl⟩ (n := 0) (by decide +kernel) rfl ⟨Nat.le_of_ble_eq_true rfl, Nat.le_of_ble_eq_true rfl⟩ hcs0 (Nat.le_of_ble_eq_true rfl) rfl dL_law_2137 (fun H locs hP hD hS => ?_)
  have hP : va_P D vwCl ((cW cy ad en x ++ [(ob, .inl (cy 6, 1, .inr (.inl fo)))]) ++ (mW cy am m0 ++ [(od, .inl (cy 7, 1, .inr (.inr (.inr (.inl fd)))))])) H := cvP hP (List.append_assoc _ _ _).symm
  have hD : va_D A ((cW cy ad en x ++ [(ob, .inl (cy 6, 1, .inr (.inl fo)))]) ++ (mW cy am m0 ++ [(od, .inl (cy 7, 1, .inr (.inr (.inr (.inl fd)))))])) := cvD hD (List.append_assoc _ _ _).symm
  refine lv_aload_n hx hb dL_law_2140 rfl (lv_at hl 2 rfl) ?_
  have hP : va_P D vwCl ((mW cy am m0) ++ ((cW cy ad en x ++ [((ob, .inl (cy 6, 1, .inr (.inl fo))) : Nat × va_E)]) ++ [((od, .inl (cy 7, 1, .inr (.inr (.inr (.inl fd))))) : Nat × va_E)])) H := pm_P pmM hP
  have hD : va_D A ((mW cy am m0) ++ ((cW cy ad en x ++ [((ob, .inl (cy 6, 1, .inr (.inl fo))) : Nat × va_E)]) ++ [((od, .inl (cy 7, 1, .inr (.inr (.inr (.inl fd))))) : Nat × va_E)])) := pm_D pmM hD
  refine fV (w1 := (mW cy am m0)) (w2 := ((cW cy ad en x ++ [((ob, .inl (cy 6, 1, .inr (.inl fo))) : Nat × va_E)]) ++ [((od, .inl (cy 7, 1, .inr (.inr (.inr (.inl fd))))) : Nat × va_E)])) (As := []) (rest := [.int r]) hx hb hml hown hw hK8 hN hA hl.1 hP hD hS k_1964 k_1965 k_1966 k_90 k_1967 (met_X10_isBalanced l D cy _ am m0 bb m' hFm) (fun _ _ _ => trivial) Xok_T (gM (am := am) (r := 0) (m := m0) (f := m0 0) (by decide) rfl) rfl ⟨rfl, rfl⟩ (n := 0) (by decide +kernel) rfl ⟨Nat.le_of_ble_eq_true rfl, Nat.le_of_ble_eq_true rfl⟩ hcs0 (Nat.le_of_ble_eq_true rfl) rfl dL_law_2141 (fun H locs hP hD hS => ?_)
  have hP : va_P D vwCl ((cW cy ad en x ++ [(ob, .inl (cy 6, 1, .inr (.inl fo)))]) ++ (mW cy am m' ++ [(od, .inl (cy 7, 1, .inr (.inr (.inr (.inl fd)))))])) H := pm_P pmM.symm hP
  have hD : va_D A ((cW cy ad en x ++ [(ob, .inl (cy 6, 1, .inr (.inl fo)))]) ++ (mW cy am m' ++ [(od, .inl (cy 7, 1, .inr (.inr (.inr (.inl fd)))))])) := pm_D pmM.symm hD
  refine lv_icmp_eq (tgt := 2250) hx hb dL_law_2144 (by decide) (fun _ => ?_) (fun h => absurd hcmp h)
  exact kk _ _ _ _ H locs ls hInv (cvP hP rfl) (cvD hD rfl) hS (lv_sub hl [0, 1, 2, 3, 4, 5] rfl)
def OK_undo (Inv : Mem → (Nat → Nat → Int32) → Prop) (x : Mem) (m : Nat → Nat → Int32) : Prop := ∃ (code : Int32) (r : Int32) (x' : Mem) (bb : Int32) (m' : Nat → Nat → Int32), (code = 0 ∨ code = 1) ∧ D_X9_undo x = some (code, r, x') ∧ D_X10_undo m = some (bb, m') ∧ D_X10_thrown m' = code ∧ (code = 0 → r = bb) ∧ Inv x' m'
set_option maxHeartbeats 4000000 in
theorem lw_undo {Inv : Mem → (Nat → Nat → Int32) → Prop} {p : Program} {l : Launch} (hst0 : l.stackTraces = false) {e : Env} {s : State} {m : MethodId} {below : List Frame} {meth : Method} {c : Code} {b L : Nat} {xs : Nat → Int32} {A : Nat → Prop} {D : va_G} {cy : Nat → ClassId} {en g : Nat → Nat} {Q : State → Prop} (hC : LC p s m c b L xs A D cy en g) {ad : Nat → Nat → Nat} {am : Nat → Nat} {ob od : Nat} {x : Mem} {m0 : Nat → Nat → Int32} {fo : Nat → Int64} {fd : Nat → UInt64} {i : Int32} {H : Heap} {locs : List Loc} {ls : Array Slot} {cells slots : Nat} (h1 : vp_in (i + 1) L) (h2 : vp_in (i + 2) L) (h3 : vp_in (i + 3) L) (hcs : cells + 2 ≤ room_1.cells ∧ slots + 12 ≤ room_1.slots) (hop : OK_undo Inv x m0) (hP : va_P D vwCl ((cW cy ad en x ++ [(ob, .inl (cy 6, 1, .inr (.inl fo)))]) ++ (mW cy am m0 ++ [(od, .inl (cy 7, 1, .inr (.inr (.inr (.inl fd)))))])) H) (hD : va_D A ((cW cy ad en x ++ [(ob, .inl (cy 6, 1, .inr (.inl fo)))]) ++ (mW cy am m0 ++ [(od, .inl (cy 7, 1, .inr (.inr (.inr (.inl fd)))))]))) (hS : va_S A s.heap H locs) (hl : lv_has ls 9 [(0, .ref b), (1, .ref (ad 12 0)), (2, .ref (am 0)), (3, .ref ob), (4, .ref od), (5, .int i)]) (kk : ∀ (x' : Mem) (m' : Nat → Nat → Int32) (fo' : Nat → Int64) (fd' : Nat → UInt64) (H : Heap) (locs : List Loc) (ls : Array Slot), Inv x' m' → va_P D vwCl ((cW cy ad en x' ++ [(ob, .inl (cy 6, 1, .inr (.inl fo')))]) ++ (mW cy am m' ++ [(od, .inl (cy 7, 1, .inr (.inr (.inr (.inl fd')))))])) H → va_D A ((cW cy ad en x' ++ [(ob, .inl (cy 6, 1, .inr (.inl fo')))]) ++ (mW cy am m' ++ [(od, .inl (cy 7, 1, .inr (.inr (.inr (.inl fd')))))])) → va_S A s.heap H locs → lv_has ls 9 [(0, .ref b), (1, .ref (ad 12 0)), (2, .ref (am 0)), (3, .ref ob), (4, .ref od), (5, .int i)] → W p l e room_1 s m #[Value.ref b] below meth c H locs (cells + 2) (slots + 12) Q (F0 m 2250 ls [])) : W p l e room_1 s m #[Value.ref b] below meth c H locs cells slots Q (F0 m 2149 ls []) := by
  obtain ⟨hx, hb, hml, hown, hw, hK8, hN, hST, hX, hbl, hbA, hA⟩ := hC
  have hK := hKL hK8
  have hcs0 : cells ≤ room_1.cells ∧ slots ≤ room_1.slots := ⟨Nat.le_trans (Nat.le_add_right _ 2) hcs.1, Nat.le_trans (Nat.le_add_right _ 12) hcs.2⟩
  have hcsA : cells + 2 ≤ room_1.cells ∧ slots + 12 ≤ room_1.slots := hcs
  obtain ⟨code, r, x', bb, m', hcd, hF, hFm, hthr, heq, hInv⟩ := hop
  refine lv_aload_n hx hb dL_law_2149 rfl (lv_at hl 1 rfl) ?_
  refine lv_aload_n hx hb dL_law_2150 rfl (lv_at hl 3 rfl) ?_
  refine fW (w1 := (cW cy ad en x ++ [((ob, .inl (cy 6, 1, .inr (.inl fo))) : Nat × va_E)])) (w2 := (mW cy am m0 ++ [((od, .inl (cy 7, 1, .inr (.inr (.inr (.inl fd))))) : Nat × va_E)])) (As := [.ref (ad 12 0), .ref ob]) (rest := []) hx hb hml hown hw hK8 hN hA hl.1 hP hD hS hST k_1540 k_1541 k_75 k_1542 (met_L_undo l hst0 D cy _ ad en g x ob fo code r x' hcd hF) ⟨rfl, rfl⟩ (n := 2) (by decide +kernel) rfl ⟨Nat.le_of_ble_eq_true rfl, Nat.le_of_ble_eq_true rfl⟩ hcs (Nat.le_of_ble_eq_true rfl) rfl dL_law_2151 (fun H locs hP hD hS => ?_)
  refine lv_istore (lv' := [(6, .int code), (0, .ref b), (1, .ref (ad 12 0)), (2, .ref (am 0)), (3, .ref ob), (4, .ref od), (5, .int i)]) hx hb dL_law_2154 hl (by decide) rfl (fun ls hl => ?_)
  refine lv_aload_n hx hb dL_law_2156 rfl (lv_at hl 3 rfl) ?_
  have hP : va_P D vwCl ((mW cy am m0) ++ ((cW cy ad en x' ++ [((ob, .inl (cy 6, 1, .inr (.inl (if code = 0 then (vp_updL fo (0 : Int32).toNatClampNeg r.toInt64) else fo)))) : Nat × va_E)]) ++ [((od, .inl (cy 7, 1, .inr (.inr (.inr (.inl fd))))) : Nat × va_E)])) H := pm_P pmM hP
  have hD : va_D A ((mW cy am m0) ++ ((cW cy ad en x' ++ [((ob, .inl (cy 6, 1, .inr (.inl (if code = 0 then (vp_updL fo (0 : Int32).toNatClampNeg r.toInt64) else fo)))) : Nat × va_E)]) ++ [((od, .inl (cy 7, 1, .inr (.inr (.inr (.inl fd))))) : Nat × va_E)])) := pm_D pmM hD
  refine fV (w1 := (mW cy am m0)) (w2 := ((cW cy ad en x' ++ [((ob, .inl (cy 6, 1, .inr (.inl (if code = 0 then (vp_updL fo (0 : Int32).toNatClampNeg r.toInt64) else fo)))) : Nat × va_E)]) ++ [((od, .inl (cy 7, 1, .inr (.inr (.inr (.inl fd))))) : Nat × va_E)])) (As := []) (rest := []) hx hb hml hown hw hK8 hN hA hl.1 hP hD hS k_1968 k_1969 k_1970 k_90 k_1971 (met_X10_undo l D cy _ am m0 bb m' hFm) (fun _ _ _ => trivial) Xok_T (gM (am := am) (r := 0) (m := m0) (f := m0 0) (by decide) rfl) rfl ⟨rfl, rfl⟩ (n := 0) (by decide +kernel) rfl ⟨Nat.le_of_ble_eq_true rfl, Nat.le_of_ble_eq_true rfl⟩ hcsA (Nat.le_of_ble_eq_true rfl) rfl dL_law_2157 (fun H locs hP hD hS => ?_)
  have hP : va_P D vwCl ((cW cy ad en x' ++ [(ob, .inl (cy 6, 1, .inr (.inl (if code = 0 then (vp_updL fo (0 : Int32).toNatClampNeg r.toInt64) else fo))))]) ++ (mW cy am m' ++ [(od, .inl (cy 7, 1, .inr (.inr (.inr (.inl fd)))))])) H := pm_P pmM.symm hP
  have hD : va_D A ((cW cy ad en x' ++ [(ob, .inl (cy 6, 1, .inr (.inl (if code = 0 then (vp_updL fo (0 : Int32).toNatClampNeg r.toInt64) else fo))))]) ++ (mW cy am m' ++ [(od, .inl (cy 7, 1, .inr (.inr (.inr (.inl fd)))))])) := pm_D pmM.symm hD
  refine lv_istore (lv' := [(7, .int bb), (6, .int code), (0, .ref b), (1, .ref (ad 12 0)), (2, .ref (am 0)), (3, .ref ob), (4, .ref od), (5, .int i)]) hx hb dL_law_2160 hl (by decide) rfl (fun ls hl => ?_)
  refine lv_aload_n hx hb dL_law_2162 rfl (lv_at hl 4 rfl) ?_
  have hP : va_P D vwCl ((mW cy am m') ++ ((cW cy ad en x' ++ [((ob, .inl (cy 6, 1, .inr (.inl (if code = 0 then (vp_updL fo (0 : Int32).toNatClampNeg r.toInt64) else fo)))) : Nat × va_E)]) ++ [((od, .inl (cy 7, 1, .inr (.inr (.inr (.inl fd))))) : Nat × va_E)])) H := pm_P pmM hP
  have hD : va_D A ((mW cy am m') ++ ((cW cy ad en x' ++ [((ob, .inl (cy 6, 1, .inr (.inl (if code = 0 then (vp_updL fo (0 : Int32).toNatClampNeg r.toInt64) else fo)))) : Nat × va_E)]) ++ [((od, .inl (cy 7, 1, .inr (.inr (.inr (.inl fd))))) : Nat × va_E)])) := pm_D pmM hD
  refine fV (w1 := (mW cy am m')) (w2 := ((cW cy ad en x' ++ [((ob, .inl (cy 6, 1, .inr (.inl (if code = 0 then (vp_updL fo (0 : Int32).toNatClampNeg r.toInt64) else fo)))) : Nat × va_E)]) ++ [((od, .inl (cy 7, 1, .inr (.inr (.inr (.inl fd))))) : Nat × va_E)])) (As := []) (rest := []) hx hb hml hown hw hK8 hN hA hl.1 hP hD hS k_1625 k_1626 k_1627 k_90 k_1628 (met_X10_thrown l D cy _ am m' code hthr) (fun _ _ _ => trivial) Xok_T (gM (am := am) (r := 0) (m := m') (f := m' 0) (by decide) rfl) rfl ⟨rfl, rfl⟩ (n := 0) (by decide +kernel) rfl ⟨Nat.le_of_ble_eq_true rfl, Nat.le_of_ble_eq_true rfl⟩ hcsA (Nat.le_of_ble_eq_true rfl) rfl dL_law_2163 (fun H locs hP hD hS => ?_)
  have hP : va_P D vwCl ((cW cy ad en x' ++ [(ob, .inl (cy 6, 1, .inr (.inl (if code = 0 then (vp_updL fo (0 : Int32).toNatClampNeg r.toInt64) else fo))))]) ++ (mW cy am m' ++ [(od, .inl (cy 7, 1, .inr (.inr (.inr (.inl fd)))))])) H := pm_P pmM.symm hP
  have hD : va_D A ((cW cy ad en x' ++ [(ob, .inl (cy 6, 1, .inr (.inl (if code = 0 then (vp_updL fo (0 : Int32).toNatClampNeg r.toInt64) else fo))))]) ++ (mW cy am m' ++ [(od, .inl (cy 7, 1, .inr (.inr (.inr (.inl fd)))))])) := pm_D pmM.symm hD
  refine lv_iload hx hb dL_law_2166 (lv_at hl 1 rfl) ?_
  refine lv_icmp_eq (tgt := 2173) hx hb dL_law_2168 (by decide) (fun _ => ?_) (fun h => absurd rfl h)
  refine lv_iload hx hb dL_law_2173 (lv_at hl 1 rfl) ?_
  refine lv_if_ne (tgt := 2190) hx hb dL_law_2175 (by decide) (fun hk => ?_) (fun hk => ?_)
  · refine lv_goto (tgt := 2250) hx hb dL_law_2190 (by decide) ?_
    exact kk _ _ _ _ H locs ls hInv (cvP hP rfl) (cvD hD rfl) hS (lv_sub hl [2, 3, 4, 5, 6, 7] rfl)
  · have hk0 : code = 0 := hk
    have heq := heq hk0
    refine lv_aload_n hx hb dL_law_2178 rfl (lv_at hl 5 rfl) ?_
    refine lv_iconst (v := 0) hx hb dL_law_2179 (by decide) ?_
    refine va_lald hx hb hK8 hP _ 6 (gA gL) rfl (vp_in_iff.mpr (by decide)) dL_law_2180 ?_
    refine lv_iload hx hb dL_law_2181 (lv_at hl 0 rfl) ?_
    refine lv_i2l hx hb dL_law_2183 rfl ?_
    refine W.lcmp hx hb dL_law_2184 ?_
    refine lv_if_eq (tgt := 2190) hx hb dL_law_2185 (by decide) (fun _ => ?_) (fun h => absurd ?_ h)
    · refine lv_goto (tgt := 2250) hx hb dL_law_2190 (by decide) ?_
      exact kk _ _ _ _ H locs ls hInv (cvP hP rfl) (cvD hD rfl) hS (lv_sub hl [2, 3, 4, 5, 6, 7] rfl)
    · rw [lg_cmp_eq, heq, if_pos hk0]; rfl
def OK_save (Inv : Mem → (Nat → Nat → Int32) → Prop) (x : Mem) (m : Nat → Nat → Int32) : Prop := ∃ (r : Int32) (x' : Mem) (bb : Int32) (m' : Nat → Nat → Int32), D_X9_save x = some (r, x') ∧ D_X10_save m = some (bb, m') ∧ r = bb ∧ Inv x' m'
set_option maxHeartbeats 4000000 in
theorem lw_save {Inv : Mem → (Nat → Nat → Int32) → Prop} {p : Program} {l : Launch} (hst0 : l.stackTraces = false) {e : Env} {s : State} {m : MethodId} {below : List Frame} {meth : Method} {c : Code} {b L : Nat} {xs : Nat → Int32} {A : Nat → Prop} {D : va_G} {cy : Nat → ClassId} {en g : Nat → Nat} {Q : State → Prop} (hC : LC p s m c b L xs A D cy en g) {ad : Nat → Nat → Nat} {am : Nat → Nat} {ob od : Nat} {x : Mem} {m0 : Nat → Nat → Int32} {fo : Nat → Int64} {fd : Nat → UInt64} {i : Int32} {H : Heap} {locs : List Loc} {ls : Array Slot} {cells slots : Nat} (h1 : vp_in (i + 1) L) (h2 : vp_in (i + 2) L) (h3 : vp_in (i + 3) L) (hcs : cells + 2 ≤ room_1.cells ∧ slots + 12 ≤ room_1.slots) (hop : OK_save Inv x m0) (hP : va_P D vwCl ((cW cy ad en x ++ [(ob, .inl (cy 6, 1, .inr (.inl fo)))]) ++ (mW cy am m0 ++ [(od, .inl (cy 7, 1, .inr (.inr (.inr (.inl fd)))))])) H) (hD : va_D A ((cW cy ad en x ++ [(ob, .inl (cy 6, 1, .inr (.inl fo)))]) ++ (mW cy am m0 ++ [(od, .inl (cy 7, 1, .inr (.inr (.inr (.inl fd)))))]))) (hS : va_S A s.heap H locs) (hl : lv_has ls 9 [(0, .ref b), (1, .ref (ad 12 0)), (2, .ref (am 0)), (3, .ref ob), (4, .ref od), (5, .int i)]) (kk : ∀ (x' : Mem) (m' : Nat → Nat → Int32) (fo' : Nat → Int64) (fd' : Nat → UInt64) (H : Heap) (locs : List Loc) (ls : Array Slot), Inv x' m' → va_P D vwCl ((cW cy ad en x' ++ [(ob, .inl (cy 6, 1, .inr (.inl fo')))]) ++ (mW cy am m' ++ [(od, .inl (cy 7, 1, .inr (.inr (.inr (.inl fd')))))])) H → va_D A ((cW cy ad en x' ++ [(ob, .inl (cy 6, 1, .inr (.inl fo')))]) ++ (mW cy am m' ++ [(od, .inl (cy 7, 1, .inr (.inr (.inr (.inl fd')))))])) → va_S A s.heap H locs → lv_has ls 9 [(0, .ref b), (1, .ref (ad 12 0)), (2, .ref (am 0)), (3, .ref ob), (4, .ref od), (5, .int i)] → W p l e room_1 s m #[Value.ref b] below meth c H locs (cells + 2) (slots + 12) Q (F0 m 2250 ls [])) : W p l e room_1 s m #[Value.ref b] below meth c H locs cells slots Q (F0 m 2193 ls []) := by
  obtain ⟨hx, hb, hml, hown, hw, hK8, hN, hST, hX, hbl, hbA, hA⟩ := hC
  have hK := hKL hK8
  have hcs0 : cells ≤ room_1.cells ∧ slots ≤ room_1.slots := ⟨Nat.le_trans (Nat.le_add_right _ 2) hcs.1, Nat.le_trans (Nat.le_add_right _ 12) hcs.2⟩
  have hcsA : cells + 2 ≤ room_1.cells ∧ slots + 12 ≤ room_1.slots := hcs
  obtain ⟨r, x', bb, m', hF, hFm, heq, hInv⟩ := hop
  have hcmp : r = bb := heq
  have kk := fun x' m' fo' fd' H locs ls a1 a2 a3 a4 a5 => W.widen (Nat.le_add_right cells 2) (Nat.le_add_right slots 12) (kk x' m' fo' fd' H locs ls a1 a2 a3 a4 a5)
  refine lv_aload_n hx hb dL_law_2193 rfl (lv_at hl 1 rfl) ?_
  have hP : va_P D vwCl ((cW cy ad en x) ++ ([((ob, .inl (cy 6, 1, .inr (.inl fo))) : Nat × va_E)] ++ (mW cy am m0 ++ [((od, .inl (cy 7, 1, .inr (.inr (.inr (.inl fd))))) : Nat × va_E)]))) H := cvP hP (List.append_assoc _ _ _)
  have hD : va_D A ((cW cy ad en x) ++ ([((ob, .inl (cy 6, 1, .inr (.inl fo))) : Nat × va_E)] ++ (mW cy am m0 ++ [((od, .inl (cy 7, 1, .inr (.inr (.inr (.inl fd))))) : Nat × va_E)]))) := cvD hD (List.append_assoc _ _ _)
  refine fV (w1 := (cW cy ad en x)) (w2 := ([((ob, .inl (cy 6, 1, .inr (.inl fo))) : Nat × va_E)] ++ (mW cy am m0 ++ [((od, .inl (cy 7, 1, .inr (.inr (.inr (.inl fd))))) : Nat × va_E)]))) (As := []) (rest := []) hx hb hml hown hw hK8 hN hA hl.1 hP hD hS k_518 k_519 k_520 k_76 k_521 (met_X9_save l D cy _ ad en g x r x' hF) (fun _ _ _ => trivial) Xok_T (gY (x := x) (r := 0) (f := x 12 0) (by decide) rfl) rfl ⟨rfl, rfl⟩ (n := 0) (by decide +kernel) rfl ⟨Nat.le_of_ble_eq_true rfl, Nat.le_of_ble_eq_true rfl⟩ hcs0 (Nat.le_of_ble_eq_true rfl) rfl dL_law_2194 (fun H locs hP hD hS => ?_)
  have hP : va_P D vwCl ((cW cy ad en x' ++ [(ob, .inl (cy 6, 1, .inr (.inl fo)))]) ++ (mW cy am m0 ++ [(od, .inl (cy 7, 1, .inr (.inr (.inr (.inl fd)))))])) H := cvP hP (List.append_assoc _ _ _).symm
  have hD : va_D A ((cW cy ad en x' ++ [(ob, .inl (cy 6, 1, .inr (.inl fo)))]) ++ (mW cy am m0 ++ [(od, .inl (cy 7, 1, .inr (.inr (.inr (.inl fd)))))])) := cvD hD (List.append_assoc _ _ _).symm
  refine lv_aload_n hx hb dL_law_2197 rfl (lv_at hl 2 rfl) ?_
  have hP : va_P D vwCl ((mW cy am m0) ++ ((cW cy ad en x' ++ [((ob, .inl (cy 6, 1, .inr (.inl fo))) : Nat × va_E)]) ++ [((od, .inl (cy 7, 1, .inr (.inr (.inr (.inl fd))))) : Nat × va_E)])) H := pm_P pmM hP
  have hD : va_D A ((mW cy am m0) ++ ((cW cy ad en x' ++ [((ob, .inl (cy 6, 1, .inr (.inl fo))) : Nat × va_E)]) ++ [((od, .inl (cy 7, 1, .inr (.inr (.inr (.inl fd))))) : Nat × va_E)])) := pm_D pmM hD
  refine fV (w1 := (mW cy am m0)) (w2 := ((cW cy ad en x' ++ [((ob, .inl (cy 6, 1, .inr (.inl fo))) : Nat × va_E)]) ++ [((od, .inl (cy 7, 1, .inr (.inr (.inr (.inl fd))))) : Nat × va_E)])) (As := []) (rest := [.int r]) hx hb hml hown hw hK8 hN hA hl.1 hP hD hS k_1972 k_1973 k_1974 k_90 k_1975 (met_X10_save l D cy _ am m0 bb m' hFm) (fun _ _ _ => trivial) Xok_T (gM (am := am) (r := 0) (m := m0) (f := m0 0) (by decide) rfl) rfl ⟨rfl, rfl⟩ (n := 0) (by decide +kernel) rfl ⟨Nat.le_of_ble_eq_true rfl, Nat.le_of_ble_eq_true rfl⟩ hcs0 (Nat.le_of_ble_eq_true rfl) rfl dL_law_2198 (fun H locs hP hD hS => ?_)
  have hP : va_P D vwCl ((cW cy ad en x' ++ [(ob, .inl (cy 6, 1, .inr (.inl fo)))]) ++ (mW cy am m' ++ [(od, .inl (cy 7, 1, .inr (.inr (.inr (.inl fd)))))])) H := pm_P pmM.symm hP
  have hD : va_D A ((cW cy ad en x' ++ [(ob, .inl (cy 6, 1, .inr (.inl fo)))]) ++ (mW cy am m' ++ [(od, .inl (cy 7, 1, .inr (.inr (.inr (.inl fd)))))])) := pm_D pmM.symm hD
  refine lv_icmp_eq (tgt := 2250) hx hb dL_law_2201 (by decide) (fun _ => ?_) (fun h => absurd hcmp h)
  exact kk _ _ _ _ H locs ls hInv (cvP hP rfl) (cvD hD rfl) hS (lv_sub hl [0, 1, 2, 3, 4, 5] rfl)
def OK_restore (Inv : Mem → (Nat → Nat → Int32) → Prop) (x : Mem) (m : Nat → Nat → Int32) : Prop := ∃ (code : Int32) (r : Int32) (x' : Mem) (bb : Int32) (m' : Nat → Nat → Int32), (code = 0 ∨ code = 1) ∧ D_X9_restore x = some (code, r, x') ∧ D_X10_restore m = some (bb, m') ∧ D_X10_thrown m' = code ∧ (code = 0 → r = bb) ∧ Inv x' m'
set_option maxHeartbeats 4000000 in
theorem lw_restore {Inv : Mem → (Nat → Nat → Int32) → Prop} {p : Program} {l : Launch} (hst0 : l.stackTraces = false) {e : Env} {s : State} {m : MethodId} {below : List Frame} {meth : Method} {c : Code} {b L : Nat} {xs : Nat → Int32} {A : Nat → Prop} {D : va_G} {cy : Nat → ClassId} {en g : Nat → Nat} {Q : State → Prop} (hC : LC p s m c b L xs A D cy en g) {ad : Nat → Nat → Nat} {am : Nat → Nat} {ob od : Nat} {x : Mem} {m0 : Nat → Nat → Int32} {fo : Nat → Int64} {fd : Nat → UInt64} {i : Int32} {H : Heap} {locs : List Loc} {ls : Array Slot} {cells slots : Nat} (h1 : vp_in (i + 1) L) (h2 : vp_in (i + 2) L) (h3 : vp_in (i + 3) L) (hcs : cells + 2 ≤ room_1.cells ∧ slots + 12 ≤ room_1.slots) (hop : OK_restore Inv x m0) (hP : va_P D vwCl ((cW cy ad en x ++ [(ob, .inl (cy 6, 1, .inr (.inl fo)))]) ++ (mW cy am m0 ++ [(od, .inl (cy 7, 1, .inr (.inr (.inr (.inl fd)))))])) H) (hD : va_D A ((cW cy ad en x ++ [(ob, .inl (cy 6, 1, .inr (.inl fo)))]) ++ (mW cy am m0 ++ [(od, .inl (cy 7, 1, .inr (.inr (.inr (.inl fd)))))]))) (hS : va_S A s.heap H locs) (hl : lv_has ls 9 [(0, .ref b), (1, .ref (ad 12 0)), (2, .ref (am 0)), (3, .ref ob), (4, .ref od), (5, .int i)]) (kk : ∀ (x' : Mem) (m' : Nat → Nat → Int32) (fo' : Nat → Int64) (fd' : Nat → UInt64) (H : Heap) (locs : List Loc) (ls : Array Slot), Inv x' m' → va_P D vwCl ((cW cy ad en x' ++ [(ob, .inl (cy 6, 1, .inr (.inl fo')))]) ++ (mW cy am m' ++ [(od, .inl (cy 7, 1, .inr (.inr (.inr (.inl fd')))))])) H → va_D A ((cW cy ad en x' ++ [(ob, .inl (cy 6, 1, .inr (.inl fo')))]) ++ (mW cy am m' ++ [(od, .inl (cy 7, 1, .inr (.inr (.inr (.inl fd')))))])) → va_S A s.heap H locs → lv_has ls 9 [(0, .ref b), (1, .ref (ad 12 0)), (2, .ref (am 0)), (3, .ref ob), (4, .ref od), (5, .int i)] → W p l e room_1 s m #[Value.ref b] below meth c H locs (cells + 2) (slots + 12) Q (F0 m 2250 ls [])) : W p l e room_1 s m #[Value.ref b] below meth c H locs cells slots Q (F0 m 2206 ls []) := by
  obtain ⟨hx, hb, hml, hown, hw, hK8, hN, hST, hX, hbl, hbA, hA⟩ := hC
  have hK := hKL hK8
  have hcs0 : cells ≤ room_1.cells ∧ slots ≤ room_1.slots := ⟨Nat.le_trans (Nat.le_add_right _ 2) hcs.1, Nat.le_trans (Nat.le_add_right _ 12) hcs.2⟩
  have hcsA : cells + 2 ≤ room_1.cells ∧ slots + 12 ≤ room_1.slots := hcs
  obtain ⟨code, r, x', bb, m', hcd, hF, hFm, hthr, heq, hInv⟩ := hop
  refine lv_aload_n hx hb dL_law_2206 rfl (lv_at hl 1 rfl) ?_
  refine lv_aload_n hx hb dL_law_2207 rfl (lv_at hl 3 rfl) ?_
  refine fW (w1 := (cW cy ad en x ++ [((ob, .inl (cy 6, 1, .inr (.inl fo))) : Nat × va_E)])) (w2 := (mW cy am m0 ++ [((od, .inl (cy 7, 1, .inr (.inr (.inr (.inl fd))))) : Nat × va_E)])) (As := [.ref (ad 12 0), .ref ob]) (rest := []) hx hb hml hown hw hK8 hN hA hl.1 hP hD hS hST k_1552 k_1553 k_75 k_1554 (met_L_restore l hst0 D cy _ ad en g x ob fo code r x' hcd hF) ⟨rfl, rfl⟩ (n := 2) (by decide +kernel) rfl ⟨Nat.le_of_ble_eq_true rfl, Nat.le_of_ble_eq_true rfl⟩ hcs (Nat.le_of_ble_eq_true rfl) rfl dL_law_2208 (fun H locs hP hD hS => ?_)
  refine lv_istore (lv' := [(6, .int code), (0, .ref b), (1, .ref (ad 12 0)), (2, .ref (am 0)), (3, .ref ob), (4, .ref od), (5, .int i)]) hx hb dL_law_2211 hl (by decide) rfl (fun ls hl => ?_)
  refine lv_aload_n hx hb dL_law_2213 rfl (lv_at hl 3 rfl) ?_
  have hP : va_P D vwCl ((mW cy am m0) ++ ((cW cy ad en x' ++ [((ob, .inl (cy 6, 1, .inr (.inl (if code = 0 then (vp_updL fo (0 : Int32).toNatClampNeg r.toInt64) else fo)))) : Nat × va_E)]) ++ [((od, .inl (cy 7, 1, .inr (.inr (.inr (.inl fd))))) : Nat × va_E)])) H := pm_P pmM hP
  have hD : va_D A ((mW cy am m0) ++ ((cW cy ad en x' ++ [((ob, .inl (cy 6, 1, .inr (.inl (if code = 0 then (vp_updL fo (0 : Int32).toNatClampNeg r.toInt64) else fo)))) : Nat × va_E)]) ++ [((od, .inl (cy 7, 1, .inr (.inr (.inr (.inl fd))))) : Nat × va_E)])) := pm_D pmM hD
  refine fV (w1 := (mW cy am m0)) (w2 := ((cW cy ad en x' ++ [((ob, .inl (cy 6, 1, .inr (.inl (if code = 0 then (vp_updL fo (0 : Int32).toNatClampNeg r.toInt64) else fo)))) : Nat × va_E)]) ++ [((od, .inl (cy 7, 1, .inr (.inr (.inr (.inl fd))))) : Nat × va_E)])) (As := []) (rest := []) hx hb hml hown hw hK8 hN hA hl.1 hP hD hS k_1976 k_1977 k_1978 k_90 k_1979 (met_X10_restore l D cy _ am m0 bb m' hFm) (fun _ _ _ => trivial) Xok_T (gM (am := am) (r := 0) (m := m0) (f := m0 0) (by decide) rfl) rfl ⟨rfl, rfl⟩ (n := 0) (by decide +kernel) rfl ⟨Nat.le_of_ble_eq_true rfl, Nat.le_of_ble_eq_true rfl⟩ hcsA (Nat.le_of_ble_eq_true rfl) rfl dL_law_2214 (fun H locs hP hD hS => ?_)
  have hP : va_P D vwCl ((cW cy ad en x' ++ [(ob, .inl (cy 6, 1, .inr (.inl (if code = 0 then (vp_updL fo (0 : Int32).toNatClampNeg r.toInt64) else fo))))]) ++ (mW cy am m' ++ [(od, .inl (cy 7, 1, .inr (.inr (.inr (.inl fd)))))])) H := pm_P pmM.symm hP
  have hD : va_D A ((cW cy ad en x' ++ [(ob, .inl (cy 6, 1, .inr (.inl (if code = 0 then (vp_updL fo (0 : Int32).toNatClampNeg r.toInt64) else fo))))]) ++ (mW cy am m' ++ [(od, .inl (cy 7, 1, .inr (.inr (.inr (.inl fd)))))])) := pm_D pmM.symm hD
  refine lv_istore (lv' := [(7, .int bb), (6, .int code), (0, .ref b), (1, .ref (ad 12 0)), (2, .ref (am 0)), (3, .ref ob), (4, .ref od), (5, .int i)]) hx hb dL_law_2217 hl (by decide) rfl (fun ls hl => ?_)
  refine lv_aload_n hx hb dL_law_2219 rfl (lv_at hl 4 rfl) ?_
  have hP : va_P D vwCl ((mW cy am m') ++ ((cW cy ad en x' ++ [((ob, .inl (cy 6, 1, .inr (.inl (if code = 0 then (vp_updL fo (0 : Int32).toNatClampNeg r.toInt64) else fo)))) : Nat × va_E)]) ++ [((od, .inl (cy 7, 1, .inr (.inr (.inr (.inl fd))))) : Nat × va_E)])) H := pm_P pmM hP
  have hD : va_D A ((mW cy am m') ++ ((cW cy ad en x' ++ [((ob, .inl (cy 6, 1, .inr (.inl (if code = 0 then (vp_updL fo (0 : Int32).toNatClampNeg r.toInt64) else fo)))) : Nat × va_E)]) ++ [((od, .inl (cy 7, 1, .inr (.inr (.inr (.inl fd))))) : Nat × va_E)])) := pm_D pmM hD
  refine fV (w1 := (mW cy am m')) (w2 := ((cW cy ad en x' ++ [((ob, .inl (cy 6, 1, .inr (.inl (if code = 0 then (vp_updL fo (0 : Int32).toNatClampNeg r.toInt64) else fo)))) : Nat × va_E)]) ++ [((od, .inl (cy 7, 1, .inr (.inr (.inr (.inl fd))))) : Nat × va_E)])) (As := []) (rest := []) hx hb hml hown hw hK8 hN hA hl.1 hP hD hS k_1625 k_1626 k_1627 k_90 k_1628 (met_X10_thrown l D cy _ am m' code hthr) (fun _ _ _ => trivial) Xok_T (gM (am := am) (r := 0) (m := m') (f := m' 0) (by decide) rfl) rfl ⟨rfl, rfl⟩ (n := 0) (by decide +kernel) rfl ⟨Nat.le_of_ble_eq_true rfl, Nat.le_of_ble_eq_true rfl⟩ hcsA (Nat.le_of_ble_eq_true rfl) rfl dL_law_2220 (fun H locs hP hD hS => ?_)
  have hP : va_P D vwCl ((cW cy ad en x' ++ [(ob, .inl (cy 6, 1, .inr (.inl (if code = 0 then (vp_updL fo (0 : Int32).toNatClampNeg r.toInt64) else fo))))]) ++ (mW cy am m' ++ [(od, .inl (cy 7, 1, .inr (.inr (.inr (.inl fd)))))])) H := pm_P pmM.symm hP
  have hD : va_D A ((cW cy ad en x' ++ [(ob, .inl (cy 6, 1, .inr (.inl (if code = 0 then (vp_updL fo (0 : Int32).toNatClampNeg r.toInt64) else fo))))]) ++ (mW cy am m' ++ [(od, .inl (cy 7, 1, .inr (.inr (.inr (.inl fd)))))])) := pm_D pmM.symm hD
  refine lv_iload hx hb dL_law_2223 (lv_at hl 1 rfl) ?_
  refine lv_icmp_eq (tgt := 2230) hx hb dL_law_2225 (by decide) (fun _ => ?_) (fun h => absurd rfl h)
  refine lv_iload hx hb dL_law_2230 (lv_at hl 1 rfl) ?_
  refine lv_if_ne (tgt := 2247) hx hb dL_law_2232 (by decide) (fun hk => ?_) (fun hk => ?_)
  · refine lv_goto (tgt := 2250) hx hb dL_law_2247 (by decide) ?_
    exact kk _ _ _ _ H locs ls hInv (cvP hP rfl) (cvD hD rfl) hS (lv_sub hl [2, 3, 4, 5, 6, 7] rfl)
  · have hk0 : code = 0 := hk
    have heq := heq hk0
    refine lv_aload_n hx hb dL_law_2235 rfl (lv_at hl 5 rfl) ?_
    refine lv_iconst (v := 0) hx hb dL_law_2236 (by decide) ?_
    refine va_lald hx hb hK8 hP _ 6 (gA gL) rfl (vp_in_iff.mpr (by decide)) dL_law_2237 ?_
    refine lv_iload hx hb dL_law_2238 (lv_at hl 0 rfl) ?_
    refine lv_i2l hx hb dL_law_2240 rfl ?_
    refine W.lcmp hx hb dL_law_2241 ?_
    refine lv_if_eq (tgt := 2247) hx hb dL_law_2242 (by decide) (fun _ => ?_) (fun h => absurd ?_ h)
    · refine lv_goto (tgt := 2250) hx hb dL_law_2247 (by decide) ?_
      exact kk _ _ _ _ H locs ls hInv (cvP hP rfl) (cvD hD rfl) hS (lv_sub hl [2, 3, 4, 5, 6, 7] rfl)
    · rw [lg_cmp_eq, heq, if_pos hk0]; rfl
