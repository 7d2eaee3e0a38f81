/-! the worlds: the class's cells by a memory x (office or 12, row, place), the reference's by a memory m (row, place) -/
theorem up_self {α : Type} (f : Nat → α) (k : Nat) : va_up f k (f k) = f := by
  funext j
  by_cases h : j = k
  · subst h; simp [va_up]
  · simp [va_up, h]
theorem up_up {α : Type} (f : Nat → α) (k : Nat) (v w : α) : va_up (va_up f k v) k w = va_up f k w := by
  funext j
  by_cases h : j = k <;> simp [va_up, h]
theorem range_set {α : Type} {n i : Nat} {f g : Nat → α} {v : α} (hi : i < n) (hv : g i = v) (ho : ∀ j, j < n → j ≠ i → g j = f j) : ((List.range n).map f).set i v = (List.range n).map g := by
  apply List.ext_getElem?
  intro j
  by_cases hj : j = i
  · subst hj
    rw [List.getElem?_set_self (by simpa using hi)]
    simp [hi, hv]
  · rw [List.getElem?_set_ne (Ne.symm hj)]
    by_cases hjn : j < n
    · simp [hjn, ho j hjn hj]
    · simp [hjn]
abbrev Mem := Nat → Nat → Nat → Int32
def cF (f : Nat → Int32) : List Value := [.int (f 0), .int (f 1), .int (f 2), .int (f 3), .int (f 4), .int (f 5), .int (f 6)]
def oF (a : Nat → Nat) (f : Nat → Int32) : List Value := [.ref (a 1), .int (f 1), .ref (a 2), .ref (a 3), .ref (a 4), .int (f 5), .int (f 6), .int (f 7), .int (f 8), .int (f 9), .int (f 10), .int (f 11), .int (f 12), .int (f 13)]
def rF (a : Nat → Nat) (f : Nat → Int32) : List Value := [.ref (a 5), .ref (a 6), .int (f 2)]
/-- row r of an office whose cells are at a -/
def oc (cy : Nat → ClassId) (a : Nat → Nat) (r : Nat) (f : Nat → Int32) : va_E := match r with
  | 0 => .inr (6, oF a f)
  | 1 => .inl (cy 3, 6, .inr (.inr (.inr (.inr (fun j => some (a (j + 7)))))))
  | 2 => .inl (cy 0, 6, .inl f)
  | 3 => .inl (cy 0, 4, .inl f)
  | 4 => .inr (9, rF a f)
  | 5 => .inl (cy 0, 30, .inl f)
  | 6 => .inl (cy 0, 5, .inl f)
  | _ => .inr (4, cF f)
/-- row r of what is not in an office -/
def rc (cy : Nat → ClassId) (ad : Nat → Nat → Nat) (en : Nat → Nat) (r : Nat) (f : Nat → Int32) : va_E := match r with
  | 0 => .inr (11, [.ref (ad 0 0), .ref (ad 1 0), .ref (ad 2 0), .ref (ad 3 0), .int (f 4), .ref (ad 12 1), .ref (ad 12 3), .ref (ad 12 4), .int (f 8), .ref (ad 12 31)])
  | 1 => .inr (5, [.ref (ad 12 2), .int (f 1), .int (f 2)])
  | 2 => .inl (cy 4, 8, .inr (.inr (.inr (.inr (fun j => some (ad (j + 4) 0))))))
  | 3 => .inr (8, [.int (f 0), .int (f 1), .int (f 2), .int (f 3)])
  | 4 => .inr (10, [.ref (ad 12 5), .int (f 1), .int (f 2), .ref (ad 12 6), .int (f 4)])
  | 5 => .inl (cy 1, 60, .inl f)
  | 6 => .inl (cy 5, 12, .inr (.inr (.inr (.inr (fun j => some (ad 12 (j + 7)))))))
  | 31 => .inr (1, [.ref (ad 12 32), .int (f 1), .int (f 2), .int (f 3)])
  | 32 => .inl (cy 2, 16, .inl f)
  | r => if r < 19 then .inr (7, [.ref (en (f 0).toNatClampNeg), .ref (ad 12 (r + 12)), .int (f 2)]) else .inl (cy 0, 3, .inl f)
def cellAt (cy : Nat → ClassId) (ad : Nat → Nat → Nat) (en : Nat → Nat) (x : Mem) (i : Nat) : Nat × va_E :=
  if i < 156 then (ad (i / 13) (i % 13), oc cy (ad (i / 13)) (i % 13) (x (i / 13) (i % 13))) else (ad 12 (i - 156), rc cy ad en (i - 156) (x 12 (i - 156)))
def cW (cy : Nat → ClassId) (ad : Nat → Nat → Nat) (en : Nat → Nat) (x : Mem) : va_W := (List.range 189).map (cellAt cy ad en x)
section WORLD
variable {cy : Nat → ClassId} {ad : Nat → Nat → Nat} {en : Nat → Nat} {x : Mem} {k r : Nat} {f g : Nat → Int32} {o : Nat → Nat → Int32}
theorem cellAt_o (hk : k < 12) (hr : r < 13) : cellAt cy ad en x (13 * k + r) = (ad k r, oc cy (ad k) r (x k r)) := by
  have h1 : (13 * k + r) / 13 = k := by omega
  have h2 : (13 * k + r) % 13 = r := by omega
  unfold cellAt
  rw [if_pos (by omega), h1, h2]
theorem cellAt_r (hr : r < 33) : cellAt cy ad en x (156 + r) = (ad 12 r, rc cy ad en r (x 12 r)) := by
  have h1 : 156 + r - 156 = r := by omega
  unfold cellAt
  rw [if_neg (by omega), h1]
/-- a row of an office -/
theorem gX (hk : k < 12) (hr : r < 13) (hf : x k r = f) : (cW cy ad en x)[13 * k + r]? = some (ad k r, oc cy (ad k) r f) := by
  subst hf
  unfold cW
  rw [List.getElem?_map, List.getElem?_range (by omega), Option.map_some, cellAt_o hk hr]
theorem gO (hk : k < 12) (hr : r < 13) (hf : o r = f) : (cW cy ad en (va_up x k o))[13 * k + r]? = some (ad k r, oc cy (ad k) r f) := gX hk hr (by rw [va_up_self]; exact hf)
/-- a row of the rest -/
theorem gY (hr : r < 33) (hf : x 12 r = f) : (cW cy ad en x)[156 + r]? = some (ad 12 r, rc cy ad en r f) := by
  subst hf
  unfold cW
  rw [List.getElem?_map, List.getElem?_range (by omega), Option.map_some, cellAt_r hr]
theorem gT (hr : r < 33) (hf : o r = f) : (cW cy ad en (va_up x 12 o))[156 + r]? = some (ad 12 r, rc cy ad en r f) := gY hr (by rw [va_up_self]; exact hf)
theorem sX (hk : k < 12) (hr : r < 13) : (cW cy ad en x).set (13 * k + r) (ad k r, oc cy (ad k) r g) = cW cy ad en (va_up x k (va_up (x k) r g)) := by
  unfold cW
  refine range_set (by omega) ?_ ?_
  · rw [cellAt_o hk hr, va_up_self, va_up_self]
  · intro j hj hne
    unfold cellAt
    by_cases h : j < 156
    · rw [if_pos h, if_pos h]
      by_cases hq : j / 13 = k
      · rw [hq, va_up_self, va_up_ne _ _ (by omega)]
      · rw [va_up_ne _ _ hq]
    · rw [if_neg h, if_neg h, va_up_ne _ _ (by omega)]
theorem sO (hk : k < 12) (hr : r < 13) : (cW cy ad en (va_up x k o)).set (13 * k + r) (ad k r, oc cy (ad k) r g) = cW cy ad en (va_up x k (va_up o r g)) := by
  rw [sX hk hr, up_up, va_up_self]
theorem sY (hr : r < 33) : (cW cy ad en x).set (156 + r) (ad 12 r, rc cy ad en r g) = cW cy ad en (va_up x 12 (va_up (x 12) r g)) := by
  unfold cW
  refine range_set (by omega) ?_ ?_
  · rw [cellAt_r hr, va_up_self, va_up_self]
  · intro j hj hne
    unfold cellAt
    by_cases h : j < 156
    · rw [if_pos h, if_pos h, va_up_ne _ _ (by omega)]
    · rw [if_neg h, if_neg h, va_up_self, va_up_ne _ _ (by omega)]
theorem sT (hr : r < 33) : (cW cy ad en (va_up x 12 o)).set (156 + r) (ad 12 r, rc cy ad en r g) = cW cy ad en (va_up x 12 (va_up o r g)) := by
  rw [sY hr, up_up, va_up_self]
end WORLD
/-! the reference's cells -/
def mF (am : Nat → Nat) (f : Nat → Int32) : List Value := [.int (f 0), .ref (am 1), .int (f 2), .int (f 3), .int (f 4), .int (f 5), .int (f 6), .int (f 7), .int (f 8), .ref (am 2), .int (f 10), .int (f 11), .int (f 12), .int (f 13), .ref (am 3), .int (f 15), .ref (am 4), .int (f 17)]
def mc (cy : Nat → ClassId) (am : Nat → Nat) (r : Nat) (f : Nat → Int32) : va_E := match r with
  | 0 => .inr (12, mF am f)
  | 1 => .inl (cy 0, 1152, .inl f)
  | 2 => .inl (cy 1, 60, .inl f)
  | 3 => .inl (cy 0, 244, .inl f)
  | _ => .inl (cy 1, 24, .inl f)
def mW (cy : Nat → ClassId) (am : Nat → Nat) (m : Nat → Nat → Int32) : va_W := (List.range 5).map (fun r => (am r, mc cy am r (m r)))
section WORLDM
variable {cy : Nat → ClassId} {am : Nat → Nat} {m : Nat → Nat → Int32} {r : Nat} {f g : Nat → Int32}
theorem gM (hr : r < 5) (hf : m r = f) : (mW cy am m)[r]? = some (am r, mc cy am r f) := by
  subst hf
  unfold mW
  rw [List.getElem?_map, List.getElem?_range hr, Option.map_some]
theorem sM (hr : r < 5) : (mW cy am m).set r (am r, mc cy am r g) = mW cy am (va_up m r g) := by
  unfold mW
  refine range_set hr ?_ ?_
  · rw [va_up_self]
  · intro j hj hne
    rw [va_up_ne _ _ hne]
end WORLDM
/-! one cell of any world -/
theorem gC {ws : va_W} {q : Nat} {a : Nat} {e e1 : va_E} (h : ws[q]? = some (a, e)) : (ws.set q (a, e1))[q]? = some (a, e1) := List.getElem?_set_self (List.getElem?_eq_some_iff.mp h).1
theorem sC {ws : va_W} {q : Nat} {a : Nat} {e1 e2 : va_E} : (ws.set q (a, e1)).set q (a, e2) = ws.set q (a, e2) := List.set_set ..
theorem sC0 {ws : va_W} {q : Nat} {a : Nat} {e : va_E} (h : ws[q]? = some (a, e)) : ws.set q (a, e) = ws := by
  apply List.ext_getElem?
  intro j
  by_cases hj : j = q
  · subst hj; rw [gC h, h]
  · rw [List.getElem?_set_ne (Ne.symm hj)]
section ROWS
variable {p : Program} {l : Launch} {e : Env} {R : Room} {s : State} {m : MethodId} {args : Array Value} {below : List Frame} {meth : Method} {c : Code} {H : Heap} {locs : List Loc} {cells slots : Nat} {Q : State → Prop} {D : va_G} {cy : Nat → ClassId} {ws ws' : va_W} {A : Nat → Prop} {cc : ByteArray} {pc : Nat} {ls : Array Slot} {a : Nat} {rest : List Value} {H0 : Heap} {tys : List (ClassId × FieldType)} {cl : List vw_C}
theorem put' (hx : p.tables.exec = Jvm.exec) (hb : c.code = cc) {own ref C : String} {T : u_T} {N ci index : Nat} (hw : ∀ w ∈ WA, w.before args s = true) (hin : ∀ w ∈ u_ws C T N, w ∈ WA) (ty0 : Nat → FieldType) (hty : ∀ k, k < N → parseFieldDescriptor (T k).2.2.1 = some (ty0 k)) (hnm : ∀ a, a < N → ∀ b, b < N → a ≠ b → (T a).2.1 ≠ (T b).2.1) (hown : s.vm.findClass own = some m.cls) (hK : va_K D cl tys s) (hP : va_P D cl ws H) (hD : va_D A ws) (hS0 : va_S A H0 H locs) {q0 : Nat} {fs : List Value} (he : ws[q0]? = some (a, .inr (ci, fs))) (hc : cl[ci]? = some (C, T, N)) (k : Nat) (hk : k < N) (hlink : Cond.fieldLink own index ref (T k).2.1 (T k).2.2.1 ∈ WA) (hr : (T k).1 = ref) (hfin : (T k).2.2.2 = false) {ty : FieldType} {v : Value} (hd : parseFieldDescriptor (T k).2.2.1 = some ty) (hn : narrow ty v = v) (hfit : fits ty v = true) (hl : k < fs.length) (hdg : decode cc pc = .ok (.putfield index, 3)) (hws : ws.set q0 (a, .inr (ci, fs.set k v)) = ws')
    (kk : ∀ (H1 : Heap) (locs1 : List Loc), va_P D cl ws' H1 → va_D A ws' → va_S A H0 H1 locs1 → W p l e R s m args below meth c H1 locs1 cells slots Q (F0 m (pc + 3) ls rest)) : W p l e R s m args below meth c H locs cells slots Q (F0 m pc ls (v :: .ref a :: rest)) := by
  subst hws; subst hr
  exact va_put hx hb hw hin ty0 hty hnm hown hK hP hD hS0 q0 he hc k hk (hw _ hlink) (fun _ h9 => h9) hfin hd hn hfit hl hdg kk
theorem putN' (hx : p.tables.exec = Jvm.exec) (hb : c.code = cc) {own ref C host : String} {T : u_T} {N ci index : Nat} (hw : ∀ w ∈ WA, w.before args s = true) (hN : NW s) (hin : ∀ w ∈ u_ws C T N, w ∈ WA) (ty0 : Nat → FieldType) (hty : ∀ k, k < N → parseFieldDescriptor (T k).2.2.1 = some (ty0 k)) (hnm : ∀ a, a < N → ∀ b, b < N → a ≠ b → (T a).2.1 ≠ (T b).2.1) (hown : s.vm.findClass own = some m.cls) (hK : va_K D cl tys s) (hP : va_P D cl ws H) (hD : va_D A ws) (hS0 : va_S A H0 H locs) {q0 : Nat} {fs : List Value} (he : ws[q0]? = some (a, .inr (ci, fs))) (hc : cl[ci]? = some (C, T, N)) (k : Nat) (hk : k < N) (hlink : Cond.fieldLinkNest own index ref (T k).2.1 (T k).2.2.1 host ∈ nwL) (hr : (T k).1 = ref) (hfin : (T k).2.2.2 = false) {ty : FieldType} {v : Value} (hd : parseFieldDescriptor (T k).2.2.1 = some ty) (hn : narrow ty v = v) (hfit : fits ty v = true) (hl : k < fs.length) (hdg : decode cc pc = .ok (.putfield index, 3)) (hws : ws.set q0 (a, .inr (ci, fs.set k v)) = ws')
    (kk : ∀ (H1 : Heap) (locs1 : List Loc), va_P D cl ws' H1 → va_D A ws' → va_S A H0 H1 locs1 → W p l e R s m args below meth c H1 locs1 cells slots Q (F0 m (pc + 3) ls rest)) : W p l e R s m args below meth c H locs cells slots Q (F0 m pc ls (v :: .ref a :: rest)) := by
  subst hws; subst hr
  exact va_putN hx hb hw hin ty0 hty hnm hown hK hP hD hS0 q0 he hc k hk (va_Nw.use rfl (hN _ hlink)) (fun _ h9 => h9) hfin hd hn hfit hl hdg kk
theorem get' (hx : p.tables.exec = Jvm.exec) (hb : c.code = cc) {own ref C : String} {T : u_T} {N ci index : Nat} (hw : ∀ w ∈ WA, w.before args s = true) (hin : ∀ w ∈ u_ws C T N, w ∈ WA) (hown : s.vm.findClass own = some m.cls) (hK : va_K D cl tys s) (hP : va_P D cl ws H) {q0 : Nat} {fs : List Value} (he : ws[q0]? = some (a, .inr (ci, fs))) (hc : cl[ci]? = some (C, T, N)) (k : Nat) (hk : k < N) (hlink : Cond.fieldLink own index ref (T k).2.1 (T k).2.2.1 ∈ WA) (hr : (T k).1 = ref) {v : Value} (hv : fs[k]? = some v) (hdg : decode cc pc = .ok (.getfield index, 3)) (kk : W p l e R s m args below meth c H locs cells slots Q (F0 m (pc + 3) ls (v :: rest))) : W p l e R s m args below meth c H locs cells slots Q (F0 m pc ls (.ref a :: rest)) := by
  subst hr
  exact va_get hx hb hw hin hown hK hP q0 he hc k hk (hw _ hlink) (fun _ h9 => h9) hv hdg kk
theorem getN' (hx : p.tables.exec = Jvm.exec) (hb : c.code = cc) {own ref C host : String} {T : u_T} {N ci index : Nat} (hw : ∀ w ∈ WA, w.before args s = true) (hN : NW s) (hin : ∀ w ∈ u_ws C T N, w ∈ WA) (hown : s.vm.findClass own = some m.cls) (hK : va_K D cl tys s) (hP : va_P D cl ws H) {q0 : Nat} {fs : List Value} (he : ws[q0]? = some (a, .inr (ci, fs))) (hc : cl[ci]? = some (C, T, N)) (k : Nat) (hk : k < N) (hlink : Cond.fieldLinkNest own index ref (T k).2.1 (T k).2.2.1 host ∈ nwL) (hr : (T k).1 = ref) {v : Value} (hv : fs[k]? = some v) (hdg : decode cc pc = .ok (.getfield index, 3)) (kk : W p l e R s m args below meth c H locs cells slots Q (F0 m (pc + 3) ls (v :: rest))) : W p l e R s m args below meth c H locs cells slots Q (F0 m pc ls (.ref a :: rest)) := by
  subst hr
  exact va_getN hx hb hw hin hown hK hP q0 he hc k hk (va_Nw.use rfl (hN _ hlink)) (fun _ h9 => h9) hv hdg kk
theorem iast' (hx : p.tables.exec = Jvm.exec) (hb : c.code = cc) (hK : va_K D cl tys s) (hP : va_P D cl ws H) (hD : va_D A ws) (hS : va_S A H0 H locs) {q0 t0 : Nat} {cA : ClassId} {n : Nat} {f : Nat → Int32} (ha : ws[q0]? = some (a, .inl (cA, n, .inl f))) (ht : tys[t0]? = some (cA, .int)) {i : Int32} {x : Int32} (hin : vp_in i n) (hdg : decode cc pc = .ok (.iastore, 1)) (hws : ws.set q0 (a, .inl (cA, n, .inl (upd f i.toNatClampNeg x))) = ws') (kk : ∀ (H1 : Heap) (locs1 : List Loc), va_P D cl ws' H1 → va_D A ws' → va_S A H0 H1 locs1 → W p l e R s m args below meth c H1 locs1 cells slots Q (F0 m (pc + 1) ls rest)) : W p l e R s m args below meth c H locs cells slots Q (F0 m pc ls (.int x :: .int i :: .ref a :: rest)) := by
  subst hws
  exact va_iast hx hb hK hP hD hS q0 t0 ha ht hin hdg kk
end ROWS
