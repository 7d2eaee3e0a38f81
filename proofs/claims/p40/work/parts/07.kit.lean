/-! small rows for the readings D_.. and their proofs -/
def inb (i : Int32) (n : Nat) : Bool := decide (0 ≤ i.toInt) && decide (i.toInt < n)
theorem inb_iff {i : Int32} {n : Nat} : inb i n = true ↔ 0 ≤ i.toInt ∧ i.toInt < n := by simp [inb]
theorem vp_inb {i : Int32} {n : Nat} (h : inb i n = true) : vp_in i n := vp_in_iff.mpr (inb_iff.mp h)
theorem inb_lt {i : Int32} {n : Nat} (h : inb i n = true) : i.toNatClampNeg < n := by
  have h1 := inb_iff.mp h
  have h2 : i.toNatClampNeg = i.toInt.toNat := rfl
  omega
theorem ite_some {α : Type} {b : Bool} {A : Option α} {v : α} (h : (if b = true then A else none) = some v) : b = true ∧ A = some v := by
  by_cases hb : b = true
  · rw [if_pos hb] at h; exact ⟨hb, h⟩
  · rw [if_neg hb] at h; exact absurd h (by simp)
theorem ite_none_some {α : Type} {c : Prop} [Decidable c] {A : Option α} {v : α} (h : (if c then none else A) = some v) : ¬ c ∧ A = some v := by
  by_cases hb : c
  · rw [if_pos hb] at h; exact absurd h (by simp)
  · rw [if_neg hb] at h; exact ⟨hb, h⟩
theorem bind_some {α β : Type} {a : Option α} {f : α → Option β} {b : β} (h : a.bind f = some b) : ∃ x, a = some x ∧ f x = some b := by
  cases a with
  | none => exact absurd h (by simp)
  | some x => exact ⟨x, rfl, h⟩
theorem nar_z {v : Int32} (h : v = 0 ∨ v = 1) : narrow .boolean (.int v) = .int v := by
  rcases h with rfl | rfl <;> rfl
theorem rc_ord {cy : Nat → ClassId} {ad : Nat → Nat → Nat} {en : Nat → Nat} {j : Nat} {f : Nat → Int32} (h : j + 7 < 19) : rc cy ad en (j + 7) f = .inr (7, [.ref (en (f 0).toNatClampNeg), .ref (ad 12 (j + 19)), .int (f 2)]) := by
  rcases (show j = 0 ∨ j = 1 ∨ j = 2 ∨ j = 3 ∨ j = 4 ∨ j = 5 ∨ j = 6 ∨ j = 7 ∨ j = 8 ∨ j = 9 ∨ j = 10 ∨ j = 11 by omega) with rfl | rfl | rfl | rfl | rfl | rfl | rfl | rfl | rfl | rfl | rfl | rfl <;> rfl
theorem rc_num {cy : Nat → ClassId} {ad : Nat → Nat → Nat} {en : Nat → Nat} {j : Nat} {f : Nat → Int32} (h : j + 7 < 19) : rc cy ad en (j + 19) f = .inl (cy 0, 3, .inl f) := by
  rcases (show j = 0 ∨ j = 1 ∨ j = 2 ∨ j = 3 ∨ j = 4 ∨ j = 5 ∨ j = 6 ∨ j = 7 ∨ j = 8 ∨ j = 9 ∨ j = 10 ∨ j = 11 by omega) with rfl | rfl | rfl | rfl | rfl | rfl | rfl | rfl | rfl | rfl | rfl | rfl <;> rfl
section ROWS2
variable {p : Program} {l : Launch} {e : Env} {R : Room} {s : State} {m : MethodId} {args : Array Value} {below : List Frame} {meth : Method} {c : Code} {H : Heap} {locs : List Loc} {cells slots : Nat} {Q : State → Prop} {D : va_G} {ws ws' : va_W} {A : Nat → Prop} {cc : ByteArray} {pc : Nat} {ls : Array Slot} {a : Nat} {rest : List Value} {H0 : Heap} {tys : List (ClassId × FieldType)} {cl : List vw_C}
theorem aald' (hx : p.tables.exec = Jvm.exec) (hb : c.code = cc) (hK : va_K D cl tys s) (hP : va_P D cl ws H) {q0 t0 : Nat} {cA : ClassId} {C : String} {n g : Nat} {f : Nat → Option Nat} (ha : ws[q0]? = some (a, .inl (cA, n, .inr (.inr (.inr (.inr f)))))) (ht : tys[t0]? = some (cA, .object C)) {i : Int32} (hin : vp_in i n) (hg : f i.toNatClampNeg = some g) (hdg : decode cc pc = .ok (.aaload, 1)) (kk : W p l e R s m args below meth c H locs cells slots Q (F0 m (pc + 1) ls (.ref g :: rest))) : W p l e R s m args below meth c H locs cells slots Q (F0 m pc ls (.int i :: .ref a :: rest)) := by
  refine va_aldq hx hb hK hP q0 t0 ha ht hin hdg ?_
  rw [hg]
  exact kk
theorem cast' (hx : p.tables.exec = Jvm.exec) (hb : c.code = cc) (hK : va_K D cl tys s) (hP : va_P D cl ws H) (hD : va_D A ws) (hS : va_S A H0 H locs) {q0 t0 : Nat} {cA : ClassId} {n : Nat} {f : Nat → Int32} (ha : ws[q0]? = some (a, .inl (cA, n, .inl f))) (ht : tys[t0]? = some (cA, .char)) {i : Int32} {x : Int32} (hin : vp_in i n) (hdg : decode cc pc = .ok (.castore, 1)) (hws : ws.set q0 (a, .inl (cA, n, .inl (upd f i.toNatClampNeg (vp_nar .char x)))) = ws') (kk : ∀ (H1 : Heap) (locs1 : List Loc), va_P D cl ws' H1 → va_D A ws' → va_S A H0 H1 locs1 → W p l e R s m args below meth c H1 locs1 cells slots Q (F0 m (pc + 1) ls rest)) : W p l e R s m args below meth c H locs cells slots Q (F0 m pc ls (.int x :: .int i :: .ref a :: rest)) := by
  subst hws
  exact va_cast hx hb hK hP hD hS q0 t0 ha ht hin hdg kk
end ROWS2
theorem cvP {D : va_G} {cl : List vw_C} {w1 w2 : va_W} {H : Heap} (h : va_P D cl w1 H) (e : w1 = w2) : va_P D cl w2 H := e ▸ h
theorem cvD {A : Nat → Prop} {w1 w2 : va_W} (h : va_D A w1) (e : w1 = w2) : va_D A w2 := e ▸ h
section SW
variable {p : Program} {l : Launch} {e : Env} {R : Room} {s : State} {m : MethodId} {args : Array Value} {below : List Frame} {meth : Method} {c : Code} {H : Heap} {locs : List Loc} {cells slots : Nat} {Q : State → Prop} {cc : ByteArray} {pc : Nat} {ls : Array Slot} {rest : List Value}
theorem tableDf (hx : p.tables.exec = Jvm.exec) (hb : c.code = cc) {dflt lo hi : Int} {offs : Array Int} {len : Nat} {x : Int32} {tgt : Nat} (hdg : decode cc pc = .ok (.tableswitch dflt lo hi offs, len)) (hdf : ∀ z : Int, lo ≤ z → z ≤ hi → x.toInt = z → offs[(z - lo).toNat]? = some dflt) (ht : (pc : Int) + dflt = (tgt : Int)) (k : W p l e R s m args below meth c H locs cells slots Q (F0 m tgt ls rest)) : W p l e R s m args below meth c H locs cells slots Q (F0 m pc ls (.int x :: rest)) := by
  by_cases h : x.toInt < lo ∨ hi < x.toInt
  · exact lv_tableOut hx hb hdg h ht k
  · exact lv_tableIn hx hb hdg (by omega) (by omega) (hdf _ (by omega) (by omega) rfl) ht k
end SW
def is01 (v : Int32) : Bool := decide (v = 0) || decide (v = 1)
theorem is01_iff {v : Int32} : is01 v = true ↔ v = 0 ∨ v = 1 := by simp [is01]
def isCh (v : Int32) : Bool := decide (vp_nar .char v = v)
theorem isCh_iff {v : Int32} : isCh v = true ↔ narrow .char (.int v) = .int v := by
  have h : narrow .char (.int v) = .int (vp_nar .char v) := rfl
  rw [h]
  simp [isCh]
section ORD
variable {cy : Nat → ClassId} {ad : Nat → Nat → Nat} {en : Nat → Nat} {x : Mem} {j : Nat} {f g : Nat → Int32} {o : Nat → Nat → Int32}
theorem gYord (h : j + 7 < 19) (hf : x 12 (j + 7) = f) : (cW cy ad en x)[156 + (j + 7)]? = some (ad 12 (j + 7), .inr (7, [.ref (en (f 0).toNatClampNeg), .ref (ad 12 (j + 19)), .int (f 2)])) := by rw [← rc_ord h]; exact gY (by omega) hf
theorem gYnum (h : j + 7 < 19) (hf : x 12 (j + 19) = f) : (cW cy ad en x)[156 + (j + 19)]? = some (ad 12 (j + 19), .inl (cy 0, 3, .inl f)) := by
  have e := rc_num (cy := cy) (ad := ad) (en := en) (f := f) h
  rw [← e]; exact gY (by omega) hf
theorem sYord (h : j + 7 < 19) : (cW cy ad en x).set (156 + (j + 7)) (ad 12 (j + 7), .inr (7, [.ref (en (g 0).toNatClampNeg), .ref (ad 12 (j + 19)), .int (g 2)])) = cW cy ad en (va_up x 12 (va_up (x 12) (j + 7) g)) := by rw [← rc_ord h]; exact sY (by omega)
theorem sYnum (h : j + 7 < 19) : (cW cy ad en x).set (156 + (j + 19)) (ad 12 (j + 19), .inl (cy 0, 3, .inl g)) = cW cy ad en (va_up x 12 (va_up (x 12) (j + 19) g)) := by
  have e := rc_num (cy := cy) (ad := ad) (en := en) (f := g) h
  rw [← e]; exact sY (by omega)
theorem sTord (h : j + 7 < 19) : (cW cy ad en (va_up x 12 o)).set (156 + (j + 7)) (ad 12 (j + 7), .inr (7, [.ref (en (g 0).toNatClampNeg), .ref (ad 12 (j + 19)), .int (g 2)])) = cW cy ad en (va_up x 12 (va_up o (j + 7) g)) := by rw [← rc_ord h]; exact sT (by omega)
theorem sTnum (h : j + 7 < 19) : (cW cy ad en (va_up x 12 o)).set (156 + (j + 19)) (ad 12 (j + 19), .inl (cy 0, 3, .inl g)) = cW cy ad en (va_up x 12 (va_up o (j + 19) g)) := by
  have e := rc_num (cy := cy) (ad := ad) (en := en) (f := g) h
  rw [← e]; exact sT (by omega)
/-- an order's kind is put: the i-th -/
theorem sTkind {i : Nat} (h : j + 7 < 19) (hi : i < 9) : (cW cy ad en (va_up x 12 o)).set (156 + (j + 7)) (ad 12 (j + 7), .inr (7, List.set [.ref (en (f 0).toNatClampNeg), .ref (ad 12 (j + 19)), .int (f 2)] 0 (.ref (en i)))) = cW cy ad en (va_up x 12 (va_up o (j + 7) (upd f 0 (nI i)))) := by
  rw [← sTord (x := x) (o := o) h]
  have e : (upd f 0 (nI i) 0).toNatClampNeg = i := nI_clamp (by omega)
  rw [e]
  rfl
theorem sYkind {i : Nat} (h : j + 7 < 19) (hi : i < 9) : (cW cy ad en x).set (156 + (j + 7)) (ad 12 (j + 7), .inr (7, List.set [.ref (en (f 0).toNatClampNeg), .ref (ad 12 (j + 19)), .int (f 2)] 0 (.ref (en i)))) = cW cy ad en (va_up x 12 (va_up (x 12) (j + 7) (upd f 0 (nI i)))) := by
  rw [← sYord (x := x) h]
  have e : (upd f 0 (nI i) 0).toNatClampNeg = i := nI_clamp (by omega)
  rw [e]
  rfl
end ORD
