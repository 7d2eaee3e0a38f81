/-! a call in a bigger world: the callee's world and the rest -/
section FR
variable {D : va_G} {cl : List vw_C} {w1 w1' w2 : va_W} {H H1 : Heap} {A : Nat → Prop}
theorem fr_l (hP : va_P D cl (w1 ++ w2) H) : va_P D cl w1 H := fun k q hk => hP k q (by rw [List.getElem?_append_left (List.getElem?_eq_some_iff.mp hk).1]; exact hk)
theorem fr_r (hP : va_P D cl (w1 ++ w2) H) : va_P D cl w2 H := fun k q hk => hP (w1.length + k) q (by rw [List.getElem?_append_right (Nat.le_add_right _ _), Nat.add_sub_cancel_left]; exact hk)
theorem fr_dl (hD : va_D A (w1 ++ w2)) : va_D A w1 :=
  ⟨fun i j p q hi hj he => hD.1 i j p q (by rw [List.getElem?_append_left (List.getElem?_eq_some_iff.mp hi).1]; exact hi) (by rw [List.getElem?_append_left (List.getElem?_eq_some_iff.mp hj).1]; exact hj) he,
   fun k q hk => hD.2 k q (by rw [List.getElem?_append_left (List.getElem?_eq_some_iff.mp hk).1]; exact hk)⟩
theorem fr_dr (hD : va_D A (w1 ++ w2)) : va_D A w2 :=
  ⟨fun i j p q hi hj he => by
     have h := hD.1 (w1.length + i) (w1.length + j) p q (by rw [List.getElem?_append_right (Nat.le_add_right _ _), Nat.add_sub_cancel_left]; exact hi) (by rw [List.getElem?_append_right (Nat.le_add_right _ _), Nat.add_sub_cancel_left]; exact hj) he
     omega,
   fun k q hk => hD.2 (w1.length + k) q (by rw [List.getElem?_append_right (Nat.le_add_right _ _), Nat.add_sub_cancel_left]; exact hk)⟩
/-- what lies in the rest is no cell that the callee may touch -/
theorem fr_no (hP : va_P D cl (w1 ++ w2) H) (hD : va_D A (w1 ++ w2)) {k : Nat} {q : Nat × va_E} (hk : w2[k]? = some q) : q.1 < H.size ∧ ¬ va_A w1 H.size q.1 := by
  have hlt := (fr_r hP k q hk).lt
  refine ⟨hlt, ?_⟩
  rintro (⟨i, e, hi⟩ | h)
  · have h := hD.1 i (w1.length + k) (q.1, e) q (by rw [List.getElem?_append_left (List.getElem?_eq_some_iff.mp hi).1]; exact hi) (by rw [List.getElem?_append_right (Nat.le_add_right _ _), Nat.add_sub_cancel_left]; exact hk) rfl
    have hl := (List.getElem?_eq_some_iff.mp hi).1
    omega
  · omega
theorem fr_P (hP : va_P D cl (w1 ++ w2) H) (hD : va_D A (w1 ++ w2)) (hk : ∀ q : Nat, q < H.size → ¬ va_A w1 H.size q → H1[q]? = H[q]?) (hP1 : va_P D cl w1' H1) : va_P D cl (w1' ++ w2) H1 :=
  hP1.app ((fr_r hP).kept (fun k q hq => hk _ (fr_no hP hD hq).1 (fr_no hP hD hq).2))
theorem fr_D (hP : va_P D cl (w1 ++ w2) H) (hD : va_D A (w1 ++ w2)) (hF : ∀ q, va_A w1 H.size q → A q) (hD1 : va_D (va_A w1 H.size) w1') : va_D A (w1' ++ w2) := by
  refine (hD1.weaken (fun k q _ h => hF q.1 h)).app (fr_dr hD) (fun i j p q hp hq he => ?_)
  have h1 := hD1.2 i p hp
  rw [he] at h1
  exact (fr_no hP hD hq).2 h1
theorem pm_P (h : w1.Perm w2) (hP : va_P D cl w1 H) : va_P D cl w2 H := by
  intro k q hk
  obtain ⟨i, hi⟩ := List.getElem?_of_mem (h.mem_iff.mpr (List.mem_of_getElem? hk))
  exact hP i q hi
theorem D_nodup (hD : va_D A w1) : (w1.map Prod.fst).Nodup := by
  rw [List.Nodup, List.pairwise_iff_getElem]
  intro i j hi hj hij he
  rw [List.length_map] at hi hj
  rw [List.getElem_map, List.getElem_map] at he
  have h := hD.1 i j _ _ (List.getElem?_eq_getElem hi) (List.getElem?_eq_getElem hj) he
  omega
theorem D_of (h1 : (w1.map Prod.fst).Nodup) (h2 : ∀ x ∈ w1, A x.1) : va_D A w1 := by
  rw [List.Nodup, List.pairwise_iff_getElem] at h1
  refine ⟨fun i j p q hi hj he => ?_, fun k q hk => h2 q (List.mem_of_getElem? hk)⟩
  obtain ⟨hi1, hi2⟩ := List.getElem?_eq_some_iff.mp hi
  obtain ⟨hj1, hj2⟩ := List.getElem?_eq_some_iff.mp hj
  rcases Nat.lt_trichotomy i j with h | h | h
  · exact absurd (by rw [List.getElem_map, List.getElem_map, hi2, hj2]; exact he) (h1 i j (by rw [List.length_map]; exact hi1) (by rw [List.length_map]; exact hj1) h)
  · exact h
  · exact absurd (by rw [List.getElem_map, List.getElem_map, hi2, hj2]; exact he.symm) (h1 j i (by rw [List.length_map]; exact hj1) (by rw [List.length_map]; exact hi1) h)
theorem pm_D (h : w1.Perm w2) (hD : va_D A w1) : va_D A w2 :=
  D_of ((h.map Prod.fst).nodup_iff.mp (D_nodup hD)) (fun x hx => by
    obtain ⟨i, hi⟩ := List.getElem?_of_mem (h.mem_iff.mpr hx)
    exact hD.2 i x hi)
end FR
section GOF
variable {p : Program} {l : Launch} {e : Env} {R : Room} {s : State} {m : MethodId} {args : Array Value} {below : List Frame} {meth : Method} {c : Code} {H : Heap} {locs : List Loc} {cells slots mc ms : Nat} {Q : State → Prop} {D : va_G} {w1 w1' w2 : va_W} {A : Nat → Prop} {cc : ByteArray} {pc : Nat} {ls : Array Slot} {rest st : List Value} {a : Array Value} {code : Int32} {E : Int32 → String}
theorem fr_F (hS : va_S A s.heap H locs) (hD : va_D A (w1 ++ w2)) (hA : ∀ q : Nat, s.heap.size ≤ q → A q) : ∀ q, va_A w1 H.size q → A q := free_all (fr_dl hD) hS hA
theorem fgoI {r : Int32} (hP : va_P D vwCl (w1 ++ w2) H) (hD : va_D A (w1 ++ w2)) (hS : va_S A s.heap H locs) (hA : ∀ q : Nat, s.heap.size ≤ q → A q)
    (hr : va_Run p l e R s m args below meth c H locs cells slots mc ms (F0 m pc ls st) rest (qI D (va_A w1 H.size) r w1' a) (va_A w1 H.size))
    (kk : ∀ (H1 : Heap) (locs1 : List Loc), va_P D vwCl (w1' ++ w2) H1 → va_D A (w1' ++ w2) → va_S A s.heap H1 locs1 → W p l e R s m args below meth c H1 locs1 (cells + mc) (slots + ms) Q (F0 m (pc + 3) ls (.int r :: rest))) : W p l e R s m args below meth c H locs cells slots Q (F0 m pc ls st) := by
  have hF := fr_F hS hD hA
  refine va_calli hr hS (fun q _ h => hF q h) hF (fun r' u t H1 locs1 ht hvm hw hB hz hk hS1 => ?_)
  obtain ⟨hP1, hD1⟩ := hB
  rw [ht] at hP1
  cases hw
  exact kk H1 locs1 (fr_P hP hD hk hP1) (fr_D hP hD hF hD1) hS1
theorem fgoD {r : UInt64} (hP : va_P D vwCl (w1 ++ w2) H) (hD : va_D A (w1 ++ w2)) (hS : va_S A s.heap H locs) (hA : ∀ q : Nat, s.heap.size ≤ q → A q)
    (hr : va_Run p l e R s m args below meth c H locs cells slots mc ms (F0 m pc ls st) rest (qD D (va_A w1 H.size) r w1' a) (va_A w1 H.size))
    (kk : ∀ (H1 : Heap) (locs1 : List Loc), va_P D vwCl (w1' ++ w2) H1 → va_D A (w1' ++ w2) → va_S A s.heap H1 locs1 → W p l e R s m args below meth c H1 locs1 (cells + mc) (slots + ms) Q (F0 m (pc + 3) ls (.double r :: rest))) : W p l e R s m args below meth c H locs cells slots Q (F0 m pc ls st) := by
  have hF := fr_F hS hD hA
  refine va_calld hr hS (fun q _ h => hF q h) hF (fun r' u t H1 locs1 ht hvm hw hB hz hk hS1 => ?_)
  obtain ⟨hP1, hD1⟩ := hB
  rw [ht] at hP1
  cases hw
  exact kk H1 locs1 (fr_P hP hD hk hP1) (fr_D hP hD hF hD1) hS1
theorem fgoF {r : UInt32} (hP : va_P D vwCl (w1 ++ w2) H) (hD : va_D A (w1 ++ w2)) (hS : va_S A s.heap H locs) (hA : ∀ q : Nat, s.heap.size ≤ q → A q)
    (hr : va_Run p l e R s m args below meth c H locs cells slots mc ms (F0 m pc ls st) rest (qF D (va_A w1 H.size) r w1' a) (va_A w1 H.size))
    (kk : ∀ (H1 : Heap) (locs1 : List Loc), va_P D vwCl (w1' ++ w2) H1 → va_D A (w1' ++ w2) → va_S A s.heap H1 locs1 → W p l e R s m args below meth c H1 locs1 (cells + mc) (slots + ms) Q (F0 m (pc + 3) ls (.float r :: rest))) : W p l e R s m args below meth c H locs cells slots Q (F0 m pc ls st) := by
  have hF := fr_F hS hD hA
  refine va_callf hr hS (fun q _ h => hF q h) hF (fun r' u t H1 locs1 ht hvm hw hB hz hk hS1 => ?_)
  obtain ⟨hP1, hD1⟩ := hB
  rw [ht] at hP1
  cases hw
  exact kk H1 locs1 (fr_P hP hD hk hP1) (fr_D hP hD hF hD1) hS1
theorem fgoV (hP : va_P D vwCl (w1 ++ w2) H) (hD : va_D A (w1 ++ w2)) (hS : va_S A s.heap H locs) (hA : ∀ q : Nat, s.heap.size ≤ q → A q)
    (hr : va_Run p l e R s m args below meth c H locs cells slots mc ms (F0 m pc ls st) rest (qV D (va_A w1 H.size) w1' a) (va_A w1 H.size))
    (kk : ∀ (H1 : Heap) (locs1 : List Loc), va_P D vwCl (w1' ++ w2) H1 → va_D A (w1' ++ w2) → va_S A s.heap H1 locs1 → W p l e R s m args below meth c H1 locs1 (cells + mc) (slots + ms) Q (F0 m (pc + 3) ls rest)) : W p l e R s m args below meth c H locs cells slots Q (F0 m pc ls st) := by
  have hF := fr_F hS hD hA
  refine va_callv hr hS (fun q _ h => hF q h) hF (fun u t H1 locs1 ht hvm hw hB hz hk hS1 => ?_)
  obtain ⟨hP1, hD1⟩ := hB
  rw [ht] at hP1
  exact kk H1 locs1 (fr_P hP hD hk hP1) (fr_D hP hD hF hD1) hS1
theorem fgoT {r : Int32} (hP : va_P D vwCl (w1 ++ w2) H) (hD : va_D A (w1 ++ w2)) (hS : va_S A s.heap H locs) (hA : ∀ q : Nat, s.heap.size ≤ q → A q)
    (hr : vx_Run p l e R s m args below meth c H locs cells slots 2 12 (F0 m pc ls st) rest (qIc D (va_A w1 H.size) code r w1' a) (xC D (va_A w1 H.size) code E w1') (va_A w1 H.size))
    (kx : ∀ (H1 : Heap) (locs1 : List Loc) (q : Addr) (ce : Cell), ¬ code = 0 → va_P D vwCl (w1' ++ w2) H1 → va_D A (w1' ++ w2) → va_S A s.heap H1 locs1 → H1[q]? = some ce → ce.vm = .none → s.vm.findClass (E code) = some ce.cls → vx_W p l e R s m args below meth c H1 locs1 (cells + 2) (slots + 12) Q (F0 m pc ls rest) q)
    (kk : ∀ (H1 : Heap) (locs1 : List Loc), code = 0 → va_P D vwCl (w1' ++ w2) H1 → va_D A (w1' ++ w2) → va_S A s.heap H1 locs1 → W p l e R s m args below meth c H1 locs1 (cells + 2) (slots + 12) Q (F0 m (pc + 3) ls (.int r :: rest))) : W p l e R s m args below meth c H locs cells slots Q (F0 m pc ls st) := by
  have hF := fr_F hS hD hA
  refine vx_calli hr hS (fun q _ h => hF q h) hF (fun q _ h => hF q h) (fun E9 ce q u t H1 locs1 ht hvm hp hB hz hk hS1 hce hcv hcl => ?_) (fun r' u t H1 locs1 ht hvm hw hB hz hk hS1 => ?_)
  · obtain ⟨rfl, hP1, hD1⟩ := hB
    rw [ht] at hP1
    exact kx H1 locs1 q ce hp (fr_P hP hD hk hP1) (fr_D hP hD hF hD1) hS1 hce hcv hcl
  · obtain ⟨hP1, hD1⟩ := hB
    rw [ht] at hP1
    obtain ⟨h0, rfl⟩ := hw
    exact kk H1 locs1 h0 (fr_P hP hD hk hP1) (fr_D hP hD hF hD1) hS1
theorem fgoTD {r : UInt64} (hP : va_P D vwCl (w1 ++ w2) H) (hD : va_D A (w1 ++ w2)) (hS : va_S A s.heap H locs) (hA : ∀ q : Nat, s.heap.size ≤ q → A q)
    (hr : vx_Run p l e R s m args below meth c H locs cells slots 2 12 (F0 m pc ls st) rest (qDc D (va_A w1 H.size) code r w1' a) (xC D (va_A w1 H.size) code E w1') (va_A w1 H.size))
    (kx : ∀ (H1 : Heap) (locs1 : List Loc) (q : Addr) (ce : Cell), ¬ code = 0 → va_P D vwCl (w1' ++ w2) H1 → va_D A (w1' ++ w2) → va_S A s.heap H1 locs1 → H1[q]? = some ce → ce.vm = .none → s.vm.findClass (E code) = some ce.cls → vx_W p l e R s m args below meth c H1 locs1 (cells + 2) (slots + 12) Q (F0 m pc ls rest) q)
    (kk : ∀ (H1 : Heap) (locs1 : List Loc), code = 0 → va_P D vwCl (w1' ++ w2) H1 → va_D A (w1' ++ w2) → va_S A s.heap H1 locs1 → W p l e R s m args below meth c H1 locs1 (cells + 2) (slots + 12) Q (F0 m (pc + 3) ls (.double r :: rest))) : W p l e R s m args below meth c H locs cells slots Q (F0 m pc ls st) := by
  have hF := fr_F hS hD hA
  refine vx_calld hr hS (fun q _ h => hF q h) hF (fun q _ h => hF q h) (fun E9 ce q u t H1 locs1 ht hvm hp hB hz hk hS1 hce hcv hcl => ?_) (fun r' u t H1 locs1 ht hvm hw hB hz hk hS1 => ?_)
  · obtain ⟨rfl, hP1, hD1⟩ := hB
    rw [ht] at hP1
    exact kx H1 locs1 q ce hp (fr_P hP hD hk hP1) (fr_D hP hD hF hD1) hS1 hce hcv hcl
  · obtain ⟨hP1, hD1⟩ := hB
    rw [ht] at hP1
    obtain ⟨h0, rfl⟩ := hw
    exact kk H1 locs1 h0 (fr_P hP hD hk hP1) (fr_D hP hD hF hD1) hS1
theorem fgoTF {r : UInt32} (hP : va_P D vwCl (w1 ++ w2) H) (hD : va_D A (w1 ++ w2)) (hS : va_S A s.heap H locs) (hA : ∀ q : Nat, s.heap.size ≤ q → A q)
    (hr : vx_Run p l e R s m args below meth c H locs cells slots 2 12 (F0 m pc ls st) rest (qFc D (va_A w1 H.size) code r w1' a) (xC D (va_A w1 H.size) code E w1') (va_A w1 H.size))
    (kx : ∀ (H1 : Heap) (locs1 : List Loc) (q : Addr) (ce : Cell), ¬ code = 0 → va_P D vwCl (w1' ++ w2) H1 → va_D A (w1' ++ w2) → va_S A s.heap H1 locs1 → H1[q]? = some ce → ce.vm = .none → s.vm.findClass (E code) = some ce.cls → vx_W p l e R s m args below meth c H1 locs1 (cells + 2) (slots + 12) Q (F0 m pc ls rest) q)
    (kk : ∀ (H1 : Heap) (locs1 : List Loc), code = 0 → va_P D vwCl (w1' ++ w2) H1 → va_D A (w1' ++ w2) → va_S A s.heap H1 locs1 → W p l e R s m args below meth c H1 locs1 (cells + 2) (slots + 12) Q (F0 m (pc + 3) ls (.float r :: rest))) : W p l e R s m args below meth c H locs cells slots Q (F0 m pc ls st) := by
  have hF := fr_F hS hD hA
  refine vx_callf hr hS (fun q _ h => hF q h) hF (fun q _ h => hF q h) (fun E9 ce q u t H1 locs1 ht hvm hp hB hz hk hS1 hce hcv hcl => ?_) (fun r' u t H1 locs1 ht hvm hw hB hz hk hS1 => ?_)
  · obtain ⟨rfl, hP1, hD1⟩ := hB
    rw [ht] at hP1
    exact kx H1 locs1 q ce hp (fr_P hP hD hk hP1) (fr_D hP hD hF hD1) hS1 hce hcv hcl
  · obtain ⟨hP1, hD1⟩ := hB
    rw [ht] at hP1
    obtain ⟨h0, rfl⟩ := hw
    exact kk H1 locs1 h0 (fr_P hP hD hk hP1) (fr_D hP hD hF hD1) hS1
end GOF
/-! the law's own methods: each calls the class and catches what it throws -/
abbrev tyQ (cy : Nat → ClassId) : List (ClassId × FieldType) := tyL cy
def pQ (D : va_G) (cy : Nat → ClassId) (ws : va_W) (sz : Nat) (X : State → Prop) (av : List Value) : Array Value → State → Prop :=
  va_Pc av (fun U => U.heap.size = sz ∧ va_P D vwCl ws U.heap ∧ va_K D vwCl (tyQ cy) U ∧ va_D (fun _ => True) ws ∧ NW U ∧ X U)
theorem pQ_blind {D : va_G} {cy : Nat → ClassId} {ws : va_W} {sz : Nat} {X : State → Prop} {av : List Value} (hX : Xok X) : FrameBlind (pQ D cy ws sz X av) := by
  intro a U g mk q
  obtain ⟨q0, q1, q2, q3, q4, q5, q6⟩ := q
  exact ⟨q0, q1, q2, va_K.moved (u := U) (U := U.calling g mk a) (Vm.Alike.refl U.vm) q3, q4, NW.same (s := U) (U := U.calling g mk a) rfl q5, hX U (U.calling g mk a) rfl rfl q6⟩
theorem pQ_call {D : va_G} {cy : Nat → ClassId} {ws : va_W} {X : State → Prop} {av : List Value} {s : State} {H : Heap} {A : Nat → Prop} (hP : va_P D vwCl ws H) (hK : va_K D vwCl (tyQ cy) s) (hD : va_D A ws) (hN : NW s) (hX : ∀ U : State, U.heap = H → s.WarmedH U.vm → X U) :
    ∀ U : State, U.heap = H → s.WarmedH U.vm → pQ D cy ws H.size X av av.toArray U := fun U hU hW =>
  ⟨rfl, by rw [hU], by rw [hU]; exact hP, va_K.moved hW.alike hK, hD.weaken (fun _ _ _ _ => trivial), NW.warm hW hN, hX U hU hW⟩
theorem hKL {D : va_G} {cy : Nat → ClassId} {U : State} (h : va_K D vwCl (tyQ cy) U) : va_K D vwCl (tyL cy) U := h
def MW (l : Launch) (y : MethodName) (cY : ByteArray) (nY : Nat) (hh : List (Nat × Nat × Nat × Nat)) (rm : Room) (D : va_G) (cy : Nat → ClassId) (en g : Nat → Nat) (ws : va_W) (sz : Nat) (av : List Value) (k : Int32) (ws' : va_W) : Prop :=
  Met l y (Cond.codeWith y cY nY (some .int) hh :: WA) rm (pQ D cy ws sz (XS en g ws sz) av) (qI D (va_A ws sz) k ws') 2 12 (va_A ws sz)
theorem met_ofFH {l : Launch} {y : MethodName} {ws ws' : List Cond} {rm : Room} {Pc : Array Value → State → Prop} {Qc : Array Value → State → Outcome → State → Prop} {mc ms : Nat} {free : Addr → Prop} {cc : ByteArray} {maxL : Nat} {ret : Option FieldType} {hh : List (Nat × Nat × Nat × Nat)}
    (hy : plainFor y = true) (hw : ws = Cond.codeWith y cc maxL ret hh :: ws')
    (body : ∀ p e s m args below meth c s₁, BodyLoose p l y (headSpec ws rm) cc maxL ret e s m args below meth c s₁ → c.maxLocals = maxL → Pc args s →
      W p l e (headSpec ws rm).room s m args below meth c s.heap [] 0 0 (MQ below Qc args s mc ms free) (entryFrame m args maxL)) : Met l y ws rm Pc Qc mc ms free := by
  refine MetFree.of_bodySF (code := cc) (maxLocals := maxL) (ret := ret) hy ?_ ?_
  · intro args s m h hn
    obtain ⟨m9, meth, c, hn9, h1, h2, h3, h4, -, h5, h6, -⟩ := Cond.codeWith_spec (atoms_spec (ws := ws) h _ (by rw [hw]; exact List.mem_cons_self))
    cases hn.symm.trans hn9
    exact ⟨meth, c, h1, h2, h3, h4, h5, h6⟩
  · intro p e s m args below meth c s₁ B hml hP _
    have hh0 : s₁.heap = s.heap := by rw [B.state]; rfl
    obtain ⟨t, a1, o, b1, b2, b3⟩ := body p e s m args below meth c s₁ B hml hP s₁ hh0 (Stand.of_body B)
    exact ⟨t, o, a1, b1, b2, ⟨b3.1, b3.2⟩⟩
theorem MW.of {l : Launch} {y : MethodName} {cY : ByteArray} {nY : Nat} {hh : List (Nat × Nat × Nat × Nat)} {rm : Room} {D : va_G} {cy : Nat → ClassId} {en g : Nat → Nat} {ws : va_W} {sz : Nat} {av : List Value} {k : Int32} {ws' : va_W} (hy : plainFor y = true) (hav : (lg_sl av).length ≤ nY)
    (body : ∀ (p : Program) (e : Env) (s : State) (m : MethodId) (args : Array Value) (below : List Frame) (meth : Method) (c : Code) (A : Nat → Prop) (ls : Array Slot) (Q : State → Prop),
      p.tables.exec = Jvm.exec → c.code = cY → c.maxLocals = nY → s.vm.findClass y.cls = some m.cls → (∀ w ∈ WA, w.before args s = true) → va_K D vwCl (tyQ cy) s → NW s → c.exceptionTable.toList = tableOf hh → ST en g A s s.heap →
      va_P D vwCl ws s.heap → va_D A ws → (∀ q : Nat, s.heap.size ≤ q → A q) → va_S A s.heap s.heap [] → lv_has ls nY (lv_args 0 av) →
      (∀ (H : Heap) (locs : List Loc) (pc : Nat) (ls : Array Slot) (w : va_W) (v : Int32) (cells slots : Nat), va_P D vwCl w H → va_D A w → va_S A s.heap H locs → w = ws' → v = k → cells ≤ 2 → slots ≤ 12 → decode cY pc = .ok (.ireturn, 1) → W p l e rm s m args below meth c H locs cells slots Q (F0 m pc ls [.int v])) →
      W p l e rm s m args below meth c s.heap [] 0 0 Q (F0 m 0 ls [])) : MW l y cY nY hh rm D cy en g ws sz av k ws' := by
  refine met_ofFH (cc := cY) (maxL := nY) (ret := some .int) hy rfl ?_
  intro p e s m args below meth c s₁ B hml hv
  obtain ⟨rfl, hsz, hP, hK, hD0, hN, hX⟩ := hv
  have hts := atoms_spec (ws := Cond.codeWith y cY nY (some .int) hh :: WA) B.pre
  have htb := vx_table (x := y) B (hts _ List.mem_cons_self)
  subst hsz
  have hl := lv_entry av (n := nY) hav
  rw [lg_entry_eq]
  refine body p e s m _ below meth c (va_A ws s.heap.size) _ _ B.exec B.bytes hml (findClass_of_methodNamed B.named) (fun w h => hts w (List.mem_cons_of_mem _ h)) hK hN htb hX hP (hD0.self (sz := s.heap.size)) (fun q h => Or.inr h) va_S.rf hl ?_
  intro H locs pc ls w v cells slots hP hD hS hw hv hc hs hdg
  subst hw
  exact W.widen hc hs (W.iret (v := v) B.exec B.bytes B.returns (fun t ht _ => ⟨⟨v, (), rfl, hv, by rw [ht]; exact hP, hD⟩, hS.F ht⟩) hS.2.2 hdg B.notSynchronized)
section CALLW
variable {p : Program} {l : Launch} {e : Env} {R : Room} {s : State} {m : MethodId} {args : Array Value} {below : List Frame} {meth : Method} {c : Code} {H : Heap} {locs : List Loc} {cells slots : Nat} {Q : State → Prop} {D : va_G} {cy : Nat → ClassId} {w1 w1' w2 : va_W} {A : Nat → Prop} {code : Int32} {cc : ByteArray} {pc : Nat} {ls : Array Slot}
  {own C : String} {y : MethodName} {cY : ByteArray} {nY nL index : Nat} {ret : Option FieldType} {rm : Room} {b : Nat} {As rest st : List Value} {en g : Nat → Nat} {E : Int32 → String}
theorem xfT {r : Int32} {n : Nat} (hx : p.tables.exec = Jvm.exec) (hb : c.code = cc) (hml : c.maxLocals = nL) (hown : s.vm.findClass own = some m.cls) (hw : ∀ w ∈ WA, w.before args s = true) (hK : va_K D vwCl (tyL cy) s) (hN : NW s) (hA : ∀ q : Nat, s.heap.size ≤ q → A q) (hsz : ls.size = nL)
    (hP : va_P D vwCl (w1 ++ w2) H) (hD : va_D A (w1 ++ w2)) (hS : va_S A s.heap H locs) (hST : ST en g A s s.heap)
    (k1 : Cond.methodLink own index y ∈ WA) (k2 : Cond.instanceMethod y ∈ WA) (k3 : Cond.selects C y y ∈ WA) (k4 : Cond.initialized y.cls ∈ WA) (k5 : Cond.code y cY nY ret ∈ WA)
    (hM : MT l y cY nY ret rm D cy en g w1 H.size (.ref b :: As) E code r w1')
    {ci q0 N : Nat} {T : u_T} {fs : List Value} (he : w1[q0]? = some (b, .inr (ci, fs))) (hc : vwCl[ci]? = some (C, T, N)) (hrm : rm.cells = 2 ∧ rm.slots = 12)
    (hd : y.cls ≠ "java/lang/invoke/MethodHandle" ∧ y.cls ≠ "java/lang/invoke/VarHandle" ∧ (parseMethodDescriptor y.desc).map (fun d => d.parameters.length) = some n) (hn : As.length = n) (hR : rm.frames + 1 ≤ R.frames ∧ 8 + (nY + 11) + rm.locals ≤ R.locals)
    (hcs : cells + 2 ≤ R.cells ∧ slots + 12 ≤ R.slots) (hst : (rest.map fun v => v.category).sum ≤ 8) (hstk : st = As.reverse ++ .ref b :: rest) (hdg : decode cc pc = .ok (.invokevirtual index, 3))
    (kx : ∀ (H1 : Heap) (locs1 : List Loc) (q : Addr) (ce : Cell), ¬ code = 0 → va_P D vwCl (w1' ++ w2) H1 → va_D A (w1' ++ w2) → va_S A s.heap H1 locs1 → H1[q]? = some ce → ce.vm = .none → s.vm.findClass (E code) = some ce.cls → vx_W p l e R s m args below meth c H1 locs1 (cells + 2) (slots + 12) Q (F0 m pc ls rest) q)
    (kk : ∀ (H1 : Heap) (locs1 : List Loc), code = 0 → va_P D vwCl (w1' ++ w2) H1 → va_D A (w1' ++ w2) → va_S A s.heap H1 locs1 → W p l e R s m args below meth c H1 locs1 (cells + 2) (slots + 12) Q (F0 m (pc + 3) ls (.int r :: rest))) :
    W p l e R s m args below meth c H locs cells slots Q (F0 m pc ls st) :=
  fgoT hP hD hS hA (vx_runV (As := As) (rest := rest) ⟨hx, hb, hml, hown, hw⟩ hM ⟨cB2 hw k1 k4 k5 hrm hd hR, hw _ k2, hw _ k3⟩ ⟨pW_blind Xok_S, va_recv hK (fr_l hP) hc he, pW_call (fr_l hP) hK (fr_dl hD) hN (ST_call hST hS (fr_F hS hD hA))⟩ rfl hn hsz hstk (lv_room hst) hdg hcs) kx kk
theorem xfTD {r : UInt64} {n : Nat} (hx : p.tables.exec = Jvm.exec) (hb : c.code = cc) (hml : c.maxLocals = nL) (hown : s.vm.findClass own = some m.cls) (hw : ∀ w ∈ WA, w.before args s = true) (hK : va_K D vwCl (tyL cy) s) (hN : NW s) (hA : ∀ q : Nat, s.heap.size ≤ q → A q) (hsz : ls.size = nL)
    (hP : va_P D vwCl (w1 ++ w2) H) (hD : va_D A (w1 ++ w2)) (hS : va_S A s.heap H locs) (hST : ST en g A s s.heap)
    (k1 : Cond.methodLink own index y ∈ WA) (k2 : Cond.instanceMethod y ∈ WA) (k3 : Cond.selects C y y ∈ WA) (k4 : Cond.initialized y.cls ∈ WA) (k5 : Cond.code y cY nY (some .double) ∈ WA)
    (hM : MTD l y cY nY rm D cy en g w1 H.size (.ref b :: As) E code r w1')
    {ci q0 N : Nat} {T : u_T} {fs : List Value} (he : w1[q0]? = some (b, .inr (ci, fs))) (hc : vwCl[ci]? = some (C, T, N)) (hrm : rm.cells = 2 ∧ rm.slots = 12)
    (hd : y.cls ≠ "java/lang/invoke/MethodHandle" ∧ y.cls ≠ "java/lang/invoke/VarHandle" ∧ (parseMethodDescriptor y.desc).map (fun d => d.parameters.length) = some n) (hn : As.length = n) (hR : rm.frames + 1 ≤ R.frames ∧ 8 + (nY + 11) + rm.locals ≤ R.locals)
    (hcs : cells + 2 ≤ R.cells ∧ slots + 12 ≤ R.slots) (hst : (rest.map fun v => v.category).sum ≤ 8) (hstk : st = As.reverse ++ .ref b :: rest) (hdg : decode cc pc = .ok (.invokevirtual index, 3))
    (kx : ∀ (H1 : Heap) (locs1 : List Loc) (q : Addr) (ce : Cell), ¬ code = 0 → va_P D vwCl (w1' ++ w2) H1 → va_D A (w1' ++ w2) → va_S A s.heap H1 locs1 → H1[q]? = some ce → ce.vm = .none → s.vm.findClass (E code) = some ce.cls → vx_W p l e R s m args below meth c H1 locs1 (cells + 2) (slots + 12) Q (F0 m pc ls rest) q)
    (kk : ∀ (H1 : Heap) (locs1 : List Loc), code = 0 → va_P D vwCl (w1' ++ w2) H1 → va_D A (w1' ++ w2) → va_S A s.heap H1 locs1 → W p l e R s m args below meth c H1 locs1 (cells + 2) (slots + 12) Q (F0 m (pc + 3) ls (.double r :: rest))) :
    W p l e R s m args below meth c H locs cells slots Q (F0 m pc ls st) :=
  fgoTD hP hD hS hA (vx_runV (As := As) (rest := rest) ⟨hx, hb, hml, hown, hw⟩ hM ⟨cB2 hw k1 k4 k5 hrm hd hR, hw _ k2, hw _ k3⟩ ⟨pW_blind Xok_S, va_recv hK (fr_l hP) hc he, pW_call (fr_l hP) hK (fr_dl hD) hN (ST_call hST hS (fr_F hS hD hA))⟩ rfl hn hsz hstk (lv_room hst) hdg hcs) kx kk
theorem xfTF {r : UInt32} {n : Nat} (hx : p.tables.exec = Jvm.exec) (hb : c.code = cc) (hml : c.maxLocals = nL) (hown : s.vm.findClass own = some m.cls) (hw : ∀ w ∈ WA, w.before args s = true) (hK : va_K D vwCl (tyL cy) s) (hN : NW s) (hA : ∀ q : Nat, s.heap.size ≤ q → A q) (hsz : ls.size = nL)
    (hP : va_P D vwCl (w1 ++ w2) H) (hD : va_D A (w1 ++ w2)) (hS : va_S A s.heap H locs) (hST : ST en g A s s.heap)
    (k1 : Cond.methodLink own index y ∈ WA) (k2 : Cond.instanceMethod y ∈ WA) (k3 : Cond.selects C y y ∈ WA) (k4 : Cond.initialized y.cls ∈ WA) (k5 : Cond.code y cY nY (some .float) ∈ WA)
    (hM : MTF l y cY nY rm D cy en g w1 H.size (.ref b :: As) E code r w1')
    {ci q0 N : Nat} {T : u_T} {fs : List Value} (he : w1[q0]? = some (b, .inr (ci, fs))) (hc : vwCl[ci]? = some (C, T, N)) (hrm : rm.cells = 2 ∧ rm.slots = 12)
    (hd : y.cls ≠ "java/lang/invoke/MethodHandle" ∧ y.cls ≠ "java/lang/invoke/VarHandle" ∧ (parseMethodDescriptor y.desc).map (fun d => d.parameters.length) = some n) (hn : As.length = n) (hR : rm.frames + 1 ≤ R.frames ∧ 8 + (nY + 11) + rm.locals ≤ R.locals)
    (hcs : cells + 2 ≤ R.cells ∧ slots + 12 ≤ R.slots) (hst : (rest.map fun v => v.category).sum ≤ 8) (hstk : st = As.reverse ++ .ref b :: rest) (hdg : decode cc pc = .ok (.invokevirtual index, 3))
    (kx : ∀ (H1 : Heap) (locs1 : List Loc) (q : Addr) (ce : Cell), ¬ code = 0 → va_P D vwCl (w1' ++ w2) H1 → va_D A (w1' ++ w2) → va_S A s.heap H1 locs1 → H1[q]? = some ce → ce.vm = .none → s.vm.findClass (E code) = some ce.cls → vx_W p l e R s m args below meth c H1 locs1 (cells + 2) (slots + 12) Q (F0 m pc ls rest) q)
    (kk : ∀ (H1 : Heap) (locs1 : List Loc), code = 0 → va_P D vwCl (w1' ++ w2) H1 → va_D A (w1' ++ w2) → va_S A s.heap H1 locs1 → W p l e R s m args below meth c H1 locs1 (cells + 2) (slots + 12) Q (F0 m (pc + 3) ls (.float r :: rest))) :
    W p l e R s m args below meth c H locs cells slots Q (F0 m pc ls st) :=
  fgoTF hP hD hS hA (vx_runV (As := As) (rest := rest) ⟨hx, hb, hml, hown, hw⟩ hM ⟨cB2 hw k1 k4 k5 hrm hd hR, hw _ k2, hw _ k3⟩ ⟨pW_blind Xok_S, va_recv hK (fr_l hP) hc he, pW_call (fr_l hP) hK (fr_dl hD) hN (ST_call hST hS (fr_F hS hD hA))⟩ rfl hn hsz hstk (lv_room hst) hdg hcs) kx kk
end CALLW
