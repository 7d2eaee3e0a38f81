/-! the text of a line, as the law makes it -/
section TXT
variable {p : Program} {l : Launch} {e : Env} {s : State} {m : MethodId} {args : Array Value} {below : List Frame} {meth : Method} {c : Code} {b L : Nat} {xs : Nat → Int32} {A : Nat → Prop} {D : va_G} {cy : Nat → ClassId} {en g : Nat → Nat} {Q : State → Prop} {H : Heap} {locs : List Loc} {ls : Array Slot} {cells slots : Nat}
set_option maxHeartbeats 4000000 in
theorem tx_new (hC : LX p s m c args b L xs A D cy en g) (hl : ls.size = 27) {w0 : va_W} {pc : Nat} {rest : List Value} (hd0 : decode cL_law pc = .ok (.new 128, 3)) (hd1 : decode cL_law (pc + 3) = .ok (.dup, 1)) (hd2 : decode cL_law (pc + 4) = .ok (.invokespecial 130, 3)) (hr : (rest.map fun v => v.category).sum ≤ 6) (hc : cells ≤ 900000) (hs : slots ≤ 6000000) (hP : va_P D vwCl (w0) H) (hD : va_D A (w0)) (hS : va_S A s.heap H locs)
    (kk : ∀ (ab vb : Nat) (H : Heap) (locs : List Loc), va_P D vwCl (sbW cy ab vb y00 ++ w0) H → va_D A (sbW cy ab vb y00 ++ w0) → va_S A s.heap H locs → W p l e room_1 s m args below meth c H locs (cells + 2) (slots + 20) Q (F0 m (pc + 7) ls (.ref ab :: rest))) : W p l e room_1 s m args below meth c H locs cells slots Q (F0 m pc ls rest) := by
  obtain ⟨hx, hb, hml, hown, hw, hK, hN, hST, hSC, hA⟩ := hC
  refine va_new hx hb hw inWJ4 tyJ4 tyJ4_ok hown (hw _ k_1195) (hw _ k_252) (hw _ k_32) hK hP hD hS hA (ci := 1) rfl (fs := [.null, .int 0, .int 0, .int 0]) (fun j hj => by rcases (show j = 0 ∨ j = 1 ∨ j = 2 ∨ j = 3 by omega) with rfl | rfl | rfl | rfl <;> rfl) (show _ ≤ 975572 by omega) (show _ ≤ 6174753 by omega) hd0 (fun ab H hP hD hS => ?_)
  refine lv_dup hx hb hd1 rfl ?_
  refine cI_k (As := []) (rest := .ref ab :: rest) hx hb hml hown hw hK hN hA hl hP hD hS k_1196 k_254 k_32 k_255 (met_J4_init_da8c8 l D cy _ en g _ _ _ gL) (ST_call hST hS (free_all hD hS hA)) Xok_S ⟨rfl, rfl⟩ rfl (n := 0) (by decide +kernel) rfl ⟨Nat.le_of_ble_eq_true rfl, Nat.le_of_ble_eq_true rfl⟩ ⟨show _ ≤ 975572 by omega, show _ ≤ 6174753 by omega⟩ (by simp only [List.map_cons, List.sum_cons]; show 1 + _ ≤ 8; omega) rfl hd2 (fun w9 H locs h9 hP hD hS => ?_)
  obtain ⟨vb, hw9⟩ := h9
  rw [sL] at hw9
  subst hw9
  have pm : ((w0 ++ [(ab, .inr (1, [.ref vb, .int 0, .int 0, .int 0]))]) ++ [(vb, .inl (cy 2, 16, .inl (fun _ => 0)))] : va_W).Perm (sbW cy ab vb y00 ++ w0) := by rw [List.append_assoc]; exact List.perm_append_comm
  exact kk ab vb H locs (pm_P pm hP) (pm_D pm hD) hS
set_option maxHeartbeats 4000000 in
theorem tx_int (hC : LX p s m c args b L xs A D cy en g) (hl : ls.size = 27) {w0 : va_W} {ab vb : Nat} {y : Mem} {T : List Nat} (hT : TX y T) {pc u : Nat} {v : Int32} (hv : v = nI u) (hu : u < 10) (hlen : T.length < 16) {rest : List Value} (hd : decode cL_law pc = .ok (.invokevirtual 131, 3)) (hr : (rest.map fun v => v.category).sum ≤ 6) (hc : cells ≤ 900000) (hs : slots ≤ 6000000) (hP : va_P D vwCl (sbW cy ab vb y ++ w0) H) (hD : va_D A (sbW cy ab vb y ++ w0)) (hS : va_S A s.heap H locs)
    (kk : ∀ (y : Mem) (H : Heap) (locs : List Loc), TX y (T ++ [48 + u]) → va_P D vwCl (sbW cy ab vb y ++ w0) H → va_D A (sbW cy ab vb y ++ w0) → va_S A s.heap H locs → W p l e room_1 s m args below meth c H locs cells slots Q (F0 m (pc + 3) ls (.ref ab :: rest))) : W p l e room_1 s m args below meth c H locs cells slots Q (F0 m pc ls (.int v :: .ref ab :: rest)) := by
  obtain ⟨hx, hb, hml, hown, hw, hK, hN, hST, hSC, hA⟩ := hC
  subst hv
  obtain ⟨y2, e2, t2, -⟩ := aD hT hlen hu
  refine fVq (w1 := sbW cy ab vb y) (w2 := w0) (As := [.int (nI u)]) (rest := rest) hx hb hml hown hw hK hN hA hl hP hD hS k_1227 k_735 k_736 k_32 k_737 (met_J4_append_bf812B l D cy _ ab vb en g y (nI u) y2 e2) (ST_call hST hS (fr_F hS hD hA)) Xok_S (va_recv hK hP rfl (gA (gB31 (x := y) (f := y 12 31) (by decide) rfl))) ⟨rfl, rfl⟩ (n := 1) (by decide +kernel) rfl ⟨Nat.le_of_ble_eq_true rfl, Nat.le_of_ble_eq_true rfl⟩ ⟨show _ ≤ 975572 by omega, show _ ≤ 6174753 by omega⟩ (by omega) rfl hd (fun H locs hP hD hS => ?_)
  exact kk y2 H locs t2 hP hD hS
set_option maxHeartbeats 4000000 in
theorem tx_txt (hC : LX p s m c args b L xs A D cy en g) (hl : ls.size = 27) {w0 : va_W} {ab vb : Nat} {y : Mem} {T U : List Nat} (hT : TX y T) {q v : Nat} {h : Nat → Int32} (hh : ∀ j u, U[j]? = some u → h j = nI u ∧ u < 128) (hKS : ∀ Z : State, Z.heap = H → s.WarmedH Z.vm → KS q v U.length h (va_A (sbW cy ab vb y) H.size) Z Z.heap) {pc : Nat} (hlen : T.length + U.length ≤ 16) {rest : List Value} (hd : decode cL_law pc = .ok (.invokevirtual 137, 3)) (hr : (rest.map fun v => v.category).sum ≤ 6) (hc : cells ≤ 900000) (hs : slots ≤ 6000000) (hP : va_P D vwCl (sbW cy ab vb y ++ w0) H) (hD : va_D A (sbW cy ab vb y ++ w0)) (hS : va_S A s.heap H locs)
    (kk : ∀ (y : Mem) (H : Heap) (locs : List Loc), TX y (T ++ U) → va_P D vwCl (sbW cy ab vb y ++ w0) H → va_D A (sbW cy ab vb y ++ w0) → va_S A s.heap H locs → W p l e room_1 s m args below meth c H locs cells slots Q (F0 m (pc + 3) ls (.ref ab :: rest))) : W p l e room_1 s m args below meth c H locs cells slots Q (F0 m pc ls (.ref q :: .ref ab :: rest)) := by
  obtain ⟨hx, hb, hml, hown, hw, hK, hN, hST, hSC, hA⟩ := hC
  refine fVr (w1 := sbW cy ab vb y) (w2 := w0) (As := [.ref q]) (rest := rest) hx hb hml hown hw hK hN hA hl hP hD hS k_1197 k_1198 k_1199 k_32 k_1200 (met_J4_append_15ec4K l D cy _ ab vb en g y q v U.length h T.length hT.1 hT.2.1 hlen (hfit_of hh)) (fun Z hZ hW => ⟨ST_call hST hS (fr_F hS hD hA) Z hZ hW, hKS Z hZ hW⟩) Xok_K (va_recv hK hP rfl (gA (gB31 (x := y) (f := y 12 31) (by decide) rfl))) ⟨rfl, rfl⟩ (n := 1) (by decide +kernel) rfl ⟨Nat.le_of_ble_eq_true rfl, Nat.le_of_ble_eq_true rfl⟩ ⟨show _ ≤ 975572 by omega, show _ ≤ 6174753 by omega⟩ (by omega) rfl hd (fun r9 w9 H locs h9 hP hD hS => ?_)
  obtain ⟨hr9, hw9⟩ := h9
  subst r9 w9
  exact kk _ H locs (aK hT hlen hh) hP hD hS
/-! a constant text -/
set_option maxHeartbeats 4000000 in
theorem tx_con (hC : LX p s m c args b L xs A D cy en g) (hl : ls.size = 27) {w0 : va_W} {ab vb : Nat} {y : Mem} {T : List Nat} (hT : TX y T) {i : Nat} (hi : i < 7) {pc : Nat} (hlen : T.length + (lwT i).length ≤ 16) {rest : List Value} (hd : decode cL_law pc = .ok (.invokevirtual 137, 3)) (hr : (rest.map fun v => v.category).sum ≤ 6) (hc : cells ≤ 900000) (hs : slots ≤ 6000000) (hP : va_P D vwCl (sbW cy ab vb y ++ w0) H) (hD : va_D A (sbW cy ab vb y ++ w0)) (hS : va_S A s.heap H locs)
    (kk : ∀ (y : Mem) (H : Heap) (locs : List Loc), TX y (T ++ lwT i) → va_P D vwCl (sbW cy ab vb y ++ w0) H → va_D A (sbW cy ab vb y ++ w0) → va_S A s.heap H locs → W p l e room_1 s m args below meth c H locs cells slots Q (F0 m (pc + 3) ls (.ref ab :: rest))) : W p l e room_1 s m args below meth c H locs cells slots Q (F0 m pc ls (.ref (g (100 + i)) :: .ref ab :: rest)) :=
  tx_txt hC hl hT (lwT_all hi) (KS_call (KS_const hC.2.2.2.2.2.2.2.1 hi) hS (fr_F hS hD hC.2.2.2.2.2.2.2.2.2)) hlen hd hr hc hs hP hD hS kk
/-! the builder told as a text; the builder is left -/
set_option maxHeartbeats 4000000 in
theorem tx_str (hC : LX p s m c args b L xs A D cy en g) (hl : ls.size = 27) {w0 : va_W} {ab vb : Nat} {y : Mem} {T : List Nat} (hT : TX y T) {pc : Nat} (hlen : T.length < 16) {rest : List Value} (hd : decode cL_law pc = .ok (.invokevirtual 146, 3)) (hr : (rest.map fun v => v.category).sum ≤ 6) (hc : cells ≤ 900000) (hs : slots ≤ 6000000) (hP : va_P D vwCl (sbW cy ab vb y ++ w0) H) (hD : va_D A (sbW cy ab vb y ++ w0)) (hS : va_S A s.heap H locs)
    (kk : ∀ (q sv : Nat) (h : Nat → Int32) (H : Heap) (locs : List Loc), (∀ j u, T[j]? = some u → h j = nI u ∧ u < 128) → va_P D vwCl (w0 ++ [(q, .inr (0, [.ref sv, .int 0, .int 0, .int 0])), (sv, .inl (cy 2, T.length, .inl h))]) H → va_D A (w0 ++ [(q, .inr (0, [.ref sv, .int 0, .int 0, .int 0])), (sv, .inl (cy 2, T.length, .inl h))]) → va_S A s.heap H locs → W p l e room_1 s m args below meth c H locs (cells + 2) (slots + 20) Q (F0 m (pc + 3) ls (.ref q :: rest))) : W p l e room_1 s m args below meth c H locs cells slots Q (F0 m pc ls (.ref ab :: rest)) := by
  obtain ⟨hx, hb, hml, hown, hw, hK, hN, hST, hSC, hA⟩ := hC
  refine fVr (w1 := sbW cy ab vb y) (w2 := w0) (As := []) (rest := rest) hx hb hml hown hw hK hN hA hl hP hD hS k_1228 k_1229 k_1230 k_32 k_1231 (met_J4_toString_0e30dK l D cy _ ab vb en g y T.length hT.1 hT.2.1 hlen hT.fit) (ST_call hST hS (fr_F hS hD hA)) Xok_S (va_recv hK hP rfl (gA (gB31 (x := y) (f := y 12 31) (by decide) rfl))) ⟨rfl, rfl⟩ (n := 0) (by decide +kernel) rfl ⟨Nat.le_of_ble_eq_true rfl, Nat.le_of_ble_eq_true rfl⟩ ⟨show _ ≤ 975572 by omega, show _ ≤ 6174753 by omega⟩ (by omega) rfl hd (fun q w9 H locs h9 hP hD hS => ?_)
  obtain ⟨sv, hw9⟩ := h9
  subst hw9
  have pm : ((sbW cy ab vb y ++ [(q, .inr (0, [.ref sv, .int 0, .int 0, .int 0])), (sv, .inl (cy 2, T.length, .inl (va_cpy (y 12 32) (fun _ => 0) 0 0 T.length)))]) ++ w0 : va_W).Perm ((w0 ++ [(q, .inr (0, [.ref sv, .int 0, .int 0, .int 0])), (sv, .inl (cy 2, T.length, .inl (va_cpy (y 12 32) (fun _ => 0) 0 0 T.length)))]) ++ sbW cy ab vb y) := by
    refine List.perm_append_comm.trans ?_
    rw [List.append_assoc]
    exact List.Perm.append_left _ List.perm_append_comm
  exact kk q sv _ H locs (made_at hT) (fr_l (pm_P pm hP)) (fr_dl (pm_D pm hD)) hS
theorem pq {w0 w1 w2 : va_W} : ((w1 ++ w0) ++ w2 : va_W).Perm (w1 ++ (w0 ++ w2)) := by rw [List.append_assoc]
theorem gM0 {w0 : va_W} {u v : Nat × va_E} : (w0 ++ [u, v])[w0.length]? = some u := by simp
theorem gM1 {w0 : va_W} {u v : Nat × va_E} : (w0 ++ [u, v])[w0.length + 1]? = some v := by rw [List.getElem?_append_right (by omega), Nat.add_sub_cancel_left]; rfl
theorem lnO_t {c : Nat → Int32} (h : c 3 = -1) : lnO c = [] := by unfold lnO D_X1_hasTitleForOtherShape D_X1_hasTitle; rw [if_pos h, if_pos rfl, if_pos rfl]
theorem lnO_e {c : Nat → Int32} (h : c 4 = c 1) : lnO c = [] := by unfold lnO D_X1_hasTitleForOtherShape; rw [if_pos h]; split <;> rfl
theorem lnO_n {c : Nat → Int32} (h : ¬ c 3 = -1) (h4 : ¬ c 4 = c 1) : lnO c = [63] := by unfold lnO D_X1_hasTitleForOtherShape D_X1_hasTitle; simp [h, h4]
set_option maxHeartbeats 4000000 in
theorem tx_292 (hC : LX p s m c args b L xs A D cy en g) {k0 k1 : Nat} (hk0 : k0 ≤ 900000) (hk1 : k1 ≤ 6000000) {w0 : va_W} {ab vb : Nat} {y : Mem} {T : List Nat} (hT : TX y T) {cl : Nat → Int32} {a : Nat} (hB : CB cl) (hl : lv_has ls 27 [(16, .int (nI a)), (17, .int (cl 0)), (18, .int (cl 1)), (19, .int (cl 2)), (20, .int (cl 3)), (21, .int (cl 4)), (22, .int (cl 5))]) (hlen : T.length ≤ 10) (hc : cells + 4 + 2 ≤ k0) (hs : slots + 40 + 20 ≤ k1) (hP : va_P D vwCl (sbW cy ab vb y ++ w0) H) (hD : va_D A (sbW cy ab vb y ++ w0)) (hS : va_S A s.heap H locs) (kk : ∀ (q sv : Nat) (h : Nat → Int32) (H : Heap) (locs : List Loc) (cells slots : Nat), cells ≤ k0 → slots ≤ k1 → (∀ j u, (T ++ lnP cl)[j]? = some u → h j = nI u ∧ u < 128) → va_P D vwCl (w0 ++ [(q, .inr (0, [.ref sv, .int 0, .int 0, .int 0])), (sv, .inl (cy 2, (T ++ lnP cl).length, .inl h))]) H → va_D A (w0 ++ [(q, .inr (0, [.ref sv, .int 0, .int 0, .int 0])), (sv, .inl (cy 2, (T ++ lnP cl).length, .inl h))]) → va_S A s.heap H locs → W p l e room_1 s m args below meth c H locs cells slots Q (F0 m 328 ls [.ref q]))
    : W p l e room_1 s m args below meth c H locs cells slots Q (F0 m 292 ls [.ref ab]) := by
  obtain ⟨hx, hb, hml, hown, hw, hK, hN, hST, hSC, hA⟩ := id hC
  have fin : ∀ (y : Mem) (H : Heap) (locs : List Loc) (cells slots : Nat), TX y (T ++ lnP cl) → cells + 2 ≤ k0 → slots + 20 ≤ k1 → va_P D vwCl (sbW cy ab vb y ++ w0) H → va_D A (sbW cy ab vb y ++ w0) → va_S A s.heap H locs → W p l e room_1 s m args below meth c H locs cells slots Q (F0 m 325 ls [.ref ab]) := by
    intro y H locs cells slots hT hc hs hP hD hS
    have hl3 : (T ++ lnP cl).length < 16 := by rw [List.length_append]; unfold lnP; split <;> simp <;> omega
    exact tx_str hC hl.1 hT hl3 dL_law_325 (Nat.le_of_ble_eq_true rfl) (by omega) (by omega) hP hD hS (fun q sv h H locs hh hP hD hS => kk q sv h H locs _ _ (by omega) (by omega) hh hP hD hS)
  refine lv_iload hx hb dL_law_292 (lv_at hl 6 rfl) ?_
  have hr5 := hB.2.2.2.2.1
  refine lv_if_lt (tgt := 320) hx hb dL_law_294 (by decide) (fun h1 => ?_) (fun h2 => ?_)
  · have e5 : cl 5 = -1 := (neg_m1 hr5).mp h1
    refine va_ldcS hx hb hown (hST.2.2.2.2.1 4 _ rfl) dL_law_320 ?_
    refine tx_con hC hl.1 hT (i := 4) (by decide) (by show T.length + 0 ≤ 16; omega) dL_law_322 (Nat.le_of_ble_eq_true rfl) (by omega) (by omega) hP hD hS (fun y H locs hT hP hD hS => ?_)
    exact fin y H locs _ _ (by unfold lnP; rw [if_pos e5]; exact hT) (by omega) (by omega) hP hD hS
  · have e5 : ¬ cl 5 = -1 := fun z => h2 ((neg_m1 hr5).mpr z)
    obtain ⟨u, hu, eu⟩ : ∃ u : Nat, u < 10 ∧ cl 5 = nI u := by
      rcases rng_m (b := 3) hr5 (by decide) with h | ⟨u, hu, h⟩
      · exact absurd h e5
      · exact ⟨u, by omega, h⟩
    refine tx_new hC hl.1 dL_law_297 dL_law_300 dL_law_301 (Nat.le_of_ble_eq_true rfl) (by omega) (by omega) hP hD hS (fun ab2 vb2 H locs hP hD hS => ?_)
    refine va_ldcS hx hb hown (hST.2.2.2.2.1 6 _ rfl) dL_law_304 ?_
    refine tx_con hC hl.1 TXz (i := 6) (by decide) (by decide) dL_law_306 (Nat.le_of_ble_eq_true rfl) (by omega) (by omega) hP hD hS (fun y2 H locs hT2 hP hD hS => ?_)
    refine lv_iload hx hb dL_law_309 (lv_at hl 6 rfl) ?_
    refine tx_int hC hl.1 hT2 eu hu (by simp [lwT]) dL_law_311 (Nat.le_of_ble_eq_true rfl) (by omega) (by omega) hP hD hS (fun y2 H locs hT2 hP hD hS => ?_)
    refine tx_str hC hl.1 hT2 (by simp [lwT]) dL_law_314 (Nat.le_of_ble_eq_true rfl) (by omega) (by omega) hP hD hS (fun q sv h H locs hh hP hD hS => ?_)
    refine lv_goto (tgt := 322) hx hb dL_law_317 (by decide) ?_
    have hP := pm_P pq hP
    have hD := pm_D pq hD
    refine tx_txt hC hl.1 hT hh (KS_made hw hK hP hD gM0 gM1) (by show T.length + 2 ≤ 16; omega) dL_law_322 (Nat.le_of_ble_eq_true rfl) (by omega) (by omega) hP hD hS (fun y H locs hT hP hD hS => ?_)
    rw [← List.append_assoc] at hP hD
    exact fin y H locs _ _ (by unfold lnP; rw [if_neg e5, eu, tN_nI (by omega)]; exact hT) (by omega) (by omega) (fr_l hP) (fr_dl hD) hS
set_option maxHeartbeats 4000000 in
theorem tx_270 (hC : LX p s m c args b L xs A D cy en g) {k0 k1 : Nat} (hk0 : k0 ≤ 900000) (hk1 : k1 ≤ 6000000) {w0 : va_W} {ab vb : Nat} {y : Mem} {T : List Nat} (hT : TX y T) {cl : Nat → Int32} {a : Nat} (hB : CB cl) (hl : lv_has ls 27 [(16, .int (nI a)), (17, .int (cl 0)), (18, .int (cl 1)), (19, .int (cl 2)), (20, .int (cl 3)), (21, .int (cl 4)), (22, .int (cl 5))]) (hlen : T.length ≤ 9) (hc : cells + 4 + 2 ≤ k0) (hs : slots + 40 + 20 ≤ k1) (hP : va_P D vwCl (sbW cy ab vb y ++ w0) H) (hD : va_D A (sbW cy ab vb y ++ w0)) (hS : va_S A s.heap H locs) (kk : ∀ (q sv : Nat) (h : Nat → Int32) (H : Heap) (locs : List Loc) (cells slots : Nat), cells ≤ k0 → slots ≤ k1 → (∀ j u, (T ++ lnO cl ++ lnP cl)[j]? = some u → h j = nI u ∧ u < 128) → va_P D vwCl (w0 ++ [(q, .inr (0, [.ref sv, .int 0, .int 0, .int 0])), (sv, .inl (cy 2, (T ++ lnO cl ++ lnP cl).length, .inl h))]) H → va_D A (w0 ++ [(q, .inr (0, [.ref sv, .int 0, .int 0, .int 0])), (sv, .inl (cy 2, (T ++ lnO cl ++ lnP cl).length, .inl h))]) → va_S A s.heap H locs → W p l e room_1 s m args below meth c H locs cells slots Q (F0 m 328 ls [.ref q]))
    : W p l e room_1 s m args below meth c H locs cells slots Q (F0 m 270 ls [.ref ab]) := by
  obtain ⟨hx, hb, hml, hown, hw, hK, hN, hST, hSC, hA⟩ := id hC
  have hr3 := hB.2.2.2.1
  refine lv_iload hx hb dL_law_270 (lv_at hl 4 rfl) ?_
  refine lv_if_lt (tgt := 287) hx hb dL_law_272 (by decide) (fun h1 => ?_) (fun h2 => ?_)
  · have e9 : lnO cl = [] := lnO_t ((neg_m1 hr3).mp h1)
    refine va_ldcS hx hb hown (hST.2.2.2.2.1 4 _ rfl) dL_law_287 ?_
    refine tx_con hC hl.1 hT (i := 4) (by decide) (by show T.length + 0 ≤ 16; omega) dL_law_289 (Nat.le_of_ble_eq_true rfl) (by omega) (by omega) hP hD hS (fun y H locs hT hP hD hS => ?_)
    have hT : TX y (T ++ lnO cl) := by rw [e9]; exact hT
    exact tx_292 hC hk0 hk1 hT hB hl (by rw [e9, List.append_nil]; omega) (by omega) (by omega) hP hD hS kk
  · have e3 : ¬ cl 3 = -1 := fun z => h2 ((neg_m1 hr3).mpr z)
    refine lv_iload hx hb dL_law_275 (lv_at hl 5 rfl) ?_
    refine lv_iload hx hb dL_law_277 (lv_at hl 2 rfl) ?_
    refine lv_icmp_eq (tgt := 287) hx hb dL_law_279 (by decide) (fun h3 => ?_) (fun h4 => ?_)
    · have e9 : lnO cl = [] := lnO_e h3
      refine va_ldcS hx hb hown (hST.2.2.2.2.1 4 _ rfl) dL_law_287 ?_
      refine tx_con hC hl.1 hT (i := 4) (by decide) (by show T.length + 0 ≤ 16; omega) dL_law_289 (Nat.le_of_ble_eq_true rfl) (by omega) (by omega) hP hD hS (fun y H locs hT hP hD hS => ?_)
      have hT : TX y (T ++ lnO cl) := by rw [e9]; exact hT
      exact tx_292 hC hk0 hk1 hT hB hl (by rw [e9, List.append_nil]; omega) (by omega) (by omega) hP hD hS kk
    · have e9 : lnO cl = [63] := lnO_n e3 h4
      refine va_ldcS hx hb hown (hST.2.2.2.2.1 5 _ rfl) dL_law_282 ?_
      refine lv_goto (tgt := 289) hx hb dL_law_284 (by decide) ?_
      refine tx_con hC hl.1 hT (i := 5) (by decide) (by show T.length + 1 ≤ 16; omega) dL_law_289 (Nat.le_of_ble_eq_true rfl) (by omega) (by omega) hP hD hS (fun y H locs hT hP hD hS => ?_)
      have hT : TX y (T ++ lnO cl) := by rw [e9]; exact hT
      exact tx_292 hC hk0 hk1 hT hB hl (by rw [e9, List.length_append]; show T.length + 1 ≤ 10; omega) (by omega) (by omega) hP hD hS kk
set_option maxHeartbeats 4000000 in
theorem seg_text (hC : LX p s m c args b L xs A D cy en g) {k0 k1 : Nat} (hk0 : k0 ≤ 900000) (hk1 : k1 ≤ 6000000) {w0 : va_W} {cl : Nat → Int32} {a : Nat} (ha : a < 10) (hB : CB cl) (hl : lv_has ls 27 [(16, .int (nI a)), (17, .int (cl 0)), (18, .int (cl 1)), (19, .int (cl 2)), (20, .int (cl 3)), (21, .int (cl 4)), (22, .int (cl 5))]) (hc : cells + 12 ≤ k0) (hs : slots + 120 ≤ k1) (hP : va_P D vwCl (w0) H) (hD : va_D A (w0)) (hS : va_S A s.heap H locs) (kk : ∀ (q sv : Nat) (h : Nat → Int32) (H : Heap) (locs : List Loc) (cells slots : Nat), cells ≤ k0 → slots ≤ k1 → (∀ j u, (lineL cl a)[j]? = some u → h j = nI u ∧ u < 128) → va_P D vwCl (w0 ++ [(q, .inr (0, [.ref sv, .int 0, .int 0, .int 0])), (sv, .inl (cy 2, (lineL cl a).length, .inl h))]) H → va_D A (w0 ++ [(q, .inr (0, [.ref sv, .int 0, .int 0, .int 0])), (sv, .inl (cy 2, (lineL cl a).length, .inl h))]) → va_S A s.heap H locs → W p l e room_1 s m args below meth c H locs cells slots Q (F0 m 328 ls [.ref q]))
    : W p l e room_1 s m args below meth c H locs cells slots Q (F0 m 195 ls []) := by
  obtain ⟨hx, hb, hml, hown, hw, hK, hN, hST, hSC, hA⟩ := id hC
  obtain ⟨v0, hv0, ev0⟩ := hB.v
  obtain ⟨v1, hv1, ev1⟩ := hB.s
  obtain ⟨v2, hv2a, hv2, ev2⟩ := hB.size
  have hr3 := hB.2.2.2.1
  refine tx_new hC hl.1 dL_law_195 dL_law_198 dL_law_199 (Nat.le_of_ble_eq_true rfl) (by omega) (by omega) hP hD hS (fun ab vb H locs hP hD hS => ?_)
  refine lv_iload hx hb dL_law_202 (lv_at hl 0 rfl) ?_
  refine tx_int hC hl.1 TXz rfl ha (by simp [lwT]) dL_law_204 (Nat.le_of_ble_eq_true rfl) (by omega) (by omega) hP hD hS (fun y H locs hT hP hD hS => ?_)
  refine va_ldcS hx hb hown (hST.2.2.2.2.1 0 _ rfl) dL_law_207 ?_
  refine tx_con hC hl.1 hT (i := 0) (by decide) (by simp [lwT]) dL_law_209 (Nat.le_of_ble_eq_true rfl) (by omega) (by omega) hP hD hS (fun y H locs hT hP hD hS => ?_)
  refine lv_iload hx hb dL_law_212 (lv_at hl 1 rfl) ?_
  refine tx_int hC hl.1 hT ev0 (by omega) (by simp [lwT]) dL_law_214 (Nat.le_of_ble_eq_true rfl) (by omega) (by omega) hP hD hS (fun y H locs hT hP hD hS => ?_)
  refine va_ldcS hx hb hown (hST.2.2.2.2.1 1 _ rfl) dL_law_217 ?_
  refine tx_con hC hl.1 hT (i := 1) (by decide) (by simp [lwT]) dL_law_219 (Nat.le_of_ble_eq_true rfl) (by omega) (by omega) hP hD hS (fun y H locs hT hP hD hS => ?_)
  refine lv_iload hx hb dL_law_222 (lv_at hl 2 rfl) ?_
  refine tx_int hC hl.1 hT ev1 (by omega) (by simp [lwT]) dL_law_224 (Nat.le_of_ble_eq_true rfl) (by omega) (by omega) hP hD hS (fun y H locs hT hP hD hS => ?_)
  refine va_ldcS hx hb hown (hST.2.2.2.2.1 2 _ rfl) dL_law_227 ?_
  refine tx_con hC hl.1 hT (i := 2) (by decide) (by simp [lwT]) dL_law_229 (Nat.le_of_ble_eq_true rfl) (by omega) (by omega) hP hD hS (fun y H locs hT hP hD hS => ?_)
  refine lv_iload hx hb dL_law_232 (lv_at hl 3 rfl) ?_
  refine tx_int hC hl.1 hT ev2 (by omega) (by simp [lwT]) dL_law_234 (Nat.le_of_ble_eq_true rfl) (by omega) (by omega) hP hD hS (fun y H locs hT hP hD hS => ?_)
  have hT : TX y [48 + a, 64, 48 + tN (cl 0), 58, 48 + tN (cl 1), 47, 48 + tN (cl 2)] := by rw [ev0, ev1, ev2, tN_nI (show v0 < 2 ^ 31 by omega), tN_nI (show v1 < 2 ^ 31 by omega), tN_nI (show v2 < 2 ^ 31 by omega)]; exact hT
  have hlT : (lnT cl).length ≤ 2 := by unfold lnT; split <;> simp
  refine lv_iload hx hb dL_law_237 (lv_at hl 4 rfl) ?_
  refine lv_if_lt (tgt := 265) hx hb dL_law_239 (by decide) (fun h1 => ?_) (fun h2 => ?_)
  · have e3 : cl 3 = -1 := (neg_m1 hr3).mp h1
    refine va_ldcS hx hb hown (hST.2.2.2.2.1 4 _ rfl) dL_law_265 ?_
    refine tx_con hC hl.1 hT (i := 4) (by decide) (by simp [lwT]) dL_law_267 (Nat.le_of_ble_eq_true rfl) (by omega) (by omega) hP hD hS (fun y H locs hT hP hD hS => ?_)
    have hT : TX y ([48 + a, 64, 48 + tN (cl 0), 58, 48 + tN (cl 1), 47, 48 + tN (cl 2)] ++ lnT cl) := by unfold lnT; rw [if_pos e3]; exact hT
    exact tx_270 hC hk0 hk1 hT hB hl (by rw [List.length_append]; show 7 + _ ≤ 9; omega) (by omega) (by omega) hP hD hS kk
  · have e3 : ¬ cl 3 = -1 := fun z => h2 ((neg_m1 hr3).mpr z)
    obtain ⟨u, hu, eu⟩ : ∃ u : Nat, u < 10 ∧ cl 3 = nI u := by
      rcases rng_m (b := 3) hr3 (by decide) with h | ⟨u, hu, h⟩
      · exact absurd h e3
      · exact ⟨u, by omega, h⟩
    refine tx_new hC hl.1 dL_law_242 dL_law_245 dL_law_246 (Nat.le_of_ble_eq_true rfl) (by omega) (by omega) hP hD hS (fun ab2 vb2 H locs hP hD hS => ?_)
    refine va_ldcS hx hb hown (hST.2.2.2.2.1 3 _ rfl) dL_law_249 ?_
    refine tx_con hC hl.1 TXz (i := 3) (by decide) (by decide) dL_law_251 (Nat.le_of_ble_eq_true rfl) (by omega) (by omega) hP hD hS (fun y2 H locs hT2 hP hD hS => ?_)
    refine lv_iload hx hb dL_law_254 (lv_at hl 4 rfl) ?_
    refine tx_int hC hl.1 hT2 eu hu (by simp [lwT]) dL_law_256 (Nat.le_of_ble_eq_true rfl) (by omega) (by omega) hP hD hS (fun y2 H locs hT2 hP hD hS => ?_)
    refine tx_str hC hl.1 hT2 (by simp [lwT]) dL_law_259 (Nat.le_of_ble_eq_true rfl) (by omega) (by omega) hP hD hS (fun q sv h H locs hh hP hD hS => ?_)
    refine lv_goto (tgt := 267) hx hb dL_law_262 (by decide) ?_
    have hP := pm_P pq hP
    have hD := pm_D pq hD
    refine tx_txt hC hl.1 hT hh (KS_made hw hK hP hD gM0 gM1) (by simp [lwT]) dL_law_267 (Nat.le_of_ble_eq_true rfl) (by omega) (by omega) hP hD hS (fun y H locs hT hP hD hS => ?_)
    rw [← List.append_assoc] at hP hD
    have hT : TX y ([48 + a, 64, 48 + tN (cl 0), 58, 48 + tN (cl 1), 47, 48 + tN (cl 2)] ++ lnT cl) := by unfold lnT; rw [if_neg e3, eu, tN_nI (show u < 2 ^ 31 by omega)]; exact hT
    exact tx_270 hC hk0 hk1 hT hB hl (by rw [List.length_append]; show 7 + _ ≤ 9; omega) (by omega) (by omega) (fr_l hP) (fr_dl hD) hS kk
end TXT
