/-! texts: what stands, a String's bytes (a constant's, or one that was made and isn't in the callee's world) -/
def KS (q v n : Nat) (h : Nat → Int32) (A : Nat → Prop) (U : State) (H : Heap) : Prop := va_O "java/lang/String" q A U H ∧ va_OF "java/lang/String" "coder" "B" (.int 0) q A U H ∧ va_OF "java/lang/String" "value" "[B" (.ref v) q A U H ∧ va_T .byte v n (fun j => .int (h j)) A U H
def XK (en g : Nat → Nat) (q v n : Nat) (h : Nat → Int32) (ws : va_W) (sz : Nat) : State → Prop := fun U => ST en g (va_A ws sz) U U.heap ∧ KS q v n h (va_A ws sz) U U.heap
theorem Xok_K {en g : Nat → Nat} {q v n : Nat} {h : Nat → Int32} {ws : va_W} {sz : Nat} : Xok (XK en g q v n h ws sz) := by
  intro U V hh hv hX
  obtain ⟨h1, h2, h3, h4⟩ := hX.2
  have hvm : U.vm.Alike V.vm := by rw [hv]; exact Vm.Alike.refl V.vm
  refine ⟨Xok_S U V hh hv hX.1, ?_⟩
  unfold KS
  rw [← hh]
  exact ⟨va_O.moved hvm h1, va_OF.moved hvm h2, va_OF.moved hvm h3, va_T.moved hvm h4⟩
theorem KS_call {q v n : Nat} {h : Nat → Int32} {A : Nat → Prop} {s : State} {H : Heap} {locs : List Loc} {ws : va_W} (hk : KS q v n h A s s.heap) (hS : va_S A s.heap H locs) (hF : ∀ z, va_A ws H.size z → A z) : ∀ U : State, U.heap = H → s.WarmedH U.vm → KS q v n h (va_A ws H.size) U U.heap := by
  intro U hU hW
  obtain ⟨h1, h2, h3, h4⟩ := hk
  have hvm := hW.alike
  have hq : ∀ a : Nat, a < s.heap.size → ¬ A a → H[a]? = s.heap[a]? := hS.2.1
  rw [hU]
  exact ⟨va_O.moved hvm ((h1.kept hq).narrow hF), va_OF.moved hvm ((h2.kept hq).narrow hF), va_OF.moved hvm ((h3.kept hq).narrow hF), va_T.moved hvm ((h4.kept hq).narrow hF)⟩
theorem XK_call {en g : Nat → Nat} {q v n : Nat} {h : Nat → Int32} {A : Nat → Prop} {s : State} {H : Heap} {locs : List Loc} {ws : va_W} (hs : ST en g A s s.heap) (hk : KS q v n h A s s.heap) (hS : va_S A s.heap H locs) (hF : ∀ z, va_A ws H.size z → A z) : ∀ U : State, U.heap = H → s.WarmedH U.vm → XK en g q v n h ws H.size U :=
  fun U hU hW => ⟨ST_call hs hS hF U hU hW, KS_call hk hS hF U hU hW⟩
theorem KS_recv {q v n : Nat} {h : Nat → Int32} {A : Nat → Prop} {s : State} {H : Heap} {locs : List Loc} (hk : KS q v n h A s s.heap) (hS : va_S A s.heap H locs) : Recv s H q "java/lang/String" := by
  obtain ⟨cell, h1, h2, h3, -⟩ := hk.1.kept hS.2.1
  exact ⟨cell, h1, h2, h3⟩
theorem shr0 : ∀ k : Fin 17, nI k.val >>> ((0 : Int32) &&& 31) = nI k.val := by decide +kernel
theorem shl0 : ∀ k : Fin 17, nI k.val <<< ((0 : Int32) &&& 31) = nI k.val := by decide +kernel
theorem cap16 : ∀ k : Fin 17, nI k.val - ((16 : Int32) >>> ((0 : Int32) &&& 31)) ≤ 0 := by decide +kernel
theorem min16 : ∀ k : Fin 16, (if nI k.val < (16 : Int32) - 0 then nI k.val else (16 : Int32) - 0) = nI k.val := by decide +kernel
theorem ne16 : ∀ k : Fin 16, ¬ nI k.val = (16 : Int32) := by decide +kernel
theorem inb16 : ∀ k : Fin 17, ¬ nI k.val < 0 ∧ (0 : Int32) ≤ nI k.val ∧ nI k.val - 0 = nI k.val ∧ (nI k.val).toNatClampNeg = k.val := by decide +kernel
/-- a builder's memory behind a text of n signs, of which k stood -/
def apK (x : Mem) (h : Nat → Int32) (k n : Nat) : Mem := va_up x 12 (va_up (va_up (x 12) 32 (va_cpy h (x 12 32) 0 k n)) 31 (upd (x 12 31) 3 (nI (k + n))))
theorem df_J0 : ∀ j, j < 4 → defaultValue (tyJ0 j) = vp_V [.null, .int 0, .int 0, .int 0] j := by
  intro j hj
  rcases (show j = 0 ∨ j = 1 ∨ j = 2 ∨ j = 3 by omega) with rfl | rfl | rfl | rfl <;> rfl
set_option maxHeartbeats 4000000 in
theorem met_J0_coder_7d493K (l : Launch) (D : va_G) (cy : Nat → ClassId) (sz : Nat) (ws : va_W) (en g : Nat → Nat) (q v n : Nat) (h : Nat → Int32) : MJ l yJ0_coder_7d493 cJ0_coder_7d493 1 (some .byte) rm_J0_coder_7d493 D cy ws sz (XK en g q v n h ws sz) [.ref q] 0 0 (fun r w => r = 0 ∧ w = ws) := by
  refine MJ.of (by decide +kernel) (Nat.le_of_ble_eq_true rfl) ?_
  intro p e s m args below meth c A ls Q hAt hX hsz hAe hP hD hA hS hl hret
  have hST : ST en g A s s.heap := by rw [hAe]; exact hX.1
  have hKS : KS q v n h A s s.heap := by rw [hAe]; exact hX.2
  obtain ⟨hx, hb, hr, hml, hown, hw, hlk, hK, hN⟩ := hAt
  have hown : s.vm.findClass "java/lang/String" = some m.cls := hown
  have hl : lv_has ls 1 [(0, .ref q)] := hl
  refine va_gets (n := "COMPACT_STRINGS") (v := .int 1) hx hb hST.2.2.2.2.2.2.2.2.2.2.1 hS hown (hw _ k_1176) (fun _ h9 => h9) dJ0_coder_7d493_0 ?_
  refine lv_if_eq (tgt := 13) hx hb dJ0_coder_7d493_3 (by decide) (fun h => absurd h (by decide)) (fun _ => ?_)
  refine lv_aload_n hx hb dJ0_coder_7d493_6 rfl (lv_at hl 0 rfl) ?_
  refine vk_getf hx hb hKS.2.1 hS hown (hw _ k_1268) (fun _ h9 => h9) dJ0_coder_7d493_7 ?_
  refine lv_goto (tgt := 14) hx hb dJ0_coder_7d493_10 (by decide) ?_
  exact hret _ _ _ _ _ _ _ _ hP hD hS ⟨rfl, rfl⟩ rfl (Nat.le_of_ble_eq_true rfl) (Nat.le_of_ble_eq_true rfl) dJ0_coder_7d493_14
set_option maxHeartbeats 4000000 in
theorem met_J0_length_8abf5K (l : Launch) (D : va_G) (cy : Nat → ClassId) (sz : Nat) (ws : va_W) (en g : Nat → Nat) (q v n : Nat) (h : Nat → Int32) (hn : n ≤ 16) : MJ l yJ0_length_8abf5 cJ0_length_8abf5 1 (some .int) rm_J0_length_8abf5 D cy ws sz (XK en g q v n h ws sz) [.ref q] 0 0 (fun r w => r = nI n ∧ w = ws) := by
  refine MJ.of (by decide +kernel) (Nat.le_of_ble_eq_true rfl) ?_
  intro p e s m args below meth c A ls Q hAt hX hsz hAe hP hD hA hS hl hret
  have hST : ST en g A s s.heap := by rw [hAe]; exact hX.1
  have hKS : KS q v n h A s s.heap := by rw [hAe]; exact hX.2
  obtain ⟨hx, hb, hr, hml, hown, hw, hlk, hK, hN⟩ := hAt
  have hown : s.vm.findClass "java/lang/String" = some m.cls := hown
  have hl : lv_has ls 1 [(0, .ref q)] := hl
  refine lv_aload_n hx hb dJ0_length_8abf5_0 rfl (lv_at hl 0 rfl) ?_
  refine vk_getf hx hb hKS.2.2.1 hS hown (hw _ k_1267) (fun _ h9 => h9) dJ0_length_8abf5_1 ?_
  refine va_tlen (v := nI n) hx hb hKS.2.2.2 hS rfl dJ0_length_8abf5_4 ?_
  refine lv_aload_n hx hb dJ0_length_8abf5_5 rfl (lv_at hl 0 rfl) ?_
  refine uRj (As := []) (rest := [.int (nI n)]) hx hb hml hown hw hK hN hA hl.1 hP hD hS k_1172 k_1173 k_1174 k_33 k_1175 (met_J0_coder_7d493K l D cy _ ws en g q v n h) (XK_call hST hKS hS (free_all hD hS hA)) Xok_K (KS_recv hKS hS) ⟨rfl, rfl⟩ (n := 0) (by decide +kernel) rfl ⟨Nat.le_of_ble_eq_true rfl, Nat.le_of_ble_eq_true rfl⟩ ⟨Nat.le_of_ble_eq_true rfl, Nat.le_of_ble_eq_true rfl⟩ (Nat.le_of_ble_eq_true rfl) rfl dJ0_length_8abf5_6 (fun r9 w9 H locs h9 hP hD hS => ?_)
  obtain ⟨hr9, hw9⟩ := h9
  subst r9 w9
  refine lv_ishr hx hb dJ0_length_8abf5_9 ?_
  exact hret _ _ _ _ _ _ _ _ hP hD hS ⟨shr0 ⟨n, by omega⟩, rfl⟩ rfl (Nat.le_of_ble_eq_true rfl) (Nat.le_of_ble_eq_true rfl) dJ0_length_8abf5_10
set_option maxHeartbeats 4000000 in
theorem met_J0_isLatin1_aae02K (l : Launch) (D : va_G) (cy : Nat → ClassId) (sz : Nat) (ws : va_W) (en g : Nat → Nat) (q v n : Nat) (h : Nat → Int32) : MJ l yJ0_isLatin1_aae02 cJ0_isLatin1_aae02 1 (some .boolean) rm_J0_isLatin1_aae02 D cy ws sz (XK en g q v n h ws sz) [.ref q] 0 0 (fun r w => r = 1 ∧ w = ws) := by
  refine MJ.of (by decide +kernel) (Nat.le_of_ble_eq_true rfl) ?_
  intro p e s m args below meth c A ls Q hAt hX hsz hAe hP hD hA hS hl hret
  have hST : ST en g A s s.heap := by rw [hAe]; exact hX.1
  have hKS : KS q v n h A s s.heap := by rw [hAe]; exact hX.2
  obtain ⟨hx, hb, hr, hml, hown, hw, hlk, hK, hN⟩ := hAt
  have hown : s.vm.findClass "java/lang/String" = some m.cls := hown
  have hl : lv_has ls 1 [(0, .ref q)] := hl
  refine va_gets (n := "COMPACT_STRINGS") (v := .int 1) hx hb hST.2.2.2.2.2.2.2.2.2.2.1 hS hown (hw _ k_1176) (fun _ h9 => h9) dJ0_isLatin1_aae02_0 ?_
  refine lv_if_eq (tgt := 17) hx hb dJ0_isLatin1_aae02_3 (by decide) (fun h => absurd h (by decide)) (fun _ => ?_)
  refine lv_aload_n hx hb dJ0_isLatin1_aae02_6 rfl (lv_at hl 0 rfl) ?_
  refine vk_getf hx hb hKS.2.1 hS hown (hw _ k_1268) (fun _ h9 => h9) dJ0_isLatin1_aae02_7 ?_
  refine lv_if_ne (tgt := 17) hx hb dJ0_isLatin1_aae02_10 (by decide) (fun h => absurd rfl h) (fun _ => ?_)
  refine lv_iconst (v := 1) hx hb dJ0_isLatin1_aae02_13 (by decide) ?_
  refine lv_goto (tgt := 18) hx hb dJ0_isLatin1_aae02_14 (by decide) ?_
  exact hret _ _ _ _ _ _ _ _ hP hD hS ⟨rfl, rfl⟩ rfl (Nat.le_of_ble_eq_true rfl) (Nat.le_of_ble_eq_true rfl) dJ0_isLatin1_aae02_18
abbrev rm_J5_inflateIfNeededFor_a7421 : Room := { frames := 1, cells := 0, slots := 0, locals := 20 }
set_option maxHeartbeats 4000000 in
theorem met_J5_inflateIfNeededFor_a7421K (l : Launch) (D : va_G) (cy : Nat → ClassId) (sz : Nat) (ab vb : Nat) (en g : Nat → Nat) (x : Mem) (q v n : Nat) (h : Nat → Int32) (hx0 : x 12 31 1 = 0) : MK l yJ5_inflateIfNeededFor_a7421 cJ5_inflateIfNeededFor_a7421 2 rm_J5_inflateIfNeededFor_a7421 D cy (sbW cy ab vb x) sz (XK en g q v n h (sbW cy ab vb x) sz) [.ref ab, .ref q] 0 0 (fun w => w = (sbW cy ab vb x)) := by
  refine MK.of (by decide +kernel) (Nat.le_of_ble_eq_true rfl) ?_
  intro p e s m args below meth c A ls Q hAt hi hX hsz hAe hP hD hA hS hl hret
  have hST : ST en g A s s.heap := by rw [hAe]; exact hX.1
  have hKS : KS q v n h A s s.heap := by rw [hAe]; exact hX.2
  obtain ⟨hx, hb, hr, hml, hown, hw, hlk, hK, hN⟩ := hAt
  have hown : s.vm.findClass "java/lang/AbstractStringBuilder" = some m.cls := hown
  have hl : lv_has ls 2 [(0, .ref ab), (1, .ref q)] := hl
  refine va_gets (n := "COMPACT_STRINGS") (v := .int 1) hx hb hST.2.2.2.2.2.2.2.2.2.2.1 hS hown (hw _ k_260) (fun _ h9 => h9) dJ5_inflateIfNeededFor_a7421_0 ?_
  refine lv_if_eq (tgt := 21) hx hb dJ5_inflateIfNeededFor_a7421_3 (by decide) (fun h => absurd h (by decide)) (fun _ => ?_)
  refine lv_aload_n hx hb dJ5_inflateIfNeededFor_a7421_6 rfl (lv_at hl 0 rfl) ?_
  refine get' (ci := 1) (fs := [.ref vb, .int ((x 12 31) 1), .int ((x 12 31) 2), .int ((x 12 31) 3)]) (v := .int ((x 12 31) 1)) hx hb hw inWJ4 hown hK hP (gB31 (x := x) (f := (x 12 31)) (by decide) rfl) rfl 1 (by decide) k_270 rfl rfl dJ5_inflateIfNeededFor_a7421_7 ?_
  refine lv_aload_n hx hb dJ5_inflateIfNeededFor_a7421_10 rfl (lv_at hl 1 rfl) ?_
  refine uRj (As := []) (rest := [.int ((x 12 31) 1)]) hx hb hml hown hw hK hN hA hl.1 hP hD hS k_1220 k_1173 k_1174 k_33 k_1175 (met_J0_coder_7d493K l D cy _ (sbW cy ab vb x) en g q v n h) (XK_call hST hKS hS (free_all hD hS hA)) Xok_K (KS_recv hKS hS) ⟨rfl, rfl⟩ (n := 0) (by decide +kernel) rfl ⟨Nat.le_of_ble_eq_true rfl, Nat.le_of_ble_eq_true rfl⟩ ⟨Nat.le_of_ble_eq_true rfl, Nat.le_of_ble_eq_true rfl⟩ (Nat.le_of_ble_eq_true rfl) rfl dJ5_inflateIfNeededFor_a7421_11 (fun r9 w9 H locs h9 hP hD hS => ?_)
  obtain ⟨hr9, hw9⟩ := h9
  subst r9 w9
  refine lv_icmp_eq (tgt := 21) hx hb dJ5_inflateIfNeededFor_a7421_14 (by decide) (fun _ => ?_) (fun h => absurd hx0 h)
  exact hret _ _ _ _ _ hP hD hS rfl dJ5_inflateIfNeededFor_a7421_21
abbrev rm_J0_getBytes_840e7 : Room := { frames := 1, cells := 0, slots := 0, locals := 60 }
set_option maxHeartbeats 4000000 in
theorem met_J0_getBytes_840e7K (l : Launch) (D : va_G) (cy : Nat → ClassId) (sz : Nat) (ab vb : Nat) (en g : Nat → Nat) (x : Mem) (q v n : Nat) (h : Nat → Int32) (k : Nat) (hk : k + n ≤ 16) (hfit : ∀ i, i < n → fits .byte (.int (h i)) = true) : MK l yJ0_getBytes_840e7 cJ0_getBytes_840e7 4 rm_J0_getBytes_840e7 D cy (sbW cy ab vb x) sz (XK en g q v n h (sbW cy ab vb x) sz) [.ref q, .ref vb, .int (nI k), .int 0] 0 0 (fun w => w = sbW cy ab vb (va_up x 12 (va_up (x 12) 32 (va_cpy h (x 12 32) 0 k n)))) := by
  refine MK.of (by decide +kernel) (Nat.le_of_ble_eq_true rfl) ?_
  intro p e s m args below meth c A ls Q hAt hi hX hsz hAe hP hD hA hS hl hret
  have hST : ST en g A s s.heap := by rw [hAe]; exact hX.1
  have hKS : KS q v n h A s s.heap := by rw [hAe]; exact hX.2
  obtain ⟨hx, hb, hr, hml, hown, hw, hlk, hK, hN⟩ := hAt
  have hown : s.vm.findClass "java/lang/String" = some m.cls := hown
  have hl : lv_has ls 4 [(0, .ref q), (1, .ref vb), (2, .int (nI k)), (3, .int 0)] := hl
  refine lv_aload_n hx hb dJ0_getBytes_840e7_0 rfl (lv_at hl 0 rfl) ?_
  refine uRj (As := []) (rest := []) hx hb hml hown hw hK hN hA hl.1 hP hD hS k_1172 k_1173 k_1174 k_33 k_1175 (met_J0_coder_7d493K l D cy _ (sbW cy ab vb x) en g q v n h) (XK_call hST hKS hS (free_all hD hS hA)) Xok_K (KS_recv hKS hS) ⟨rfl, rfl⟩ (n := 0) (by decide +kernel) rfl ⟨Nat.le_of_ble_eq_true rfl, Nat.le_of_ble_eq_true rfl⟩ ⟨Nat.le_of_ble_eq_true rfl, Nat.le_of_ble_eq_true rfl⟩ (Nat.le_of_ble_eq_true rfl) rfl dJ0_getBytes_840e7_1 (fun r9 w9 H locs h9 hP hD hS => ?_)
  obtain ⟨hr9, hw9⟩ := h9
  subst r9 w9
  refine lv_iload_n hx hb dJ0_getBytes_840e7_4 rfl (lv_at hl 3 rfl) ?_
  refine lv_icmp_ne (tgt := 28) hx hb dJ0_getBytes_840e7_5 (by decide) (fun h => absurd rfl h) (fun _ => ?_)
  refine lv_aload_n hx hb dJ0_getBytes_840e7_8 rfl (lv_at hl 0 rfl) ?_
  refine vk_getf hx hb hKS.2.2.1 hS hown (hw _ k_1267) (fun _ h9 => h9) dJ0_getBytes_840e7_9 ?_
  refine lv_iconst (v := 0) hx hb dJ0_getBytes_840e7_12 (by decide) ?_
  refine lv_aload_n hx hb dJ0_getBytes_840e7_13 rfl (lv_at hl 1 rfl) ?_
  refine lv_iload_n hx hb dJ0_getBytes_840e7_14 rfl (lv_at hl 2 rfl) ?_
  refine lv_iload_n hx hb dJ0_getBytes_840e7_15 rfl (lv_at hl 3 rfl) ?_
  refine lv_ishl hx hb dJ0_getBytes_840e7_16 ?_
  rw [shl0 ⟨k, by omega⟩]
  refine lv_aload_n hx hb dJ0_getBytes_840e7_17 rfl (lv_at hl 0 rfl) ?_
  refine vk_getf hx hb hKS.2.2.1 hS hown (hw _ k_1267) (fun _ h9 => h9) dJ0_getBytes_840e7_18 ?_
  refine va_tlen (v := nI n) hx hb hKS.2.2.2 hS rfl dJ0_getBytes_840e7_21 ?_
  have ek : (nI k).toNatClampNeg = k := nI_clamp (by omega)
  have e2 : (nI n).toNatClampNeg = n := nI_clamp (by omega)
  have e0 : (0 : Int32).toNatClampNeg = 0 := by decide
  refine vk_copyt (sp := 0) (dp := nI k) (n := nI n) hx hb (hml.trans hl.1.symm) hown (hw _ k_1225) (hw _ k_530) (hw _ k_529) (hw _ k_36) hK hP hD hS hKS.2.2.2 1 2 (gB32 (x := x) (f := x 12 32) (by decide) rfl) rfl (by decide) (nI_pos (by omega)) (nI_pos (by omega)) (by rw [e0, e2]; omega) (by rw [ek, e2]; omega) (fun i hi => by rw [e0, Nat.zero_add]; rw [e2] at hi; exact hfit i hi) (Nat.le_of_ble_eq_true rfl) (Nat.le_of_ble_eq_true rfl) dJ0_getBytes_840e7_22 (fun H locs hP hD hS => ?_)
  refine lv_goto (tgt := 43) hx hb dJ0_getBytes_840e7_25 (by decide) ?_
  exact hret _ _ _ _ _ hP hD hS (by rw [e0, ek, e2]; exact sB32 (by decide)) dJ0_getBytes_840e7_43
abbrev rm_J5_putStringAt_47b60 : Room := { frames := 2, cells := 0, slots := 0, locals := 83 }
set_option maxHeartbeats 4000000 in
theorem met_J5_putStringAt_47b60K (l : Launch) (D : va_G) (cy : Nat → ClassId) (sz : Nat) (ab vb : Nat) (en g : Nat → Nat) (x : Mem) (q v n : Nat) (h : Nat → Int32) (k : Nat) (hx0 : x 12 31 1 = 0) (hk : k + n ≤ 16) (hfit : ∀ i, i < n → fits .byte (.int (h i)) = true) : MK l yJ5_putStringAt_47b60 cJ5_putStringAt_47b60 3 rm_J5_putStringAt_47b60 D cy (sbW cy ab vb x) sz (XK en g q v n h (sbW cy ab vb x) sz) [.ref ab, .int (nI k), .ref q] 0 0 (fun w => w = sbW cy ab vb (va_up x 12 (va_up (x 12) 32 (va_cpy h (x 12 32) 0 k n)))) := by
  refine MK.of (by decide +kernel) (Nat.le_of_ble_eq_true rfl) ?_
  intro p e s m args below meth c A ls Q hAt hi hX hsz hAe hP hD hA hS hl hret
  have hST : ST en g A s s.heap := by rw [hAe]; exact hX.1
  have hKS : KS q v n h A s s.heap := by rw [hAe]; exact hX.2
  obtain ⟨hx, hb, hr, hml, hown, hw, hlk, hK, hN⟩ := hAt
  have hown : s.vm.findClass "java/lang/AbstractStringBuilder" = some m.cls := hown
  have hl : lv_has ls 3 [(0, .ref ab), (1, .int (nI k)), (2, .ref q)] := hl
  refine lv_aload_n hx hb dJ5_putStringAt_47b60_0 rfl (lv_at hl 0 rfl) ?_
  refine lv_aload_n hx hb dJ5_putStringAt_47b60_1 rfl (lv_at hl 2 rfl) ?_
  refine uUk (As := [.ref q]) (rest := []) hx hb hml hown hw hK hN hA hl.1 hP hD hS k_1216 k_1297 k_9002 k_1218 k_31 k_1219 rfl (met_J5_inflateIfNeededFor_a7421K l D cy _ ab vb en g x q v n h hx0) (XK_call hST hKS hS (free_all hD hS hA)) Xok_K (va_recv hK hP rfl (gB31 (x := x) (f := x 12 31) (by decide) rfl)) ⟨rfl, rfl⟩ (n := 1) (by decide +kernel) rfl ⟨Nat.le_of_ble_eq_true rfl, Nat.le_of_ble_eq_true rfl⟩ ⟨Nat.le_of_ble_eq_true rfl, Nat.le_of_ble_eq_true rfl⟩ (Nat.le_of_ble_eq_true rfl) rfl dJ5_putStringAt_47b60_2 (fun w9 H locs h9 hP hD hS => ?_)
  subst h9
  refine lv_aload_n hx hb dJ5_putStringAt_47b60_5 rfl (lv_at hl 2 rfl) ?_
  refine lv_aload_n hx hb dJ5_putStringAt_47b60_6 rfl (lv_at hl 0 rfl) ?_
  refine get' (ci := 1) (fs := [.ref vb, .int ((x 12 31) 1), .int ((x 12 31) 2), .int ((x 12 31) 3)]) (v := .ref vb) hx hb hw inWJ4 hown hK hP (gB31 (x := x) (f := (x 12 31)) (by decide) rfl) rfl 0 (by decide) k_269 rfl rfl dJ5_putStringAt_47b60_7 ?_
  refine lv_iload_n hx hb dJ5_putStringAt_47b60_10 rfl (lv_at hl 1 rfl) ?_
  refine lv_aload_n hx hb dJ5_putStringAt_47b60_11 rfl (lv_at hl 0 rfl) ?_
  refine get' (ci := 1) (fs := [.ref vb, .int ((x 12 31) 1), .int ((x 12 31) 2), .int ((x 12 31) 3)]) (v := .int ((x 12 31) 1)) hx hb hw inWJ4 hown hK hP (gB31 (x := x) (f := (x 12 31)) (by decide) rfl) rfl 1 (by decide) k_270 rfl rfl dJ5_putStringAt_47b60_12 ?_
  rw [hx0]
  refine uRk (As := [.ref vb, .int (nI k), .int 0]) (rest := []) hx hb hml hown hw hK hN hA hl.1 hP hD hS k_1221 k_1222 k_1223 k_33 k_1224 (met_J0_getBytes_840e7K l D cy _ ab vb en g x q v n h k hk hfit) (XK_call hST hKS hS (free_all hD hS hA)) Xok_K (KS_recv hKS hS) ⟨rfl, rfl⟩ (n := 3) (by decide +kernel) rfl ⟨Nat.le_of_ble_eq_true rfl, Nat.le_of_ble_eq_true rfl⟩ ⟨Nat.le_of_ble_eq_true rfl, Nat.le_of_ble_eq_true rfl⟩ (Nat.le_of_ble_eq_true rfl) rfl dJ5_putStringAt_47b60_15 (fun w9 H locs h9 hP hD hS => ?_)
  subst h9
  exact hret _ _ _ _ _ hP hD hS rfl dJ5_putStringAt_47b60_18
abbrev rm_J5_append_cf1ce : Room := { frames := 3, cells := 0, slots := 0, locals := 105 }
set_option maxHeartbeats 4000000 in
theorem met_J5_append_cf1ceK (l : Launch) (D : va_G) (cy : Nat → ClassId) (sz : Nat) (ab vb : Nat) (en g : Nat → Nat) (x : Mem) (q v n : Nat) (h : Nat → Int32) (k : Nat) (hx0 : x 12 31 1 = 0) (hx3 : x 12 31 3 = nI k) (hk : k + n ≤ 16) (hfit : ∀ i, i < n → fits .byte (.int (h i)) = true) : MR l yJ5_append_cf1ce cJ5_append_cf1ce 3 (some (.object "java/lang/AbstractStringBuilder")) rm_J5_append_cf1ce D cy (sbW cy ab vb x) sz (XK en g q v n h (sbW cy ab vb x) sz) [.ref ab, .ref q] 0 0 (fun a w => a = ab ∧ w = sbW cy ab vb (apK x h k n)) := by
  refine MR.of (Or.inl ⟨_, rfl⟩) (by decide +kernel) (Nat.le_of_ble_eq_true rfl) ?_
  intro p e s m args below meth c A ls Q hAt hX hsz hAe hP hD hA hS hl hret
  have hST : ST en g A s s.heap := by rw [hAe]; exact hX.1
  have hKS : KS q v n h A s s.heap := by rw [hAe]; exact hX.2
  obtain ⟨hx, hb, hr, hml, hown, hw, hlk, hK, hN⟩ := hAt
  have hown : s.vm.findClass "java/lang/AbstractStringBuilder" = some m.cls := hown
  have hl : lv_has ls 3 [(0, .ref ab), (1, .ref q)] := hl
  refine lv_aload_n hx hb dJ5_append_cf1ce_0 rfl (lv_at hl 1 rfl) ?_
  refine lv_ifnonnull (tgt := 9) hx hb dJ5_append_cf1ce_1 (by decide) ?_
  refine lv_aload_n hx hb dJ5_append_cf1ce_9 rfl (lv_at hl 1 rfl) ?_
  refine uRj (As := []) (rest := []) hx hb hml hown hw hK hN hA hl.1 hP hD hS k_1211 k_1169 k_1170 k_33 k_1171 (met_J0_length_8abf5K l D cy _ (sbW cy ab vb x) en g q v n h (by omega)) (XK_call hST hKS hS (free_all hD hS hA)) Xok_K (KS_recv hKS hS) ⟨rfl, rfl⟩ (n := 0) (by decide +kernel) rfl ⟨Nat.le_of_ble_eq_true rfl, Nat.le_of_ble_eq_true rfl⟩ ⟨Nat.le_of_ble_eq_true rfl, Nat.le_of_ble_eq_true rfl⟩ (Nat.le_of_ble_eq_true rfl) rfl dJ5_append_cf1ce_10 (fun r9 w9 H locs h9 hP hD hS => ?_)
  obtain ⟨hr9, hw9⟩ := h9
  subst r9 w9
  refine lv_istore_n (lv' := [(2, .int (nI n)), (0, .ref ab), (1, .ref q)]) hx hb dJ5_append_cf1ce_13 rfl hl (by decide) rfl (fun ls hl => ?_)
  refine lv_aload_n hx hb dJ5_append_cf1ce_14 rfl (lv_at hl 1 rfl) ?_
  refine lv_aload_n hx hb dJ5_append_cf1ce_15 rfl (lv_at hl 1 rfl) ?_
  refine get' (ci := 1) (fs := [.ref vb, .int ((x 12 31) 1), .int ((x 12 31) 2), .int ((x 12 31) 3)]) (v := .int ((x 12 31) 3)) hx hb hw inWJ4 hown hK hP (gB31 (x := x) (f := (x 12 31)) (by decide) rfl) rfl 3 (by decide) k_273 rfl rfl dJ5_append_cf1ce_16 ?_
  rw [hx3]
  refine lv_iload_n hx hb dJ5_append_cf1ce_19 rfl (lv_at hl 0 rfl) ?_
  refine lv_iadd hx hb dJ5_append_cf1ce_20 ?_
  rw [nI_add]
  have hen : D_J5_ensureCapacityInternal_d00df x (nI (k + n)) = some x := by unfold D_J5_ensureCapacityInternal_d00df; rw [hx0, if_pos (cap16 ⟨k + n, by omega⟩)]
  refine cP_v (As := [.int (nI (k + n))]) (rest := []) hx hb hml hown hw hK hN hA hl.1 hP hD hS k_685 k_1287 k_9000 k_687 k_31 k_688 (met_J5_ensureCapacityInternal_d00dfB l D cy _ ab vb en g x (nI (k + n)) x hen) (ST_call hST hS (free_all hD hS hA)) Xok_S (gB31 (x := x) (f := x 12 31) (by decide) rfl) rfl ⟨rfl, rfl⟩ (n := 1) (by decide +kernel) rfl ⟨Nat.le_of_ble_eq_true rfl, Nat.le_of_ble_eq_true rfl⟩ ⟨Nat.le_of_ble_eq_true rfl, Nat.le_of_ble_eq_true rfl⟩ (Nat.le_of_ble_eq_true rfl) rfl dJ5_append_cf1ce_21 (fun H locs hP hD hS => ?_)
  refine lv_aload_n hx hb dJ5_append_cf1ce_24 rfl (lv_at hl 1 rfl) ?_
  refine lv_aload_n hx hb dJ5_append_cf1ce_25 rfl (lv_at hl 1 rfl) ?_
  refine get' (ci := 1) (fs := [.ref vb, .int ((x 12 31) 1), .int ((x 12 31) 2), .int ((x 12 31) 3)]) (v := .int ((x 12 31) 3)) hx hb hw inWJ4 hown hK hP (gB31 (x := x) (f := (x 12 31)) (by decide) rfl) rfl 3 (by decide) k_273 rfl rfl dJ5_append_cf1ce_26 ?_
  rw [hx3]
  refine lv_aload_n hx hb dJ5_append_cf1ce_29 rfl (lv_at hl 2 rfl) ?_
  refine uUk (As := [.int (nI k), .ref q]) (rest := []) hx hb hml hown hw hK hN hA hl.1 hP hD hS k_1212 k_1296 k_9001 k_1214 k_31 k_1215 rfl (met_J5_putStringAt_47b60K l D cy _ ab vb en g x q v n h k hx0 hk hfit) (XK_call hST hKS hS (free_all hD hS hA)) Xok_K (va_recv hK hP rfl (gB31 (x := x) (f := x 12 31) (by decide) rfl)) ⟨rfl, rfl⟩ (n := 2) (by decide +kernel) rfl ⟨Nat.le_of_ble_eq_true rfl, Nat.le_of_ble_eq_true rfl⟩ ⟨Nat.le_of_ble_eq_true rfl, Nat.le_of_ble_eq_true rfl⟩ (Nat.le_of_ble_eq_true rfl) rfl dJ5_append_cf1ce_30 (fun w9 H locs h9 hP hD hS => ?_)
  subst h9
  refine lv_aload_n hx hb dJ5_append_cf1ce_33 rfl (lv_at hl 1 rfl) ?_
  refine lv_dup hx hb dJ5_append_cf1ce_34 rfl ?_
  refine get' (ci := 1) (fs := [.ref vb, .int ((x 12 31) 1), .int ((x 12 31) 2), .int ((x 12 31) 3)]) (v := .int ((x 12 31) 3)) hx hb hw inWJ4 hown hK hP (gB31 (x := (va_up x 12 (va_up (x 12) 32 (va_cpy h (x 12 32) 0 k n)))) (f := (x 12 31)) (by decide) rfl) rfl 3 (by decide) k_273 rfl rfl dJ5_append_cf1ce_35 ?_
  rw [hx3]
  refine lv_iload_n hx hb dJ5_append_cf1ce_38 rfl (lv_at hl 0 rfl) ?_
  refine lv_iadd hx hb dJ5_append_cf1ce_39 ?_
  rw [nI_add]
  refine put' (ci := 1) (fs := [.ref vb, .int (x 12 31 1), .int (x 12 31 2), .int (x 12 31 3)]) (v := .int (nI (k + n))) (ty := .int) (ws' := sbW cy ab vb (apK x h k n)) hx hb hw inWJ4 tyJ4 tyJ4_ok nmJ4 hown hK hP hD hS (gB31 (x := (va_up x 12 (va_up (x 12) 32 (va_cpy h (x 12 32) 0 k n)))) (f := x 12 31) (by decide) rfl) rfl 3 (by decide) k_273 rfl rfl (by decide +kernel) rfl rfl (Nat.le_of_ble_eq_true rfl) dJ5_append_cf1ce_40 (tB31 (x := x) (o := va_up (x 12) 32 (va_cpy h (x 12 32) 0 k n)) (g := upd (x 12 31) 3 (nI (k + n))) (by decide)) (fun H locs hP hD hS => ?_)
  refine lv_aload_n hx hb dJ5_append_cf1ce_43 rfl (lv_at hl 1 rfl) ?_
  exact hret _ _ _ _ _ _ _ _ hP hD hS ⟨rfl, rfl⟩ (Nat.le_of_ble_eq_true rfl) (Nat.le_of_ble_eq_true rfl) dJ5_append_cf1ce_44
abbrev rm_J4_append_15ec4 : Room := { frames := 4, cells := 0, slots := 0, locals := 127 }
set_option maxHeartbeats 4000000 in
theorem met_J4_append_15ec4K (l : Launch) (D : va_G) (cy : Nat → ClassId) (sz : Nat) (ab vb : Nat) (en g : Nat → Nat) (x : Mem) (q v n : Nat) (h : Nat → Int32) (k : Nat) (hx0 : x 12 31 1 = 0) (hx3 : x 12 31 3 = nI k) (hk : k + n ≤ 16) (hfit : ∀ i, i < n → fits .byte (.int (h i)) = true) : MR l yJ4_append_15ec4 cJ4_append_15ec4 2 (some (.object "java/lang/StringBuilder")) rm_J4_append_15ec4 D cy (sbW cy ab vb x) sz (XK en g q v n h (sbW cy ab vb x) sz) [.ref ab, .ref q] 0 0 (fun a w => a = ab ∧ w = sbW cy ab vb (apK x h k n)) := by
  refine MR.of (Or.inl ⟨_, rfl⟩) (by decide +kernel) (Nat.le_of_ble_eq_true rfl) ?_
  intro p e s m args below meth c A ls Q hAt hX hsz hAe hP hD hA hS hl hret
  have hST : ST en g A s s.heap := by rw [hAe]; exact hX.1
  have hKS : KS q v n h A s s.heap := by rw [hAe]; exact hX.2
  obtain ⟨hx, hb, hr, hml, hown, hw, hlk, hK, hN⟩ := hAt
  have hown : s.vm.findClass "java/lang/StringBuilder" = some m.cls := hown
  have hl : lv_has ls 2 [(0, .ref ab), (1, .ref q)] := hl
  refine lv_aload_n hx hb dJ4_append_15ec4_0 rfl (lv_at hl 0 rfl) ?_
  refine lv_aload_n hx hb dJ4_append_15ec4_1 rfl (lv_at hl 1 rfl) ?_
  refine uQr (As := [.ref q]) (rest := []) hx hb hml hown hw hK hN hA hl.1 hP hD hS k_1201 k_1294 k_282 k_1202 k_31 k_1203 (met_J5_append_cf1ceK l D cy _ ab vb en g x q v n h k hx0 hx3 hk hfit) (XK_call hST hKS hS (free_all hD hS hA)) Xok_K (gB31 (x := x) (f := x 12 31) (by decide) rfl) rfl ⟨rfl, rfl⟩ (n := 1) (by decide +kernel) rfl ⟨Nat.le_of_ble_eq_true rfl, Nat.le_of_ble_eq_true rfl⟩ ⟨Nat.le_of_ble_eq_true rfl, Nat.le_of_ble_eq_true rfl⟩ (Nat.le_of_ble_eq_true rfl) rfl dJ4_append_15ec4_2 (fun r9 w9 H locs h9 hP hD hS => ?_)
  obtain ⟨hr9, hw9⟩ := h9
  subst r9 w9
  refine lv_pop hx hb dJ4_append_15ec4_5 rfl ?_
  refine lv_aload_n hx hb dJ4_append_15ec4_6 rfl (lv_at hl 0 rfl) ?_
  exact hret _ _ _ _ _ _ _ _ hP hD hS ⟨rfl, rfl⟩ (Nat.le_of_ble_eq_true rfl) (Nat.le_of_ble_eq_true rfl) dJ4_append_15ec4_7
abbrev rm_J5_getValue_6d5f1 : Room := { frames := 0, cells := 0, slots := 0, locals := 0 }
set_option maxHeartbeats 4000000 in
theorem met_J5_getValue_6d5f1K (l : Launch) (D : va_G) (cy : Nat → ClassId) (sz : Nat) (ws : va_W) (ab vb q0 : Nat) (fs : List Value) (he : ws[q0]? = some (ab, .inr (1, fs))) (hv : fs[0]? = some (.ref vb)) : MR l yJ5_getValue_6d5f1 cJ5_getValue_6d5f1 1 (some (.array .byte)) rm_J5_getValue_6d5f1 D cy ws sz (fun _ => True) [.ref ab] 0 0 (fun a w => a = vb ∧ w = ws) := by
  refine MR.of (Or.inr ⟨_, rfl⟩) (by decide +kernel) (Nat.le_of_ble_eq_true rfl) ?_
  intro p e s m args below meth c A ls Q hAt hX hsz hAe hP hD hA hS hl hret
  obtain ⟨hx, hb, hr, hml, hown, hw, hlk, hK, hN⟩ := hAt
  have hown : s.vm.findClass "java/lang/AbstractStringBuilder" = some m.cls := hown
  have hl : lv_has ls 1 [(0, .ref ab)] := hl
  refine lv_aload_n hx hb dJ5_getValue_6d5f1_0 rfl (lv_at hl 0 rfl) ?_
  refine get' (ci := 1) (fs := fs) (v := .ref vb) hx hb hw inWJ4 hown hK hP he rfl 0 (by decide) k_269 rfl hv dJ5_getValue_6d5f1_1 ?_
  exact hret _ _ _ _ _ _ _ _ hP hD hS ⟨rfl, rfl⟩ (Nat.le_of_ble_eq_true rfl) (Nat.le_of_ble_eq_true rfl) dJ5_getValue_6d5f1_4
abbrev rm_J7_checkLength_df160 : Room := { frames := 0, cells := 0, slots := 0, locals := 0 }
set_option maxHeartbeats 4000000 in
theorem met_J7_checkLength_df160K (l : Launch) (D : va_G) (cy : Nat → ClassId) (sz : Nat) (ws : va_W) (n : Nat) (hn : n ≤ 16) : MK l yJ7_checkLength_df160 cJ7_checkLength_df160 2 rm_J7_checkLength_df160 D cy ws sz (fun _ => True) [.int 0, .int (nI n)] 0 0 (fun w => w = ws) := by
  refine MK.of (by decide +kernel) (Nat.le_of_ble_eq_true rfl) ?_
  intro p e s m args below meth c A ls Q hAt hi hX hsz hAe hP hD hA hS hl hret
  obtain ⟨hx, hb, hr, hml, hown, hw, hlk, hK, hN⟩ := hAt
  have hown : s.vm.findClass "java/util/Arrays" = some m.cls := hown
  have hl : lv_has ls 2 [(0, .int 0), (1, .int (nI n))] := hl
  refine lv_iload_n hx hb dJ7_checkLength_df160_0 rfl (lv_at hl 1 rfl) ?_
  refine lv_iload_n hx hb dJ7_checkLength_df160_1 rfl (lv_at hl 0 rfl) ?_
  refine lv_icmp_ge (tgt := 37) hx hb dJ7_checkLength_df160_2 (by decide) (fun _ => ?_) (fun h => absurd (inb16 ⟨n, by omega⟩).2.1 h)
  exact hret _ _ _ _ _ hP hD hS rfl dJ7_checkLength_df160_37
abbrev rm_J7_copyOfRangeByte_39247 : Room := { frames := 1, cells := 1, slots := 16, locals := 60 }
set_option maxHeartbeats 4000000 in
theorem met_J7_copyOfRangeByte_39247K (l : Launch) (D : va_G) (cy : Nat → ClassId) (sz : Nat) (ab vb : Nat) (x : Mem) (n : Nat) (hn : n < 16) (hfit : ∀ i, i < n → fits .byte (.int (x 12 32 i)) = true) : MR l yJ7_copyOfRangeByte_39247 cJ7_copyOfRangeByte_39247 5 (some (.array .byte)) rm_J7_copyOfRangeByte_39247 D cy (sbW cy ab vb x) sz (fun _ => True) [.ref vb, .int 0, .int (nI n)] 1 16 (fun a w => w = sbW cy ab vb x ++ [(a, .inl (cy 2, n, .inl (va_cpy (x 12 32) (fun _ => 0) 0 0 n)))]) := by
  refine MR.of (Or.inr ⟨_, rfl⟩) (by decide +kernel) (Nat.le_of_ble_eq_true rfl) ?_
  intro p e s m args below meth c A ls Q hAt hX hsz hAe hP hD hA hS hl hret
  obtain ⟨hx, hb, hr, hml, hown, hw, hlk, hK, hN⟩ := hAt
  have hown : s.vm.findClass "java/util/Arrays" = some m.cls := hown
  have hl : lv_has ls 5 [(0, .ref vb), (1, .int 0), (2, .int (nI n))] := hl
  refine lv_iload_n hx hb dJ7_copyOfRangeByte_39247_0 rfl (lv_at hl 1 rfl) ?_
  refine lv_iload_n hx hb dJ7_copyOfRangeByte_39247_1 rfl (lv_at hl 2 rfl) ?_
  refine uSk (As := [.int 0, .int (nI n)]) (rest := []) hx hb hml hown hw hK hN hA hl.1 hP hD hS k_1254 k_1255 k_48 k_1256 (met_J7_checkLength_df160K l D cy _ (sbW cy ab vb x) n (by omega)) (fun _ _ _ => trivial) Xok_T ⟨rfl, rfl⟩ (n := 2) (by decide +kernel) rfl ⟨Nat.le_of_ble_eq_true rfl, Nat.le_of_ble_eq_true rfl⟩ ⟨Nat.le_of_ble_eq_true rfl, Nat.le_of_ble_eq_true rfl⟩ (Nat.le_of_ble_eq_true rfl) rfl dJ7_copyOfRangeByte_39247_2 (fun w9 H locs h9 hP hD hS => ?_)
  subst h9
  refine lv_iload_n hx hb dJ7_copyOfRangeByte_39247_5 rfl (lv_at hl 2 rfl) ?_
  refine lv_iload_n hx hb dJ7_copyOfRangeByte_39247_6 rfl (lv_at hl 1 rfl) ?_
  refine lv_isub hx hb dJ7_copyOfRangeByte_39247_7 ?_
  rw [(inb16 ⟨n, by omega⟩).2.2.1]
  try simp only []
  refine lv_istore_n (lv' := [(3, .int (nI n)), (0, .ref vb), (1, .int 0), (2, .int (nI n))]) hx hb dJ7_copyOfRangeByte_39247_8 rfl hl (by decide) rfl (fun ls hl => ?_)
  refine lv_iload_n hx hb dJ7_copyOfRangeByte_39247_9 rfl (lv_at hl 0 rfl) ?_
  have e2 : (nI n).toNatClampNeg = n := nI_clamp (by omega)
  refine va_newa (atype := .byte) (a0 := (n, .inl (fun _ => 0))) hx hb (hw _ k_283) rfl hK hP hD hS hA (N' := n) (fun _ => rfl) (nI_pos (by omega)) e2 (show n * 1 ≤ 536870912 by omega) (Nat.le_of_ble_eq_true rfl) (show 0 + 0 + n ≤ 16 by omega) dJ7_copyOfRangeByte_39247_10 (fun a cA H hK9 hP hD hS => ?_)
  have e9 := cA_eq hK9 2 rfl
  subst e9
  clear hK9
  refine lv_astore (lv' := [(4, .ref a), (3, .int (nI n)), (0, .ref vb), (1, .int 0), (2, .int (nI n))]) hx hb dJ7_copyOfRangeByte_39247_12 hl (by decide) rfl (fun ls hl => ?_)
  refine lv_aload_n hx hb dJ7_copyOfRangeByte_39247_14 rfl (lv_at hl 2 rfl) ?_
  refine lv_iload_n hx hb dJ7_copyOfRangeByte_39247_15 rfl (lv_at hl 3 rfl) ?_
  refine lv_aload hx hb dJ7_copyOfRangeByte_39247_16 (lv_at hl 0 rfl) ?_
  refine lv_iconst (v := 0) hx hb dJ7_copyOfRangeByte_39247_18 (by decide) ?_
  refine lv_aload_n hx hb dJ7_copyOfRangeByte_39247_19 rfl (lv_at hl 2 rfl) ?_
  refine va_alen (v := 16) hx hb hK hP _ 2 (gA (gB32 (x := x) (f := x 12 32) (by decide) rfl)) rfl (show Int32.ofNat 16 = 16 by decide) dJ7_copyOfRangeByte_39247_20 ?_
  refine lv_iload_n hx hb dJ7_copyOfRangeByte_39247_21 rfl (lv_at hl 3 rfl) ?_
  refine lv_isub hx hb dJ7_copyOfRangeByte_39247_22 ?_
  refine lv_iload_n hx hb dJ7_copyOfRangeByte_39247_23 rfl (lv_at hl 1 rfl) ?_
  refine va_mmin hx hb (hml.trans hl.1.symm) hown (hw _ k_714) (hw _ k_526) (hw _ k_35) (hw _ k_527) (Nat.le_of_ble_eq_true rfl) (Nat.le_of_ble_eq_true rfl) (Nat.le_of_ble_eq_true rfl) (show 0 + 0 + n ≤ 16 by omega) dJ7_copyOfRangeByte_39247_24 ?_
  rw [min16 ⟨n, hn⟩]
  try simp only []
  have e0 : (0 : Int32).toNatClampNeg = 0 := by decide
  refine va_copyi (sp := 0) (dp := 0) (n := nI n) hx hb (hml.trans hl.1.symm) hown (hw _ k_715) (hw _ k_530) (hw _ k_529) (hw _ k_36) hK hP hD hS _ _ 2 2 (gA (gB32 (x := x) (f := x 12 32) (by decide) rfl)) gL rfl rfl rfl (by decide) (by decide) (nI_pos (by omega)) (by rw [e0, e2]; omega) (by rw [e0, e2]; omega) (fun i hi => by rw [e0, Nat.zero_add]; rw [e2] at hi; exact hfit i hi) (Nat.le_of_ble_eq_true rfl) (Nat.le_of_ble_eq_true rfl) dJ7_copyOfRangeByte_39247_27 (fun H locs hP hD hS => ?_)
  have e8 := sL (ws := sbW cy ab vb x) (a := a) (e := (.inl (cy 2, n, .inl (fun _ => 0)) : va_E)) (e' := (.inl (cy 2, n, .inl (va_cpy (x 12 32) (fun _ => 0) (0 : Int32).toNatClampNeg (0 : Int32).toNatClampNeg (nI n).toNatClampNeg)) : va_E))
  have hP := cvP hP e8
  have hD := cvD hD e8
  rw [e0, e2] at hP hD
  refine lv_aload hx hb dJ7_copyOfRangeByte_39247_30 (lv_at hl 0 rfl) ?_
  exact hret _ _ _ _ _ _ _ _ hP hD hS rfl (Nat.le_of_ble_eq_true rfl) (show 0 + 0 + n ≤ 16 by omega) dJ7_copyOfRangeByte_39247_32
abbrev rm_J7_copyOfRange_39247 : Room := { frames := 2, cells := 1, slots := 16, locals := 84 }
set_option maxHeartbeats 4000000 in
theorem met_J7_copyOfRange_39247K (l : Launch) (D : va_G) (cy : Nat → ClassId) (sz : Nat) (ab vb : Nat) (x : Mem) (n : Nat) (hn : n < 16) (hfit : ∀ i, i < n → fits .byte (.int (x 12 32 i)) = true) : MR l yJ7_copyOfRange_39247 cJ7_copyOfRange_39247 3 (some (.array .byte)) rm_J7_copyOfRange_39247 D cy (sbW cy ab vb x) sz (fun _ => True) [.ref vb, .int 0, .int (nI n)] 1 16 (fun a w => w = sbW cy ab vb x ++ [(a, .inl (cy 2, n, .inl (va_cpy (x 12 32) (fun _ => 0) 0 0 n)))]) := by
  refine MR.of (Or.inr ⟨_, rfl⟩) (by decide +kernel) (Nat.le_of_ble_eq_true rfl) ?_
  intro p e s m args below meth c A ls Q hAt hX hsz hAe hP hD hA hS hl hret
  obtain ⟨hx, hb, hr, hml, hown, hw, hlk, hK, hN⟩ := hAt
  have hown : s.vm.findClass "java/util/Arrays" = some m.cls := hown
  have hl : lv_has ls 3 [(0, .ref vb), (1, .int 0), (2, .int (nI n))] := hl
  refine lv_iload_n hx hb dJ7_copyOfRange_39247_0 rfl (lv_at hl 1 rfl) ?_
  refine lv_if_ne (tgt := 10) hx hb dJ7_copyOfRange_39247_1 (by decide) (fun h => absurd rfl h) (fun _ => ?_)
  refine lv_iload_n hx hb dJ7_copyOfRange_39247_4 rfl (lv_at hl 2 rfl) ?_
  refine lv_aload_n hx hb dJ7_copyOfRange_39247_5 rfl (lv_at hl 0 rfl) ?_
  refine va_alen (v := 16) hx hb hK hP _ 2 (gB32 (x := x) (f := x 12 32) (by decide) rfl) rfl (show Int32.ofNat 16 = 16 by decide) dJ7_copyOfRange_39247_6 ?_
  refine lv_icmp_eq (tgt := 17) hx hb dJ7_copyOfRange_39247_7 (by decide) (fun h => absurd h (ne16 ⟨n, hn⟩)) (fun _ => ?_)
  refine lv_aload_n hx hb dJ7_copyOfRange_39247_10 rfl (lv_at hl 0 rfl) ?_
  refine lv_iload_n hx hb dJ7_copyOfRange_39247_11 rfl (lv_at hl 1 rfl) ?_
  refine lv_iload_n hx hb dJ7_copyOfRange_39247_12 rfl (lv_at hl 2 rfl) ?_
  refine uSr (As := [.ref vb, .int 0, .int (nI n)]) (rest := []) hx hb hml hown hw hK hN hA hl.1 hP hD hS k_1251 k_1252 k_48 k_1253 (met_J7_copyOfRangeByte_39247K l D cy _ ab vb x n hn hfit) (fun _ _ _ => trivial) Xok_T ⟨rfl, rfl⟩ (n := 3) (by decide +kernel) rfl ⟨Nat.le_of_ble_eq_true rfl, Nat.le_of_ble_eq_true rfl⟩ ⟨Nat.le_of_ble_eq_true rfl, Nat.le_of_ble_eq_true rfl⟩ (Nat.le_of_ble_eq_true rfl) rfl dJ7_copyOfRange_39247_13 (fun r9 w9 H locs h9 hP hD hS => ?_)
  subst h9
  exact hret _ _ _ _ _ _ _ _ hP hD hS rfl (Nat.le_of_ble_eq_true rfl) (Nat.le_of_ble_eq_true rfl) dJ7_copyOfRange_39247_16
abbrev rm_J0_init_db425 : Room := { frames := 3, cells := 1, slots := 16, locals := 106 }
set_option maxHeartbeats 4000000 in
theorem met_J0_init_db425K (l : Launch) (D : va_G) (cy : Nat → ClassId) (sz : Nat) (ab vb : Nat) (en g : Nat → Nat) (x : Mem) (q n : Nat) (hx0 : x 12 31 1 = 0) (hx3 : x 12 31 3 = nI n) (hn : n < 16) (hfit : ∀ i, i < n → fits .byte (.int (x 12 32 i)) = true) : MK l yJ0_init_db425 cJ0_init_db425 5 rm_J0_init_db425 D cy (sbW cy ab vb x ++ [(q, .inr (0, [.null, .int 0, .int 0, .int 0]))]) sz (XS en g (sbW cy ab vb x ++ [(q, .inr (0, [.null, .int 0, .int 0, .int 0]))]) sz) [.ref q, .ref ab, .null] 1 16 (fun w => ∃ sv : Nat, w = sbW cy ab vb x ++ [(q, .inr (0, [.ref sv, .int 0, .int 0, .int 0])), (sv, .inl (cy 2, n, .inl (va_cpy (x 12 32) (fun _ => 0) 0 0 n)))]) := by
  refine MK.of (by decide +kernel) (Nat.le_of_ble_eq_true rfl) ?_
  intro p e s m args below meth c A ls Q hAt hi hX hsz hAe hP hD hA hS hl hret
  have hST : ST en g A s s.heap := by rw [hAe]; exact hX
  obtain ⟨hx, hb, hr, hml, hown, hw, hlk, hK, hN⟩ := hAt
  have hown : s.vm.findClass "java/lang/String" = some m.cls := hown
  have hl : lv_has ls 5 [(0, .ref q), (1, .ref ab), (2, .null)] := hl
  refine lv_aload_n hx hb dJ0_init_db425_0 rfl (lv_at hl 0 rfl) ?_
  refine W.objInit hx hb hown (hw _ k_1240) (hw _ k_58) (hw _ k_59) rfl (hl.1.trans hml.symm) rfl dJ0_init_db425_1 (Nat.le_of_ble_eq_true rfl) (Nat.le_of_ble_eq_true rfl) ?_
  show W p l e _ s m args below meth c _ _ _ _ _ (F0 m 4 ls [])
  refine lv_aload_n hx hb dJ0_init_db425_4 rfl (lv_at hl 1 rfl) ?_
  refine fUr (w1 := sbW cy ab vb x) (w2 := [(q, .inr (0, [.null, .int 0, .int 0, .int 0]))]) (As := []) (rest := []) hx hb hml hown hw hK hN hA hl.1 hP hD hS k_1241 k_1243 k_1244 k_1242 k_31 k_1245 rfl (met_J5_getValue_6d5f1K l D cy _ (sbW cy ab vb x) ab vb 0 [.ref vb, .int (x 12 31 1), .int (x 12 31 2), .int (x 12 31 3)] rfl rfl) (fun _ _ _ => trivial) Xok_T (va_recv hK hP rfl (gA (gB31 (x := x) (f := x 12 31) (by decide) rfl))) ⟨rfl, rfl⟩ (n := 0) (by decide +kernel) rfl ⟨Nat.le_of_ble_eq_true rfl, Nat.le_of_ble_eq_true rfl⟩ ⟨Nat.le_of_ble_eq_true rfl, Nat.le_of_ble_eq_true rfl⟩ (Nat.le_of_ble_eq_true rfl) rfl dJ0_init_db425_5 (fun r9 w9 H locs h9 hP hD hS => ?_)
  obtain ⟨hr9, hw9⟩ := h9
  subst r9 w9
  refine lv_astore_n (lv' := [(3, .ref vb), (0, .ref q), (1, .ref ab), (2, .null)]) hx hb dJ0_init_db425_8 rfl hl (by decide) rfl (fun ls hl => ?_)
  refine lv_aload_n hx hb dJ0_init_db425_9 rfl (lv_at hl 2 rfl) ?_
  refine fOi (w1 := sbW cy ab vb x) (w2 := [(q, .inr (0, [.null, .int 0, .int 0, .int 0]))]) (As := []) (rest := []) hx hb hml hown hw hK hN hA hl.1 hP hD hS k_1246 k_1292 k_834 k_1298 k_830 k_32 k_832 k_835 (met_J4_length_8abf5B l D cy _ ab vb en g x (nI n) hx3) (fun _ _ _ => trivial) Xok_T (va_recv hK hP rfl (gA (gB31 (x := x) (f := x 12 31) (by decide) rfl))) ⟨rfl, rfl⟩ (n := 0) (by decide +kernel) rfl ⟨Nat.le_of_ble_eq_true rfl, Nat.le_of_ble_eq_true rfl⟩ ⟨Nat.le_of_ble_eq_true rfl, Nat.le_of_ble_eq_true rfl⟩ (Nat.le_of_ble_eq_true rfl) rfl dJ0_init_db425_10 (fun H locs hP hD hS => ?_)
  refine lv_istore (lv' := [(4, .int (nI n)), (3, .ref vb), (0, .ref q), (1, .ref ab), (2, .null)]) hx hb dJ0_init_db425_13 hl (by decide) rfl (fun ls hl => ?_)
  refine lv_aload_n hx hb dJ0_init_db425_15 rfl (lv_at hl 3 rfl) ?_
  have hla : D_J5_isLatin1_aae02 x = 1 := by unfold D_J5_isLatin1_aae02; rw [hx0]; rfl
  refine fUi (w1 := sbW cy ab vb x) (w2 := [(q, .inr (0, [.null, .int 0, .int 0, .int 0]))]) (As := []) (rest := []) hx hb hml hown hw hK hN hA hl.1 hP hD hS k_1247 k_718 k_719 k_717 k_31 k_720 rfl (met_J5_isLatin1_aae02B l D cy _ ab vb en g x 1 hla) (ST_call hST hS (fr_F hS hD hA)) Xok_S (va_recv hK hP rfl (gA (gB31 (x := x) (f := x 12 31) (by decide) rfl))) ⟨rfl, rfl⟩ (n := 0) (by decide +kernel) rfl ⟨Nat.le_of_ble_eq_true rfl, Nat.le_of_ble_eq_true rfl⟩ ⟨Nat.le_of_ble_eq_true rfl, Nat.le_of_ble_eq_true rfl⟩ (Nat.le_of_ble_eq_true rfl) rfl dJ0_init_db425_16 (fun H locs hP hD hS => ?_)
  refine lv_if_eq (tgt := 41) hx hb dJ0_init_db425_19 (by decide) (fun h => absurd h (by decide)) (fun _ => ?_)
  refine lv_aload_n hx hb dJ0_init_db425_22 rfl (lv_at hl 2 rfl) ?_
  refine lv_iconst (v := 0) hx hb dJ0_init_db425_23 (by decide) ?_
  refine putF' (ci := 0) (fs := [.null, .int 0, .int 0, .int 0]) (v := .int 0) (ty := .byte) (ws' := (sbW cy ab vb x ++ [(q, .inr (0, [.null, .int 0, .int 0, .int 0]))])) hx hb hw inWJ0 tyJ0 tyJ0_ok nmJ0 hown hK hP hD hS gL rfl 1 (by decide) k_1268 rfl rfl hi rfl (by decide +kernel) rfl rfl (Nat.le_of_ble_eq_true rfl) dJ0_init_db425_24 sL (fun H locs hP hD hS => ?_)
  refine lv_aload_n hx hb dJ0_init_db425_27 rfl (lv_at hl 2 rfl) ?_
  refine lv_aload_n hx hb dJ0_init_db425_28 rfl (lv_at hl 1 rfl) ?_
  refine lv_iconst (v := 0) hx hb dJ0_init_db425_29 (by decide) ?_
  refine lv_iload hx hb dJ0_init_db425_30 (lv_at hl 0 rfl) ?_
  refine fSr (w1 := sbW cy ab vb x) (w2 := [(q, .inr (0, [.null, .int 0, .int 0, .int 0]))]) (As := [.ref vb, .int 0, .int (nI n)]) (rest := [.ref q]) hx hb hml hown hw hK hN hA hl.1 hP hD hS k_1248 k_1249 k_48 k_1250 (met_J7_copyOfRange_39247K l D cy _ ab vb x n hn hfit) (fun _ _ _ => trivial) Xok_T ⟨rfl, rfl⟩ (n := 3) (by decide +kernel) rfl ⟨Nat.le_of_ble_eq_true rfl, Nat.le_of_ble_eq_true rfl⟩ ⟨Nat.le_of_ble_eq_true rfl, Nat.le_of_ble_eq_true rfl⟩ (Nat.le_of_ble_eq_true rfl) rfl dJ0_init_db425_32 (fun r9 w9 H locs h9 hP hD hS => ?_)
  subst h9
  have pm9 : ((sbW cy ab vb x ++ [(r9, .inl (cy 2, n, .inl (va_cpy (x 12 32) (fun _ => 0) 0 0 n)))]) ++ [(q, .inr (0, [.null, .int 0, .int 0, .int 0]))] : va_W).Perm ((sbW cy ab vb x ++ [(q, .inr (0, [.null, .int 0, .int 0, .int 0]))]) ++ [(r9, .inl (cy 2, n, .inl (va_cpy (x 12 32) (fun _ => 0) 0 0 n)))]) := by rw [List.append_assoc, List.append_assoc]; exact List.Perm.append_left _ (List.Perm.swap _ _ _)
  have hP := pm_P pm9 hP
  have hD := pm_D pm9 hD
  refine putF' (ci := 0) (fs := [.null, .int 0, .int 0, .int 0]) (v := .ref r9) (ty := (.array .byte)) (ws' := ((sbW cy ab vb x ++ [(q, .inr (0, [.ref r9, .int 0, .int 0, .int 0]))]) ++ [(r9, .inl (cy 2, n, .inl (va_cpy (x 12 32) (fun _ => 0) 0 0 n)))])) hx hb hw inWJ0 tyJ0 tyJ0_ok nmJ0 hown hK hP hD hS (gA gL) rfl 0 (by decide) k_1267 rfl rfl hi rfl (by decide +kernel) rfl rfl (Nat.le_of_ble_eq_true rfl) dJ0_init_db425_35 (sA gL sL) (fun H locs hP hD hS => ?_)
  refine lv_goto (tgt := 97) hx hb dJ0_init_db425_38 (by decide) ?_
  exact hret _ _ _ _ _ hP hD hS ⟨r9, by rw [List.append_assoc]; rfl⟩ dJ0_init_db425_97
abbrev rm_J0_init_81219 : Room := { frames := 4, cells := 1, slots := 16, locals := 130 }
set_option maxHeartbeats 4000000 in
theorem met_J0_init_81219K (l : Launch) (D : va_G) (cy : Nat → ClassId) (sz : Nat) (ab vb : Nat) (en g : Nat → Nat) (x : Mem) (q n : Nat) (hx0 : x 12 31 1 = 0) (hx3 : x 12 31 3 = nI n) (hn : n < 16) (hfit : ∀ i, i < n → fits .byte (.int (x 12 32 i)) = true) : MK l yJ0_init_81219 cJ0_init_81219 2 rm_J0_init_81219 D cy (sbW cy ab vb x ++ [(q, .inr (0, [.null, .int 0, .int 0, .int 0]))]) sz (XS en g (sbW cy ab vb x ++ [(q, .inr (0, [.null, .int 0, .int 0, .int 0]))]) sz) [.ref q, .ref ab] 1 16 (fun w => ∃ sv : Nat, w = sbW cy ab vb x ++ [(q, .inr (0, [.ref sv, .int 0, .int 0, .int 0])), (sv, .inl (cy 2, n, .inl (va_cpy (x 12 32) (fun _ => 0) 0 0 n)))]) := by
  refine MK.of (by decide +kernel) (Nat.le_of_ble_eq_true rfl) ?_
  intro p e s m args below meth c A ls Q hAt hi hX hsz hAe hP hD hA hS hl hret
  have hST : ST en g A s s.heap := by rw [hAe]; exact hX
  obtain ⟨hx, hb, hr, hml, hown, hw, hlk, hK, hN⟩ := hAt
  have hown : s.vm.findClass "java/lang/String" = some m.cls := hown
  have hl : lv_has ls 2 [(0, .ref q), (1, .ref ab)] := hl
  refine lv_aload_n hx hb dJ0_init_81219_0 rfl (lv_at hl 0 rfl) ?_
  refine lv_aload_n hx hb dJ0_init_81219_1 rfl (lv_at hl 1 rfl) ?_
  refine lv_null hx hb dJ0_init_81219_2 ?_
  refine cI_k (As := [.ref ab, .null]) (rest := []) hx hb hml hown hw hK hN hA hl.1 hP hD hS k_1237 k_1238 k_33 k_1239 (met_J0_init_db425K l D cy _ ab vb en g x q n hx0 hx3 hn hfit) (ST_call hST hS (free_all hD hS hA)) Xok_S ⟨rfl, rfl⟩ rfl (n := 2) (by decide +kernel) rfl ⟨Nat.le_of_ble_eq_true rfl, Nat.le_of_ble_eq_true rfl⟩ ⟨Nat.le_of_ble_eq_true rfl, Nat.le_of_ble_eq_true rfl⟩ (Nat.le_of_ble_eq_true rfl) rfl dJ0_init_81219_3 (fun w9 H locs h9 hP hD hS => ?_)
  exact hret _ _ _ _ _ hP hD hS h9 dJ0_init_81219_6
abbrev rm_J4_toString_0e30d : Room := { frames := 5, cells := 2, slots := 20, locals := 151 }
set_option maxHeartbeats 4000000 in
theorem met_J4_toString_0e30dK (l : Launch) (D : va_G) (cy : Nat → ClassId) (sz : Nat) (ab vb : Nat) (en g : Nat → Nat) (x : Mem) (n : Nat) (hx0 : x 12 31 1 = 0) (hx3 : x 12 31 3 = nI n) (hn : n < 16) (hfit : ∀ i, i < n → fits .byte (.int (x 12 32 i)) = true) : MR l yJ4_toString_0e30d cJ4_toString_0e30d 1 (some (.object "java/lang/String")) rm_J4_toString_0e30d D cy (sbW cy ab vb x) sz (XS en g (sbW cy ab vb x) sz) [.ref ab] 2 20 (fun q w => ∃ sv : Nat, w = sbW cy ab vb x ++ [(q, .inr (0, [.ref sv, .int 0, .int 0, .int 0])), (sv, .inl (cy 2, n, .inl (va_cpy (x 12 32) (fun _ => 0) 0 0 n)))]) := by
  refine MR.of (Or.inl ⟨_, rfl⟩) (by decide +kernel) (Nat.le_of_ble_eq_true rfl) ?_
  intro p e s m args below meth c A ls Q hAt hX hsz hAe hP hD hA hS hl hret
  have hST : ST en g A s s.heap := by rw [hAe]; exact hX
  obtain ⟨hx, hb, hr, hml, hown, hw, hlk, hK, hN⟩ := hAt
  have hown : s.vm.findClass "java/lang/StringBuilder" = some m.cls := hown
  have hl : lv_has ls 1 [(0, .ref ab)] := hl
  refine va_new hx hb hw inWJ0 tyJ0 tyJ0_ok hown (hw _ k_1232) (hw _ k_1233) (hw _ k_33) hK hP hD hS hA (ci := 0) rfl df_J0 (Nat.le_of_ble_eq_true rfl) (Nat.le_of_ble_eq_true rfl) dJ4_toString_0e30d_0 (fun q H hP hD hS => ?_)
  refine lv_dup hx hb dJ4_toString_0e30d_3 rfl ?_
  refine lv_aload_n hx hb dJ4_toString_0e30d_4 rfl (lv_at hl 0 rfl) ?_
  refine cI_k (As := [.ref ab]) (rest := [.ref q]) hx hb hml hown hw hK hN hA hl.1 hP hD hS k_1234 k_1235 k_33 k_1236 (met_J0_init_81219K l D cy _ ab vb en g x q n hx0 hx3 hn hfit) (ST_call hST hS (free_all hD hS hA)) Xok_S ⟨rfl, rfl⟩ rfl (n := 1) (by decide +kernel) rfl ⟨Nat.le_of_ble_eq_true rfl, Nat.le_of_ble_eq_true rfl⟩ ⟨Nat.le_of_ble_eq_true rfl, Nat.le_of_ble_eq_true rfl⟩ (Nat.le_of_ble_eq_true rfl) rfl dJ4_toString_0e30d_5 (fun w9 H locs h9 hP hD hS => ?_)
  exact hret _ _ _ _ _ _ _ _ hP hD hS h9 (Nat.le_of_ble_eq_true rfl) (Nat.le_of_ble_eq_true rfl) dJ4_toString_0e30d_8
set_option maxHeartbeats 4000000 in
theorem met_J1_charAt_3b067K (l : Launch) (D : va_G) (cy : Nat → ClassId) (sz : Nat) (ws : va_W) (en g : Nat → Nat) (q v n : Nat) (h : Nat → Int32) (i : Nat) (hn : n ≤ 16) (hi9 : i < n) (hc9 : ∀ j, j < n → (((h j) &&& 255).toUInt32 % 65536).toInt32 = h j ∧ narrow .char (.int (h j)) = .int (h j)) : MJ l yJ1_charAt_3b067 cJ1_charAt_3b067 2 (some .char) rm_J1_charAt_3b067 D cy ws sz (XK en g q v n h ws sz) [.ref v, .int (nI i)] 0 0 (fun r w => r = h i ∧ w = ws) := by
  refine MJ.of (by decide +kernel) (Nat.le_of_ble_eq_true rfl) ?_
  intro p e s m args below meth c A ls Q hAt hX hsz hAe hP hD hA hS hl hret
  have hST : ST en g A s s.heap := by rw [hAe]; exact hX.1
  have hKS : KS q v n h A s s.heap := by rw [hAe]; exact hX.2
  obtain ⟨hx, hb, hr, hml, hown, hw, hlk, hK, hN⟩ := hAt
  have hown : s.vm.findClass "java/lang/StringLatin1" = some m.cls := hown
  have hl : lv_has ls 2 [(0, .ref v), (1, .int (nI i))] := hl
  refine lv_iload_n hx hb dJ1_charAt_3b067_0 rfl (lv_at hl 1 rfl) ?_
  refine lv_aload_n hx hb dJ1_charAt_3b067_1 rfl (lv_at hl 0 rfl) ?_
  refine va_tlen (v := nI n) hx hb hKS.2.2.2 hS rfl dJ1_charAt_3b067_2 ?_
  have hci : D_J0_checkIndex_df160 (nI i) (nI n) = some () := by
    unfold D_J0_checkIndex_df160 D_J3_checkIndex_8e157N
    have a1 : ¬ nI i < 0 := nI_pos (by omega)
    have a2 : nI i < nI n := nI_lt hi9 (by omega)
    simp only [a1, a2, ↓reduceIte, Option.bind_some]
  refine cS_v (As := [.int (nI i), .int (nI n)]) (rest := []) hx hb hml hown hw hK hN hA hl.1 hP hD hS k_1188 k_822 k_33 k_823 (met_J0_checkIndex_df160 l D cy _ en g ws (nI i) (nI n) hci) (ST_call hST hS (free_all hD hS hA)) Xok_S ⟨rfl, rfl⟩ (n := 2) (by decide +kernel) rfl ⟨Nat.le_of_ble_eq_true rfl, Nat.le_of_ble_eq_true rfl⟩ ⟨Nat.le_of_ble_eq_true rfl, Nat.le_of_ble_eq_true rfl⟩ (Nat.le_of_ble_eq_true rfl) rfl dJ1_charAt_3b067_3 (fun H locs hP hD hS => ?_)
  refine lv_aload_n hx hb dJ1_charAt_3b067_6 rfl (lv_at hl 0 rfl) ?_
  refine lv_iload_n hx hb dJ1_charAt_3b067_7 rfl (lv_at hl 1 rfl) ?_
  refine va_tb (v := .int (h (nI i).toNatClampNeg)) hx hb hKS.2.2.2 hS (vp_in_nI hi9 (by omega)) rfl dJ1_charAt_3b067_8 ?_
  rw [nI_clamp (show i < 2 ^ 31 by omega)]
  refine lv_sipush (v := 255) hx hb dJ1_charAt_3b067_9 (by decide) ?_
  refine lv_iand hx hb dJ1_charAt_3b067_12 ?_
  refine lv_i2c (v := h i) hx hb dJ1_charAt_3b067_13 (hc9 i hi9).1 ?_
  exact hret _ _ _ _ _ _ _ _ hP hD hS ⟨rfl, rfl⟩ (hc9 i hi9).2 (Nat.le_of_ble_eq_true rfl) (Nat.le_of_ble_eq_true rfl) dJ1_charAt_3b067_14
set_option maxHeartbeats 4000000 in
theorem met_J0_charAt_5068eK (l : Launch) (D : va_G) (cy : Nat → ClassId) (sz : Nat) (ws : va_W) (en g : Nat → Nat) (q v n : Nat) (h : Nat → Int32) (i : Nat) (hn : n ≤ 16) (hi9 : i < n) (hc9 : ∀ j, j < n → (((h j) &&& 255).toUInt32 % 65536).toInt32 = h j ∧ narrow .char (.int (h j)) = .int (h j)) : MJ l yJ0_charAt_5068e cJ0_charAt_5068e 2 (some .char) rm_J0_charAt_5068e D cy ws sz (XK en g q v n h ws sz) [.ref q, .int (nI i)] 0 0 (fun r w => r = h i ∧ w = ws) := by
  refine MJ.of (by decide +kernel) (Nat.le_of_ble_eq_true rfl) ?_
  intro p e s m args below meth c A ls Q hAt hX hsz hAe hP hD hA hS hl hret
  have hST : ST en g A s s.heap := by rw [hAe]; exact hX.1
  have hKS : KS q v n h A s s.heap := by rw [hAe]; exact hX.2
  obtain ⟨hx, hb, hr, hml, hown, hw, hlk, hK, hN⟩ := hAt
  have hown : s.vm.findClass "java/lang/String" = some m.cls := hown
  have hl : lv_has ls 2 [(0, .ref q), (1, .int (nI i))] := hl
  refine lv_aload_n hx hb dJ0_charAt_5068e_0 rfl (lv_at hl 0 rfl) ?_
  refine uRj (As := []) (rest := []) hx hb hml hown hw hK hN hA hl.1 hP hD hS k_1181 k_1182 k_1183 k_33 k_1184 (met_J0_isLatin1_aae02K l D cy _ ws en g q v n h) (XK_call hST hKS hS (free_all hD hS hA)) Xok_K (KS_recv hKS hS) ⟨rfl, rfl⟩ (n := 0) (by decide +kernel) rfl ⟨Nat.le_of_ble_eq_true rfl, Nat.le_of_ble_eq_true rfl⟩ ⟨Nat.le_of_ble_eq_true rfl, Nat.le_of_ble_eq_true rfl⟩ (Nat.le_of_ble_eq_true rfl) rfl dJ0_charAt_5068e_1 (fun r9 w9 H locs h9 hP hD hS => ?_)
  obtain ⟨hr9, hw9⟩ := h9
  subst r9 w9
  refine lv_if_eq (tgt := 16) hx hb dJ0_charAt_5068e_4 (by decide) (fun h => absurd h (by decide)) (fun _ => ?_)
  refine lv_aload_n hx hb dJ0_charAt_5068e_7 rfl (lv_at hl 0 rfl) ?_
  refine vk_getf hx hb hKS.2.2.1 hS hown (hw _ k_1267) (fun _ h9 => h9) dJ0_charAt_5068e_8 ?_
  refine lv_iload_n hx hb dJ0_charAt_5068e_11 rfl (lv_at hl 1 rfl) ?_
  refine uSj (As := [.ref v, .int (nI i)]) (rest := []) hx hb hml hown hw hK hN hA hl.1 hP hD hS k_1185 k_1186 k_50 k_1187 (met_J1_charAt_3b067K l D cy _ ws en g q v n h i hn hi9 hc9) (XK_call hST hKS hS (free_all hD hS hA)) Xok_K ⟨rfl, rfl⟩ (n := 2) (by decide +kernel) rfl ⟨Nat.le_of_ble_eq_true rfl, Nat.le_of_ble_eq_true rfl⟩ ⟨Nat.le_of_ble_eq_true rfl, Nat.le_of_ble_eq_true rfl⟩ (Nat.le_of_ble_eq_true rfl) rfl dJ0_charAt_5068e_12 (fun r9 w9 H locs h9 hP hD hS => ?_)
  obtain ⟨hr9, hw9⟩ := h9
  subst r9 w9
  exact hret _ _ _ _ _ _ _ _ hP hD hS ⟨rfl, rfl⟩ (hc9 i hi9).2 (Nat.le_of_ble_eq_true rfl) (Nat.le_of_ble_eq_true rfl) dJ0_charAt_5068e_15
