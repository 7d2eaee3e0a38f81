def D_Jx29ce0_ordinal_8abf5 (i : Nat) : Int32 := (nI i)
abbrev rm_Jx29ce0_ordinal_8abf5 : Room := { frames := 0, cells := 0, slots := 0, locals := 0 }
set_option maxHeartbeats 4000000 in
set_option maxRecDepth 100000 in
theorem met_Jx29ce0_ordinal_8abf5 (l : Launch) (D : va_G) (cy : Nat → ClassId) (sz : Nat) (en g : Nat → Nat) (ws : va_W) (i : Nat) (hi : i < 9)  (r : Int32) (hF : D_Jx29ce0_ordinal_8abf5 i = r) : MIS l yJx29ce0_ordinal_8abf5 cJx29ce0_ordinal_8abf5 1 (some .int) rm_Jx29ce0_ordinal_8abf5 D cy en g ws sz [.ref (en i)] r ws := by
  refine MIS.of (by decide +kernel) (Nat.le_of_ble_eq_true rfl) ?_
  intro p e s m args below meth c A ls Q hAt hST hP hD hA hS hl hret
  obtain ⟨hx, hb, hr, hml, hown, hw, hlk, hK, hN⟩ := hAt
  have hown : s.vm.findClass "java/lang/Enum" = some m.cls := hown
  have hl : lv_has ls 1 [(0, .ref (en i))] := hl
  refine lv_aload_n hx hb dJx29ce0_ordinal_8abf5_0 rfl (lv_at hl 0 rfl) ?_
  refine va_getE hx hb hST.2.2.2.1 (i := i) (show i < nmKind.length from hi) hS hown (List.mem_singleton.mpr rfl) (hw _ k_2018) (fun _ h9 => h9) dJx29ce0_ordinal_8abf5_1 ?_
  rw [ordv hi]
  cases hF
  exact hret _ _ _ _ _ _ hP hD hS rfl rfl dJx29ce0_ordinal_8abf5_4
def D_J0_coder_7d493 (i : Nat) : Int32 := 0
abbrev rm_J0_coder_7d493 : Room := { frames := 0, cells := 0, slots := 0, locals := 0 }
set_option maxHeartbeats 4000000 in
set_option maxRecDepth 100000 in
theorem met_J0_coder_7d493 (l : Launch) (D : va_G) (cy : Nat → ClassId) (sz : Nat) (en g : Nat → Nat) (ws : va_W) (i : Nat) (hi : i < 9)  (r : Int32) (hF : D_J0_coder_7d493 i = r) : MIS l yJ0_coder_7d493 cJ0_coder_7d493 1 (some .byte) rm_J0_coder_7d493 D cy en g ws sz [.ref (g (100 + i))] r ws := by
  refine MBS.of (by decide +kernel) (Nat.le_of_ble_eq_true rfl) ?_
  intro p e s m args below meth c A ls Q hAt hST hP hD hA hS hl hret
  obtain ⟨hx, hb, hr, hml, hown, hw, hlk, hK, hN⟩ := hAt
  have hown : s.vm.findClass "java/lang/String" = some m.cls := hown
  have hl : lv_has ls 1 [(0, .ref (g (100 + i)))] := hl
  refine va_gets (n := "COMPACT_STRINGS") (v := .int 1) hx hb hST.2.2.2.2.2.2.2.2.2.2.1 hS hown (hw _ k_1088) (fun _ h9 => h9) dJ0_coder_7d493_0 ?_
  refine lv_if_eq (tgt := 13) hx hb dJ0_coder_7d493_3 (by decide) (fun h => absurd h (by decide)) (fun _ => ?_)
  refine lv_aload_n hx hb dJ0_coder_7d493_6 rfl (lv_at hl 0 rfl) ?_
  refine vk_getf hx hb (hST.2.2.2.2.2.2.2.2.2.1.1 i hi).2.1 hS hown (hw _ k_1390) (fun _ h9 => h9) dJ0_coder_7d493_7 ?_
  refine lv_goto (tgt := 14) hx hb dJ0_coder_7d493_10 (by decide) ?_
  cases hF
  exact hret _ _ _ _ _ _ hP hD hS rfl rfl rfl dJ0_coder_7d493_14
def D_J0_isLatin1_aae02 (i : Nat) : Int32 := 1
abbrev rm_J0_isLatin1_aae02 : Room := { frames := 0, cells := 0, slots := 0, locals := 0 }
set_option maxHeartbeats 4000000 in
set_option maxRecDepth 100000 in
theorem met_J0_isLatin1_aae02 (l : Launch) (D : va_G) (cy : Nat → ClassId) (sz : Nat) (en g : Nat → Nat) (ws : va_W) (i : Nat) (hi : i < 9)  (r : Int32) (hF : D_J0_isLatin1_aae02 i = r) : MIS l yJ0_isLatin1_aae02 cJ0_isLatin1_aae02 1 (some .boolean) rm_J0_isLatin1_aae02 D cy en g ws sz [.ref (g (100 + i))] r ws := by
  refine MZS.of (by decide +kernel) (Nat.le_of_ble_eq_true rfl) ?_
  intro p e s m args below meth c A ls Q hAt hST hP hD hA hS hl hret
  obtain ⟨hx, hb, hr, hml, hown, hw, hlk, hK, hN⟩ := hAt
  have hown : s.vm.findClass "java/lang/String" = some m.cls := hown
  have hl : lv_has ls 1 [(0, .ref (g (100 + i)))] := hl
  refine va_gets (n := "COMPACT_STRINGS") (v := .int 1) hx hb hST.2.2.2.2.2.2.2.2.2.2.1 hS hown (hw _ k_1088) (fun _ h9 => h9) dJ0_isLatin1_aae02_0 ?_
  refine lv_if_eq (tgt := 17) hx hb dJ0_isLatin1_aae02_3 (by decide) (fun h => absurd h (by decide)) (fun _ => ?_)
  refine lv_aload_n hx hb dJ0_isLatin1_aae02_6 rfl (lv_at hl 0 rfl) ?_
  refine vk_getf hx hb (hST.2.2.2.2.2.2.2.2.2.1.1 i hi).2.1 hS hown (hw _ k_1390) (fun _ h9 => h9) dJ0_isLatin1_aae02_7 ?_
  refine lv_if_ne (tgt := 17) hx hb dJ0_isLatin1_aae02_10 (by decide) (fun h => absurd h (by decide)) (fun _ => ?_)
  refine lv_iconst (v := 1) hx hb dJ0_isLatin1_aae02_13 (by decide) ?_
  refine lv_goto (tgt := 18) hx hb dJ0_isLatin1_aae02_14 (by decide) ?_
  cases hF
  exact hret _ _ _ _ _ _ hP hD hS rfl rfl rfl dJ0_isLatin1_aae02_18
theorem bz_J0_isLatin1_aae02 (i : Nat) : (D_J0_isLatin1_aae02 i) = 0 ∨ (D_J0_isLatin1_aae02 i) = 1 := by
  unfold D_J0_isLatin1_aae02
  repeat' split
  all_goals first | exact Or.inl rfl | exact Or.inr rfl | assumption
def D_J0_length_8abf5 (i : Nat) : Int32 := ((nI (formLen.getD i 0)) >>> ((D_J0_coder_7d493 i) &&& 31))
abbrev rm_J0_length_8abf5 : Room := { frames := 1, cells := 0, slots := 0, locals := 20 }
set_option maxHeartbeats 4000000 in
set_option maxRecDepth 100000 in
theorem met_J0_length_8abf5 (l : Launch) (D : va_G) (cy : Nat → ClassId) (sz : Nat) (en g : Nat → Nat) (ws : va_W) (i : Nat) (hi : i < 9)  (r : Int32) (hF : D_J0_length_8abf5 i = r) : MIS l yJ0_length_8abf5 cJ0_length_8abf5 1 (some .int) rm_J0_length_8abf5 D cy en g ws sz [.ref (g (100 + i))] r ws := by
  refine MIS.of (by decide +kernel) (Nat.le_of_ble_eq_true rfl) ?_
  intro p e s m args below meth c A ls Q hAt hST hP hD hA hS hl hret
  obtain ⟨hx, hb, hr, hml, hown, hw, hlk, hK, hN⟩ := hAt
  have hown : s.vm.findClass "java/lang/String" = some m.cls := hown
  have hl : lv_has ls 1 [(0, .ref (g (100 + i)))] := hl
  refine lv_aload_n hx hb dJ0_length_8abf5_0 rfl (lv_at hl 0 rfl) ?_
  refine vk_getf hx hb (hST.2.2.2.2.2.2.2.2.2.1.1 i hi).2.2.1 hS hown (hw _ k_1389) (fun _ h9 => h9) dJ0_length_8abf5_1 ?_
  refine va_tlen (v := nI (formLen.getD i 0)) hx hb (hST.2.2.2.2.2.2.2.2.2.1.1 i hi).2.2.2 hS rfl dJ0_length_8abf5_4 ?_
  refine lv_aload_n hx hb dJ0_length_8abf5_5 rfl (lv_at hl 0 rfl) ?_
  refine cR_i (As := []) (rest := [.int (nI (formLen.getD i 0))]) hx hb hml hown hw hK hN hA hl.1 hP hD hS k_1131 k_1132 k_1133 k_88 k_1134 (met_J0_coder_7d493 l D cy _ en g ws i hi (D_J0_coder_7d493 i) rfl) (ST_call hST hS (free_all hD hS hA)) Xok_S (vk_recv hST.2.2.2.2.2.2.2.2.2.1 (i := i) hi hS) ⟨rfl, rfl⟩ (n := 0) (by decide +kernel) rfl ⟨Nat.le_of_ble_eq_true rfl, Nat.le_of_ble_eq_true rfl⟩ ⟨Nat.le_of_ble_eq_true rfl, Nat.le_of_ble_eq_true rfl⟩ (Nat.le_of_ble_eq_true rfl) rfl dJ0_length_8abf5_6 (fun H locs hP hD hS => ?_)
  refine lv_ishr hx hb dJ0_length_8abf5_9 ?_
  cases hF
  exact hret _ _ _ _ _ _ hP hD hS rfl rfl dJ0_length_8abf5_10
def D_J0_isEmpty_aae02 (i : Nat) : Int32 := if (nI (formLen.getD i 0)) = 0 then (1) else (0)
abbrev rm_J0_isEmpty_aae02 : Room := { frames := 0, cells := 0, slots := 0, locals := 0 }
set_option maxHeartbeats 4000000 in
set_option maxRecDepth 100000 in
theorem met_J0_isEmpty_aae02 (l : Launch) (D : va_G) (cy : Nat → ClassId) (sz : Nat) (en g : Nat → Nat) (ws : va_W) (i : Nat) (hi : i < 9)  (r : Int32) (hF : D_J0_isEmpty_aae02 i = r) : MIS l yJ0_isEmpty_aae02 cJ0_isEmpty_aae02 1 (some .boolean) rm_J0_isEmpty_aae02 D cy en g ws sz [.ref (g (100 + i))] r ws := by
  refine MZS.of (by decide +kernel) (Nat.le_of_ble_eq_true rfl) ?_
  intro p e s m args below meth c A ls Q hAt hST hP hD hA hS hl hret
  obtain ⟨hx, hb, hr, hml, hown, hw, hlk, hK, hN⟩ := hAt
  have hown : s.vm.findClass "java/lang/String" = some m.cls := hown
  have hl : lv_has ls 1 [(0, .ref (g (100 + i)))] := hl
  refine lv_aload_n hx hb dJ0_isEmpty_aae02_0 rfl (lv_at hl 0 rfl) ?_
  refine vk_getf hx hb (hST.2.2.2.2.2.2.2.2.2.1.1 i hi).2.2.1 hS hown (hw _ k_1389) (fun _ h9 => h9) dJ0_isEmpty_aae02_1 ?_
  refine va_tlen (v := nI (formLen.getD i 0)) hx hb (hST.2.2.2.2.2.2.2.2.2.1.1 i hi).2.2.2 hS rfl dJ0_isEmpty_aae02_4 ?_
  refine lv_if_ne (tgt := 12) hx hb dJ0_isEmpty_aae02_5 (by decide) (fun h1 => ?_) (fun h1 => ?_)
  · replace hF := (if_neg h1).symm.trans hF
    refine lv_iconst (v := 0) hx hb dJ0_isEmpty_aae02_12 (by decide) ?_
    cases hF
    exact hret _ _ _ _ _ _ hP hD hS rfl rfl rfl dJ0_isEmpty_aae02_13
  · replace hF := (if_pos h1).symm.trans hF
    refine lv_iconst (v := 1) hx hb dJ0_isEmpty_aae02_8 (by decide) ?_
    refine lv_goto (tgt := 13) hx hb dJ0_isEmpty_aae02_9 (by decide) ?_
    cases hF
    exact hret _ _ _ _ _ _ hP hD hS rfl rfl rfl dJ0_isEmpty_aae02_13
theorem bz_J0_isEmpty_aae02 (i : Nat) : (D_J0_isEmpty_aae02 i) = 0 ∨ (D_J0_isEmpty_aae02 i) = 1 := by
  unfold D_J0_isEmpty_aae02
  repeat' split
  all_goals first | exact Or.inl rfl | exact Or.inr rfl | assumption
def D_J3_checkIndex_8e157N (p1 : Int32) (p2 : Int32) : Option (Int32) := if p1 < 0 then (none) else (if p1 < p2 then (some p1) else (none))
abbrev rm_J3_checkIndex_8e157 : Room := { frames := 1, cells := 0, slots := 0, locals := 30 }
set_option maxHeartbeats 4000000 in
set_option maxRecDepth 100000 in
theorem met_J3_checkIndex_8e157N (l : Launch) (D : va_G) (cy : Nat → ClassId) (sz : Nat) (en g : Nat → Nat) (ws : va_W) (p1 : Int32) (p2 : Int32)  (r : Int32) (hF : D_J3_checkIndex_8e157N p1 p2 = some r) : MIS l yJ3_checkIndex_8e157 cJ3_checkIndex_8e157 3 (some .int) rm_J3_checkIndex_8e157 D cy en g ws sz [.int p1, .int p2, .null] r ws := by
  refine MIS.of (by decide +kernel) (Nat.le_of_ble_eq_true rfl) ?_
  intro p e s m args below meth c A ls Q hAt hST hP hD hA hS hl hret
  obtain ⟨hx, hb, hr, hml, hown, hw, hlk, hK, hN⟩ := hAt
  have hown : s.vm.findClass "jdk/internal/util/Preconditions" = some m.cls := hown
  have hl : lv_has ls 3 [(0, .int p1), (1, .int p2), (2, .null)] := hl
  refine lv_iload_n hx hb dJ3_checkIndex_8e157_0 rfl (lv_at hl 0 rfl) ?_
  refine lv_if_lt (tgt := 9) hx hb dJ3_checkIndex_8e157_1 (by decide) (fun h1 => ?_) (fun h1 => ?_)
  · replace hF := (if_pos h1).symm.trans hF
    exact absurd hF (by simp)
  · replace hF := (if_neg h1).symm.trans hF
    refine lv_iload_n hx hb dJ3_checkIndex_8e157_4 rfl (lv_at hl 0 rfl) ?_
    refine lv_iload_n hx hb dJ3_checkIndex_8e157_5 rfl (lv_at hl 1 rfl) ?_
    refine lv_icmp_lt (tgt := 16) hx hb dJ3_checkIndex_8e157_6 (by decide) (fun h2 => ?_) (fun h2 => ?_)
    · replace hF := (if_pos h2).symm.trans hF
      refine lv_iload_n hx hb dJ3_checkIndex_8e157_16 rfl (lv_at hl 0 rfl) ?_
      cases hF
      exact hret _ _ _ _ _ _ hP hD hS rfl rfl dJ3_checkIndex_8e157_17
    · replace hF := (if_neg h2).symm.trans hF
      exact absurd hF (by simp)
set_option maxHeartbeats 4000000 in
set_option maxRecDepth 100000 in
theorem met_J3_checkIndex_8e157R (l : Launch) (D : va_G) (cy : Nat → ClassId) (sz : Nat) (en g : Nat → Nat) (ws : va_W) (p1 : Int32) (p2 : Int32) (t9 : Nat)  (r : Int32) (hF : D_J3_checkIndex_8e157N p1 p2 = some r) : MIS l yJ3_checkIndex_8e157 cJ3_checkIndex_8e157 3 (some .int) rm_J3_checkIndex_8e157 D cy en g ws sz [.int p1, .int p2, .ref t9] r ws := by
  refine MIS.of (by decide +kernel) (Nat.le_of_ble_eq_true rfl) ?_
  intro p e s m args below meth c A ls Q hAt hST hP hD hA hS hl hret
  obtain ⟨hx, hb, hr, hml, hown, hw, hlk, hK, hN⟩ := hAt
  have hown : s.vm.findClass "jdk/internal/util/Preconditions" = some m.cls := hown
  have hl : lv_has ls 3 [(0, .int p1), (1, .int p2), (2, .ref t9)] := hl
  refine lv_iload_n hx hb dJ3_checkIndex_8e157_0 rfl (lv_at hl 0 rfl) ?_
  refine lv_if_lt (tgt := 9) hx hb dJ3_checkIndex_8e157_1 (by decide) (fun h1 => ?_) (fun h1 => ?_)
  · replace hF := (if_pos h1).symm.trans hF
    exact absurd hF (by simp)
  · replace hF := (if_neg h1).symm.trans hF
    refine lv_iload_n hx hb dJ3_checkIndex_8e157_4 rfl (lv_at hl 0 rfl) ?_
    refine lv_iload_n hx hb dJ3_checkIndex_8e157_5 rfl (lv_at hl 1 rfl) ?_
    refine lv_icmp_lt (tgt := 16) hx hb dJ3_checkIndex_8e157_6 (by decide) (fun h2 => ?_) (fun h2 => ?_)
    · replace hF := (if_pos h2).symm.trans hF
      refine lv_iload_n hx hb dJ3_checkIndex_8e157_16 rfl (lv_at hl 0 rfl) ?_
      cases hF
      exact hret _ _ _ _ _ _ hP hD hS rfl rfl dJ3_checkIndex_8e157_17
    · replace hF := (if_neg h2).symm.trans hF
      exact absurd hF (by simp)
def D_J0_checkIndex_df160 (p1 : Int32) (p2 : Int32) : Option (Unit) := (D_J3_checkIndex_8e157N p1 p2).bind (fun r5 => some ())
abbrev rm_J0_checkIndex_df160 : Room := { frames := 2, cells := 0, slots := 0, locals := 52 }
set_option maxHeartbeats 4000000 in
set_option maxRecDepth 100000 in
theorem met_J0_checkIndex_df160 (l : Launch) (D : va_G) (cy : Nat → ClassId) (sz : Nat) (en g : Nat → Nat) (ws : va_W) (p1 : Int32) (p2 : Int32)   (hF : D_J0_checkIndex_df160 p1 p2 = some ()) : MVS l yJ0_checkIndex_df160 cJ0_checkIndex_df160 2 rm_J0_checkIndex_df160 D cy en g ws sz [.int p1, .int p2] ws := by
  refine MVS.of (by decide +kernel) (Nat.le_of_ble_eq_true rfl) ?_
  intro p e s m args below meth c A ls Q hAt hST hP hD hA hS hl hret
  obtain ⟨hx, hb, hr, hml, hown, hw, hlk, hK, hN⟩ := hAt
  have hown : s.vm.findClass "java/lang/String" = some m.cls := hown
  have hl : lv_has ls 2 [(0, .int p1), (1, .int p2)] := hl
  refine lv_iload_n hx hb dJ0_checkIndex_df160_0 rfl (lv_at hl 0 rfl) ?_
  refine lv_iload_n hx hb dJ0_checkIndex_df160_1 rfl (lv_at hl 1 rfl) ?_
  rcases hST.2.2.2.2.2.2.2.2.2.2.2.2.2.1 with hz1 | ⟨t9, hz1⟩
  · refine va_gets (n := "SIOOBE_FORMATTER") (v := .null) hx hb hz1 hS hown (hw _ k_1095) (fun _ h9 => h9) dJ0_checkIndex_df160_2 ?_
    obtain ⟨r2, hc4, hF⟩ := bind_some hF
    try dsimp only at hF
    refine cS_i (As := [.int p1, .int p2, .null]) (rest := []) hx hb hml hown hw hK hN hA hl.1 hP hD hS k_1097 k_1098 k_104 k_1099 (met_J3_checkIndex_8e157N l D cy _ en g ws p1 p2 r2 hc4) (ST_call hST hS (free_all hD hS hA)) Xok_S ⟨rfl, rfl⟩ (n := 3) (by decide +kernel) rfl ⟨Nat.le_of_ble_eq_true rfl, Nat.le_of_ble_eq_true rfl⟩ ⟨Nat.le_of_ble_eq_true rfl, Nat.le_of_ble_eq_true rfl⟩ (Nat.le_of_ble_eq_true rfl) rfl dJ0_checkIndex_df160_5 (fun H locs hP hD hS => ?_)
    refine lv_pop hx hb dJ0_checkIndex_df160_8 rfl ?_
    cases hF
    exact hret _ _ _ _ _ hP hD hS rfl dJ0_checkIndex_df160_9
  · refine va_gets (n := "SIOOBE_FORMATTER") (v := .ref t9) hx hb hz1 hS hown (hw _ k_1095) (fun _ h9 => h9) dJ0_checkIndex_df160_2 ?_
    obtain ⟨r5, hc7, hF⟩ := bind_some hF
    try dsimp only at hF
    refine cS_i (As := [.int p1, .int p2, .ref t9]) (rest := []) hx hb hml hown hw hK hN hA hl.1 hP hD hS k_1097 k_1098 k_104 k_1099 (met_J3_checkIndex_8e157R l D cy _ en g ws p1 p2 t9 r5 hc7) (ST_call hST hS (free_all hD hS hA)) Xok_S ⟨rfl, rfl⟩ (n := 3) (by decide +kernel) rfl ⟨Nat.le_of_ble_eq_true rfl, Nat.le_of_ble_eq_true rfl⟩ ⟨Nat.le_of_ble_eq_true rfl, Nat.le_of_ble_eq_true rfl⟩ (Nat.le_of_ble_eq_true rfl) rfl dJ0_checkIndex_df160_5 (fun H locs hP hD hS => ?_)
    refine lv_pop hx hb dJ0_checkIndex_df160_8 rfl ?_
    cases hF
    exact hret _ _ _ _ _ hP hD hS rfl dJ0_checkIndex_df160_9
def D_J1_charAt_3b067 (p1 : Nat) (p2 : Int32) : Option (Int32) := (D_J0_checkIndex_df160 p2 (nI (formLen.getD p1 0))).bind (fun o2 => if inb p2 (formLen.getD p1 0) then (if isCh (((((formB.getD p1 []).getD p2.toNatClampNeg 0) &&& 255).toUInt32 % 65536).toInt32) then (some (((((formB.getD p1 []).getD p2.toNatClampNeg 0) &&& 255).toUInt32 % 65536).toInt32)) else none) else none)
abbrev rm_J1_charAt_3b067 : Room := { frames := 3, cells := 0, slots := 0, locals := 73 }
set_option maxHeartbeats 4000000 in
set_option maxRecDepth 100000 in
theorem met_J1_charAt_3b067 (l : Launch) (D : va_G) (cy : Nat → ClassId) (sz : Nat) (en g : Nat → Nat) (ws : va_W) (p1 : Nat) (hp1 : p1 < 9) (p2 : Int32)  (r : Int32) (hF : D_J1_charAt_3b067 p1 p2 = some r) : MIS l yJ1_charAt_3b067 cJ1_charAt_3b067 2 (some .char) rm_J1_charAt_3b067 D cy en g ws sz [.ref (g (200 + p1)), .int p2] r ws := by
  refine MCS.of (by decide +kernel) (Nat.le_of_ble_eq_true rfl) ?_
  intro p e s m args below meth c A ls Q hAt hST hP hD hA hS hl hret
  obtain ⟨hx, hb, hr, hml, hown, hw, hlk, hK, hN⟩ := hAt
  have hown : s.vm.findClass "java/lang/StringLatin1" = some m.cls := hown
  have hl : lv_has ls 2 [(0, .ref (g (200 + p1))), (1, .int p2)] := hl
  refine lv_iload_n hx hb dJ1_charAt_3b067_0 rfl (lv_at hl 1 rfl) ?_
  refine lv_aload_n hx hb dJ1_charAt_3b067_1 rfl (lv_at hl 0 rfl) ?_
  refine va_tlen (v := nI (formLen.getD p1 0)) hx hb (hST.2.2.2.2.2.2.2.2.2.1.1 p1 hp1).2.2.2 hS rfl dJ1_charAt_3b067_2 ?_
  obtain ⟨o2, hc3, hF⟩ := bind_some hF
  try dsimp only at hF
  refine cS_v (As := [.int p2, .int (nI (formLen.getD p1 0))]) (rest := []) hx hb hml hown hw hK hN hA hl.1 hP hD hS k_1092 k_1093 k_88 k_1094 (met_J0_checkIndex_df160 l D cy _ en g ws p2 (nI (formLen.getD p1 0)) hc3) (ST_call hST hS (free_all hD hS hA)) Xok_S ⟨rfl, rfl⟩ (n := 2) (by decide +kernel) rfl ⟨Nat.le_of_ble_eq_true rfl, Nat.le_of_ble_eq_true rfl⟩ ⟨Nat.le_of_ble_eq_true rfl, Nat.le_of_ble_eq_true rfl⟩ (Nat.le_of_ble_eq_true rfl) rfl dJ1_charAt_3b067_3 (fun H locs hP hD hS => ?_)
  refine lv_aload_n hx hb dJ1_charAt_3b067_6 rfl (lv_at hl 0 rfl) ?_
  refine lv_iload_n hx hb dJ1_charAt_3b067_7 rfl (lv_at hl 1 rfl) ?_
  obtain ⟨h4, hF⟩ := ite_some hF
  refine va_tb (v := .int ((formB.getD p1 []).getD p2.toNatClampNeg 0)) hx hb (hST.2.2.2.2.2.2.2.2.2.1.1 p1 hp1).2.2.2 hS (vp_inb h4) rfl dJ1_charAt_3b067_8 ?_
  refine lv_sipush (v := 255) hx hb dJ1_charAt_3b067_9 (by decide) ?_
  refine lv_iand hx hb dJ1_charAt_3b067_12 ?_
  refine lv_i2c (v := ((((formB.getD p1 []).getD p2.toNatClampNeg 0) &&& 255).toUInt32 % 65536).toInt32) hx hb dJ1_charAt_3b067_13 rfl ?_
  obtain ⟨hg5, hF⟩ := ite_some hF
  cases hF
  exact hret _ _ _ _ _ _ hP hD hS rfl rfl (isCh_iff.mp hg5) dJ1_charAt_3b067_14
def D_J0_charAt_5068e (i : Nat) (p1 : Int32) : Option (Int32) := if (D_J0_isLatin1_aae02 i) = 0 then (none) else ((D_J1_charAt_3b067 i p1).bind (fun r5 => if isCh r5 then (some r5) else none))
abbrev rm_J0_charAt_5068e : Room := { frames := 5, cells := 0, slots := 0, locals := 115 }
set_option maxHeartbeats 4000000 in
set_option maxRecDepth 100000 in
theorem met_J0_charAt_5068e (l : Launch) (D : va_G) (cy : Nat → ClassId) (sz : Nat) (en g : Nat → Nat) (ws : va_W) (i : Nat) (hi : i < 9) (p1 : Int32)  (r : Int32) (hF : D_J0_charAt_5068e i p1 = some r) : MIS l yJ0_charAt_5068e cJ0_charAt_5068e 2 (some .char) rm_J0_charAt_5068e D cy en g ws sz [.ref (g (100 + i)), .int p1] r ws := by
  refine MCS.of (by decide +kernel) (Nat.le_of_ble_eq_true rfl) ?_
  intro p e s m args below meth c A ls Q hAt hST hP hD hA hS hl hret
  obtain ⟨hx, hb, hr, hml, hown, hw, hlk, hK, hN⟩ := hAt
  have hown : s.vm.findClass "java/lang/String" = some m.cls := hown
  have hl : lv_has ls 2 [(0, .ref (g (100 + i))), (1, .int p1)] := hl
  refine lv_aload_n hx hb dJ0_charAt_5068e_0 rfl (lv_at hl 0 rfl) ?_
  refine cR_i (As := []) (rest := []) hx hb hml hown hw hK hN hA hl.1 hP hD hS k_1084 k_1085 k_1086 k_88 k_1087 (met_J0_isLatin1_aae02 l D cy _ en g ws i hi (D_J0_isLatin1_aae02 i) rfl) (ST_call hST hS (free_all hD hS hA)) Xok_S (vk_recv hST.2.2.2.2.2.2.2.2.2.1 (i := i) hi hS) ⟨rfl, rfl⟩ (n := 0) (by decide +kernel) rfl ⟨Nat.le_of_ble_eq_true rfl, Nat.le_of_ble_eq_true rfl⟩ ⟨Nat.le_of_ble_eq_true rfl, Nat.le_of_ble_eq_true rfl⟩ (Nat.le_of_ble_eq_true rfl) rfl dJ0_charAt_5068e_1 (fun H locs hP hD hS => ?_)
  refine lv_if_eq (tgt := 16) hx hb dJ0_charAt_5068e_4 (by decide) (fun h4 => ?_) (fun h4 => ?_)
  · replace hF := (if_pos h4).symm.trans hF
    exact absurd hF (by simp)
  · replace hF := (if_neg h4).symm.trans hF
    refine lv_aload_n hx hb dJ0_charAt_5068e_7 rfl (lv_at hl 0 rfl) ?_
    refine vk_getf hx hb (hST.2.2.2.2.2.2.2.2.2.1.1 i hi).2.2.1 hS hown (hw _ k_1389) (fun _ h9 => h9) dJ0_charAt_5068e_8 ?_
    refine lv_iload_n hx hb dJ0_charAt_5068e_11 rfl (lv_at hl 1 rfl) ?_
    obtain ⟨r5, hc7, hF⟩ := bind_some hF
    try dsimp only at hF
    refine cS_i (As := [.ref (g (200 + i)), .int p1]) (rest := []) hx hb hml hown hw hK hN hA hl.1 hP hD hS k_1089 k_1090 k_103 k_1091 (met_J1_charAt_3b067 l D cy _ en g ws i hi p1 r5 hc7) (ST_call hST hS (free_all hD hS hA)) Xok_S ⟨rfl, rfl⟩ (n := 2) (by decide +kernel) rfl ⟨Nat.le_of_ble_eq_true rfl, Nat.le_of_ble_eq_true rfl⟩ ⟨Nat.le_of_ble_eq_true rfl, Nat.le_of_ble_eq_true rfl⟩ (Nat.le_of_ble_eq_true rfl) rfl dJ0_charAt_5068e_12 (fun H locs hP hD hS => ?_)
    obtain ⟨hg8, hF⟩ := ite_some hF
    cases hF
    exact hret _ _ _ _ _ _ hP hD hS rfl rfl (isCh_iff.mp hg8) dJ0_charAt_5068e_15
def D_X3_startsWith (i : Nat) (p1 : Int32) : Option (Int32) := if (D_J0_isEmpty_aae02 i) = 0 then ((D_J0_charAt_5068e i 0).bind (fun r5 => if r5 = p1 then (some 1) else (some 0))) else (some 0)
abbrev rm_X3_startsWith : Room := { frames := 6, cells := 0, slots := 0, locals := 136 }
set_option maxHeartbeats 4000000 in
set_option maxRecDepth 100000 in
theorem met_X3_startsWith (l : Launch) (D : va_G) (cy : Nat → ClassId) (sz : Nat) (en g : Nat → Nat) (ws : va_W) (i : Nat) (hi : i < 9) (p1 : Int32)  (r : Int32) (hF : D_X3_startsWith i p1 = some r) : MIS l yX3_startsWith cX3_startsWith 2 (some .boolean) rm_X3_startsWith D cy en g ws sz [.ref (en i), .int p1] r ws := by
  refine MZS.of (by decide +kernel) (Nat.le_of_ble_eq_true rfl) ?_
  intro p e s m args below meth c A ls Q hAt hST hP hD hA hS hl hret
  obtain ⟨hx, hb, hr, hml, hown, hw, hlk, hK, hN⟩ := hAt
  have hown : s.vm.findClass "CloudDeeds$Kind" = some m.cls := hown
  have hl : lv_has ls 2 [(0, .ref (en i)), (1, .int p1)] := hl
  refine lv_aload_n hx hb dX3_startsWith_0 rfl (lv_at hl 0 rfl) ?_
  refine vk_getf hx hb (hST.2.2.2.2.2.2.2.2.1 i hi) hS hown (hw _ k_2019) (fun _ h9 => h9) dX3_startsWith_1 ?_
  refine cR_i (As := []) (rest := []) hx hb hml hown hw hK hN hA hl.1 hP hD hS k_1076 k_1077 k_1078 k_88 k_1079 (met_J0_isEmpty_aae02 l D cy _ en g ws i hi (D_J0_isEmpty_aae02 i) rfl) (ST_call hST hS (free_all hD hS hA)) Xok_S (vk_recv hST.2.2.2.2.2.2.2.2.2.1 (i := i) hi hS) ⟨rfl, rfl⟩ (n := 0) (by decide +kernel) rfl ⟨Nat.le_of_ble_eq_true rfl, Nat.le_of_ble_eq_true rfl⟩ ⟨Nat.le_of_ble_eq_true rfl, Nat.le_of_ble_eq_true rfl⟩ (Nat.le_of_ble_eq_true rfl) rfl dX3_startsWith_4 (fun H locs hP hD hS => ?_)
  refine lv_if_ne (tgt := 26) hx hb dX3_startsWith_7 (by decide) (fun h4 => ?_) (fun h4 => ?_)
  · replace hF := (if_neg h4).symm.trans hF
    refine lv_iconst (v := 0) hx hb dX3_startsWith_26 (by decide) ?_
    cases hF
    exact hret _ _ _ _ _ _ hP hD hS rfl rfl rfl dX3_startsWith_27
  · replace hF := (if_pos h4).symm.trans hF
    refine lv_aload_n hx hb dX3_startsWith_10 rfl (lv_at hl 0 rfl) ?_
    refine vk_getf hx hb (hST.2.2.2.2.2.2.2.2.1 i hi) hS hown (hw _ k_2019) (fun _ h9 => h9) dX3_startsWith_11 ?_
    refine lv_iconst (v := 0) hx hb dX3_startsWith_14 (by decide) ?_
    obtain ⟨r5, hc7, hF⟩ := bind_some hF
    try dsimp only at hF
    refine cR_i (As := [.int 0]) (rest := []) hx hb hml hown hw hK hN hA hl.1 hP hD hS k_1080 k_1081 k_1082 k_88 k_1083 (met_J0_charAt_5068e l D cy _ en g ws i hi 0 r5 hc7) (ST_call hST hS (free_all hD hS hA)) Xok_S (vk_recv hST.2.2.2.2.2.2.2.2.2.1 (i := i) hi hS) ⟨rfl, rfl⟩ (n := 1) (by decide +kernel) rfl ⟨Nat.le_of_ble_eq_true rfl, Nat.le_of_ble_eq_true rfl⟩ ⟨Nat.le_of_ble_eq_true rfl, Nat.le_of_ble_eq_true rfl⟩ (Nat.le_of_ble_eq_true rfl) rfl dX3_startsWith_15 (fun H locs hP hD hS => ?_)
    refine lv_iload_n hx hb dX3_startsWith_18 rfl (lv_at hl 1 rfl) ?_
    refine lv_icmp_ne (tgt := 26) hx hb dX3_startsWith_19 (by decide) (fun h8 => ?_) (fun h8 => ?_)
    · replace hF := (if_neg h8).symm.trans hF
      refine lv_iconst (v := 0) hx hb dX3_startsWith_26 (by decide) ?_
      cases hF
      exact hret _ _ _ _ _ _ hP hD hS rfl rfl rfl dX3_startsWith_27
    · replace hF := (if_pos h8).symm.trans hF
      refine lv_iconst (v := 1) hx hb dX3_startsWith_22 (by decide) ?_
      refine lv_goto (tgt := 27) hx hb dX3_startsWith_23 (by decide) ?_
      cases hF
      exact hret _ _ _ _ _ _ hP hD hS rfl rfl rfl dX3_startsWith_27
def D_X9_demandOwner (p1 : Int32) : Int32 := if (D_X9_isOwner p1) = 0 then (1) else (0)
abbrev rm_X9_demandOwner : Room := { frames := 6, cells := 1, slots := 6, locals := 90 }
def exn_X9_demandOwner : Int32 → String := fun _ => "java/lang/IndexOutOfBoundsException"
set_option maxHeartbeats 4000000 in
set_option maxRecDepth 100000 in
theorem met_X9_demandOwner (l : Launch) (hst0 : l.stackTraces = false) (D : va_G) (cy : Nat → ClassId) (sz : Nat) (en g : Nat → Nat) (ws : va_W) (p1 : Int32)  (code : Int32)  (hF : D_X9_demandOwner p1 = code) : MTV l yX9_demandOwner cX9_demandOwner 1 rm_X9_demandOwner D cy en g ws sz [.int p1] exn_X9_demandOwner code ws := by
  refine MTV.of (by decide +kernel) (Nat.le_of_ble_eq_true rfl) ?_
  intro p e s m args below meth c A ls Q hAt htb hST hP hD hA hS hl hQ
  obtain ⟨hx, hb, hr, hml, hown, hw, hlk, hK, hN⟩ := hAt
  have hown : s.vm.findClass "CloudDeeds" = some m.cls := hown
  have hl : lv_has ls 1 [(0, .int p1)] := hl
  refine lv_iload_n hx hb dX9_demandOwner_0 rfl (lv_at hl 0 rfl) ?_
  refine cS_i (As := [.int p1]) (rest := []) hx hb hml hown hw hK hN hA hl.1 hP hD hS k_862 k_458 k_76 k_459 (met_X9_isOwner l D cy _ ws p1 (D_X9_isOwner p1) rfl) (fun _ _ _ => trivial) Xok_T ⟨rfl, rfl⟩ (n := 1) (by decide +kernel) rfl ⟨Nat.le_of_ble_eq_true rfl, Nat.le_of_ble_eq_true rfl⟩ ⟨Nat.le_of_ble_eq_true rfl, Nat.le_of_ble_eq_true rfl⟩ (Nat.le_of_ble_eq_true rfl) rfl dX9_demandOwner_1 (fun H locs hP hD hS => ?_)
  refine lv_if_ne (tgt := 18) hx hb dX9_demandOwner_4 (by decide) (fun h4 => ?_) (fun h4 => ?_)
  · replace hF := (if_neg h4).symm.trans hF
    cases hF
    rw [hQ]
    exact retx_v hx hb hr hlk (Nat.le_of_ble_eq_true rfl) (Nat.le_of_ble_eq_true rfl) hS hP hD rfl rfl dX9_demandOwner_18
  · replace hF := (if_pos h4).symm.trans hF
    cases hF
    rw [hQ]
    exact thrSW (g := g) (en := en) hx hb hst0 hml hown hw hN hlk htb hST hS hP hD hl.1 (text := "there is no such owner") 3 rfl (by decide) k_817 k_98 at_108 (by decide) rfl rfl dX9_demandOwner_7 dX9_demandOwner_10 dX9_demandOwner_11 dX9_demandOwner_14 dX9_demandOwner_17 ⟨Nat.le_of_ble_eq_true rfl, Nat.le_of_ble_eq_true rfl, Nat.le_of_ble_eq_true rfl, Nat.le_of_ble_eq_true rfl⟩ (Nat.le_of_ble_eq_true rfl) ⟨Nat.le_of_ble_eq_true rfl, Nat.le_of_ble_eq_true rfl⟩
def D_X6_keep (x : Mem) (p1 : Nat) : (Mem) := (va_up x 12 (va_up (x 12) 3 (upd (upd (upd (upd ((x 12) 3) 0 (((x p1) 0) 12)) 1 (((x p1) 0) 13)) 2 0) 3 0)))
abbrev rm_X6_keep : Room := { frames := 0, cells := 0, slots := 0, locals := 0 }
set_option maxHeartbeats 4000000 in
set_option maxRecDepth 100000 in
theorem met_X6_keep (l : Launch) (D : va_G) (cy : Nat → ClassId) (sz : Nat) (ad : Nat → Nat → Nat) (en g : Nat → Nat) (x : Mem) (p1 : Nat) (hp1 : p1 < 12)  (t' : Mem) (hF : D_X6_keep x p1 = t') : MV l yX6_keep cX6_keep 2 rm_X6_keep D cy (cW cy ad en x) sz (fun _ => True) [.ref (ad 12 3), .ref (ad p1 0)] (cW cy ad en t') := by
  refine MV.of (by decide +kernel) (Nat.le_of_ble_eq_true rfl) ?_
  intro p e s m args below meth c A ls Q hAt _ hP hD hA hS hl hret
  obtain ⟨hx, hb, hr, hml, hown, hw, hlk, hK, hN⟩ := hAt
  have hown : s.vm.findClass "CloudDeeds$Reasons" = some m.cls := hown
  have hl : lv_has ls 2 [(0, .ref (ad 12 3)), (1, .ref (ad p1 0))] := hl
  refine lv_aload_n hx hb dX6_keep_0 rfl (lv_at hl 0 rfl) ?_
  refine lv_aload_n hx hb dX6_keep_1 rfl (lv_at hl 1 rfl) ?_
  refine getN' (ci := 6) (fs := oF (ad p1) ((x p1) 0)) (v := .int (((x p1) 0) 12)) hx hb hw hN inWX4 hown hK hP (gX (x := x) (k := p1) (r := 0) (f := ((x p1) 0)) hp1 (by decide) ((congrFun rfl _).trans rfl)) rfl 12 (by decide) n_192 rfl rfl dX6_keep_2 ?_
  refine put' (ci := 8) (fs := [.int (((x 12) 3) 0), .int (((x 12) 3) 1), .int (((x 12) 3) 2), .int (((x 12) 3) 3)]) (v := .int (((x p1) 0) 12)) (ty := .int) (ws' := (cW cy ad en (va_up x 12 (va_up (x 12) 3 (upd ((x 12) 3) 0 (((x p1) 0) 12)))))) hx hb hw inWX6 tyX6 tyX6_ok nmX6 hown hK hP hD hS (gY (x := x) (r := 3) (f := ((x 12) 3)) (by decide) ((congrFun rfl _).trans rfl)) rfl 0 (by decide) k_250 rfl rfl (by decide +kernel) rfl rfl (Nat.le_of_ble_eq_true rfl) dX6_keep_5 ((sY (x := x) (r := 3) (g := (upd ((x 12) 3) 0 (((x p1) 0) 12))) (by decide)).trans (congrArg (fun z => cW cy ad en (va_up x 12 (va_up z 3 (upd ((x 12) 3) 0 (((x p1) 0) 12))))) rfl)) (fun H locs hP hD hS => ?_)
  refine lv_aload_n hx hb dX6_keep_8 rfl (lv_at hl 0 rfl) ?_
  refine lv_aload_n hx hb dX6_keep_9 rfl (lv_at hl 1 rfl) ?_
  refine getN' (ci := 6) (fs := oF (ad p1) ((x p1) 0)) (v := .int (((x p1) 0) 13)) hx hb hw hN inWX4 hown hK hP (gX (x := (va_up x 12 (va_up (x 12) 3 (upd ((x 12) 3) 0 (((x p1) 0) 12))))) (k := p1) (r := 0) (f := ((x p1) 0)) hp1 (by decide) ((congrFun ((va_up_ne _ _ (by omega)).trans rfl) _).trans rfl)) rfl 13 (by decide) n_194 rfl rfl dX6_keep_10 ?_
  refine put' (ci := 8) (fs := [.int ((upd ((x 12) 3) 0 (((x p1) 0) 12)) 0), .int ((upd ((x 12) 3) 0 (((x p1) 0) 12)) 1), .int ((upd ((x 12) 3) 0 (((x p1) 0) 12)) 2), .int ((upd ((x 12) 3) 0 (((x p1) 0) 12)) 3)]) (v := .int (((x p1) 0) 13)) (ty := .int) (ws' := (cW cy ad en (va_up x 12 (va_up (x 12) 3 (upd (upd ((x 12) 3) 0 (((x p1) 0) 12)) 1 (((x p1) 0) 13)))))) hx hb hw inWX6 tyX6 tyX6_ok nmX6 hown hK hP hD hS (gY (x := (va_up x 12 (va_up (x 12) 3 (upd ((x 12) 3) 0 (((x p1) 0) 12))))) (r := 3) (f := (upd ((x 12) 3) 0 (((x p1) 0) 12))) (by decide) ((congrFun (va_up_self _ _ _) _).trans (va_up_self _ _ _))) rfl 1 (by decide) k_252 rfl rfl (by decide +kernel) rfl rfl (Nat.le_of_ble_eq_true rfl) dX6_keep_13 ((sT (x := x) (r := 3) (o := (va_up (x 12) 3 (upd ((x 12) 3) 0 (((x p1) 0) 12)))) (g := (upd (upd ((x 12) 3) 0 (((x p1) 0) 12)) 1 (((x p1) 0) 13))) (by decide)).trans (congrArg (fun z => cW cy ad en (va_up x 12 z)) (up_up _ _ _ _))) (fun H locs hP hD hS => ?_)
  refine lv_aload_n hx hb dX6_keep_16 rfl (lv_at hl 0 rfl) ?_
  refine lv_iconst (v := 0) hx hb dX6_keep_17 (by decide) ?_
  refine put' (ci := 8) (fs := [.int ((upd (upd ((x 12) 3) 0 (((x p1) 0) 12)) 1 (((x p1) 0) 13)) 0), .int ((upd (upd ((x 12) 3) 0 (((x p1) 0) 12)) 1 (((x p1) 0) 13)) 1), .int ((upd (upd ((x 12) 3) 0 (((x p1) 0) 12)) 1 (((x p1) 0) 13)) 2), .int ((upd (upd ((x 12) 3) 0 (((x p1) 0) 12)) 1 (((x p1) 0) 13)) 3)]) (v := .int 0) (ty := .int) (ws' := (cW cy ad en (va_up x 12 (va_up (x 12) 3 (upd (upd (upd ((x 12) 3) 0 (((x p1) 0) 12)) 1 (((x p1) 0) 13)) 2 0))))) hx hb hw inWX6 tyX6 tyX6_ok nmX6 hown hK hP hD hS (gY (x := (va_up x 12 (va_up (x 12) 3 (upd (upd ((x 12) 3) 0 (((x p1) 0) 12)) 1 (((x p1) 0) 13))))) (r := 3) (f := (upd (upd ((x 12) 3) 0 (((x p1) 0) 12)) 1 (((x p1) 0) 13))) (by decide) ((congrFun (va_up_self _ _ _) _).trans (va_up_self _ _ _))) rfl 2 (by decide) k_254 rfl rfl (by decide +kernel) rfl rfl (Nat.le_of_ble_eq_true rfl) dX6_keep_18 ((sT (x := x) (r := 3) (o := (va_up (x 12) 3 (upd (upd ((x 12) 3) 0 (((x p1) 0) 12)) 1 (((x p1) 0) 13)))) (g := (upd (upd (upd ((x 12) 3) 0 (((x p1) 0) 12)) 1 (((x p1) 0) 13)) 2 0)) (by decide)).trans (congrArg (fun z => cW cy ad en (va_up x 12 z)) (up_up _ _ _ _))) (fun H locs hP hD hS => ?_)
  refine lv_aload_n hx hb dX6_keep_21 rfl (lv_at hl 0 rfl) ?_
  refine lv_iconst (v := 0) hx hb dX6_keep_22 (by decide) ?_
  refine put' (ci := 8) (fs := [.int ((upd (upd (upd ((x 12) 3) 0 (((x p1) 0) 12)) 1 (((x p1) 0) 13)) 2 0) 0), .int ((upd (upd (upd ((x 12) 3) 0 (((x p1) 0) 12)) 1 (((x p1) 0) 13)) 2 0) 1), .int ((upd (upd (upd ((x 12) 3) 0 (((x p1) 0) 12)) 1 (((x p1) 0) 13)) 2 0) 2), .int ((upd (upd (upd ((x 12) 3) 0 (((x p1) 0) 12)) 1 (((x p1) 0) 13)) 2 0) 3)]) (v := .int 0) (ty := .int) (ws' := (cW cy ad en (va_up x 12 (va_up (x 12) 3 (upd (upd (upd (upd ((x 12) 3) 0 (((x p1) 0) 12)) 1 (((x p1) 0) 13)) 2 0) 3 0))))) hx hb hw inWX6 tyX6 tyX6_ok nmX6 hown hK hP hD hS (gY (x := (va_up x 12 (va_up (x 12) 3 (upd (upd (upd ((x 12) 3) 0 (((x p1) 0) 12)) 1 (((x p1) 0) 13)) 2 0)))) (r := 3) (f := (upd (upd (upd ((x 12) 3) 0 (((x p1) 0) 12)) 1 (((x p1) 0) 13)) 2 0)) (by decide) ((congrFun (va_up_self _ _ _) _).trans (va_up_self _ _ _))) rfl 3 (by decide) k_256 rfl rfl (by decide +kernel) rfl rfl (Nat.le_of_ble_eq_true rfl) dX6_keep_23 ((sT (x := x) (r := 3) (o := (va_up (x 12) 3 (upd (upd (upd ((x 12) 3) 0 (((x p1) 0) 12)) 1 (((x p1) 0) 13)) 2 0))) (g := (upd (upd (upd (upd ((x 12) 3) 0 (((x p1) 0) 12)) 1 (((x p1) 0) 13)) 2 0) 3 0)) (by decide)).trans (congrArg (fun z => cW cy ad en (va_up x 12 z)) (up_up _ _ _ _))) (fun H locs hP hD hS => ?_)
  cases hF
  exact hret _ _ _ _ _ hP hD hS rfl dX6_keep_26
def D_X6_keepOrder (x : Mem) (p1 : Int32) (p2 : Nat) : (Mem) := (va_up x 12 (va_up (x 12) 3 (upd (upd (upd (upd ((x 12) 3) 0 10) 1 p1) 2 (((x p2) 0) 12)) 3 (((x p2) 0) 13))))
abbrev rm_X6_keepOrder : Room := { frames := 0, cells := 0, slots := 0, locals := 0 }
set_option maxHeartbeats 4000000 in
set_option maxRecDepth 100000 in
theorem met_X6_keepOrder (l : Launch) (D : va_G) (cy : Nat → ClassId) (sz : Nat) (ad : Nat → Nat → Nat) (en g : Nat → Nat) (x : Mem) (p1 : Int32) (p2 : Nat) (hp2 : p2 < 12)  (t' : Mem) (hF : D_X6_keepOrder x p1 p2 = t') : MV l yX6_keepOrder cX6_keepOrder 3 rm_X6_keepOrder D cy (cW cy ad en x) sz (fun _ => True) [.ref (ad 12 3), .int p1, .ref (ad p2 0)] (cW cy ad en t') := by
  refine MV.of (by decide +kernel) (Nat.le_of_ble_eq_true rfl) ?_
  intro p e s m args below meth c A ls Q hAt _ hP hD hA hS hl hret
  obtain ⟨hx, hb, hr, hml, hown, hw, hlk, hK, hN⟩ := hAt
  have hown : s.vm.findClass "CloudDeeds$Reasons" = some m.cls := hown
  have hl : lv_has ls 3 [(0, .ref (ad 12 3)), (1, .int p1), (2, .ref (ad p2 0))] := hl
  refine lv_aload_n hx hb dX6_keepOrder_0 rfl (lv_at hl 0 rfl) ?_
  refine lv_bipush (v := 10) hx hb dX6_keepOrder_1 (by decide) ?_
  refine put' (ci := 8) (fs := [.int (((x 12) 3) 0), .int (((x 12) 3) 1), .int (((x 12) 3) 2), .int (((x 12) 3) 3)]) (v := .int 10) (ty := .int) (ws' := (cW cy ad en (va_up x 12 (va_up (x 12) 3 (upd ((x 12) 3) 0 10))))) hx hb hw inWX6 tyX6 tyX6_ok nmX6 hown hK hP hD hS (gY (x := x) (r := 3) (f := ((x 12) 3)) (by decide) ((congrFun rfl _).trans rfl)) rfl 0 (by decide) k_250 rfl rfl (by decide +kernel) rfl rfl (Nat.le_of_ble_eq_true rfl) dX6_keepOrder_3 ((sY (x := x) (r := 3) (g := (upd ((x 12) 3) 0 10)) (by decide)).trans (congrArg (fun z => cW cy ad en (va_up x 12 (va_up z 3 (upd ((x 12) 3) 0 10)))) rfl)) (fun H locs hP hD hS => ?_)
  refine lv_aload_n hx hb dX6_keepOrder_6 rfl (lv_at hl 0 rfl) ?_
  refine lv_iload_n hx hb dX6_keepOrder_7 rfl (lv_at hl 1 rfl) ?_
  refine put' (ci := 8) (fs := [.int ((upd ((x 12) 3) 0 10) 0), .int ((upd ((x 12) 3) 0 10) 1), .int ((upd ((x 12) 3) 0 10) 2), .int ((upd ((x 12) 3) 0 10) 3)]) (v := .int p1) (ty := .int) (ws' := (cW cy ad en (va_up x 12 (va_up (x 12) 3 (upd (upd ((x 12) 3) 0 10) 1 p1))))) hx hb hw inWX6 tyX6 tyX6_ok nmX6 hown hK hP hD hS (gY (x := (va_up x 12 (va_up (x 12) 3 (upd ((x 12) 3) 0 10)))) (r := 3) (f := (upd ((x 12) 3) 0 10)) (by decide) ((congrFun (va_up_self _ _ _) _).trans (va_up_self _ _ _))) rfl 1 (by decide) k_252 rfl rfl (by decide +kernel) rfl rfl (Nat.le_of_ble_eq_true rfl) dX6_keepOrder_8 ((sT (x := x) (r := 3) (o := (va_up (x 12) 3 (upd ((x 12) 3) 0 10))) (g := (upd (upd ((x 12) 3) 0 10) 1 p1)) (by decide)).trans (congrArg (fun z => cW cy ad en (va_up x 12 z)) (up_up _ _ _ _))) (fun H locs hP hD hS => ?_)
  refine lv_aload_n hx hb dX6_keepOrder_11 rfl (lv_at hl 0 rfl) ?_
  refine lv_aload_n hx hb dX6_keepOrder_12 rfl (lv_at hl 2 rfl) ?_
  refine getN' (ci := 6) (fs := oF (ad p2) ((x p2) 0)) (v := .int (((x p2) 0) 12)) hx hb hw hN inWX4 hown hK hP (gX (x := (va_up x 12 (va_up (x 12) 3 (upd (upd ((x 12) 3) 0 10) 1 p1)))) (k := p2) (r := 0) (f := ((x p2) 0)) hp2 (by decide) ((congrFun ((va_up_ne _ _ (by omega)).trans rfl) _).trans rfl)) rfl 12 (by decide) n_192 rfl rfl dX6_keepOrder_13 ?_
  refine put' (ci := 8) (fs := [.int ((upd (upd ((x 12) 3) 0 10) 1 p1) 0), .int ((upd (upd ((x 12) 3) 0 10) 1 p1) 1), .int ((upd (upd ((x 12) 3) 0 10) 1 p1) 2), .int ((upd (upd ((x 12) 3) 0 10) 1 p1) 3)]) (v := .int (((x p2) 0) 12)) (ty := .int) (ws' := (cW cy ad en (va_up x 12 (va_up (x 12) 3 (upd (upd (upd ((x 12) 3) 0 10) 1 p1) 2 (((x p2) 0) 12)))))) hx hb hw inWX6 tyX6 tyX6_ok nmX6 hown hK hP hD hS (gY (x := (va_up x 12 (va_up (x 12) 3 (upd (upd ((x 12) 3) 0 10) 1 p1)))) (r := 3) (f := (upd (upd ((x 12) 3) 0 10) 1 p1)) (by decide) ((congrFun (va_up_self _ _ _) _).trans (va_up_self _ _ _))) rfl 2 (by decide) k_254 rfl rfl (by decide +kernel) rfl rfl (Nat.le_of_ble_eq_true rfl) dX6_keepOrder_16 ((sT (x := x) (r := 3) (o := (va_up (x 12) 3 (upd (upd ((x 12) 3) 0 10) 1 p1))) (g := (upd (upd (upd ((x 12) 3) 0 10) 1 p1) 2 (((x p2) 0) 12))) (by decide)).trans (congrArg (fun z => cW cy ad en (va_up x 12 z)) (up_up _ _ _ _))) (fun H locs hP hD hS => ?_)
  refine lv_aload_n hx hb dX6_keepOrder_19 rfl (lv_at hl 0 rfl) ?_
  refine lv_aload_n hx hb dX6_keepOrder_20 rfl (lv_at hl 2 rfl) ?_
  refine getN' (ci := 6) (fs := oF (ad p2) ((x p2) 0)) (v := .int (((x p2) 0) 13)) hx hb hw hN inWX4 hown hK hP (gX (x := (va_up x 12 (va_up (x 12) 3 (upd (upd (upd ((x 12) 3) 0 10) 1 p1) 2 (((x p2) 0) 12))))) (k := p2) (r := 0) (f := ((x p2) 0)) hp2 (by decide) ((congrFun ((va_up_ne _ _ (by omega)).trans rfl) _).trans rfl)) rfl 13 (by decide) n_194 rfl rfl dX6_keepOrder_21 ?_
  refine put' (ci := 8) (fs := [.int ((upd (upd (upd ((x 12) 3) 0 10) 1 p1) 2 (((x p2) 0) 12)) 0), .int ((upd (upd (upd ((x 12) 3) 0 10) 1 p1) 2 (((x p2) 0) 12)) 1), .int ((upd (upd (upd ((x 12) 3) 0 10) 1 p1) 2 (((x p2) 0) 12)) 2), .int ((upd (upd (upd ((x 12) 3) 0 10) 1 p1) 2 (((x p2) 0) 12)) 3)]) (v := .int (((x p2) 0) 13)) (ty := .int) (ws' := (cW cy ad en (va_up x 12 (va_up (x 12) 3 (upd (upd (upd (upd ((x 12) 3) 0 10) 1 p1) 2 (((x p2) 0) 12)) 3 (((x p2) 0) 13)))))) hx hb hw inWX6 tyX6 tyX6_ok nmX6 hown hK hP hD hS (gY (x := (va_up x 12 (va_up (x 12) 3 (upd (upd (upd ((x 12) 3) 0 10) 1 p1) 2 (((x p2) 0) 12))))) (r := 3) (f := (upd (upd (upd ((x 12) 3) 0 10) 1 p1) 2 (((x p2) 0) 12))) (by decide) ((congrFun (va_up_self _ _ _) _).trans (va_up_self _ _ _))) rfl 3 (by decide) k_256 rfl rfl (by decide +kernel) rfl rfl (Nat.le_of_ble_eq_true rfl) dX6_keepOrder_24 ((sT (x := x) (r := 3) (o := (va_up (x 12) 3 (upd (upd (upd ((x 12) 3) 0 10) 1 p1) 2 (((x p2) 0) 12)))) (g := (upd (upd (upd (upd ((x 12) 3) 0 10) 1 p1) 2 (((x p2) 0) 12)) 3 (((x p2) 0) 13))) (by decide)).trans (congrArg (fun z => cW cy ad en (va_up x 12 z)) (up_up _ _ _ _))) (fun H locs hP hD hS => ?_)
  cases hF
  exact hret _ _ _ _ _ hP hD hS rfl dX6_keepOrder_27
def D_X2_clear (x : Mem) : (Mem) := (va_up x 12 (va_up (x 12) 1 (upd ((x 12) 1) 2 0)))
abbrev rm_X2_clear : Room := { frames := 0, cells := 0, slots := 0, locals := 0 }
set_option maxHeartbeats 4000000 in
set_option maxRecDepth 100000 in
theorem met_X2_clear (l : Launch) (D : va_G) (cy : Nat → ClassId) (sz : Nat) (ad : Nat → Nat → Nat) (en g : Nat → Nat) (x : Mem)  (t' : Mem) (hF : D_X2_clear x = t') : MV l yX2_clear cX2_clear 1 rm_X2_clear D cy (cW cy ad en x) sz (fun _ => True) [.ref (ad 12 1)] (cW cy ad en t') := by
  refine MV.of (by decide +kernel) (Nat.le_of_ble_eq_true rfl) ?_
  intro p e s m args below meth c A ls Q hAt _ hP hD hA hS hl hret
  obtain ⟨hx, hb, hr, hml, hown, hw, hlk, hK, hN⟩ := hAt
  have hown : s.vm.findClass "CloudDeeds$History" = some m.cls := hown
  have hl : lv_has ls 1 [(0, .ref (ad 12 1))] := hl
  refine lv_aload_n hx hb dX2_clear_0 rfl (lv_at hl 0 rfl) ?_
  refine lv_iconst (v := 0) hx hb dX2_clear_1 (by decide) ?_
  refine put' (ci := 5) (fs := [.ref (ad 12 2), .int (((x 12) 1) 1), .int (((x 12) 1) 2)]) (v := .int 0) (ty := .int) (ws' := (cW cy ad en (va_up x 12 (va_up (x 12) 1 (upd ((x 12) 1) 2 0))))) hx hb hw inWX2 tyX2 tyX2_ok nmX2 hown hK hP hD hS (gY (x := x) (r := 1) (f := ((x 12) 1)) (by decide) ((congrFun rfl _).trans rfl)) rfl 2 (by decide) k_235 rfl rfl (by decide +kernel) rfl rfl (Nat.le_of_ble_eq_true rfl) dX2_clear_2 ((sY (x := x) (r := 1) (g := (upd ((x 12) 1) 2 0)) (by decide)).trans (congrArg (fun z => cW cy ad en (va_up x 12 (va_up z 1 (upd ((x 12) 1) 2 0)))) rfl)) (fun H locs hP hD hS => ?_)
  cases hF
  exact hret _ _ _ _ _ hP hD hS rfl dX2_clear_5
def D_X5_start (x : Mem) (j : Nat) (p1 : Nat) : (Mem) := (va_up x 12 (va_up (x 12) (j + 7) (upd (upd ((x 12) (j + 7)) 0 (nI p1)) 2 0)))
abbrev rm_X5_start : Room := { frames := 0, cells := 0, slots := 0, locals := 0 }
set_option maxHeartbeats 4000000 in
set_option maxRecDepth 100000 in
theorem met_X5_start (l : Launch) (D : va_G) (cy : Nat → ClassId) (sz : Nat) (ad : Nat → Nat → Nat) (en g : Nat → Nat) (x : Mem) (j : Nat) (hj : j + 7 < 19) (p1 : Nat) (hp1 : p1 < 9)  (t' : Mem) (hF : D_X5_start x j p1 = t') : MV l yX5_start cX5_start 2 rm_X5_start D cy (cW cy ad en x) sz (fun _ => True) [.ref (ad 12 (j + 7)), .ref (en p1)] (cW cy ad en t') := by
  refine MV.of (by decide +kernel) (Nat.le_of_ble_eq_true rfl) ?_
  intro p e s m args below meth c A ls Q hAt _ hP hD hA hS hl hret
  obtain ⟨hx, hb, hr, hml, hown, hw, hlk, hK, hN⟩ := hAt
  have hown : s.vm.findClass "CloudDeeds$Order" = some m.cls := hown
  have hl : lv_has ls 2 [(0, .ref (ad 12 (j + 7))), (1, .ref (en p1))] := hl
  refine lv_aload_n hx hb dX5_start_0 rfl (lv_at hl 0 rfl) ?_
  refine lv_aload_n hx hb dX5_start_1 rfl (lv_at hl 1 rfl) ?_
  refine put' (ci := 7) (fs := [.ref (en (((x 12) (j + 7)) 0).toNatClampNeg), .ref (ad 12 (j + 19)), .int (((x 12) (j + 7)) 2)]) (v := .ref (en p1)) (ty := (.object "CloudDeeds$Kind")) (ws' := (cW cy ad en (va_up x 12 (va_up (x 12) (j + 7) (upd ((x 12) (j + 7)) 0 (nI p1)))))) hx hb hw inWX5 tyX5 tyX5_ok nmX5 hown hK hP hD hS (gYord (x := x) (j := j) (f := ((x 12) (j + 7))) hj ((congrFun rfl _).trans rfl)) rfl 0 (by decide) k_282 rfl rfl (by decide +kernel) rfl rfl (Nat.le_of_ble_eq_true rfl) dX5_start_2 ((sYkind (x := x) (j := j) (f := ((x 12) (j + 7))) (i := p1) hj hp1).trans (congrArg (fun z => cW cy ad en (va_up x 12 (va_up z (j + 7) (upd ((x 12) (j + 7)) 0 (nI p1))))) rfl)) (fun H locs hP hD hS => ?_)
  refine lv_aload_n hx hb dX5_start_5 rfl (lv_at hl 0 rfl) ?_
  refine lv_iconst (v := 0) hx hb dX5_start_6 (by decide) ?_
  refine put' (ci := 7) (fs := [.ref (en ((upd ((x 12) (j + 7)) 0 (nI p1)) 0).toNatClampNeg), .ref (ad 12 (j + 19)), .int ((upd ((x 12) (j + 7)) 0 (nI p1)) 2)]) (v := .int 0) (ty := .int) (ws' := (cW cy ad en (va_up x 12 (va_up (x 12) (j + 7) (upd (upd ((x 12) (j + 7)) 0 (nI p1)) 2 0))))) hx hb hw inWX5 tyX5 tyX5_ok nmX5 hown hK hP hD hS (gYord (x := (va_up x 12 (va_up (x 12) (j + 7) (upd ((x 12) (j + 7)) 0 (nI p1))))) (j := j) (f := (upd ((x 12) (j + 7)) 0 (nI p1))) hj ((congrFun (va_up_self _ _ _) _).trans (va_up_self _ _ _))) rfl 2 (by decide) k_284 rfl rfl (by decide +kernel) rfl rfl (Nat.le_of_ble_eq_true rfl) dX5_start_7 ((sTord (x := x) (j := j) (o := (va_up (x 12) (j + 7) (upd ((x 12) (j + 7)) 0 (nI p1)))) (g := (upd (upd ((x 12) (j + 7)) 0 (nI p1)) 2 0)) hj).trans (congrArg (fun z => cW cy ad en (va_up x 12 z)) (up_up _ _ _ _))) (fun H locs hP hD hS => ?_)
  cases hF
  exact hret _ _ _ _ _ hP hD hS rfl dX5_start_10
def D_X5_add (x : Mem) (j : Nat) (p1 : Int32) : Option (Int32 × (Mem)) := if (D_X9_isWithin (((x 12) (j + 7)) 2) 3) = 0 then (some (0, x)) else (if inb (((x 12) (j + 7)) 2) 3 then (some (1, (va_up x 12 (va_up (va_up (x 12) (j + 19) (upd ((x 12) (j + 19)) ((((x 12) (j + 7)) 2).toNatClampNeg) p1)) (j + 7) (upd ((va_up (x 12) (j + 19) (upd ((x 12) (j + 19)) ((((x 12) (j + 7)) 2).toNatClampNeg) p1)) (j + 7)) 2 ((((va_up (x 12) (j + 19) (upd ((x 12) (j + 19)) ((((x 12) (j + 7)) 2).toNatClampNeg) p1)) (j + 7)) 2) + 1)))))) else none)
abbrev rm_X5_add : Room := { frames := 1, cells := 0, slots := 0, locals := 21 }
set_option maxHeartbeats 4000000 in
set_option maxRecDepth 100000 in
theorem met_X5_add (l : Launch) (D : va_G) (cy : Nat → ClassId) (sz : Nat) (ad : Nat → Nat → Nat) (en g : Nat → Nat) (x : Mem) (j : Nat) (hj : j + 7 < 19) (p1 : Int32)  (r : Int32) (t' : Mem) (hF : D_X5_add x j p1 = some (r, t')) : MI l yX5_add cX5_add 2 (some .boolean) rm_X5_add D cy (cW cy ad en x) sz (fun _ => True) [.ref (ad 12 (j + 7)), .int p1] r (cW cy ad en t') := by
  refine MZ.of (by decide +kernel) (Nat.le_of_ble_eq_true rfl) ?_
  intro p e s m args below meth c A ls Q hAt _ hP hD hA hS hl hret
  obtain ⟨hx, hb, hr, hml, hown, hw, hlk, hK, hN⟩ := hAt
  have hown : s.vm.findClass "CloudDeeds$Order" = some m.cls := hown
  have hl : lv_has ls 2 [(0, .ref (ad 12 (j + 7))), (1, .int p1)] := hl
  refine lv_aload_n hx hb dX5_add_0 rfl (lv_at hl 0 rfl) ?_
  refine get' (ci := 7) (fs := [.ref (en (((x 12) (j + 7)) 0).toNatClampNeg), .ref (ad 12 (j + 19)), .int (((x 12) (j + 7)) 2)]) (v := .int (((x 12) (j + 7)) 2)) hx hb hw inWX5 hown hK hP (gYord (x := x) (j := j) (f := ((x 12) (j + 7))) hj ((congrFun rfl _).trans rfl)) rfl 2 (by decide) k_284 rfl rfl dX5_add_1 ?_
  refine lv_aload_n hx hb dX5_add_4 rfl (lv_at hl 0 rfl) ?_
  refine get' (ci := 7) (fs := [.ref (en (((x 12) (j + 7)) 0).toNatClampNeg), .ref (ad 12 (j + 19)), .int (((x 12) (j + 7)) 2)]) (v := .ref (ad 12 (j + 19))) hx hb hw inWX5 hown hK hP (gYord (x := x) (j := j) (f := ((x 12) (j + 7))) hj ((congrFun rfl _).trans rfl)) rfl 1 (by decide) k_283 rfl rfl dX5_add_5 ?_
  refine va_alen (v := 3) hx hb hK hP _ 0 (gYnum (x := x) (j := j) (f := ((x 12) (j + 19))) hj ((congrFun rfl _).trans rfl)) rfl (show Int32.ofNat 3 = 3 by decide) dX5_add_8 ?_
  refine cSN_i (As := [.int (((x 12) (j + 7)) 2), .int 3]) (rest := []) hx hb hml hown hw hK hN hA hl.1 hP hD hS n_1152 k_385 k_76 k_386 (met_X9_isWithin l D cy _ (cW cy ad en x) (((x 12) (j + 7)) 2) 3 (D_X9_isWithin (((x 12) (j + 7)) 2) 3) rfl) (fun _ _ _ => trivial) Xok_T ⟨rfl, rfl⟩ (n := 2) (by decide +kernel) rfl ⟨Nat.le_of_ble_eq_true rfl, Nat.le_of_ble_eq_true rfl⟩ ⟨Nat.le_of_ble_eq_true rfl, Nat.le_of_ble_eq_true rfl⟩ (Nat.le_of_ble_eq_true rfl) rfl dX5_add_9 (fun H locs hP hD hS => ?_)
  refine lv_if_ne (tgt := 17) hx hb dX5_add_12 (by decide) (fun h4 => ?_) (fun h4 => ?_)
  · replace hF := (if_neg h4).symm.trans hF
    refine lv_aload_n hx hb dX5_add_17 rfl (lv_at hl 0 rfl) ?_
    refine get' (ci := 7) (fs := [.ref (en (((x 12) (j + 7)) 0).toNatClampNeg), .ref (ad 12 (j + 19)), .int (((x 12) (j + 7)) 2)]) (v := .ref (ad 12 (j + 19))) hx hb hw inWX5 hown hK hP (gYord (x := x) (j := j) (f := ((x 12) (j + 7))) hj ((congrFun rfl _).trans rfl)) rfl 1 (by decide) k_283 rfl rfl dX5_add_18 ?_
    refine lv_aload_n hx hb dX5_add_21 rfl (lv_at hl 0 rfl) ?_
    refine get' (ci := 7) (fs := [.ref (en (((x 12) (j + 7)) 0).toNatClampNeg), .ref (ad 12 (j + 19)), .int (((x 12) (j + 7)) 2)]) (v := .int (((x 12) (j + 7)) 2)) hx hb hw inWX5 hown hK hP (gYord (x := x) (j := j) (f := ((x 12) (j + 7))) hj ((congrFun rfl _).trans rfl)) rfl 2 (by decide) k_284 rfl rfl dX5_add_22 ?_
    refine lv_iload_n hx hb dX5_add_25 rfl (lv_at hl 1 rfl) ?_
    obtain ⟨h5, hF⟩ := ite_some hF
    refine iast' (n := 3) (f := ((x 12) (j + 19))) (ws' := (cW cy ad en (va_up x 12 (va_up (x 12) (j + 19) (upd ((x 12) (j + 19)) ((((x 12) (j + 7)) 2).toNatClampNeg) p1))))) hx hb hK hP hD hS (gYnum (x := x) (j := j) (f := ((x 12) (j + 19))) hj ((congrFun rfl _).trans rfl)) (t0 := 0) rfl (vp_inb h5) dX5_add_26 ((sYnum (x := x) (j := j) (g := (upd ((x 12) (j + 19)) ((((x 12) (j + 7)) 2).toNatClampNeg) p1)) hj).trans (congrArg (fun z => cW cy ad en (va_up x 12 (va_up z (j + 19) (upd ((x 12) (j + 19)) ((((x 12) (j + 7)) 2).toNatClampNeg) p1)))) rfl)) (fun H locs hP hD hS => ?_)
    refine lv_aload_n hx hb dX5_add_27 rfl (lv_at hl 0 rfl) ?_
    refine lv_dup hx hb dX5_add_28 rfl ?_
    refine get' (ci := 7) (fs := [.ref (en (((va_up (x 12) (j + 19) (upd ((x 12) (j + 19)) ((((x 12) (j + 7)) 2).toNatClampNeg) p1)) (j + 7)) 0).toNatClampNeg), .ref (ad 12 (j + 19)), .int (((va_up (x 12) (j + 19) (upd ((x 12) (j + 19)) ((((x 12) (j + 7)) 2).toNatClampNeg) p1)) (j + 7)) 2)]) (v := .int (((va_up (x 12) (j + 19) (upd ((x 12) (j + 19)) ((((x 12) (j + 7)) 2).toNatClampNeg) p1)) (j + 7)) 2)) hx hb hw inWX5 hown hK hP (gYord (x := (va_up x 12 (va_up (x 12) (j + 19) (upd ((x 12) (j + 19)) ((((x 12) (j + 7)) 2).toNatClampNeg) p1)))) (j := j) (f := ((va_up (x 12) (j + 19) (upd ((x 12) (j + 19)) ((((x 12) (j + 7)) 2).toNatClampNeg) p1)) (j + 7))) hj ((congrFun (va_up_self _ _ _) _).trans rfl)) rfl 2 (by decide) k_284 rfl rfl dX5_add_29 ?_
    refine lv_iconst (v := 1) hx hb dX5_add_32 (by decide) ?_
    refine lv_iadd hx hb dX5_add_33 ?_
    refine put' (ci := 7) (fs := [.ref (en (((va_up (x 12) (j + 19) (upd ((x 12) (j + 19)) ((((x 12) (j + 7)) 2).toNatClampNeg) p1)) (j + 7)) 0).toNatClampNeg), .ref (ad 12 (j + 19)), .int (((va_up (x 12) (j + 19) (upd ((x 12) (j + 19)) ((((x 12) (j + 7)) 2).toNatClampNeg) p1)) (j + 7)) 2)]) (v := .int ((((va_up (x 12) (j + 19) (upd ((x 12) (j + 19)) ((((x 12) (j + 7)) 2).toNatClampNeg) p1)) (j + 7)) 2) + 1)) (ty := .int) (ws' := (cW cy ad en (va_up x 12 (va_up (va_up (x 12) (j + 19) (upd ((x 12) (j + 19)) ((((x 12) (j + 7)) 2).toNatClampNeg) p1)) (j + 7) (upd ((va_up (x 12) (j + 19) (upd ((x 12) (j + 19)) ((((x 12) (j + 7)) 2).toNatClampNeg) p1)) (j + 7)) 2 ((((va_up (x 12) (j + 19) (upd ((x 12) (j + 19)) ((((x 12) (j + 7)) 2).toNatClampNeg) p1)) (j + 7)) 2) + 1)))))) hx hb hw inWX5 tyX5 tyX5_ok nmX5 hown hK hP hD hS (gYord (x := (va_up x 12 (va_up (x 12) (j + 19) (upd ((x 12) (j + 19)) ((((x 12) (j + 7)) 2).toNatClampNeg) p1)))) (j := j) (f := ((va_up (x 12) (j + 19) (upd ((x 12) (j + 19)) ((((x 12) (j + 7)) 2).toNatClampNeg) p1)) (j + 7))) hj ((congrFun (va_up_self _ _ _) _).trans rfl)) rfl 2 (by decide) k_284 rfl rfl (by decide +kernel) rfl rfl (Nat.le_of_ble_eq_true rfl) dX5_add_34 (sTord (x := x) (j := j) (o := (va_up (x 12) (j + 19) (upd ((x 12) (j + 19)) ((((x 12) (j + 7)) 2).toNatClampNeg) p1))) (g := (upd ((va_up (x 12) (j + 19) (upd ((x 12) (j + 19)) ((((x 12) (j + 7)) 2).toNatClampNeg) p1)) (j + 7)) 2 ((((va_up (x 12) (j + 19) (upd ((x 12) (j + 19)) ((((x 12) (j + 7)) 2).toNatClampNeg) p1)) (j + 7)) 2) + 1))) hj) (fun H locs hP hD hS => ?_)
    refine lv_iconst (v := 1) hx hb dX5_add_37 (by decide) ?_
    cases hF
    exact hret _ _ _ _ _ _ hP hD hS rfl rfl rfl dX5_add_38
  · replace hF := (if_pos h4).symm.trans hF
    refine lv_iconst (v := 0) hx hb dX5_add_15 (by decide) ?_
    cases hF
    exact hret _ _ _ _ _ _ hP hD hS rfl rfl rfl dX5_add_16
def D_X4_carryOut (o : Nat → Nat → Int32) (p1 : Nat) (p2 : Int32) (p3 : Int32) (p4 : Int32) : Option (Int32 × (Nat → Nat → Int32)) := if (nI ((p1 + 1) % 9)) = 1 then ((D_X4_letCome o p2 p3 p4).bind (fun (r5, o6) => some (r5, o6))) else (if (nI ((p1 + 1) % 9)) = 2 then ((D_X4_giveVineyard o p2 p3).bind (fun (r9, o10) => some (r9, o10))) else (if (nI ((p1 + 1) % 9)) = 3 then ((D_X4_giveTitle o p2 p3).bind (fun (r13, o14) => some (r13, o14))) else (if (nI ((p1 + 1) % 9)) = 4 then ((D_X4_sellTo o p2 p3 p4).bind (fun (r17, o18) => some (r17, o18))) else (if (nI ((p1 + 1) % 9)) = 5 then ((D_X4_pledgeTo o p2 p3).bind (fun (r21, o22) => some (r21, o22))) else (if (nI ((p1 + 1) % 9)) = 6 then ((D_X4_redeemPledge o p2).bind (fun (r25, o26) => some (r25, o26))) else (if (nI ((p1 + 1) % 9)) = 7 then ((D_X4_blow o p2).bind (fun (r29, o30) => some (r29, o30))) else (if (nI ((p1 + 1) % 9)) = 8 then ((D_X4_hailDown o p2).bind (fun (r33, o34) => some (r33, o34))) else ((D_X4_letDawn o).bind (fun (r36, o37) => some (r36, o37))))))))))
abbrev rm_X4_carryOut : Room := { frames := 4, cells := 0, slots := 0, locals := 90 }
set_option maxHeartbeats 4000000 in
set_option maxRecDepth 100000 in
theorem met_X4_carryOut (l : Launch) (D : va_G) (cy : Nat → ClassId) (sz : Nat) (ad : Nat → Nat → Nat) (en g : Nat → Nat) (x : Mem) (k : Nat) (hk : k < 12) (o : Nat → Nat → Int32) (p1 : Nat) (hp1 : p1 < 9) (p2 : Int32) (p3 : Int32) (p4 : Int32)  (r : Int32) (t' : Nat → Nat → Int32) (hF : D_X4_carryOut o p1 p2 p3 p4 = some (r, t')) : MIS l yX4_carryOut cX4_carryOut 5 (some .int) rm_X4_carryOut D cy en g (cW cy ad en (va_up x k o)) sz [.ref (ad k 0), .ref (en p1), .int p2, .int p3, .int p4] r (cW cy ad en (va_up x k t')) := by
  refine MIS.of (by decide +kernel) (Nat.le_of_ble_eq_true rfl) ?_
  intro p e s m args below meth c A ls Q hAt hST hP hD hA hS hl hret
  obtain ⟨hx, hb, hr, hml, hown, hw, hlk, hK, hN⟩ := hAt
  have hown : s.vm.findClass "CloudDeeds$Office" = some m.cls := hown
  have hl : lv_has ls 5 [(0, .ref (ad k 0)), (1, .ref (en p1)), (2, .int p2), (3, .int p3), (4, .int p4)] := hl
  refine va_gets (n := "$SwitchMap$CloudDeeds$Kind") (v := .ref (g 1)) hx hb hST.2.2.2.2.2.2.1 hS hown (hw _ k_541) (fun _ h9 => h9) dX4_carryOut_0 ?_
  refine lv_aload_n hx hb dX4_carryOut_3 rfl (lv_at hl 1 rfl) ?_
  refine cU_i (As := []) (rest := [.ref (g 1)]) hx hb hml hown hw hK hN hA hl.1 hP hD hS k_543 k_544 k_546 k_547 k_84 k_548 rfl (met_Jx29ce0_ordinal_8abf5 l D cy _ en g (cW cy ad en (va_up x k o)) p1 hp1 (nI p1) rfl) (ST_call hST hS (free_all hD hS hA)) Xok_S (va_recvE hST.2.2.2.1 (i := p1) (show p1 < nmKind.length from hp1) hS) ⟨rfl, rfl⟩ (n := 0) (by decide +kernel) rfl ⟨Nat.le_of_ble_eq_true rfl, Nat.le_of_ble_eq_true rfl⟩ ⟨Nat.le_of_ble_eq_true rfl, Nat.le_of_ble_eq_true rfl⟩ (Nat.le_of_ble_eq_true rfl) rfl dX4_carryOut_4 (fun H locs hP hD hS => ?_)
  refine va_ti (v := .int (nI ((p1 + 1) % 9))) hx hb hST.2.2.2.2.2.2.2.1 hS (vp_in_nI hp1 (by decide)) (swv hp1) dX4_carryOut_7 ?_
  by_cases h4 : (nI ((p1 + 1) % 9)) = 1
  · replace hF := (if_pos h4).symm.trans hF
    refine lv_tableIn (tgt := 56) (off := 48) hx hb dX4_carryOut_8 (by rw [h4]; decide) (by rw [h4]; decide) (by rw [h4]; decide) (by decide) ?_
    refine lv_aload_n hx hb dX4_carryOut_56 rfl (lv_at hl 0 rfl) ?_
    refine lv_iload_n hx hb dX4_carryOut_57 rfl (lv_at hl 2 rfl) ?_
    refine lv_iload_n hx hb dX4_carryOut_58 rfl (lv_at hl 3 rfl) ?_
    refine lv_iload hx hb dX4_carryOut_59 (lv_at hl 4 rfl) ?_
    obtain ⟨⟨r5, o6⟩, hc7, hF⟩ := bind_some hF
    try dsimp only at hF
    refine cV_i (As := [.int p2, .int p3, .int p4]) (rest := []) hx hb hml hown hw hK hN hA hl.1 hP hD hS k_549 k_550 k_551 k_77 k_552 (met_X4_letCome l D cy _ ad en x k hk o p2 p3 p4 r5 o6 hc7) (fun _ _ _ => trivial) Xok_T (gO (x := x) (r := 0) (o := o) (f := (o 0)) hk (by decide) rfl) rfl ⟨rfl, rfl⟩ (n := 3) (by decide +kernel) rfl ⟨Nat.le_of_ble_eq_true rfl, Nat.le_of_ble_eq_true rfl⟩ ⟨Nat.le_of_ble_eq_true rfl, Nat.le_of_ble_eq_true rfl⟩ (Nat.le_of_ble_eq_true rfl) rfl dX4_carryOut_61 (fun H locs hP hD hS => ?_)
    cases hF
    exact hret _ _ _ _ _ _ hP hD hS rfl rfl dX4_carryOut_64
  · replace hF := (if_neg h4).symm.trans hF
    by_cases h8 : (nI ((p1 + 1) % 9)) = 2
    · replace hF := (if_pos h8).symm.trans hF
      refine lv_tableIn (tgt := 65) (off := 57) hx hb dX4_carryOut_8 (by rw [h8]; decide) (by rw [h8]; decide) (by rw [h8]; decide) (by decide) ?_
      refine lv_aload_n hx hb dX4_carryOut_65 rfl (lv_at hl 0 rfl) ?_
      refine lv_iload_n hx hb dX4_carryOut_66 rfl (lv_at hl 2 rfl) ?_
      refine lv_iload_n hx hb dX4_carryOut_67 rfl (lv_at hl 3 rfl) ?_
      obtain ⟨⟨r9, o10⟩, hc11, hF⟩ := bind_some hF
      try dsimp only at hF
      refine cV_i (As := [.int p2, .int p3]) (rest := []) hx hb hml hown hw hK hN hA hl.1 hP hD hS k_563 k_564 k_565 k_77 k_566 (met_X4_giveVineyard l D cy _ ad en x k hk o p2 p3 r9 o10 hc11) (fun _ _ _ => trivial) Xok_T (gO (x := x) (r := 0) (o := o) (f := (o 0)) hk (by decide) rfl) rfl ⟨rfl, rfl⟩ (n := 2) (by decide +kernel) rfl ⟨Nat.le_of_ble_eq_true rfl, Nat.le_of_ble_eq_true rfl⟩ ⟨Nat.le_of_ble_eq_true rfl, Nat.le_of_ble_eq_true rfl⟩ (Nat.le_of_ble_eq_true rfl) rfl dX4_carryOut_68 (fun H locs hP hD hS => ?_)
      cases hF
      exact hret _ _ _ _ _ _ hP hD hS rfl rfl dX4_carryOut_71
    · replace hF := (if_neg h8).symm.trans hF
      by_cases h12 : (nI ((p1 + 1) % 9)) = 3
      · replace hF := (if_pos h12).symm.trans hF
        refine lv_tableIn (tgt := 72) (off := 64) hx hb dX4_carryOut_8 (by rw [h12]; decide) (by rw [h12]; decide) (by rw [h12]; decide) (by decide) ?_
        refine lv_aload_n hx hb dX4_carryOut_72 rfl (lv_at hl 0 rfl) ?_
        refine lv_iload_n hx hb dX4_carryOut_73 rfl (lv_at hl 2 rfl) ?_
        refine lv_iload_n hx hb dX4_carryOut_74 rfl (lv_at hl 3 rfl) ?_
        obtain ⟨⟨r13, o14⟩, hc15, hF⟩ := bind_some hF
        try dsimp only at hF
        refine cV_i (As := [.int p2, .int p3]) (rest := []) hx hb hml hown hw hK hN hA hl.1 hP hD hS k_575 k_576 k_577 k_77 k_578 (met_X4_giveTitle l D cy _ ad en x k hk o p2 p3 r13 o14 hc15) (fun _ _ _ => trivial) Xok_T (gO (x := x) (r := 0) (o := o) (f := (o 0)) hk (by decide) rfl) rfl ⟨rfl, rfl⟩ (n := 2) (by decide +kernel) rfl ⟨Nat.le_of_ble_eq_true rfl, Nat.le_of_ble_eq_true rfl⟩ ⟨Nat.le_of_ble_eq_true rfl, Nat.le_of_ble_eq_true rfl⟩ (Nat.le_of_ble_eq_true rfl) rfl dX4_carryOut_75 (fun H locs hP hD hS => ?_)
        cases hF
        exact hret _ _ _ _ _ _ hP hD hS rfl rfl dX4_carryOut_78
      · replace hF := (if_neg h12).symm.trans hF
        by_cases h16 : (nI ((p1 + 1) % 9)) = 4
        · replace hF := (if_pos h16).symm.trans hF
          refine lv_tableIn (tgt := 79) (off := 71) hx hb dX4_carryOut_8 (by rw [h16]; decide) (by rw [h16]; decide) (by rw [h16]; decide) (by decide) ?_
          refine lv_aload_n hx hb dX4_carryOut_79 rfl (lv_at hl 0 rfl) ?_
          refine lv_iload_n hx hb dX4_carryOut_80 rfl (lv_at hl 2 rfl) ?_
          refine lv_iload_n hx hb dX4_carryOut_81 rfl (lv_at hl 3 rfl) ?_
          refine lv_iload hx hb dX4_carryOut_82 (lv_at hl 4 rfl) ?_
          obtain ⟨⟨r17, o18⟩, hc19, hF⟩ := bind_some hF
          try dsimp only at hF
          refine cV_i (As := [.int p2, .int p3, .int p4]) (rest := []) hx hb hml hown hw hK hN hA hl.1 hP hD hS k_583 k_584 k_585 k_77 k_586 (met_X4_sellTo l D cy _ ad en x k hk o p2 p3 p4 r17 o18 hc19) (fun _ _ _ => trivial) Xok_T (gO (x := x) (r := 0) (o := o) (f := (o 0)) hk (by decide) rfl) rfl ⟨rfl, rfl⟩ (n := 3) (by decide +kernel) rfl ⟨Nat.le_of_ble_eq_true rfl, Nat.le_of_ble_eq_true rfl⟩ ⟨Nat.le_of_ble_eq_true rfl, Nat.le_of_ble_eq_true rfl⟩ (Nat.le_of_ble_eq_true rfl) rfl dX4_carryOut_84 (fun H locs hP hD hS => ?_)
          cases hF
          exact hret _ _ _ _ _ _ hP hD hS rfl rfl dX4_carryOut_87
        · replace hF := (if_neg h16).symm.trans hF
          by_cases h20 : (nI ((p1 + 1) % 9)) = 5
          · replace hF := (if_pos h20).symm.trans hF
            refine lv_tableIn (tgt := 88) (off := 80) hx hb dX4_carryOut_8 (by rw [h20]; decide) (by rw [h20]; decide) (by rw [h20]; decide) (by decide) ?_
            refine lv_aload_n hx hb dX4_carryOut_88 rfl (lv_at hl 0 rfl) ?_
            refine lv_iload_n hx hb dX4_carryOut_89 rfl (lv_at hl 2 rfl) ?_
            refine lv_iload_n hx hb dX4_carryOut_90 rfl (lv_at hl 3 rfl) ?_
            obtain ⟨⟨r21, o22⟩, hc23, hF⟩ := bind_some hF
            try dsimp only at hF
            refine cV_i (As := [.int p2, .int p3]) (rest := []) hx hb hml hown hw hK hN hA hl.1 hP hD hS k_603 k_604 k_605 k_77 k_606 (met_X4_pledgeTo l D cy _ ad en x k hk o p2 p3 r21 o22 hc23) (fun _ _ _ => trivial) Xok_T (gO (x := x) (r := 0) (o := o) (f := (o 0)) hk (by decide) rfl) rfl ⟨rfl, rfl⟩ (n := 2) (by decide +kernel) rfl ⟨Nat.le_of_ble_eq_true rfl, Nat.le_of_ble_eq_true rfl⟩ ⟨Nat.le_of_ble_eq_true rfl, Nat.le_of_ble_eq_true rfl⟩ (Nat.le_of_ble_eq_true rfl) rfl dX4_carryOut_91 (fun H locs hP hD hS => ?_)
            cases hF
            exact hret _ _ _ _ _ _ hP hD hS rfl rfl dX4_carryOut_94
          · replace hF := (if_neg h20).symm.trans hF
            by_cases h24 : (nI ((p1 + 1) % 9)) = 6
            · replace hF := (if_pos h24).symm.trans hF
              refine lv_tableIn (tgt := 95) (off := 87) hx hb dX4_carryOut_8 (by rw [h24]; decide) (by rw [h24]; decide) (by rw [h24]; decide) (by decide) ?_
              refine lv_aload_n hx hb dX4_carryOut_95 rfl (lv_at hl 0 rfl) ?_
              refine lv_iload_n hx hb dX4_carryOut_96 rfl (lv_at hl 2 rfl) ?_
              obtain ⟨⟨r25, o26⟩, hc27, hF⟩ := bind_some hF
              try dsimp only at hF
              refine cV_i (As := [.int p2]) (rest := []) hx hb hml hown hw hK hN hA hl.1 hP hD hS k_615 k_616 k_617 k_77 k_618 (met_X4_redeemPledge l D cy _ ad en x k hk o p2 r25 o26 hc27) (fun _ _ _ => trivial) Xok_T (gO (x := x) (r := 0) (o := o) (f := (o 0)) hk (by decide) rfl) rfl ⟨rfl, rfl⟩ (n := 1) (by decide +kernel) rfl ⟨Nat.le_of_ble_eq_true rfl, Nat.le_of_ble_eq_true rfl⟩ ⟨Nat.le_of_ble_eq_true rfl, Nat.le_of_ble_eq_true rfl⟩ (Nat.le_of_ble_eq_true rfl) rfl dX4_carryOut_97 (fun H locs hP hD hS => ?_)
              cases hF
              exact hret _ _ _ _ _ _ hP hD hS rfl rfl dX4_carryOut_100
            · replace hF := (if_neg h24).symm.trans hF
              by_cases h28 : (nI ((p1 + 1) % 9)) = 7
              · replace hF := (if_pos h28).symm.trans hF
                refine lv_tableIn (tgt := 101) (off := 93) hx hb dX4_carryOut_8 (by rw [h28]; decide) (by rw [h28]; decide) (by rw [h28]; decide) (by decide) ?_
                refine lv_aload_n hx hb dX4_carryOut_101 rfl (lv_at hl 0 rfl) ?_
                refine lv_iload_n hx hb dX4_carryOut_102 rfl (lv_at hl 2 rfl) ?_
                obtain ⟨⟨r29, o30⟩, hc31, hF⟩ := bind_some hF
                try dsimp only at hF
                refine cV_i (As := [.int p2]) (rest := []) hx hb hml hown hw hK hN hA hl.1 hP hD hS k_625 k_626 k_627 k_77 k_628 (met_X4_blow l D cy _ ad en x k hk o p2 r29 o30 hc31) (fun _ _ _ => trivial) Xok_T (gO (x := x) (r := 0) (o := o) (f := (o 0)) hk (by decide) rfl) rfl ⟨rfl, rfl⟩ (n := 1) (by decide +kernel) rfl ⟨Nat.le_of_ble_eq_true rfl, Nat.le_of_ble_eq_true rfl⟩ ⟨Nat.le_of_ble_eq_true rfl, Nat.le_of_ble_eq_true rfl⟩ (Nat.le_of_ble_eq_true rfl) rfl dX4_carryOut_103 (fun H locs hP hD hS => ?_)
                cases hF
                exact hret _ _ _ _ _ _ hP hD hS rfl rfl dX4_carryOut_106
              · replace hF := (if_neg h28).symm.trans hF
                by_cases h32 : (nI ((p1 + 1) % 9)) = 8
                · replace hF := (if_pos h32).symm.trans hF
                  refine lv_tableIn (tgt := 107) (off := 99) hx hb dX4_carryOut_8 (by rw [h32]; decide) (by rw [h32]; decide) (by rw [h32]; decide) (by decide) ?_
                  refine lv_aload_n hx hb dX4_carryOut_107 rfl (lv_at hl 0 rfl) ?_
                  refine lv_iload_n hx hb dX4_carryOut_108 rfl (lv_at hl 2 rfl) ?_
                  obtain ⟨⟨r33, o34⟩, hc35, hF⟩ := bind_some hF
                  try dsimp only at hF
                  refine cV_i (As := [.int p2]) (rest := []) hx hb hml hown hw hK hN hA hl.1 hP hD hS k_636 k_637 k_638 k_77 k_639 (met_X4_hailDown l D cy _ ad en x k hk o p2 r33 o34 hc35) (fun _ _ _ => trivial) Xok_T (gO (x := x) (r := 0) (o := o) (f := (o 0)) hk (by decide) rfl) rfl ⟨rfl, rfl⟩ (n := 1) (by decide +kernel) rfl ⟨Nat.le_of_ble_eq_true rfl, Nat.le_of_ble_eq_true rfl⟩ ⟨Nat.le_of_ble_eq_true rfl, Nat.le_of_ble_eq_true rfl⟩ (Nat.le_of_ble_eq_true rfl) rfl dX4_carryOut_109 (fun H locs hP hD hS => ?_)
                  cases hF
                  exact hret _ _ _ _ _ _ hP hD hS rfl rfl dX4_carryOut_112
                · replace hF := (if_neg h32).symm.trans hF
                  refine tableDf (tgt := 113) hx hb dX4_carryOut_8 (fun z hz1 hz2 hz3 => by have eh4 := lv_neT h4 (show (1 : Int32).toInt = 1 by decide); have eh8 := lv_neT h8 (show (2 : Int32).toInt = 2 by decide); have eh12 := lv_neT h12 (show (3 : Int32).toInt = 3 by decide); have eh16 := lv_neT h16 (show (4 : Int32).toInt = 4 by decide); have eh20 := lv_neT h20 (show (5 : Int32).toInt = 5 by decide); have eh24 := lv_neT h24 (show (6 : Int32).toInt = 6 by decide); have eh28 := lv_neT h28 (show (7 : Int32).toInt = 7 by decide); have eh32 := lv_neT h32 (show (8 : Int32).toInt = 8 by decide); omega) (by decide) ?_
                  refine lv_aload_n hx hb dX4_carryOut_113 rfl (lv_at hl 0 rfl) ?_
                  obtain ⟨⟨r36, o37⟩, hc38, hF⟩ := bind_some hF
                  try dsimp only at hF
                  refine cV_i (As := []) (rest := []) hx hb hml hown hw hK hN hA hl.1 hP hD hS k_644 k_414 k_415 k_77 k_416 (met_X4_letDawn l D cy _ ad en x k hk o r36 o37 hc38) (fun _ _ _ => trivial) Xok_T (gO (x := x) (r := 0) (o := o) (f := (o 0)) hk (by decide) rfl) rfl ⟨rfl, rfl⟩ (n := 0) (by decide +kernel) rfl ⟨Nat.le_of_ble_eq_true rfl, Nat.le_of_ble_eq_true rfl⟩ ⟨Nat.le_of_ble_eq_true rfl, Nat.le_of_ble_eq_true rfl⟩ (Nat.le_of_ble_eq_true rfl) rfl dX4_carryOut_114 (fun H locs hP hD hS => ?_)
                  cases hF
                  exact hret _ _ _ _ _ _ hP hD hS rfl rfl dX4_carryOut_117
def D_X9_cloudOf (x : Mem) (p1 : Int32) (p2 : Int32) : Option (Int32 × Int32) := if (D_X4_hasCloud (x 0) p1) = 0 then (some (1, 0)) else (if (D_X9_isWithin p2 7) = 0 then (some (2, 0)) else (if inb p1 6 then (some (0, (D_X1_tell ((x 0) (p1.toNatClampNeg + 7)) p2))) else none))
abbrev rm_X9_cloudOf : Room := { frames := 6, cells := 2, slots := 12, locals := 90 }
def exn_X9_cloudOf : Int32 → String := fun c => if c = 1 then "java/lang/IndexOutOfBoundsException" else "java/lang/IllegalArgumentException"
set_option maxHeartbeats 4000000 in
set_option maxRecDepth 100000 in
theorem met_X9_cloudOf (l : Launch) (hst0 : l.stackTraces = false) (D : va_G) (cy : Nat → ClassId) (sz : Nat) (ad : Nat → Nat → Nat) (en g : Nat → Nat) (x : Mem) (p1 : Int32) (p2 : Int32)  (code : Int32) (r : Int32) (hF : D_X9_cloudOf x p1 p2 = some (code, r)) : MT l yX9_cloudOf cX9_cloudOf 3 (some .int) rm_X9_cloudOf D cy en g (cW cy ad en x) sz [.ref (ad 12 0), .int p1, .int p2] exn_X9_cloudOf code r (cW cy ad en x) := by
  refine MT.of (by decide +kernel) (Nat.le_of_ble_eq_true rfl) ?_
  intro p e s m args below meth c A ls Q hAt htb hST hP hD hA hS hl hQ
  obtain ⟨hx, hb, hr, hml, hown, hw, hlk, hK, hN⟩ := hAt
  have hown : s.vm.findClass "CloudDeeds" = some m.cls := hown
  have hl : lv_has ls 3 [(0, .ref (ad 12 0)), (1, .int p1), (2, .int p2)] := hl
  refine lv_aload_n hx hb dX9_cloudOf_0 rfl (lv_at hl 0 rfl) ?_
  refine get' (ci := 11) (fs := [.ref (ad 0 0), .ref (ad 1 0), .ref (ad 2 0), .ref (ad 3 0), .int (((x 12) 0) 4), .ref (ad 12 1), .ref (ad 12 3), .ref (ad 12 4), .int (((x 12) 0) 8), .ref (ad 12 31)]) (v := .ref (ad 0 0)) hx hb hw inWX9 hown hK hP (gY (x := x) (r := 0) (f := ((x 12) 0)) (by decide) ((congrFun rfl _).trans rfl)) rfl 0 (by decide) k_345 rfl rfl dX9_cloudOf_1 ?_
  refine lv_iload_n hx hb dX9_cloudOf_4 rfl (lv_at hl 1 rfl) ?_
  have hP := cvP hP ((congrArg (cW cy ad en) (up_self x 0)).symm.trans (congrArg (fun z => cW cy ad en (va_up x 0 z)) rfl))
  have hD := cvD hD ((congrArg (cW cy ad en) (up_self x 0)).symm.trans (congrArg (fun z => cW cy ad en (va_up x 0 z)) rfl))
  refine cV_i (As := [.int p1]) (rest := []) hx hb hml hown hw hK hN hA hl.1 hP hD hS k_816 k_580 k_581 k_77 k_582 (met_X4_hasCloud l D cy _ ad en x 0 (by decide) (x 0) p1 (D_X4_hasCloud (x 0) p1) rfl) (fun _ _ _ => trivial) Xok_T (gX (x := (va_up x 0 (x 0))) (k := 0) (r := 0) (f := ((x 0) 0)) (by decide) (by decide) ((congrFun (va_up_self _ _ _) _).trans rfl)) rfl ⟨rfl, rfl⟩ (n := 1) (by decide +kernel) rfl ⟨Nat.le_of_ble_eq_true rfl, Nat.le_of_ble_eq_true rfl⟩ ⟨Nat.le_of_ble_eq_true rfl, Nat.le_of_ble_eq_true rfl⟩ (Nat.le_of_ble_eq_true rfl) rfl dX9_cloudOf_5 (fun H locs hP hD hS => ?_)
  have hP : va_P D vwCl (cW cy ad en x) H := cvP hP ((congrArg (cW cy ad en) (up_self x 0)).symm.trans (congrArg (fun z => cW cy ad en (va_up x 0 z)) rfl)).symm
  have hD : va_D A (cW cy ad en x) := cvD hD ((congrArg (cW cy ad en) (up_self x 0)).symm.trans (congrArg (fun z => cW cy ad en (va_up x 0 z)) rfl)).symm
  refine lv_if_ne (tgt := 21) hx hb dX9_cloudOf_8 (by decide) (fun h4 => ?_) (fun h4 => ?_)
  · replace hF := (if_neg h4).symm.trans hF
    refine lv_iload_n hx hb dX9_cloudOf_21 rfl (lv_at hl 2 rfl) ?_
    refine lv_bipush (v := 7) hx hb dX9_cloudOf_22 (by decide) ?_
    refine cS_i (As := [.int p2, .int 7]) (rest := []) hx hb hml hown hw hK hN hA hl.1 hP hD hS k_830 k_385 k_76 k_386 (met_X9_isWithin l D cy _ (cW cy ad en x) p2 7 (D_X9_isWithin p2 7) rfl) (fun _ _ _ => trivial) Xok_T ⟨rfl, rfl⟩ (n := 2) (by decide +kernel) rfl ⟨Nat.le_of_ble_eq_true rfl, Nat.le_of_ble_eq_true rfl⟩ ⟨Nat.le_of_ble_eq_true rfl, Nat.le_of_ble_eq_true rfl⟩ (Nat.le_of_ble_eq_true rfl) rfl dX9_cloudOf_24 (fun H locs hP hD hS => ?_)
    refine lv_if_ne (tgt := 40) hx hb dX9_cloudOf_27 (by decide) (fun h8 => ?_) (fun h8 => ?_)
    · replace hF := (if_neg h8).symm.trans hF
      refine lv_aload_n hx hb dX9_cloudOf_40 rfl (lv_at hl 0 rfl) ?_
      refine get' (ci := 11) (fs := [.ref (ad 0 0), .ref (ad 1 0), .ref (ad 2 0), .ref (ad 3 0), .int (((x 12) 0) 4), .ref (ad 12 1), .ref (ad 12 3), .ref (ad 12 4), .int (((x 12) 0) 8), .ref (ad 12 31)]) (v := .ref (ad 0 0)) hx hb hw inWX9 hown hK hP (gY (x := x) (r := 0) (f := ((x 12) 0)) (by decide) ((congrFun rfl _).trans rfl)) rfl 0 (by decide) k_345 rfl rfl dX9_cloudOf_41 ?_
      refine getN' (ci := 6) (fs := oF (ad 0) ((x 0) 0)) (v := .ref (ad 0 1)) hx hb hw hN inWX4 hown hK hP (gX (x := x) (k := 0) (r := 0) (f := ((x 0) 0)) (by decide) (by decide) ((congrFun rfl _).trans rfl)) rfl 0 (by decide) n_177 rfl rfl dX9_cloudOf_44 ?_
      refine lv_iload_n hx hb dX9_cloudOf_47 rfl (lv_at hl 1 rfl) ?_
      obtain ⟨h9, hF⟩ := ite_some hF
      have hr10 : (p1.toNatClampNeg + 7) < 13 := Nat.add_lt_add_right (inb_lt h9) 7
      refine aald' (n := 6) (g := (ad 0 (p1.toNatClampNeg + 7))) hx hb hK hP (gX (x := x) (k := 0) (r := 1) (f := ((x 0) 1)) (by decide) (by decide) ((congrFun rfl _).trans rfl)) (t0 := 3) rfl (vp_inb h9) rfl dX9_cloudOf_48 ?_
      refine lv_iload_n hx hb dX9_cloudOf_49 rfl (lv_at hl 2 rfl) ?_
      refine cV_i (As := [.int p2]) (rest := []) hx hb hml hown hw hK hN hA hl.1 hP hD hS k_847 k_848 k_849 k_79 k_850 (met_X1_tell l D cy _ (cW cy ad en x) (13 * 0 + (p1.toNatClampNeg + 7)) (ad 0 (p1.toNatClampNeg + 7)) ((x 0) (p1.toNatClampNeg + 7)) p2 (gX (x := x) (k := 0) (r := (p1.toNatClampNeg + 7)) (f := ((x 0) (p1.toNatClampNeg + 7))) (by decide) hr10 ((congrFun rfl _).trans rfl)) (D_X1_tell ((x 0) (p1.toNatClampNeg + 7)) p2) rfl) (fun _ _ _ => trivial) Xok_T (gX (x := x) (k := 0) (r := (p1.toNatClampNeg + 7)) (f := ((x 0) (p1.toNatClampNeg + 7))) (by decide) hr10 ((congrFun rfl _).trans rfl)) rfl ⟨rfl, rfl⟩ (n := 1) (by decide +kernel) rfl ⟨Nat.le_of_ble_eq_true rfl, Nat.le_of_ble_eq_true rfl⟩ ⟨Nat.le_of_ble_eq_true rfl, Nat.le_of_ble_eq_true rfl⟩ (Nat.le_of_ble_eq_true rfl) rfl dX9_cloudOf_50 (fun H locs hP hD hS => ?_)
      cases hF
      rw [hQ]
      exact retx_i hx hb hr hlk (Nat.le_of_ble_eq_true rfl) (Nat.le_of_ble_eq_true rfl) hS hP hD rfl rfl rfl dX9_cloudOf_53
    · replace hF := (if_pos h8).symm.trans hF
      cases hF
      rw [hQ]
      exact thrS (g := g) (en := en) hx hb hst0 hml hown hw hN hlk htb hST hS hP hD hl.1 (text := "a cloud has no such number") 2 rfl (by decide) k_831 k_100 at_119 (by decide) rfl rfl dX9_cloudOf_30 dX9_cloudOf_33 dX9_cloudOf_34 dX9_cloudOf_36 dX9_cloudOf_39 ⟨Nat.le_of_ble_eq_true rfl, Nat.le_of_ble_eq_true rfl, Nat.le_of_ble_eq_true rfl, Nat.le_of_ble_eq_true rfl⟩ (Nat.le_of_ble_eq_true rfl) ⟨Nat.le_of_ble_eq_true rfl, Nat.le_of_ble_eq_true rfl⟩
  · replace hF := (if_pos h4).symm.trans hF
    cases hF
    rw [hQ]
    exact thrS (g := g) (en := en) hx hb hst0 hml hown hw hN hlk htb hST hS hP hD hl.1 (text := "there is no such cloud") 1 rfl (by decide) k_817 k_98 at_108 (by decide) rfl rfl dX9_cloudOf_11 dX9_cloudOf_14 dX9_cloudOf_15 dX9_cloudOf_17 dX9_cloudOf_20 ⟨Nat.le_of_ble_eq_true rfl, Nat.le_of_ble_eq_true rfl, Nat.le_of_ble_eq_true rfl, Nat.le_of_ble_eq_true rfl⟩ (Nat.le_of_ble_eq_true rfl) ⟨Nat.le_of_ble_eq_true rfl, Nat.le_of_ble_eq_true rfl⟩
def D_X9_ownerOf (x : Mem) (p1 : Int32) (p2 : Int32) : Option (Int32 × Int32) := if (D_X9_demandOwner p1) = 0 then (if (D_X9_isWithin p2 5) = 0 then (some (2, 0)) else ((D_X4_tellOfOwner (x 0) p1 p2).bind (fun r11 => some (0, r11)))) else (some (1, 0))
abbrev rm_X9_ownerOf : Room := { frames := 7, cells := 2, slots := 12, locals := 110 }
def exn_X9_ownerOf : Int32 → String := fun c => if c = 1 then "java/lang/IndexOutOfBoundsException" else "java/lang/IllegalArgumentException"
set_option maxHeartbeats 4000000 in
set_option maxRecDepth 100000 in
theorem met_X9_ownerOf (l : Launch) (hst0 : l.stackTraces = false) (D : va_G) (cy : Nat → ClassId) (sz : Nat) (ad : Nat → Nat → Nat) (en g : Nat → Nat) (x : Mem) (p1 : Int32) (p2 : Int32)  (code : Int32) (r : Int32) (hF : D_X9_ownerOf x p1 p2 = some (code, r)) : MT l yX9_ownerOf cX9_ownerOf 3 (some .int) rm_X9_ownerOf D cy en g (cW cy ad en x) sz [.ref (ad 12 0), .int p1, .int p2] exn_X9_ownerOf code r (cW cy ad en x) := by
  refine MT.of (by decide +kernel) (Nat.le_of_ble_eq_true rfl) ?_
  intro p e s m args below meth c A ls Q hAt htb hST hP hD hA hS hl hQ
  obtain ⟨hx, hb, hr, hml, hown, hw, hlk, hK, hN⟩ := hAt
  have hown : s.vm.findClass "CloudDeeds" = some m.cls := hown
  have hl : lv_has ls 3 [(0, .ref (ad 12 0)), (1, .int p1), (2, .int p2)] := hl
  refine lv_iload_n hx hb dX9_ownerOf_0 rfl (lv_at hl 1 rfl) ?_
  refine xS_v (As := [.int p1]) (rest := []) hx hb hml hown hw hK hN hA hl.1 hP hD hS hST k_859 k_860 k_76 k_861 (met_X9_demandOwner l hst0 D cy _ en g (cW cy ad en x) p1 (D_X9_demandOwner p1) rfl) ⟨rfl, rfl⟩ (n := 1) (by decide +kernel) rfl ⟨Nat.le_of_ble_eq_true rfl, Nat.le_of_ble_eq_true rfl⟩ ⟨Nat.le_of_ble_eq_true rfl, Nat.le_of_ble_eq_true rfl⟩ (Nat.le_of_ble_eq_true rfl) rfl dX9_ownerOf_1 (fun H locs q9 ce9 hne4 hP hD hS hce hcv hcl => ?_) (fun H locs h05 hP hD hS => ?_)
  · replace hF := (if_neg hne4).symm.trans hF
    cases hF
    rw [hQ]
    exact outx hlk htb hP hD hS hce hcv hcl (by decide) rfl (Nat.le_of_ble_eq_true rfl) (Nat.le_of_ble_eq_true rfl)
  · replace hF := (if_pos h05).symm.trans hF
    refine lv_iload_n hx hb dX9_ownerOf_4 rfl (lv_at hl 2 rfl) ?_
    refine lv_iconst (v := 5) hx hb dX9_ownerOf_5 (by decide) ?_
    refine cS_i (As := [.int p2, .int 5]) (rest := []) hx hb hml hown hw hK hN hA hl.1 hP hD hS k_830 k_385 k_76 k_386 (met_X9_isWithin l D cy _ (cW cy ad en x) p2 5 (D_X9_isWithin p2 5) rfl) (fun _ _ _ => trivial) Xok_T ⟨rfl, rfl⟩ (n := 2) (by decide +kernel) rfl ⟨Nat.le_of_ble_eq_true rfl, Nat.le_of_ble_eq_true rfl⟩ ⟨Nat.le_of_ble_eq_true rfl, Nat.le_of_ble_eq_true rfl⟩ (Nat.le_of_ble_eq_true rfl) rfl dX9_ownerOf_6 (fun H locs hP hD hS => ?_)
    refine lv_if_ne (tgt := 22) hx hb dX9_ownerOf_9 (by decide) (fun h10 => ?_) (fun h10 => ?_)
    · replace hF := (if_neg h10).symm.trans hF
      refine lv_aload_n hx hb dX9_ownerOf_22 rfl (lv_at hl 0 rfl) ?_
      refine get' (ci := 11) (fs := [.ref (ad 0 0), .ref (ad 1 0), .ref (ad 2 0), .ref (ad 3 0), .int (((x 12) 0) 4), .ref (ad 12 1), .ref (ad 12 3), .ref (ad 12 4), .int (((x 12) 0) 8), .ref (ad 12 31)]) (v := .ref (ad 0 0)) hx hb hw inWX9 hown hK hP (gY (x := x) (r := 0) (f := ((x 12) 0)) (by decide) ((congrFun rfl _).trans rfl)) rfl 0 (by decide) k_345 rfl rfl dX9_ownerOf_23 ?_
      refine lv_iload_n hx hb dX9_ownerOf_26 rfl (lv_at hl 1 rfl) ?_
      refine lv_iload_n hx hb dX9_ownerOf_27 rfl (lv_at hl 2 rfl) ?_
      have hP := cvP hP ((congrArg (cW cy ad en) (up_self x 0)).symm.trans (congrArg (fun z => cW cy ad en (va_up x 0 z)) rfl))
      have hD := cvD hD ((congrArg (cW cy ad en) (up_self x 0)).symm.trans (congrArg (fun z => cW cy ad en (va_up x 0 z)) rfl))
      obtain ⟨r11, hc13, hF⟩ := bind_some hF
      try dsimp only at hF
      refine cV_i (As := [.int p1, .int p2]) (rest := []) hx hb hml hown hw hK hN hA hl.1 hP hD hS k_865 k_866 k_867 k_77 k_868 (met_X4_tellOfOwner l D cy _ ad en x 0 (by decide) (x 0) p1 p2 r11 hc13) (fun _ _ _ => trivial) Xok_T (gX (x := (va_up x 0 (x 0))) (k := 0) (r := 0) (f := ((x 0) 0)) (by decide) (by decide) ((congrFun (va_up_self _ _ _) _).trans rfl)) rfl ⟨rfl, rfl⟩ (n := 2) (by decide +kernel) rfl ⟨Nat.le_of_ble_eq_true rfl, Nat.le_of_ble_eq_true rfl⟩ ⟨Nat.le_of_ble_eq_true rfl, Nat.le_of_ble_eq_true rfl⟩ (Nat.le_of_ble_eq_true rfl) rfl dX9_ownerOf_28 (fun H locs hP hD hS => ?_)
      have hP : va_P D vwCl (cW cy ad en x) H := cvP hP ((congrArg (cW cy ad en) (up_self x 0)).symm.trans (congrArg (fun z => cW cy ad en (va_up x 0 z)) rfl)).symm
      have hD : va_D A (cW cy ad en x) := cvD hD ((congrArg (cW cy ad en) (up_self x 0)).symm.trans (congrArg (fun z => cW cy ad en (va_up x 0 z)) rfl)).symm
      cases hF
      rw [hQ]
      exact retx_i hx hb hr hlk (Nat.le_of_ble_eq_true rfl) (Nat.le_of_ble_eq_true rfl) hS hP hD rfl rfl rfl dX9_ownerOf_31
    · replace hF := (if_pos h10).symm.trans hF
      cases hF
      rw [hQ]
      exact thrS (g := g) (en := en) hx hb hst0 hml hown hw hN hlk htb hST hS hP hD hl.1 (text := "an owner has no such number") 4 rfl (by decide) k_831 k_100 at_119 (by decide) rfl rfl dX9_ownerOf_12 dX9_ownerOf_15 dX9_ownerOf_16 dX9_ownerOf_18 dX9_ownerOf_21 ⟨Nat.le_of_ble_eq_true rfl, Nat.le_of_ble_eq_true rfl, Nat.le_of_ble_eq_true rfl, Nat.le_of_ble_eq_true rfl⟩ (Nat.le_of_ble_eq_true rfl) ⟨Nat.le_of_ble_eq_true rfl, Nat.le_of_ble_eq_true rfl⟩
def D_X9_vineyardOf (x : Mem) (p1 : Int32) (p2 : Int32) : Option (Int32 × Int32) := if (D_X9_isVineyard p1) = 0 then (some (1, 0)) else (if (D_X9_isWithin p2 3) = 0 then (some (2, 0)) else ((D_X4_tellOfVineyard (x 0) p1 p2).bind (fun r9 => some (0, r9))))
abbrev rm_X9_vineyardOf : Room := { frames := 6, cells := 2, slots := 12, locals := 90 }
def exn_X9_vineyardOf : Int32 → String := fun c => if c = 1 then "java/lang/IndexOutOfBoundsException" else "java/lang/IllegalArgumentException"
set_option maxHeartbeats 4000000 in
set_option maxRecDepth 100000 in
theorem met_X9_vineyardOf (l : Launch) (hst0 : l.stackTraces = false) (D : va_G) (cy : Nat → ClassId) (sz : Nat) (ad : Nat → Nat → Nat) (en g : Nat → Nat) (x : Mem) (p1 : Int32) (p2 : Int32)  (code : Int32) (r : Int32) (hF : D_X9_vineyardOf x p1 p2 = some (code, r)) : MT l yX9_vineyardOf cX9_vineyardOf 3 (some .int) rm_X9_vineyardOf D cy en g (cW cy ad en x) sz [.ref (ad 12 0), .int p1, .int p2] exn_X9_vineyardOf code r (cW cy ad en x) := by
  refine MT.of (by decide +kernel) (Nat.le_of_ble_eq_true rfl) ?_
  intro p e s m args below meth c A ls Q hAt htb hST hP hD hA hS hl hQ
  obtain ⟨hx, hb, hr, hml, hown, hw, hlk, hK, hN⟩ := hAt
  have hown : s.vm.findClass "CloudDeeds" = some m.cls := hown
  have hl : lv_has ls 3 [(0, .ref (ad 12 0)), (1, .int p1), (2, .int p2)] := hl
  refine lv_iload_n hx hb dX9_vineyardOf_0 rfl (lv_at hl 1 rfl) ?_
  refine cS_i (As := [.int p1]) (rest := []) hx hb hml hown hw hK hN hA hl.1 hP hD hS k_876 k_446 k_76 k_447 (met_X9_isVineyard l D cy _ (cW cy ad en x) p1 (D_X9_isVineyard p1) rfl) (fun _ _ _ => trivial) Xok_T ⟨rfl, rfl⟩ (n := 1) (by decide +kernel) rfl ⟨Nat.le_of_ble_eq_true rfl, Nat.le_of_ble_eq_true rfl⟩ ⟨Nat.le_of_ble_eq_true rfl, Nat.le_of_ble_eq_true rfl⟩ (Nat.le_of_ble_eq_true rfl) rfl dX9_vineyardOf_1 (fun H locs hP hD hS => ?_)
  refine lv_if_ne (tgt := 17) hx hb dX9_vineyardOf_4 (by decide) (fun h4 => ?_) (fun h4 => ?_)
  · replace hF := (if_neg h4).symm.trans hF
    refine lv_iload_n hx hb dX9_vineyardOf_17 rfl (lv_at hl 2 rfl) ?_
    refine lv_iconst (v := 3) hx hb dX9_vineyardOf_18 (by decide) ?_
    refine cS_i (As := [.int p2, .int 3]) (rest := []) hx hb hml hown hw hK hN hA hl.1 hP hD hS k_830 k_385 k_76 k_386 (met_X9_isWithin l D cy _ (cW cy ad en x) p2 3 (D_X9_isWithin p2 3) rfl) (fun _ _ _ => trivial) Xok_T ⟨rfl, rfl⟩ (n := 2) (by decide +kernel) rfl ⟨Nat.le_of_ble_eq_true rfl, Nat.le_of_ble_eq_true rfl⟩ ⟨Nat.le_of_ble_eq_true rfl, Nat.le_of_ble_eq_true rfl⟩ (Nat.le_of_ble_eq_true rfl) rfl dX9_vineyardOf_19 (fun H locs hP hD hS => ?_)
    refine lv_if_ne (tgt := 35) hx hb dX9_vineyardOf_22 (by decide) (fun h8 => ?_) (fun h8 => ?_)
    · replace hF := (if_neg h8).symm.trans hF
      refine lv_aload_n hx hb dX9_vineyardOf_35 rfl (lv_at hl 0 rfl) ?_
      refine get' (ci := 11) (fs := [.ref (ad 0 0), .ref (ad 1 0), .ref (ad 2 0), .ref (ad 3 0), .int (((x 12) 0) 4), .ref (ad 12 1), .ref (ad 12 3), .ref (ad 12 4), .int (((x 12) 0) 8), .ref (ad 12 31)]) (v := .ref (ad 0 0)) hx hb hw inWX9 hown hK hP (gY (x := x) (r := 0) (f := ((x 12) 0)) (by decide) ((congrFun rfl _).trans rfl)) rfl 0 (by decide) k_345 rfl rfl dX9_vineyardOf_36 ?_
      refine lv_iload_n hx hb dX9_vineyardOf_39 rfl (lv_at hl 1 rfl) ?_
      refine lv_iload_n hx hb dX9_vineyardOf_40 rfl (lv_at hl 2 rfl) ?_
      have hP := cvP hP ((congrArg (cW cy ad en) (up_self x 0)).symm.trans (congrArg (fun z => cW cy ad en (va_up x 0 z)) rfl))
      have hD := cvD hD ((congrArg (cW cy ad en) (up_self x 0)).symm.trans (congrArg (fun z => cW cy ad en (va_up x 0 z)) rfl))
      obtain ⟨r9, hc11, hF⟩ := bind_some hF
      try dsimp only at hF
      refine cV_i (As := [.int p1, .int p2]) (rest := []) hx hb hml hown hw hK hN hA hl.1 hP hD hS k_879 k_880 k_881 k_77 k_882 (met_X4_tellOfVineyard l D cy _ ad en x 0 (by decide) (x 0) p1 p2 r9 hc11) (fun _ _ _ => trivial) Xok_T (gX (x := (va_up x 0 (x 0))) (k := 0) (r := 0) (f := ((x 0) 0)) (by decide) (by decide) ((congrFun (va_up_self _ _ _) _).trans rfl)) rfl ⟨rfl, rfl⟩ (n := 2) (by decide +kernel) rfl ⟨Nat.le_of_ble_eq_true rfl, Nat.le_of_ble_eq_true rfl⟩ ⟨Nat.le_of_ble_eq_true rfl, Nat.le_of_ble_eq_true rfl⟩ (Nat.le_of_ble_eq_true rfl) rfl dX9_vineyardOf_41 (fun H locs hP hD hS => ?_)
      have hP : va_P D vwCl (cW cy ad en x) H := cvP hP ((congrArg (cW cy ad en) (up_self x 0)).symm.trans (congrArg (fun z => cW cy ad en (va_up x 0 z)) rfl)).symm
      have hD : va_D A (cW cy ad en x) := cvD hD ((congrArg (cW cy ad en) (up_self x 0)).symm.trans (congrArg (fun z => cW cy ad en (va_up x 0 z)) rfl)).symm
      cases hF
      rw [hQ]
      exact retx_i hx hb hr hlk (Nat.le_of_ble_eq_true rfl) (Nat.le_of_ble_eq_true rfl) hS hP hD rfl rfl rfl dX9_vineyardOf_44
    · replace hF := (if_pos h8).symm.trans hF
      cases hF
      rw [hQ]
      exact thrS (g := g) (en := en) hx hb hst0 hml hown hw hN hlk htb hST hS hP hD hl.1 (text := "a vineyard has no such number") 6 rfl (by decide) k_831 k_100 at_119 (by decide) rfl rfl dX9_vineyardOf_25 dX9_vineyardOf_28 dX9_vineyardOf_29 dX9_vineyardOf_31 dX9_vineyardOf_34 ⟨Nat.le_of_ble_eq_true rfl, Nat.le_of_ble_eq_true rfl, Nat.le_of_ble_eq_true rfl, Nat.le_of_ble_eq_true rfl⟩ (Nat.le_of_ble_eq_true rfl) ⟨Nat.le_of_ble_eq_true rfl, Nat.le_of_ble_eq_true rfl⟩
  · replace hF := (if_pos h4).symm.trans hF
    cases hF
    rw [hQ]
    exact thrS (g := g) (en := en) hx hb hst0 hml hown hw hN hlk htb hST hS hP hD hl.1 (text := "there is no such vineyard") 5 rfl (by decide) k_817 k_98 at_108 (by decide) rfl rfl dX9_vineyardOf_7 dX9_vineyardOf_10 dX9_vineyardOf_11 dX9_vineyardOf_13 dX9_vineyardOf_16 ⟨Nat.le_of_ble_eq_true rfl, Nat.le_of_ble_eq_true rfl, Nat.le_of_ble_eq_true rfl, Nat.le_of_ble_eq_true rfl⟩ (Nat.le_of_ble_eq_true rfl) ⟨Nat.le_of_ble_eq_true rfl, Nat.le_of_ble_eq_true rfl⟩
def D_X9_clouds (x : Mem) (p1 : Int32) : Option (Int32 × Int32) := if (D_X9_demandOwner p1) = 0 then ((D_X4_cloudsCounted (x 0) p1).bind (fun r7 => some (0, r7))) else (some (1, 0))
abbrev rm_X9_clouds : Room := { frames := 7, cells := 2, slots := 12, locals := 110 }
def exn_X9_clouds : Int32 → String := fun _ => "java/lang/IndexOutOfBoundsException"
set_option maxHeartbeats 4000000 in
set_option maxRecDepth 100000 in
theorem met_X9_clouds (l : Launch) (hst0 : l.stackTraces = false) (D : va_G) (cy : Nat → ClassId) (sz : Nat) (ad : Nat → Nat → Nat) (en g : Nat → Nat) (x : Mem) (p1 : Int32)  (code : Int32) (r : Int32) (hF : D_X9_clouds x p1 = some (code, r)) : MT l yX9_clouds cX9_clouds 2 (some .int) rm_X9_clouds D cy en g (cW cy ad en x) sz [.ref (ad 12 0), .int p1] exn_X9_clouds code r (cW cy ad en x) := by
  refine MT.of (by decide +kernel) (Nat.le_of_ble_eq_true rfl) ?_
  intro p e s m args below meth c A ls Q hAt htb hST hP hD hA hS hl hQ
  obtain ⟨hx, hb, hr, hml, hown, hw, hlk, hK, hN⟩ := hAt
  have hown : s.vm.findClass "CloudDeeds" = some m.cls := hown
  have hl : lv_has ls 2 [(0, .ref (ad 12 0)), (1, .int p1)] := hl
  refine lv_iload_n hx hb dX9_clouds_0 rfl (lv_at hl 1 rfl) ?_
  refine xS_v (As := [.int p1]) (rest := []) hx hb hml hown hw hK hN hA hl.1 hP hD hS hST k_859 k_860 k_76 k_861 (met_X9_demandOwner l hst0 D cy _ en g (cW cy ad en x) p1 (D_X9_demandOwner p1) rfl) ⟨rfl, rfl⟩ (n := 1) (by decide +kernel) rfl ⟨Nat.le_of_ble_eq_true rfl, Nat.le_of_ble_eq_true rfl⟩ ⟨Nat.le_of_ble_eq_true rfl, Nat.le_of_ble_eq_true rfl⟩ (Nat.le_of_ble_eq_true rfl) rfl dX9_clouds_1 (fun H locs q9 ce9 hne4 hP hD hS hce hcv hcl => ?_) (fun H locs h05 hP hD hS => ?_)
  · replace hF := (if_neg hne4).symm.trans hF
    cases hF
    rw [hQ]
    exact outx hlk htb hP hD hS hce hcv hcl (by decide) rfl (Nat.le_of_ble_eq_true rfl) (Nat.le_of_ble_eq_true rfl)
  · replace hF := (if_pos h05).symm.trans hF
    refine lv_aload_n hx hb dX9_clouds_4 rfl (lv_at hl 0 rfl) ?_
    refine get' (ci := 11) (fs := [.ref (ad 0 0), .ref (ad 1 0), .ref (ad 2 0), .ref (ad 3 0), .int (((x 12) 0) 4), .ref (ad 12 1), .ref (ad 12 3), .ref (ad 12 4), .int (((x 12) 0) 8), .ref (ad 12 31)]) (v := .ref (ad 0 0)) hx hb hw inWX9 hown hK hP (gY (x := x) (r := 0) (f := ((x 12) 0)) (by decide) ((congrFun rfl _).trans rfl)) rfl 0 (by decide) k_345 rfl rfl dX9_clouds_5 ?_
    refine lv_iload_n hx hb dX9_clouds_8 rfl (lv_at hl 1 rfl) ?_
    have hP := cvP hP ((congrArg (cW cy ad en) (up_self x 0)).symm.trans (congrArg (fun z => cW cy ad en (va_up x 0 z)) rfl))
    have hD := cvD hD ((congrArg (cW cy ad en) (up_self x 0)).symm.trans (congrArg (fun z => cW cy ad en (va_up x 0 z)) rfl))
    obtain ⟨r7, hc9, hF⟩ := bind_some hF
    try dsimp only at hF
    refine cV_i (As := [.int p1]) (rest := []) hx hb hml hown hw hK hN hA hl.1 hP hD hS k_890 k_494 k_495 k_77 k_496 (met_X4_cloudsCounted l D cy _ ad en x 0 (by decide) (x 0) p1 r7 hc9) (fun _ _ _ => trivial) Xok_T (gX (x := (va_up x 0 (x 0))) (k := 0) (r := 0) (f := ((x 0) 0)) (by decide) (by decide) ((congrFun (va_up_self _ _ _) _).trans rfl)) rfl ⟨rfl, rfl⟩ (n := 1) (by decide +kernel) rfl ⟨Nat.le_of_ble_eq_true rfl, Nat.le_of_ble_eq_true rfl⟩ ⟨Nat.le_of_ble_eq_true rfl, Nat.le_of_ble_eq_true rfl⟩ (Nat.le_of_ble_eq_true rfl) rfl dX9_clouds_9 (fun H locs hP hD hS => ?_)
    have hP : va_P D vwCl (cW cy ad en x) H := cvP hP ((congrArg (cW cy ad en) (up_self x 0)).symm.trans (congrArg (fun z => cW cy ad en (va_up x 0 z)) rfl)).symm
    have hD : va_D A (cW cy ad en x) := cvD hD ((congrArg (cW cy ad en) (up_self x 0)).symm.trans (congrArg (fun z => cW cy ad en (va_up x 0 z)) rfl)).symm
    cases hF
    rw [hQ]
    exact retx_i hx hb hr hlk (Nat.le_of_ble_eq_true rfl) (Nat.le_of_ble_eq_true rfl) hS hP hD rfl rfl rfl dX9_clouds_12
def D_X9_cloudsAgain (x : Mem) (p1 : Int32) : Option (Int32 × Int32) := if (D_X9_demandOwner p1) = 0 then ((D_X4_cloudsLeftOver (x 0) p1).bind (fun r7 => some (0, r7))) else (some (1, 0))
abbrev rm_X9_cloudsAgain : Room := { frames := 7, cells := 2, slots := 12, locals := 110 }
def exn_X9_cloudsAgain : Int32 → String := fun _ => "java/lang/IndexOutOfBoundsException"
set_option maxHeartbeats 4000000 in
set_option maxRecDepth 100000 in
theorem met_X9_cloudsAgain (l : Launch) (hst0 : l.stackTraces = false) (D : va_G) (cy : Nat → ClassId) (sz : Nat) (ad : Nat → Nat → Nat) (en g : Nat → Nat) (x : Mem) (p1 : Int32)  (code : Int32) (r : Int32) (hF : D_X9_cloudsAgain x p1 = some (code, r)) : MT l yX9_cloudsAgain cX9_cloudsAgain 2 (some .int) rm_X9_cloudsAgain D cy en g (cW cy ad en x) sz [.ref (ad 12 0), .int p1] exn_X9_cloudsAgain code r (cW cy ad en x) := by
  refine MT.of (by decide +kernel) (Nat.le_of_ble_eq_true rfl) ?_
  intro p e s m args below meth c A ls Q hAt htb hST hP hD hA hS hl hQ
  obtain ⟨hx, hb, hr, hml, hown, hw, hlk, hK, hN⟩ := hAt
  have hown : s.vm.findClass "CloudDeeds" = some m.cls := hown
  have hl : lv_has ls 2 [(0, .ref (ad 12 0)), (1, .int p1)] := hl
  refine lv_iload_n hx hb dX9_cloudsAgain_0 rfl (lv_at hl 1 rfl) ?_
  refine xS_v (As := [.int p1]) (rest := []) hx hb hml hown hw hK hN hA hl.1 hP hD hS hST k_859 k_860 k_76 k_861 (met_X9_demandOwner l hst0 D cy _ en g (cW cy ad en x) p1 (D_X9_demandOwner p1) rfl) ⟨rfl, rfl⟩ (n := 1) (by decide +kernel) rfl ⟨Nat.le_of_ble_eq_true rfl, Nat.le_of_ble_eq_true rfl⟩ ⟨Nat.le_of_ble_eq_true rfl, Nat.le_of_ble_eq_true rfl⟩ (Nat.le_of_ble_eq_true rfl) rfl dX9_cloudsAgain_1 (fun H locs q9 ce9 hne4 hP hD hS hce hcv hcl => ?_) (fun H locs h05 hP hD hS => ?_)
  · replace hF := (if_neg hne4).symm.trans hF
    cases hF
    rw [hQ]
    exact outx hlk htb hP hD hS hce hcv hcl (by decide) rfl (Nat.le_of_ble_eq_true rfl) (Nat.le_of_ble_eq_true rfl)
  · replace hF := (if_pos h05).symm.trans hF
    refine lv_aload_n hx hb dX9_cloudsAgain_4 rfl (lv_at hl 0 rfl) ?_
    refine get' (ci := 11) (fs := [.ref (ad 0 0), .ref (ad 1 0), .ref (ad 2 0), .ref (ad 3 0), .int (((x 12) 0) 4), .ref (ad 12 1), .ref (ad 12 3), .ref (ad 12 4), .int (((x 12) 0) 8), .ref (ad 12 31)]) (v := .ref (ad 0 0)) hx hb hw inWX9 hown hK hP (gY (x := x) (r := 0) (f := ((x 12) 0)) (by decide) ((congrFun rfl _).trans rfl)) rfl 0 (by decide) k_345 rfl rfl dX9_cloudsAgain_5 ?_
    refine lv_iload_n hx hb dX9_cloudsAgain_8 rfl (lv_at hl 1 rfl) ?_
    have hP := cvP hP ((congrArg (cW cy ad en) (up_self x 0)).symm.trans (congrArg (fun z => cW cy ad en (va_up x 0 z)) rfl))
    have hD := cvD hD ((congrArg (cW cy ad en) (up_self x 0)).symm.trans (congrArg (fun z => cW cy ad en (va_up x 0 z)) rfl))
    obtain ⟨r7, hc9, hF⟩ := bind_some hF
    try dsimp only at hF
    refine cV_i (As := [.int p1]) (rest := []) hx hb hml hown hw hK hN hA hl.1 hP hD hS k_898 k_498 k_499 k_77 k_500 (met_X4_cloudsLeftOver l D cy _ ad en x 0 (by decide) (x 0) p1 r7 hc9) (fun _ _ _ => trivial) Xok_T (gX (x := (va_up x 0 (x 0))) (k := 0) (r := 0) (f := ((x 0) 0)) (by decide) (by decide) ((congrFun (va_up_self _ _ _) _).trans rfl)) rfl ⟨rfl, rfl⟩ (n := 1) (by decide +kernel) rfl ⟨Nat.le_of_ble_eq_true rfl, Nat.le_of_ble_eq_true rfl⟩ ⟨Nat.le_of_ble_eq_true rfl, Nat.le_of_ble_eq_true rfl⟩ (Nat.le_of_ble_eq_true rfl) rfl dX9_cloudsAgain_9 (fun H locs hP hD hS => ?_)
    have hP : va_P D vwCl (cW cy ad en x) H := cvP hP ((congrArg (cW cy ad en) (up_self x 0)).symm.trans (congrArg (fun z => cW cy ad en (va_up x 0 z)) rfl)).symm
    have hD : va_D A (cW cy ad en x) := cvD hD ((congrArg (cW cy ad en) (up_self x 0)).symm.trans (congrArg (fun z => cW cy ad en (va_up x 0 z)) rfl)).symm
    cases hF
    rw [hQ]
    exact retx_i hx hb hr hlk (Nat.le_of_ble_eq_true rfl) (Nat.le_of_ble_eq_true rfl) hS hP hD rfl rfl rfl dX9_cloudsAgain_12
def D_X9_windTo (x : Mem) (p1 : Int32) (p2 : Int32) : Option (Int32 × Int32) := if (D_X4_hasCloud (x 0) p1) = 0 then (some (1, 0)) else (if (D_X9_isVineyard p2) = 0 then (some (1, 0)) else (if inb p1 6 then ((D_X1_windByTrying ((x 0) (p1.toNatClampNeg + 7)) p2).bind (fun r11 => some (0, r11))) else none))
abbrev rm_X9_windTo : Room := { frames := 6, cells := 2, slots := 12, locals := 90 }
def exn_X9_windTo : Int32 → String := fun _ => "java/lang/IndexOutOfBoundsException"
set_option maxHeartbeats 4000000 in
set_option maxRecDepth 100000 in
theorem met_X9_windTo (l : Launch) (hst0 : l.stackTraces = false) (D : va_G) (cy : Nat → ClassId) (sz : Nat) (ad : Nat → Nat → Nat) (en g : Nat → Nat) (x : Mem) (p1 : Int32) (p2 : Int32)  (code : Int32) (r : Int32) (hF : D_X9_windTo x p1 p2 = some (code, r)) : MT l yX9_windTo cX9_windTo 3 (some .int) rm_X9_windTo D cy en g (cW cy ad en x) sz [.ref (ad 12 0), .int p1, .int p2] exn_X9_windTo code r (cW cy ad en x) := by
  refine MT.of (by decide +kernel) (Nat.le_of_ble_eq_true rfl) ?_
  intro p e s m args below meth c A ls Q hAt htb hST hP hD hA hS hl hQ
  obtain ⟨hx, hb, hr, hml, hown, hw, hlk, hK, hN⟩ := hAt
  have hown : s.vm.findClass "CloudDeeds" = some m.cls := hown
  have hl : lv_has ls 3 [(0, .ref (ad 12 0)), (1, .int p1), (2, .int p2)] := hl
  refine lv_aload_n hx hb dX9_windTo_0 rfl (lv_at hl 0 rfl) ?_
  refine get' (ci := 11) (fs := [.ref (ad 0 0), .ref (ad 1 0), .ref (ad 2 0), .ref (ad 3 0), .int (((x 12) 0) 4), .ref (ad 12 1), .ref (ad 12 3), .ref (ad 12 4), .int (((x 12) 0) 8), .ref (ad 12 31)]) (v := .ref (ad 0 0)) hx hb hw inWX9 hown hK hP (gY (x := x) (r := 0) (f := ((x 12) 0)) (by decide) ((congrFun rfl _).trans rfl)) rfl 0 (by decide) k_345 rfl rfl dX9_windTo_1 ?_
  refine lv_iload_n hx hb dX9_windTo_4 rfl (lv_at hl 1 rfl) ?_
  have hP := cvP hP ((congrArg (cW cy ad en) (up_self x 0)).symm.trans (congrArg (fun z => cW cy ad en (va_up x 0 z)) rfl))
  have hD := cvD hD ((congrArg (cW cy ad en) (up_self x 0)).symm.trans (congrArg (fun z => cW cy ad en (va_up x 0 z)) rfl))
  refine cV_i (As := [.int p1]) (rest := []) hx hb hml hown hw hK hN hA hl.1 hP hD hS k_816 k_580 k_581 k_77 k_582 (met_X4_hasCloud l D cy _ ad en x 0 (by decide) (x 0) p1 (D_X4_hasCloud (x 0) p1) rfl) (fun _ _ _ => trivial) Xok_T (gX (x := (va_up x 0 (x 0))) (k := 0) (r := 0) (f := ((x 0) 0)) (by decide) (by decide) ((congrFun (va_up_self _ _ _) _).trans rfl)) rfl ⟨rfl, rfl⟩ (n := 1) (by decide +kernel) rfl ⟨Nat.le_of_ble_eq_true rfl, Nat.le_of_ble_eq_true rfl⟩ ⟨Nat.le_of_ble_eq_true rfl, Nat.le_of_ble_eq_true rfl⟩ (Nat.le_of_ble_eq_true rfl) rfl dX9_windTo_5 (fun H locs hP hD hS => ?_)
  have hP : va_P D vwCl (cW cy ad en x) H := cvP hP ((congrArg (cW cy ad en) (up_self x 0)).symm.trans (congrArg (fun z => cW cy ad en (va_up x 0 z)) rfl)).symm
  have hD : va_D A (cW cy ad en x) := cvD hD ((congrArg (cW cy ad en) (up_self x 0)).symm.trans (congrArg (fun z => cW cy ad en (va_up x 0 z)) rfl)).symm
  refine lv_if_eq (tgt := 18) hx hb dX9_windTo_8 (by decide) (fun h4 => ?_) (fun h4 => ?_)
  · replace hF := (if_pos h4).symm.trans hF
    cases hF
    rw [hQ]
    exact thrS (g := g) (en := en) hx hb hst0 hml hown hw hN hlk htb hST hS hP hD hl.1 (text := "there is no such cloud or vineyard") 7 rfl (by decide) k_817 k_98 at_108 (by decide) rfl rfl dX9_windTo_18 dX9_windTo_21 dX9_windTo_22 dX9_windTo_24 dX9_windTo_27 ⟨Nat.le_of_ble_eq_true rfl, Nat.le_of_ble_eq_true rfl, Nat.le_of_ble_eq_true rfl, Nat.le_of_ble_eq_true rfl⟩ (Nat.le_of_ble_eq_true rfl) ⟨Nat.le_of_ble_eq_true rfl, Nat.le_of_ble_eq_true rfl⟩
  · replace hF := (if_neg h4).symm.trans hF
    refine lv_iload_n hx hb dX9_windTo_11 rfl (lv_at hl 2 rfl) ?_
    refine cS_i (As := [.int p2]) (rest := []) hx hb hml hown hw hK hN hA hl.1 hP hD hS k_876 k_446 k_76 k_447 (met_X9_isVineyard l D cy _ (cW cy ad en x) p2 (D_X9_isVineyard p2) rfl) (fun _ _ _ => trivial) Xok_T ⟨rfl, rfl⟩ (n := 1) (by decide +kernel) rfl ⟨Nat.le_of_ble_eq_true rfl, Nat.le_of_ble_eq_true rfl⟩ ⟨Nat.le_of_ble_eq_true rfl, Nat.le_of_ble_eq_true rfl⟩ (Nat.le_of_ble_eq_true rfl) rfl dX9_windTo_12 (fun H locs hP hD hS => ?_)
    refine lv_if_ne (tgt := 28) hx hb dX9_windTo_15 (by decide) (fun h8 => ?_) (fun h8 => ?_)
    · replace hF := (if_neg h8).symm.trans hF
      refine lv_aload_n hx hb dX9_windTo_28 rfl (lv_at hl 0 rfl) ?_
      refine get' (ci := 11) (fs := [.ref (ad 0 0), .ref (ad 1 0), .ref (ad 2 0), .ref (ad 3 0), .int (((x 12) 0) 4), .ref (ad 12 1), .ref (ad 12 3), .ref (ad 12 4), .int (((x 12) 0) 8), .ref (ad 12 31)]) (v := .ref (ad 0 0)) hx hb hw inWX9 hown hK hP (gY (x := x) (r := 0) (f := ((x 12) 0)) (by decide) ((congrFun rfl _).trans rfl)) rfl 0 (by decide) k_345 rfl rfl dX9_windTo_29 ?_
      refine getN' (ci := 6) (fs := oF (ad 0) ((x 0) 0)) (v := .ref (ad 0 1)) hx hb hw hN inWX4 hown hK hP (gX (x := x) (k := 0) (r := 0) (f := ((x 0) 0)) (by decide) (by decide) ((congrFun rfl _).trans rfl)) rfl 0 (by decide) n_177 rfl rfl dX9_windTo_32 ?_
      refine lv_iload_n hx hb dX9_windTo_35 rfl (lv_at hl 1 rfl) ?_
      obtain ⟨h9, hF⟩ := ite_some hF
      have hr10 : (p1.toNatClampNeg + 7) < 13 := Nat.add_lt_add_right (inb_lt h9) 7
      refine aald' (n := 6) (g := (ad 0 (p1.toNatClampNeg + 7))) hx hb hK hP (gX (x := x) (k := 0) (r := 1) (f := ((x 0) 1)) (by decide) (by decide) ((congrFun rfl _).trans rfl)) (t0 := 3) rfl (vp_inb h9) rfl dX9_windTo_36 ?_
      refine lv_iload_n hx hb dX9_windTo_37 rfl (lv_at hl 2 rfl) ?_
      obtain ⟨r11, hc13, hF⟩ := bind_some hF
      try dsimp only at hF
      refine cV_i (As := [.int p2]) (rest := []) hx hb hml hown hw hK hN hA hl.1 hP hD hS k_907 k_506 k_507 k_79 k_508 (met_X1_windByTrying l D cy _ (cW cy ad en x) (13 * 0 + (p1.toNatClampNeg + 7)) (ad 0 (p1.toNatClampNeg + 7)) ((x 0) (p1.toNatClampNeg + 7)) p2 (gX (x := x) (k := 0) (r := (p1.toNatClampNeg + 7)) (f := ((x 0) (p1.toNatClampNeg + 7))) (by decide) hr10 ((congrFun rfl _).trans rfl)) r11 hc13) (fun _ _ _ => trivial) Xok_T (gX (x := x) (k := 0) (r := (p1.toNatClampNeg + 7)) (f := ((x 0) (p1.toNatClampNeg + 7))) (by decide) hr10 ((congrFun rfl _).trans rfl)) rfl ⟨rfl, rfl⟩ (n := 1) (by decide +kernel) rfl ⟨Nat.le_of_ble_eq_true rfl, Nat.le_of_ble_eq_true rfl⟩ ⟨Nat.le_of_ble_eq_true rfl, Nat.le_of_ble_eq_true rfl⟩ (Nat.le_of_ble_eq_true rfl) rfl dX9_windTo_38 (fun H locs hP hD hS => ?_)
      cases hF
      rw [hQ]
      exact retx_i hx hb hr hlk (Nat.le_of_ble_eq_true rfl) (Nat.le_of_ble_eq_true rfl) hS hP hD rfl rfl rfl dX9_windTo_41
    · replace hF := (if_pos h8).symm.trans hF
      cases hF
      rw [hQ]
      exact thrS (g := g) (en := en) hx hb hst0 hml hown hw hN hlk htb hST hS hP hD hl.1 (text := "there is no such cloud or vineyard") 7 rfl (by decide) k_817 k_98 at_108 (by decide) rfl rfl dX9_windTo_18 dX9_windTo_21 dX9_windTo_22 dX9_windTo_24 dX9_windTo_27 ⟨Nat.le_of_ble_eq_true rfl, Nat.le_of_ble_eq_true rfl, Nat.le_of_ble_eq_true rfl, Nat.le_of_ble_eq_true rfl⟩ (Nat.le_of_ble_eq_true rfl) ⟨Nat.le_of_ble_eq_true rfl, Nat.le_of_ble_eq_true rfl⟩
def D_X9_windToAgain (x : Mem) (p1 : Int32) (p2 : Int32) : Option (Int32 × Int32) := if (D_X4_hasCloud (x 0) p1) = 0 then (some (1, 0)) else (if (D_X9_isVineyard p2) = 0 then (some (1, 0)) else (if inb p1 6 then ((D_X1_windByDistance ((x 0) (p1.toNatClampNeg + 7)) p2).bind (fun r11 => some (0, r11))) else none))
abbrev rm_X9_windToAgain : Room := { frames := 6, cells := 2, slots := 12, locals := 90 }
def exn_X9_windToAgain : Int32 → String := fun _ => "java/lang/IndexOutOfBoundsException"
set_option maxHeartbeats 4000000 in
set_option maxRecDepth 100000 in
theorem met_X9_windToAgain (l : Launch) (hst0 : l.stackTraces = false) (D : va_G) (cy : Nat → ClassId) (sz : Nat) (ad : Nat → Nat → Nat) (en g : Nat → Nat) (x : Mem) (p1 : Int32) (p2 : Int32)  (code : Int32) (r : Int32) (hF : D_X9_windToAgain x p1 p2 = some (code, r)) : MT l yX9_windToAgain cX9_windToAgain 3 (some .int) rm_X9_windToAgain D cy en g (cW cy ad en x) sz [.ref (ad 12 0), .int p1, .int p2] exn_X9_windToAgain code r (cW cy ad en x) := by
  refine MT.of (by decide +kernel) (Nat.le_of_ble_eq_true rfl) ?_
  intro p e s m args below meth c A ls Q hAt htb hST hP hD hA hS hl hQ
  obtain ⟨hx, hb, hr, hml, hown, hw, hlk, hK, hN⟩ := hAt
  have hown : s.vm.findClass "CloudDeeds" = some m.cls := hown
  have hl : lv_has ls 3 [(0, .ref (ad 12 0)), (1, .int p1), (2, .int p2)] := hl
  refine lv_aload_n hx hb dX9_windToAgain_0 rfl (lv_at hl 0 rfl) ?_
  refine get' (ci := 11) (fs := [.ref (ad 0 0), .ref (ad 1 0), .ref (ad 2 0), .ref (ad 3 0), .int (((x 12) 0) 4), .ref (ad 12 1), .ref (ad 12 3), .ref (ad 12 4), .int (((x 12) 0) 8), .ref (ad 12 31)]) (v := .ref (ad 0 0)) hx hb hw inWX9 hown hK hP (gY (x := x) (r := 0) (f := ((x 12) 0)) (by decide) ((congrFun rfl _).trans rfl)) rfl 0 (by decide) k_345 rfl rfl dX9_windToAgain_1 ?_
  refine lv_iload_n hx hb dX9_windToAgain_4 rfl (lv_at hl 1 rfl) ?_
  have hP := cvP hP ((congrArg (cW cy ad en) (up_self x 0)).symm.trans (congrArg (fun z => cW cy ad en (va_up x 0 z)) rfl))
  have hD := cvD hD ((congrArg (cW cy ad en) (up_self x 0)).symm.trans (congrArg (fun z => cW cy ad en (va_up x 0 z)) rfl))
  refine cV_i (As := [.int p1]) (rest := []) hx hb hml hown hw hK hN hA hl.1 hP hD hS k_816 k_580 k_581 k_77 k_582 (met_X4_hasCloud l D cy _ ad en x 0 (by decide) (x 0) p1 (D_X4_hasCloud (x 0) p1) rfl) (fun _ _ _ => trivial) Xok_T (gX (x := (va_up x 0 (x 0))) (k := 0) (r := 0) (f := ((x 0) 0)) (by decide) (by decide) ((congrFun (va_up_self _ _ _) _).trans rfl)) rfl ⟨rfl, rfl⟩ (n := 1) (by decide +kernel) rfl ⟨Nat.le_of_ble_eq_true rfl, Nat.le_of_ble_eq_true rfl⟩ ⟨Nat.le_of_ble_eq_true rfl, Nat.le_of_ble_eq_true rfl⟩ (Nat.le_of_ble_eq_true rfl) rfl dX9_windToAgain_5 (fun H locs hP hD hS => ?_)
  have hP : va_P D vwCl (cW cy ad en x) H := cvP hP ((congrArg (cW cy ad en) (up_self x 0)).symm.trans (congrArg (fun z => cW cy ad en (va_up x 0 z)) rfl)).symm
  have hD : va_D A (cW cy ad en x) := cvD hD ((congrArg (cW cy ad en) (up_self x 0)).symm.trans (congrArg (fun z => cW cy ad en (va_up x 0 z)) rfl)).symm
  refine lv_if_eq (tgt := 18) hx hb dX9_windToAgain_8 (by decide) (fun h4 => ?_) (fun h4 => ?_)
  · replace hF := (if_pos h4).symm.trans hF
    cases hF
    rw [hQ]
    exact thrS (g := g) (en := en) hx hb hst0 hml hown hw hN hlk htb hST hS hP hD hl.1 (text := "there is no such cloud or vineyard") 7 rfl (by decide) k_817 k_98 at_108 (by decide) rfl rfl dX9_windToAgain_18 dX9_windToAgain_21 dX9_windToAgain_22 dX9_windToAgain_24 dX9_windToAgain_27 ⟨Nat.le_of_ble_eq_true rfl, Nat.le_of_ble_eq_true rfl, Nat.le_of_ble_eq_true rfl, Nat.le_of_ble_eq_true rfl⟩ (Nat.le_of_ble_eq_true rfl) ⟨Nat.le_of_ble_eq_true rfl, Nat.le_of_ble_eq_true rfl⟩
  · replace hF := (if_neg h4).symm.trans hF
    refine lv_iload_n hx hb dX9_windToAgain_11 rfl (lv_at hl 2 rfl) ?_
    refine cS_i (As := [.int p2]) (rest := []) hx hb hml hown hw hK hN hA hl.1 hP hD hS k_876 k_446 k_76 k_447 (met_X9_isVineyard l D cy _ (cW cy ad en x) p2 (D_X9_isVineyard p2) rfl) (fun _ _ _ => trivial) Xok_T ⟨rfl, rfl⟩ (n := 1) (by decide +kernel) rfl ⟨Nat.le_of_ble_eq_true rfl, Nat.le_of_ble_eq_true rfl⟩ ⟨Nat.le_of_ble_eq_true rfl, Nat.le_of_ble_eq_true rfl⟩ (Nat.le_of_ble_eq_true rfl) rfl dX9_windToAgain_12 (fun H locs hP hD hS => ?_)
    refine lv_if_ne (tgt := 28) hx hb dX9_windToAgain_15 (by decide) (fun h8 => ?_) (fun h8 => ?_)
    · replace hF := (if_neg h8).symm.trans hF
      refine lv_aload_n hx hb dX9_windToAgain_28 rfl (lv_at hl 0 rfl) ?_
      refine get' (ci := 11) (fs := [.ref (ad 0 0), .ref (ad 1 0), .ref (ad 2 0), .ref (ad 3 0), .int (((x 12) 0) 4), .ref (ad 12 1), .ref (ad 12 3), .ref (ad 12 4), .int (((x 12) 0) 8), .ref (ad 12 31)]) (v := .ref (ad 0 0)) hx hb hw inWX9 hown hK hP (gY (x := x) (r := 0) (f := ((x 12) 0)) (by decide) ((congrFun rfl _).trans rfl)) rfl 0 (by decide) k_345 rfl rfl dX9_windToAgain_29 ?_
      refine getN' (ci := 6) (fs := oF (ad 0) ((x 0) 0)) (v := .ref (ad 0 1)) hx hb hw hN inWX4 hown hK hP (gX (x := x) (k := 0) (r := 0) (f := ((x 0) 0)) (by decide) (by decide) ((congrFun rfl _).trans rfl)) rfl 0 (by decide) n_177 rfl rfl dX9_windToAgain_32 ?_
      refine lv_iload_n hx hb dX9_windToAgain_35 rfl (lv_at hl 1 rfl) ?_
      obtain ⟨h9, hF⟩ := ite_some hF
      have hr10 : (p1.toNatClampNeg + 7) < 13 := Nat.add_lt_add_right (inb_lt h9) 7
      refine aald' (n := 6) (g := (ad 0 (p1.toNatClampNeg + 7))) hx hb hK hP (gX (x := x) (k := 0) (r := 1) (f := ((x 0) 1)) (by decide) (by decide) ((congrFun rfl _).trans rfl)) (t0 := 3) rfl (vp_inb h9) rfl dX9_windToAgain_36 ?_
      refine lv_iload_n hx hb dX9_windToAgain_37 rfl (lv_at hl 2 rfl) ?_
      obtain ⟨r11, hc13, hF⟩ := bind_some hF
      try dsimp only at hF
      refine cV_i (As := [.int p2]) (rest := []) hx hb hml hown hw hK hN hA hl.1 hP hD hS k_915 k_515 k_516 k_79 k_517 (met_X1_windByDistance l D cy _ (cW cy ad en x) (13 * 0 + (p1.toNatClampNeg + 7)) (ad 0 (p1.toNatClampNeg + 7)) ((x 0) (p1.toNatClampNeg + 7)) p2 (gX (x := x) (k := 0) (r := (p1.toNatClampNeg + 7)) (f := ((x 0) (p1.toNatClampNeg + 7))) (by decide) hr10 ((congrFun rfl _).trans rfl)) r11 hc13) (fun _ _ _ => trivial) Xok_T (gX (x := x) (k := 0) (r := (p1.toNatClampNeg + 7)) (f := ((x 0) (p1.toNatClampNeg + 7))) (by decide) hr10 ((congrFun rfl _).trans rfl)) rfl ⟨rfl, rfl⟩ (n := 1) (by decide +kernel) rfl ⟨Nat.le_of_ble_eq_true rfl, Nat.le_of_ble_eq_true rfl⟩ ⟨Nat.le_of_ble_eq_true rfl, Nat.le_of_ble_eq_true rfl⟩ (Nat.le_of_ble_eq_true rfl) rfl dX9_windToAgain_38 (fun H locs hP hD hS => ?_)
      cases hF
      rw [hQ]
      exact retx_i hx hb hr hlk (Nat.le_of_ble_eq_true rfl) (Nat.le_of_ble_eq_true rfl) hS hP hD rfl rfl rfl dX9_windToAgain_41
    · replace hF := (if_pos h8).symm.trans hF
      cases hF
      rw [hQ]
      exact thrS (g := g) (en := en) hx hb hst0 hml hown hw hN hlk htb hST hS hP hD hl.1 (text := "there is no such cloud or vineyard") 7 rfl (by decide) k_817 k_98 at_108 (by decide) rfl rfl dX9_windToAgain_18 dX9_windToAgain_21 dX9_windToAgain_22 dX9_windToAgain_24 dX9_windToAgain_27 ⟨Nat.le_of_ble_eq_true rfl, Nat.le_of_ble_eq_true rfl, Nat.le_of_ble_eq_true rfl, Nat.le_of_ble_eq_true rfl⟩ (Nat.le_of_ble_eq_true rfl) ⟨Nat.le_of_ble_eq_true rfl, Nat.le_of_ble_eq_true rfl⟩
def D_X9_recorded (x : Mem) (p1 : Int32) (p2 : Int32) : Option (Int32 × Int32) := if (D_X7_hasDawn (x 0) p1) = 0 then (some (1, 0)) else ((D_X7_cloudsAt (x 0) p1).bind (fun r5 => if (D_X9_isWithin p2 r5) = 0 then (some (1, 0)) else ((D_X7_ownerAt (x 0) p1 p2).bind (fun r12 => some (0, r12)))))
abbrev rm_X9_recorded : Room := { frames := 6, cells := 2, slots := 12, locals := 90 }
def exn_X9_recorded : Int32 → String := fun _ => "java/util/NoSuchElementException"
set_option maxHeartbeats 4000000 in
set_option maxRecDepth 100000 in
theorem met_X9_recorded (l : Launch) (hst0 : l.stackTraces = false) (D : va_G) (cy : Nat → ClassId) (sz : Nat) (ad : Nat → Nat → Nat) (en g : Nat → Nat) (x : Mem) (p1 : Int32) (p2 : Int32)  (code : Int32) (r : Int32) (hF : D_X9_recorded x p1 p2 = some (code, r)) : MT l yX9_recorded cX9_recorded 4 (some .int) rm_X9_recorded D cy en g (cW cy ad en x) sz [.ref (ad 12 0), .int p1, .int p2] exn_X9_recorded code r (cW cy ad en x) := by
  refine MT.of (by decide +kernel) (Nat.le_of_ble_eq_true rfl) ?_
  intro p e s m args below meth c A ls Q hAt htb hST hP hD hA hS hl hQ
  obtain ⟨hx, hb, hr, hml, hown, hw, hlk, hK, hN⟩ := hAt
  have hown : s.vm.findClass "CloudDeeds" = some m.cls := hown
  have hl : lv_has ls 4 [(0, .ref (ad 12 0)), (1, .int p1), (2, .int p2)] := hl
  refine lv_aload_n hx hb dX9_recorded_0 rfl (lv_at hl 0 rfl) ?_
  refine get' (ci := 11) (fs := [.ref (ad 0 0), .ref (ad 1 0), .ref (ad 2 0), .ref (ad 3 0), .int (((x 12) 0) 4), .ref (ad 12 1), .ref (ad 12 3), .ref (ad 12 4), .int (((x 12) 0) 8), .ref (ad 12 31)]) (v := .ref (ad 0 0)) hx hb hw inWX9 hown hK hP (gY (x := x) (r := 0) (f := ((x 12) 0)) (by decide) ((congrFun rfl _).trans rfl)) rfl 0 (by decide) k_345 rfl rfl dX9_recorded_1 ?_
  refine getN' (ci := 6) (fs := oF (ad 0) ((x 0) 0)) (v := .ref (ad 0 4)) hx hb hw hN inWX4 hown hK hP (gX (x := x) (k := 0) (r := 0) (f := ((x 0) 0)) (by decide) (by decide) ((congrFun rfl _).trans rfl)) rfl 4 (by decide) n_183 rfl rfl dX9_recorded_4 ?_
  refine lv_astore_n (lv' := [(3, .ref (ad 0 4)), (0, .ref (ad 12 0)), (1, .int p1), (2, .int p2)]) hx hb dX9_recorded_7 rfl hl (by decide) rfl (fun ls hl => ?_)
  refine lv_aload_n hx hb dX9_recorded_8 rfl (lv_at hl 0 rfl) ?_
  refine lv_iload_n hx hb dX9_recorded_9 rfl (lv_at hl 2 rfl) ?_
  have hP := cvP hP ((congrArg (cW cy ad en) (up_self x 0)).symm.trans (congrArg (fun z => cW cy ad en (va_up x 0 z)) rfl))
  have hD := cvD hD ((congrArg (cW cy ad en) (up_self x 0)).symm.trans (congrArg (fun z => cW cy ad en (va_up x 0 z)) rfl))
  refine cV_i (As := [.int p1]) (rest := []) hx hb hml hown hw hK hN hA hl.1 hP hD hS k_944 k_945 k_946 k_78 k_947 (met_X7_hasDawn l D cy _ ad en x 0 (by decide) (x 0) p1 (D_X7_hasDawn (x 0) p1) rfl) (fun _ _ _ => trivial) Xok_T (gX (x := (va_up x 0 (x 0))) (k := 0) (r := 4) (f := ((x 0) 4)) (by decide) (by decide) ((congrFun (va_up_self _ _ _) _).trans rfl)) rfl ⟨rfl, rfl⟩ (n := 1) (by decide +kernel) rfl ⟨Nat.le_of_ble_eq_true rfl, Nat.le_of_ble_eq_true rfl⟩ ⟨Nat.le_of_ble_eq_true rfl, Nat.le_of_ble_eq_true rfl⟩ (Nat.le_of_ble_eq_true rfl) rfl dX9_recorded_10 (fun H locs hP hD hS => ?_)
  have hP : va_P D vwCl (cW cy ad en x) H := cvP hP ((congrArg (cW cy ad en) (up_self x 0)).symm.trans (congrArg (fun z => cW cy ad en (va_up x 0 z)) rfl)).symm
  have hD : va_D A (cW cy ad en x) := cvD hD ((congrArg (cW cy ad en) (up_self x 0)).symm.trans (congrArg (fun z => cW cy ad en (va_up x 0 z)) rfl)).symm
  refine lv_if_eq (tgt := 28) hx hb dX9_recorded_13 (by decide) (fun h4 => ?_) (fun h4 => ?_)
  · replace hF := (if_pos h4).symm.trans hF
    cases hF
    rw [hQ]
    exact thrN (g := g) (en := en) hx hb hst0 hml hown hw hN hlk htb hST hS hP hD hl.1 (text := "there is no such dawn, or there was no such cloud") 9 rfl k_954 k_101 at_185 (by decide) rfl rfl dX9_recorded_28 dX9_recorded_31 dX9_recorded_32 dX9_recorded_34 dX9_recorded_37 ⟨Nat.le_of_ble_eq_true rfl, Nat.le_of_ble_eq_true rfl, Nat.le_of_ble_eq_true rfl, Nat.le_of_ble_eq_true rfl⟩ (Nat.le_of_ble_eq_true rfl) ⟨Nat.le_of_ble_eq_true rfl, Nat.le_of_ble_eq_true rfl⟩
  · replace hF := (if_neg h4).symm.trans hF
    refine lv_iload_n hx hb dX9_recorded_16 rfl (lv_at hl 3 rfl) ?_
    refine lv_aload_n hx hb dX9_recorded_17 rfl (lv_at hl 0 rfl) ?_
    refine lv_iload_n hx hb dX9_recorded_18 rfl (lv_at hl 2 rfl) ?_
    have hP := cvP hP ((congrArg (cW cy ad en) (up_self x 0)).symm.trans (congrArg (fun z => cW cy ad en (va_up x 0 z)) rfl))
    have hD := cvD hD ((congrArg (cW cy ad en) (up_self x 0)).symm.trans (congrArg (fun z => cW cy ad en (va_up x 0 z)) rfl))
    obtain ⟨r5, hc7, hF⟩ := bind_some hF
    try dsimp only at hF
    refine cV_i (As := [.int p1]) (rest := [.int p2]) hx hb hml hown hw hK hN hA hl.1 hP hD hS k_949 k_950 k_951 k_78 k_952 (met_X7_cloudsAt l D cy _ ad en x 0 (by decide) (x 0) p1 r5 hc7) (fun _ _ _ => trivial) Xok_T (gX (x := (va_up x 0 (x 0))) (k := 0) (r := 4) (f := ((x 0) 4)) (by decide) (by decide) ((congrFun (va_up_self _ _ _) _).trans rfl)) rfl ⟨rfl, rfl⟩ (n := 1) (by decide +kernel) rfl ⟨Nat.le_of_ble_eq_true rfl, Nat.le_of_ble_eq_true rfl⟩ ⟨Nat.le_of_ble_eq_true rfl, Nat.le_of_ble_eq_true rfl⟩ (Nat.le_of_ble_eq_true rfl) rfl dX9_recorded_19 (fun H locs hP hD hS => ?_)
    have hP : va_P D vwCl (cW cy ad en x) H := cvP hP ((congrArg (cW cy ad en) (up_self x 0)).symm.trans (congrArg (fun z => cW cy ad en (va_up x 0 z)) rfl)).symm
    have hD : va_D A (cW cy ad en x) := cvD hD ((congrArg (cW cy ad en) (up_self x 0)).symm.trans (congrArg (fun z => cW cy ad en (va_up x 0 z)) rfl)).symm
    refine cS_i (As := [.int p2, .int r5]) (rest := []) hx hb hml hown hw hK hN hA hl.1 hP hD hS k_830 k_385 k_76 k_386 (met_X9_isWithin l D cy _ (cW cy ad en x) p2 r5 (D_X9_isWithin p2 r5) rfl) (fun _ _ _ => trivial) Xok_T ⟨rfl, rfl⟩ (n := 2) (by decide +kernel) rfl ⟨Nat.le_of_ble_eq_true rfl, Nat.le_of_ble_eq_true rfl⟩ ⟨Nat.le_of_ble_eq_true rfl, Nat.le_of_ble_eq_true rfl⟩ (Nat.le_of_ble_eq_true rfl) rfl dX9_recorded_22 (fun H locs hP hD hS => ?_)
    refine lv_if_ne (tgt := 38) hx hb dX9_recorded_25 (by decide) (fun h11 => ?_) (fun h11 => ?_)
    · replace hF := (if_neg h11).symm.trans hF
      refine lv_aload_n hx hb dX9_recorded_38 rfl (lv_at hl 0 rfl) ?_
      refine lv_iload_n hx hb dX9_recorded_39 rfl (lv_at hl 2 rfl) ?_
      refine lv_iload_n hx hb dX9_recorded_40 rfl (lv_at hl 3 rfl) ?_
      have hP := cvP hP ((congrArg (cW cy ad en) (up_self x 0)).symm.trans (congrArg (fun z => cW cy ad en (va_up x 0 z)) rfl))
      have hD := cvD hD ((congrArg (cW cy ad en) (up_self x 0)).symm.trans (congrArg (fun z => cW cy ad en (va_up x 0 z)) rfl))
      obtain ⟨r12, hc14, hF⟩ := bind_some hF
      try dsimp only at hF
      refine cV_i (As := [.int p1, .int p2]) (rest := []) hx hb hml hown hw hK hN hA hl.1 hP hD hS k_970 k_971 k_972 k_78 k_973 (met_X7_ownerAt l D cy _ ad en x 0 (by decide) (x 0) p1 p2 r12 hc14) (fun _ _ _ => trivial) Xok_T (gX (x := (va_up x 0 (x 0))) (k := 0) (r := 4) (f := ((x 0) 4)) (by decide) (by decide) ((congrFun (va_up_self _ _ _) _).trans rfl)) rfl ⟨rfl, rfl⟩ (n := 2) (by decide +kernel) rfl ⟨Nat.le_of_ble_eq_true rfl, Nat.le_of_ble_eq_true rfl⟩ ⟨Nat.le_of_ble_eq_true rfl, Nat.le_of_ble_eq_true rfl⟩ (Nat.le_of_ble_eq_true rfl) rfl dX9_recorded_41 (fun H locs hP hD hS => ?_)
      have hP : va_P D vwCl (cW cy ad en x) H := cvP hP ((congrArg (cW cy ad en) (up_self x 0)).symm.trans (congrArg (fun z => cW cy ad en (va_up x 0 z)) rfl)).symm
      have hD : va_D A (cW cy ad en x) := cvD hD ((congrArg (cW cy ad en) (up_self x 0)).symm.trans (congrArg (fun z => cW cy ad en (va_up x 0 z)) rfl)).symm
      cases hF
      rw [hQ]
      exact retx_i hx hb hr hlk (Nat.le_of_ble_eq_true rfl) (Nat.le_of_ble_eq_true rfl) hS hP hD rfl rfl rfl dX9_recorded_44
    · replace hF := (if_pos h11).symm.trans hF
      cases hF
      rw [hQ]
      exact thrN (g := g) (en := en) hx hb hst0 hml hown hw hN hlk htb hST hS hP hD hl.1 (text := "there is no such dawn, or there was no such cloud") 9 rfl k_954 k_101 at_185 (by decide) rfl rfl dX9_recorded_28 dX9_recorded_31 dX9_recorded_32 dX9_recorded_34 dX9_recorded_37 ⟨Nat.le_of_ble_eq_true rfl, Nat.le_of_ble_eq_true rfl, Nat.le_of_ble_eq_true rfl, Nat.le_of_ble_eq_true rfl⟩ (Nat.le_of_ble_eq_true rfl) ⟨Nat.le_of_ble_eq_true rfl, Nat.le_of_ble_eq_true rfl⟩
def D_X9_coins (x : Mem) : Option (Int32) := (D_X4_coinsCounted (x 0)).bind (fun r1 => some r1)
abbrev rm_X9_coins : Room := { frames := 1, cells := 0, slots := 0, locals := 22 }
set_option maxHeartbeats 4000000 in
set_option maxRecDepth 100000 in
theorem met_X9_coins (l : Launch) (D : va_G) (cy : Nat → ClassId) (sz : Nat) (ad : Nat → Nat → Nat) (en g : Nat → Nat) (x : Mem)  (r : Int32) (hF : D_X9_coins x = some r) : MI l yX9_coins cX9_coins 1 (some .int) rm_X9_coins D cy (cW cy ad en x) sz (fun _ => True) [.ref (ad 12 0)] r (cW cy ad en x) := by
  refine MI.of (by decide +kernel) (Nat.le_of_ble_eq_true rfl) ?_
  intro p e s m args below meth c A ls Q hAt _ hP hD hA hS hl hret
  obtain ⟨hx, hb, hr, hml, hown, hw, hlk, hK, hN⟩ := hAt
  have hown : s.vm.findClass "CloudDeeds" = some m.cls := hown
  have hl : lv_has ls 1 [(0, .ref (ad 12 0))] := hl
  refine lv_aload_n hx hb dX9_coins_0 rfl (lv_at hl 0 rfl) ?_
  refine get' (ci := 11) (fs := [.ref (ad 0 0), .ref (ad 1 0), .ref (ad 2 0), .ref (ad 3 0), .int (((x 12) 0) 4), .ref (ad 12 1), .ref (ad 12 3), .ref (ad 12 4), .int (((x 12) 0) 8), .ref (ad 12 31)]) (v := .ref (ad 0 0)) hx hb hw inWX9 hown hK hP (gY (x := x) (r := 0) (f := ((x 12) 0)) (by decide) ((congrFun rfl _).trans rfl)) rfl 0 (by decide) k_345 rfl rfl dX9_coins_1 ?_
  have hP := cvP hP ((congrArg (cW cy ad en) (up_self x 0)).symm.trans (congrArg (fun z => cW cy ad en (va_up x 0 z)) rfl))
  have hD := cvD hD ((congrArg (cW cy ad en) (up_self x 0)).symm.trans (congrArg (fun z => cW cy ad en (va_up x 0 z)) rfl))
  obtain ⟨r1, hc3, hF⟩ := bind_some hF
  try dsimp only at hF
  refine cV_i (As := []) (rest := []) hx hb hml hown hw hK hN hA hl.1 hP hD hS k_473 k_474 k_475 k_77 k_476 (met_X4_coinsCounted l D cy _ ad en x 0 (by decide) (x 0) r1 hc3) (fun _ _ _ => trivial) Xok_T (gX (x := (va_up x 0 (x 0))) (k := 0) (r := 0) (f := ((x 0) 0)) (by decide) (by decide) ((congrFun (va_up_self _ _ _) _).trans rfl)) rfl ⟨rfl, rfl⟩ (n := 0) (by decide +kernel) rfl ⟨Nat.le_of_ble_eq_true rfl, Nat.le_of_ble_eq_true rfl⟩ ⟨Nat.le_of_ble_eq_true rfl, Nat.le_of_ble_eq_true rfl⟩ (Nat.le_of_ble_eq_true rfl) rfl dX9_coins_4 (fun H locs hP hD hS => ?_)
  have hP : va_P D vwCl (cW cy ad en x) H := cvP hP ((congrArg (cW cy ad en) (up_self x 0)).symm.trans (congrArg (fun z => cW cy ad en (va_up x 0 z)) rfl)).symm
  have hD : va_D A (cW cy ad en x) := cvD hD ((congrArg (cW cy ad en) (up_self x 0)).symm.trans (congrArg (fun z => cW cy ad en (va_up x 0 z)) rfl)).symm
  cases hF
  exact hret _ _ _ _ _ _ hP hD hS rfl rfl dX9_coins_7
def D_X9_coinsAgain (x : Mem) : Int32 := (D_X4_coinsByPayments (x 0))
abbrev rm_X9_coinsAgain : Room := { frames := 1, cells := 0, slots := 0, locals := 20 }
set_option maxHeartbeats 4000000 in
set_option maxRecDepth 100000 in
theorem met_X9_coinsAgain (l : Launch) (D : va_G) (cy : Nat → ClassId) (sz : Nat) (ad : Nat → Nat → Nat) (en g : Nat → Nat) (x : Mem)  (r : Int32) (hF : D_X9_coinsAgain x = r) : MI l yX9_coinsAgain cX9_coinsAgain 1 (some .int) rm_X9_coinsAgain D cy (cW cy ad en x) sz (fun _ => True) [.ref (ad 12 0)] r (cW cy ad en x) := by
  refine MI.of (by decide +kernel) (Nat.le_of_ble_eq_true rfl) ?_
  intro p e s m args below meth c A ls Q hAt _ hP hD hA hS hl hret
  obtain ⟨hx, hb, hr, hml, hown, hw, hlk, hK, hN⟩ := hAt
  have hown : s.vm.findClass "CloudDeeds" = some m.cls := hown
  have hl : lv_has ls 1 [(0, .ref (ad 12 0))] := hl
  refine lv_aload_n hx hb dX9_coinsAgain_0 rfl (lv_at hl 0 rfl) ?_
  refine get' (ci := 11) (fs := [.ref (ad 0 0), .ref (ad 1 0), .ref (ad 2 0), .ref (ad 3 0), .int (((x 12) 0) 4), .ref (ad 12 1), .ref (ad 12 3), .ref (ad 12 4), .int (((x 12) 0) 8), .ref (ad 12 31)]) (v := .ref (ad 0 0)) hx hb hw inWX9 hown hK hP (gY (x := x) (r := 0) (f := ((x 12) 0)) (by decide) ((congrFun rfl _).trans rfl)) rfl 0 (by decide) k_345 rfl rfl dX9_coinsAgain_1 ?_
  have hP := cvP hP ((congrArg (cW cy ad en) (up_self x 0)).symm.trans (congrArg (fun z => cW cy ad en (va_up x 0 z)) rfl))
  have hD := cvD hD ((congrArg (cW cy ad en) (up_self x 0)).symm.trans (congrArg (fun z => cW cy ad en (va_up x 0 z)) rfl))
  refine cV_i (As := []) (rest := []) hx hb hml hown hw hK hN hA hl.1 hP hD hS k_481 k_482 k_483 k_77 k_484 (met_X4_coinsByPayments l D cy _ ad en x 0 (by decide) (x 0) (D_X4_coinsByPayments (x 0)) rfl) (fun _ _ _ => trivial) Xok_T (gX (x := (va_up x 0 (x 0))) (k := 0) (r := 0) (f := ((x 0) 0)) (by decide) (by decide) ((congrFun (va_up_self _ _ _) _).trans rfl)) rfl ⟨rfl, rfl⟩ (n := 0) (by decide +kernel) rfl ⟨Nat.le_of_ble_eq_true rfl, Nat.le_of_ble_eq_true rfl⟩ ⟨Nat.le_of_ble_eq_true rfl, Nat.le_of_ble_eq_true rfl⟩ (Nat.le_of_ble_eq_true rfl) rfl dX9_coinsAgain_4 (fun H locs hP hD hS => ?_)
  have hP : va_P D vwCl (cW cy ad en x) H := cvP hP ((congrArg (cW cy ad en) (up_self x 0)).symm.trans (congrArg (fun z => cW cy ad en (va_up x 0 z)) rfl)).symm
  have hD : va_D A (cW cy ad en x) := cvD hD ((congrArg (cW cy ad en) (up_self x 0)).symm.trans (congrArg (fun z => cW cy ad en (va_up x 0 z)) rfl)).symm
  cases hF
  exact hret _ _ _ _ _ _ hP hD hS rfl rfl dX9_coinsAgain_7
def D_X9_greatest (x : Mem) (p1 : Int32) : Option (Int32 × Int32) := if (D_X9_isWithin p1 (((x 0) 0) 1)) = 0 then (some (1, 0)) else ((D_X4_cloudAtPlace (x 0) p1).bind (fun r5 => some (0, r5)))
abbrev rm_X9_greatest : Room := { frames := 6, cells := 2, slots := 12, locals := 109 }
def exn_X9_greatest : Int32 → String := fun _ => "java/util/NoSuchElementException"
set_option maxHeartbeats 4000000 in
set_option maxRecDepth 100000 in
theorem met_X9_greatest (l : Launch) (hst0 : l.stackTraces = false) (D : va_G) (cy : Nat → ClassId) (sz : Nat) (ad : Nat → Nat → Nat) (en g : Nat → Nat) (x : Mem) (p1 : Int32)  (code : Int32) (r : Int32) (hF : D_X9_greatest x p1 = some (code, r)) : MT l yX9_greatest cX9_greatest 2 (some .int) rm_X9_greatest D cy en g (cW cy ad en x) sz [.ref (ad 12 0), .int p1] exn_X9_greatest code r (cW cy ad en x) := by
  refine MT.of (by decide +kernel) (Nat.le_of_ble_eq_true rfl) ?_
  intro p e s m args below meth c A ls Q hAt htb hST hP hD hA hS hl hQ
  obtain ⟨hx, hb, hr, hml, hown, hw, hlk, hK, hN⟩ := hAt
  have hown : s.vm.findClass "CloudDeeds" = some m.cls := hown
  have hl : lv_has ls 2 [(0, .ref (ad 12 0)), (1, .int p1)] := hl
  refine lv_iload_n hx hb dX9_greatest_0 rfl (lv_at hl 1 rfl) ?_
  refine lv_aload_n hx hb dX9_greatest_1 rfl (lv_at hl 0 rfl) ?_
  refine get' (ci := 11) (fs := [.ref (ad 0 0), .ref (ad 1 0), .ref (ad 2 0), .ref (ad 3 0), .int (((x 12) 0) 4), .ref (ad 12 1), .ref (ad 12 3), .ref (ad 12 4), .int (((x 12) 0) 8), .ref (ad 12 31)]) (v := .ref (ad 0 0)) hx hb hw inWX9 hown hK hP (gY (x := x) (r := 0) (f := ((x 12) 0)) (by decide) ((congrFun rfl _).trans rfl)) rfl 0 (by decide) k_345 rfl rfl dX9_greatest_2 ?_
  refine getN' (ci := 6) (fs := oF (ad 0) ((x 0) 0)) (v := .int (((x 0) 0) 1)) hx hb hw hN inWX4 hown hK hP (gX (x := x) (k := 0) (r := 0) (f := ((x 0) 0)) (by decide) (by decide) ((congrFun rfl _).trans rfl)) rfl 1 (by decide) n_179 rfl rfl dX9_greatest_5 ?_
  refine cS_i (As := [.int p1, .int (((x 0) 0) 1)]) (rest := []) hx hb hml hown hw hK hN hA hl.1 hP hD hS k_830 k_385 k_76 k_386 (met_X9_isWithin l D cy _ (cW cy ad en x) p1 (((x 0) 0) 1) (D_X9_isWithin p1 (((x 0) 0) 1)) rfl) (fun _ _ _ => trivial) Xok_T ⟨rfl, rfl⟩ (n := 2) (by decide +kernel) rfl ⟨Nat.le_of_ble_eq_true rfl, Nat.le_of_ble_eq_true rfl⟩ ⟨Nat.le_of_ble_eq_true rfl, Nat.le_of_ble_eq_true rfl⟩ (Nat.le_of_ble_eq_true rfl) rfl dX9_greatest_8 (fun H locs hP hD hS => ?_)
  refine lv_if_ne (tgt := 24) hx hb dX9_greatest_11 (by decide) (fun h4 => ?_) (fun h4 => ?_)
  · replace hF := (if_neg h4).symm.trans hF
    refine lv_aload_n hx hb dX9_greatest_24 rfl (lv_at hl 0 rfl) ?_
    refine get' (ci := 11) (fs := [.ref (ad 0 0), .ref (ad 1 0), .ref (ad 2 0), .ref (ad 3 0), .int (((x 12) 0) 4), .ref (ad 12 1), .ref (ad 12 3), .ref (ad 12 4), .int (((x 12) 0) 8), .ref (ad 12 31)]) (v := .ref (ad 0 0)) hx hb hw inWX9 hown hK hP (gY (x := x) (r := 0) (f := ((x 12) 0)) (by decide) ((congrFun rfl _).trans rfl)) rfl 0 (by decide) k_345 rfl rfl dX9_greatest_25 ?_
    refine lv_iload_n hx hb dX9_greatest_28 rfl (lv_at hl 1 rfl) ?_
    have hP := cvP hP ((congrArg (cW cy ad en) (up_self x 0)).symm.trans (congrArg (fun z => cW cy ad en (va_up x 0 z)) rfl))
    have hD := cvD hD ((congrArg (cW cy ad en) (up_self x 0)).symm.trans (congrArg (fun z => cW cy ad en (va_up x 0 z)) rfl))
    obtain ⟨r5, hc7, hF⟩ := bind_some hF
    try dsimp only at hF
    refine cV_i (As := [.int p1]) (rest := []) hx hb hml hown hw hK hN hA hl.1 hP hD hS k_983 k_984 k_985 k_77 k_986 (met_X4_cloudAtPlace l D cy _ ad en x 0 (by decide) (x 0) p1 r5 hc7) (fun _ _ _ => trivial) Xok_T (gX (x := (va_up x 0 (x 0))) (k := 0) (r := 0) (f := ((x 0) 0)) (by decide) (by decide) ((congrFun (va_up_self _ _ _) _).trans rfl)) rfl ⟨rfl, rfl⟩ (n := 1) (by decide +kernel) rfl ⟨Nat.le_of_ble_eq_true rfl, Nat.le_of_ble_eq_true rfl⟩ ⟨Nat.le_of_ble_eq_true rfl, Nat.le_of_ble_eq_true rfl⟩ (Nat.le_of_ble_eq_true rfl) rfl dX9_greatest_29 (fun H locs hP hD hS => ?_)
    have hP : va_P D vwCl (cW cy ad en x) H := cvP hP ((congrArg (cW cy ad en) (up_self x 0)).symm.trans (congrArg (fun z => cW cy ad en (va_up x 0 z)) rfl)).symm
    have hD : va_D A (cW cy ad en x) := cvD hD ((congrArg (cW cy ad en) (up_self x 0)).symm.trans (congrArg (fun z => cW cy ad en (va_up x 0 z)) rfl)).symm
    cases hF
    rw [hQ]
    exact retx_i hx hb hr hlk (Nat.le_of_ble_eq_true rfl) (Nat.le_of_ble_eq_true rfl) hS hP hD rfl rfl rfl dX9_greatest_32
  · replace hF := (if_pos h4).symm.trans hF
    cases hF
    rw [hQ]
    exact thrN (g := g) (en := en) hx hb hst0 hml hown hw hN hlk htb hST hS hP hD hl.1 (text := "there is no such place") 10 rfl k_954 k_101 at_185 (by decide) rfl rfl dX9_greatest_14 dX9_greatest_17 dX9_greatest_18 dX9_greatest_20 dX9_greatest_23 ⟨Nat.le_of_ble_eq_true rfl, Nat.le_of_ble_eq_true rfl, Nat.le_of_ble_eq_true rfl, Nat.le_of_ble_eq_true rfl⟩ (Nat.le_of_ble_eq_true rfl) ⟨Nat.le_of_ble_eq_true rfl, Nat.le_of_ble_eq_true rfl⟩
def D_X9_ranked (x : Mem) (p1 : Int32) : Option (Int32 × Int32) := if (D_X9_isWithin p1 4) = 0 then (some (1, 0)) else ((D_X4_ownerAtPlace (x 0) p1).bind (fun r5 => some (0, r5)))
abbrev rm_X9_ranked : Room := { frames := 6, cells := 2, slots := 12, locals := 109 }
def exn_X9_ranked : Int32 → String := fun _ => "java/util/NoSuchElementException"
set_option maxHeartbeats 4000000 in
set_option maxRecDepth 100000 in
theorem met_X9_ranked (l : Launch) (hst0 : l.stackTraces = false) (D : va_G) (cy : Nat → ClassId) (sz : Nat) (ad : Nat → Nat → Nat) (en g : Nat → Nat) (x : Mem) (p1 : Int32)  (code : Int32) (r : Int32) (hF : D_X9_ranked x p1 = some (code, r)) : MT l yX9_ranked cX9_ranked 2 (some .int) rm_X9_ranked D cy en g (cW cy ad en x) sz [.ref (ad 12 0), .int p1] exn_X9_ranked code r (cW cy ad en x) := by
  refine MT.of (by decide +kernel) (Nat.le_of_ble_eq_true rfl) ?_
  intro p e s m args below meth c A ls Q hAt htb hST hP hD hA hS hl hQ
  obtain ⟨hx, hb, hr, hml, hown, hw, hlk, hK, hN⟩ := hAt
  have hown : s.vm.findClass "CloudDeeds" = some m.cls := hown
  have hl : lv_has ls 2 [(0, .ref (ad 12 0)), (1, .int p1)] := hl
  refine lv_iload_n hx hb dX9_ranked_0 rfl (lv_at hl 1 rfl) ?_
  refine lv_iconst (v := 4) hx hb dX9_ranked_1 (by decide) ?_
  refine cS_i (As := [.int p1, .int 4]) (rest := []) hx hb hml hown hw hK hN hA hl.1 hP hD hS k_830 k_385 k_76 k_386 (met_X9_isWithin l D cy _ (cW cy ad en x) p1 4 (D_X9_isWithin p1 4) rfl) (fun _ _ _ => trivial) Xok_T ⟨rfl, rfl⟩ (n := 2) (by decide +kernel) rfl ⟨Nat.le_of_ble_eq_true rfl, Nat.le_of_ble_eq_true rfl⟩ ⟨Nat.le_of_ble_eq_true rfl, Nat.le_of_ble_eq_true rfl⟩ (Nat.le_of_ble_eq_true rfl) rfl dX9_ranked_2 (fun H locs hP hD hS => ?_)
  refine lv_if_ne (tgt := 18) hx hb dX9_ranked_5 (by decide) (fun h4 => ?_) (fun h4 => ?_)
  · replace hF := (if_neg h4).symm.trans hF
    refine lv_aload_n hx hb dX9_ranked_18 rfl (lv_at hl 0 rfl) ?_
    refine get' (ci := 11) (fs := [.ref (ad 0 0), .ref (ad 1 0), .ref (ad 2 0), .ref (ad 3 0), .int (((x 12) 0) 4), .ref (ad 12 1), .ref (ad 12 3), .ref (ad 12 4), .int (((x 12) 0) 8), .ref (ad 12 31)]) (v := .ref (ad 0 0)) hx hb hw inWX9 hown hK hP (gY (x := x) (r := 0) (f := ((x 12) 0)) (by decide) ((congrFun rfl _).trans rfl)) rfl 0 (by decide) k_345 rfl rfl dX9_ranked_19 ?_
    refine lv_iload_n hx hb dX9_ranked_22 rfl (lv_at hl 1 rfl) ?_
    have hP := cvP hP ((congrArg (cW cy ad en) (up_self x 0)).symm.trans (congrArg (fun z => cW cy ad en (va_up x 0 z)) rfl))
    have hD := cvD hD ((congrArg (cW cy ad en) (up_self x 0)).symm.trans (congrArg (fun z => cW cy ad en (va_up x 0 z)) rfl))
    obtain ⟨r5, hc7, hF⟩ := bind_some hF
    try dsimp only at hF
    refine cV_i (As := [.int p1]) (rest := []) hx hb hml hown hw hK hN hA hl.1 hP hD hS k_1006 k_1007 k_1008 k_77 k_1009 (met_X4_ownerAtPlace l D cy _ ad en x 0 (by decide) (x 0) p1 r5 hc7) (fun _ _ _ => trivial) Xok_T (gX (x := (va_up x 0 (x 0))) (k := 0) (r := 0) (f := ((x 0) 0)) (by decide) (by decide) ((congrFun (va_up_self _ _ _) _).trans rfl)) rfl ⟨rfl, rfl⟩ (n := 1) (by decide +kernel) rfl ⟨Nat.le_of_ble_eq_true rfl, Nat.le_of_ble_eq_true rfl⟩ ⟨Nat.le_of_ble_eq_true rfl, Nat.le_of_ble_eq_true rfl⟩ (Nat.le_of_ble_eq_true rfl) rfl dX9_ranked_23 (fun H locs hP hD hS => ?_)
    have hP : va_P D vwCl (cW cy ad en x) H := cvP hP ((congrArg (cW cy ad en) (up_self x 0)).symm.trans (congrArg (fun z => cW cy ad en (va_up x 0 z)) rfl)).symm
    have hD : va_D A (cW cy ad en x) := cvD hD ((congrArg (cW cy ad en) (up_self x 0)).symm.trans (congrArg (fun z => cW cy ad en (va_up x 0 z)) rfl)).symm
    cases hF
    rw [hQ]
    exact retx_i hx hb hr hlk (Nat.le_of_ble_eq_true rfl) (Nat.le_of_ble_eq_true rfl) hS hP hD rfl rfl rfl dX9_ranked_26
  · replace hF := (if_pos h4).symm.trans hF
    cases hF
    rw [hQ]
    exact thrN (g := g) (en := en) hx hb hst0 hml hown hw hN hlk htb hST hS hP hD hl.1 (text := "there is no such place") 10 rfl k_954 k_101 at_185 (by decide) rfl rfl dX9_ranked_8 dX9_ranked_11 dX9_ranked_12 dX9_ranked_14 dX9_ranked_17 ⟨Nat.le_of_ble_eq_true rfl, Nat.le_of_ble_eq_true rfl, Nat.le_of_ble_eq_true rfl, Nat.le_of_ble_eq_true rfl⟩ (Nat.le_of_ble_eq_true rfl) ⟨Nat.le_of_ble_eq_true rfl, Nat.le_of_ble_eq_true rfl⟩
def D_X9_faultPosition (x : Mem) : Int32 × Int32 := if (((x 12) 0) 8) = (-1) then ((1, 0)) else ((0, (((x 12) 0) 8)))
abbrev rm_X9_faultPosition : Room := { frames := 6, cells := 2, slots := 12, locals := 90 }
def exn_X9_faultPosition : Int32 → String := fun _ => "java/util/NoSuchElementException"
set_option maxHeartbeats 4000000 in
set_option maxRecDepth 100000 in
theorem met_X9_faultPosition (l : Launch) (hst0 : l.stackTraces = false) (D : va_G) (cy : Nat → ClassId) (sz : Nat) (ad : Nat → Nat → Nat) (en g : Nat → Nat) (x : Mem)  (code : Int32) (r : Int32) (hF : D_X9_faultPosition x = (code, r)) : MT l yX9_faultPosition cX9_faultPosition 1 (some .int) rm_X9_faultPosition D cy en g (cW cy ad en x) sz [.ref (ad 12 0)] exn_X9_faultPosition code r (cW cy ad en x) := by
  refine MT.of (by decide +kernel) (Nat.le_of_ble_eq_true rfl) ?_
  intro p e s m args below meth c A ls Q hAt htb hST hP hD hA hS hl hQ
  obtain ⟨hx, hb, hr, hml, hown, hw, hlk, hK, hN⟩ := hAt
  have hown : s.vm.findClass "CloudDeeds" = some m.cls := hown
  have hl : lv_has ls 1 [(0, .ref (ad 12 0))] := hl
  refine lv_aload_n hx hb dX9_faultPosition_0 rfl (lv_at hl 0 rfl) ?_
  refine get' (ci := 11) (fs := [.ref (ad 0 0), .ref (ad 1 0), .ref (ad 2 0), .ref (ad 3 0), .int (((x 12) 0) 4), .ref (ad 12 1), .ref (ad 12 3), .ref (ad 12 4), .int (((x 12) 0) 8), .ref (ad 12 31)]) (v := .int (((x 12) 0) 8)) hx hb hw inWX9 hown hK hP (gY (x := x) (r := 0) (f := ((x 12) 0)) (by decide) ((congrFun rfl _).trans rfl)) rfl 8 (by decide) k_353 rfl rfl dX9_faultPosition_1 ?_
  refine lv_iconst (v := (-1)) hx hb dX9_faultPosition_4 (by decide) ?_
  refine lv_icmp_ne (tgt := 18) hx hb dX9_faultPosition_5 (by decide) (fun h1 => ?_) (fun h1 => ?_)
  · replace hF := (if_neg h1).symm.trans hF
    refine lv_aload_n hx hb dX9_faultPosition_18 rfl (lv_at hl 0 rfl) ?_
    refine get' (ci := 11) (fs := [.ref (ad 0 0), .ref (ad 1 0), .ref (ad 2 0), .ref (ad 3 0), .int (((x 12) 0) 4), .ref (ad 12 1), .ref (ad 12 3), .ref (ad 12 4), .int (((x 12) 0) 8), .ref (ad 12 31)]) (v := .int (((x 12) 0) 8)) hx hb hw inWX9 hown hK hP (gY (x := x) (r := 0) (f := ((x 12) 0)) (by decide) ((congrFun rfl _).trans rfl)) rfl 8 (by decide) k_353 rfl rfl dX9_faultPosition_19 ?_
    cases hF
    rw [hQ]
    exact retx_i hx hb hr hlk (Nat.le_of_ble_eq_true rfl) (Nat.le_of_ble_eq_true rfl) hS hP hD rfl rfl rfl dX9_faultPosition_22
  · replace hF := (if_pos h1).symm.trans hF
    cases hF
    rw [hQ]
    exact thrN (g := g) (en := en) hx hb hst0 hml hown hw hN hlk htb hST hS hP hD hl.1 (text := "no text had a fault") 14 rfl k_954 k_101 at_185 (by decide) rfl rfl dX9_faultPosition_8 dX9_faultPosition_11 dX9_faultPosition_12 dX9_faultPosition_14 dX9_faultPosition_17 ⟨Nat.le_of_ble_eq_true rfl, Nat.le_of_ble_eq_true rfl, Nat.le_of_ble_eq_true rfl, Nat.le_of_ble_eq_true rfl⟩ (Nat.le_of_ble_eq_true rfl) ⟨Nat.le_of_ble_eq_true rfl, Nat.le_of_ble_eq_true rfl⟩
def D_X9_reason (x : Mem) (p1 : Int32) (p2 : Int32) : Int32 × Int32 := if p1 = 0 then (if (((x 12) 3) 0) = 0 then ((1, 0)) else (if p2 = 0 then ((0, (((x 12) 3) 0))) else (if p1 = 0 then ((0, (((x 12) 3) 1))) else ((0, (((x 12) 3) 3)))))) else (if (((x 12) 3) 2) = 0 then ((1, 0)) else (if p2 = 0 then ((0, (((x 12) 3) 2))) else (if p1 = 0 then ((0, (((x 12) 3) 1))) else ((0, (((x 12) 3) 3))))))
abbrev rm_X9_reason : Room := { frames := 6, cells := 2, slots := 12, locals := 90 }
def exn_X9_reason : Int32 → String := fun _ => "java/util/NoSuchElementException"
set_option maxHeartbeats 4000000 in
set_option maxRecDepth 100000 in
theorem met_X9_reason (l : Launch) (hst0 : l.stackTraces = false) (D : va_G) (cy : Nat → ClassId) (sz : Nat) (ad : Nat → Nat → Nat) (en g : Nat → Nat) (x : Mem) (p1 : Int32) (p2 : Int32) (hz1 : p1 = 0 ∨ p1 = 1) (hz2 : p2 = 0 ∨ p2 = 1) (code : Int32) (r : Int32) (hF : D_X9_reason x p1 p2 = (code, r)) : MT l yX9_reason cX9_reason 4 (some .int) rm_X9_reason D cy en g (cW cy ad en x) sz [.ref (ad 12 0), .int p1, .int p2] exn_X9_reason code r (cW cy ad en x) := by
  refine MT.of (by decide +kernel) (Nat.le_of_ble_eq_true rfl) ?_
  intro p e s m args below meth c A ls Q hAt htb hST hP hD hA hS hl hQ
  obtain ⟨hx, hb, hr, hml, hown, hw, hlk, hK, hN⟩ := hAt
  have hown : s.vm.findClass "CloudDeeds" = some m.cls := hown
  have hl : lv_has ls 4 [(0, .ref (ad 12 0)), (1, .int p1), (2, .int p2)] := hl
  refine lv_iload_n hx hb dX9_reason_0 rfl (lv_at hl 1 rfl) ?_
  refine lv_if_eq (tgt := 14) hx hb dX9_reason_1 (by decide) (fun h1 => ?_) (fun h1 => ?_)
  · replace hF := (if_pos h1).symm.trans hF
    refine lv_aload_n hx hb dX9_reason_14 rfl (lv_at hl 0 rfl) ?_
    refine get' (ci := 11) (fs := [.ref (ad 0 0), .ref (ad 1 0), .ref (ad 2 0), .ref (ad 3 0), .int (((x 12) 0) 4), .ref (ad 12 1), .ref (ad 12 3), .ref (ad 12 4), .int (((x 12) 0) 8), .ref (ad 12 31)]) (v := .ref (ad 12 3)) hx hb hw inWX9 hown hK hP (gY (x := x) (r := 0) (f := ((x 12) 0)) (by decide) ((congrFun rfl _).trans rfl)) rfl 6 (by decide) k_351 rfl rfl dX9_reason_15 ?_
    refine getN' (ci := 8) (fs := [.int (((x 12) 3) 0), .int (((x 12) 3) 1), .int (((x 12) 3) 2), .int (((x 12) 3) 3)]) (v := .int (((x 12) 3) 0)) hx hb hw hN inWX6 hown hK hP (gY (x := x) (r := 3) (f := ((x 12) 3)) (by decide) ((congrFun rfl _).trans rfl)) rfl 0 (by decide) n_251 rfl rfl dX9_reason_18 ?_
    refine lv_istore_n (lv' := [(3, .int (((x 12) 3) 0)), (0, .ref (ad 12 0)), (1, .int p1), (2, .int p2)]) hx hb dX9_reason_21 rfl hl (by decide) rfl (fun ls hl => ?_)
    refine lv_iload_n hx hb dX9_reason_22 rfl (lv_at hl 0 rfl) ?_
    refine lv_if_ne (tgt := 37) hx hb dX9_reason_23 (by decide) (fun h2 => ?_) (fun h2 => ?_)
    · replace hF := (if_neg h2).symm.trans hF
      refine lv_iload_n hx hb dX9_reason_37 rfl (lv_at hl 3 rfl) ?_
      refine lv_if_ne (tgt := 43) hx hb dX9_reason_38 (by decide) (fun h3 => ?_) (fun h3 => ?_)
      · replace hF := (if_neg h3).symm.trans hF
        refine lv_iload_n hx hb dX9_reason_43 rfl (lv_at hl 2 rfl) ?_
        refine lv_if_eq (tgt := 57) hx hb dX9_reason_44 (by decide) (fun h4 => ?_) (fun h4 => ?_)
        · replace hF := (if_pos h4).symm.trans hF
          refine lv_aload_n hx hb dX9_reason_57 rfl (lv_at hl 1 rfl) ?_
          refine get' (ci := 11) (fs := [.ref (ad 0 0), .ref (ad 1 0), .ref (ad 2 0), .ref (ad 3 0), .int (((x 12) 0) 4), .ref (ad 12 1), .ref (ad 12 3), .ref (ad 12 4), .int (((x 12) 0) 8), .ref (ad 12 31)]) (v := .ref (ad 12 3)) hx hb hw inWX9 hown hK hP (gY (x := x) (r := 0) (f := ((x 12) 0)) (by decide) ((congrFun rfl _).trans rfl)) rfl 6 (by decide) k_351 rfl rfl dX9_reason_58 ?_
          refine getN' (ci := 8) (fs := [.int (((x 12) 3) 0), .int (((x 12) 3) 1), .int (((x 12) 3) 2), .int (((x 12) 3) 3)]) (v := .int (((x 12) 3) 1)) hx hb hw hN inWX6 hown hK hP (gY (x := x) (r := 3) (f := ((x 12) 3)) (by decide) ((congrFun rfl _).trans rfl)) rfl 1 (by decide) n_253 rfl rfl dX9_reason_61 ?_
          cases hF
          rw [hQ]
          exact retx_i hx hb hr hlk (Nat.le_of_ble_eq_true rfl) (Nat.le_of_ble_eq_true rfl) hS hP hD rfl rfl rfl dX9_reason_64
        · replace hF := (if_neg h4).symm.trans hF
          refine lv_aload_n hx hb dX9_reason_47 rfl (lv_at hl 1 rfl) ?_
          refine get' (ci := 11) (fs := [.ref (ad 0 0), .ref (ad 1 0), .ref (ad 2 0), .ref (ad 3 0), .int (((x 12) 0) 4), .ref (ad 12 1), .ref (ad 12 3), .ref (ad 12 4), .int (((x 12) 0) 8), .ref (ad 12 31)]) (v := .ref (ad 12 3)) hx hb hw inWX9 hown hK hP (gY (x := x) (r := 0) (f := ((x 12) 0)) (by decide) ((congrFun rfl _).trans rfl)) rfl 6 (by decide) k_351 rfl rfl dX9_reason_48 ?_
          refine getN' (ci := 8) (fs := [.int (((x 12) 3) 0), .int (((x 12) 3) 1), .int (((x 12) 3) 2), .int (((x 12) 3) 3)]) (v := .int (((x 12) 3) 3)) hx hb hw hN inWX6 hown hK hP (gY (x := x) (r := 3) (f := ((x 12) 3)) (by decide) ((congrFun rfl _).trans rfl)) rfl 3 (by decide) n_257 rfl rfl dX9_reason_51 ?_
          refine lv_goto (tgt := 64) hx hb dX9_reason_54 (by decide) ?_
          cases hF
          rw [hQ]
          exact retx_i hx hb hr hlk (Nat.le_of_ble_eq_true rfl) (Nat.le_of_ble_eq_true rfl) hS hP hD rfl rfl rfl dX9_reason_64
      · replace hF := (if_pos h3).symm.trans hF
        refine lv_iload_n hx hb dX9_reason_41 rfl (lv_at hl 0 rfl) ?_
        cases hF
        rw [hQ]
        exact retx_i hx hb hr hlk (Nat.le_of_ble_eq_true rfl) (Nat.le_of_ble_eq_true rfl) hS hP hD rfl rfl rfl dX9_reason_42
    · replace hF := (if_pos h2).symm.trans hF
      cases hF
      rw [hQ]
      exact thrNW (g := g) (en := en) hx hb hst0 hml hown hw hN hlk htb hST hS hP hD hl.1 (text := "there is no such reason") 15 rfl k_954 k_101 at_185 (by decide) rfl rfl dX9_reason_26 dX9_reason_29 dX9_reason_30 dX9_reason_33 dX9_reason_36 ⟨Nat.le_of_ble_eq_true rfl, Nat.le_of_ble_eq_true rfl, Nat.le_of_ble_eq_true rfl, Nat.le_of_ble_eq_true rfl⟩ (Nat.le_of_ble_eq_true rfl) ⟨Nat.le_of_ble_eq_true rfl, Nat.le_of_ble_eq_true rfl⟩
  · replace hF := (if_neg h1).symm.trans hF
    refine lv_aload_n hx hb dX9_reason_4 rfl (lv_at hl 0 rfl) ?_
    refine get' (ci := 11) (fs := [.ref (ad 0 0), .ref (ad 1 0), .ref (ad 2 0), .ref (ad 3 0), .int (((x 12) 0) 4), .ref (ad 12 1), .ref (ad 12 3), .ref (ad 12 4), .int (((x 12) 0) 8), .ref (ad 12 31)]) (v := .ref (ad 12 3)) hx hb hw inWX9 hown hK hP (gY (x := x) (r := 0) (f := ((x 12) 0)) (by decide) ((congrFun rfl _).trans rfl)) rfl 6 (by decide) k_351 rfl rfl dX9_reason_5 ?_
    refine getN' (ci := 8) (fs := [.int (((x 12) 3) 0), .int (((x 12) 3) 1), .int (((x 12) 3) 2), .int (((x 12) 3) 3)]) (v := .int (((x 12) 3) 2)) hx hb hw hN inWX6 hown hK hP (gY (x := x) (r := 3) (f := ((x 12) 3)) (by decide) ((congrFun rfl _).trans rfl)) rfl 2 (by decide) n_255 rfl rfl dX9_reason_8 ?_
    refine lv_goto (tgt := 21) hx hb dX9_reason_11 (by decide) ?_
    refine lv_istore_n (lv' := [(3, .int (((x 12) 3) 2)), (0, .ref (ad 12 0)), (1, .int p1), (2, .int p2)]) hx hb dX9_reason_21 rfl hl (by decide) rfl (fun ls hl => ?_)
    refine lv_iload_n hx hb dX9_reason_22 rfl (lv_at hl 0 rfl) ?_
    refine lv_if_ne (tgt := 37) hx hb dX9_reason_23 (by decide) (fun h5 => ?_) (fun h5 => ?_)
    · replace hF := (if_neg h5).symm.trans hF
      refine lv_iload_n hx hb dX9_reason_37 rfl (lv_at hl 3 rfl) ?_
      refine lv_if_ne (tgt := 43) hx hb dX9_reason_38 (by decide) (fun h6 => ?_) (fun h6 => ?_)
      · replace hF := (if_neg h6).symm.trans hF
        refine lv_iload_n hx hb dX9_reason_43 rfl (lv_at hl 2 rfl) ?_
        refine lv_if_eq (tgt := 57) hx hb dX9_reason_44 (by decide) (fun h7 => ?_) (fun h7 => ?_)
        · replace hF := (if_pos h7).symm.trans hF
          refine lv_aload_n hx hb dX9_reason_57 rfl (lv_at hl 1 rfl) ?_
          refine get' (ci := 11) (fs := [.ref (ad 0 0), .ref (ad 1 0), .ref (ad 2 0), .ref (ad 3 0), .int (((x 12) 0) 4), .ref (ad 12 1), .ref (ad 12 3), .ref (ad 12 4), .int (((x 12) 0) 8), .ref (ad 12 31)]) (v := .ref (ad 12 3)) hx hb hw inWX9 hown hK hP (gY (x := x) (r := 0) (f := ((x 12) 0)) (by decide) ((congrFun rfl _).trans rfl)) rfl 6 (by decide) k_351 rfl rfl dX9_reason_58 ?_
          refine getN' (ci := 8) (fs := [.int (((x 12) 3) 0), .int (((x 12) 3) 1), .int (((x 12) 3) 2), .int (((x 12) 3) 3)]) (v := .int (((x 12) 3) 1)) hx hb hw hN inWX6 hown hK hP (gY (x := x) (r := 3) (f := ((x 12) 3)) (by decide) ((congrFun rfl _).trans rfl)) rfl 1 (by decide) n_253 rfl rfl dX9_reason_61 ?_
          cases hF
          rw [hQ]
          exact retx_i hx hb hr hlk (Nat.le_of_ble_eq_true rfl) (Nat.le_of_ble_eq_true rfl) hS hP hD rfl rfl rfl dX9_reason_64
        · replace hF := (if_neg h7).symm.trans hF
          refine lv_aload_n hx hb dX9_reason_47 rfl (lv_at hl 1 rfl) ?_
          refine get' (ci := 11) (fs := [.ref (ad 0 0), .ref (ad 1 0), .ref (ad 2 0), .ref (ad 3 0), .int (((x 12) 0) 4), .ref (ad 12 1), .ref (ad 12 3), .ref (ad 12 4), .int (((x 12) 0) 8), .ref (ad 12 31)]) (v := .ref (ad 12 3)) hx hb hw inWX9 hown hK hP (gY (x := x) (r := 0) (f := ((x 12) 0)) (by decide) ((congrFun rfl _).trans rfl)) rfl 6 (by decide) k_351 rfl rfl dX9_reason_48 ?_
          refine getN' (ci := 8) (fs := [.int (((x 12) 3) 0), .int (((x 12) 3) 1), .int (((x 12) 3) 2), .int (((x 12) 3) 3)]) (v := .int (((x 12) 3) 3)) hx hb hw hN inWX6 hown hK hP (gY (x := x) (r := 3) (f := ((x 12) 3)) (by decide) ((congrFun rfl _).trans rfl)) rfl 3 (by decide) n_257 rfl rfl dX9_reason_51 ?_
          refine lv_goto (tgt := 64) hx hb dX9_reason_54 (by decide) ?_
          cases hF
          rw [hQ]
          exact retx_i hx hb hr hlk (Nat.le_of_ble_eq_true rfl) (Nat.le_of_ble_eq_true rfl) hS hP hD rfl rfl rfl dX9_reason_64
      · replace hF := (if_pos h6).symm.trans hF
        refine lv_iload_n hx hb dX9_reason_41 rfl (lv_at hl 0 rfl) ?_
        cases hF
        rw [hQ]
        exact retx_i hx hb hr hlk (Nat.le_of_ble_eq_true rfl) (Nat.le_of_ble_eq_true rfl) hS hP hD rfl rfl rfl dX9_reason_42
    · replace hF := (if_pos h5).symm.trans hF
      cases hF
      rw [hQ]
      exact thrNW (g := g) (en := en) hx hb hst0 hml hown hw hN hlk htb hST hS hP hD hl.1 (text := "there is no such reason") 15 rfl k_954 k_101 at_185 (by decide) rfl rfl dX9_reason_26 dX9_reason_29 dX9_reason_30 dX9_reason_33 dX9_reason_36 ⟨Nat.le_of_ble_eq_true rfl, Nat.le_of_ble_eq_true rfl, Nat.le_of_ble_eq_true rfl, Nat.le_of_ble_eq_true rfl⟩ (Nat.le_of_ble_eq_true rfl) ⟨Nat.le_of_ble_eq_true rfl, Nat.le_of_ble_eq_true rfl⟩
def D_X9_account (x : Mem) (p1 : Int32) : Option (Int32 × Int32) := if (D_X9_isWithin p1 13) = 0 then (some (1, 0)) else (if p1 = 11 then (some (0, (((x 12) 4) 1))) else (if p1 = 12 then (some (0, (((x 12) 1) 2))) else ((D_X4_tellAccount (x 0) p1).bind (fun r7 => some (0, r7)))))
abbrev rm_X9_account : Room := { frames := 6, cells := 2, slots := 12, locals := 90 }
def exn_X9_account : Int32 → String := fun _ => "java/lang/IllegalArgumentException"
set_option maxHeartbeats 4000000 in
set_option maxRecDepth 100000 in
theorem met_X9_account (l : Launch) (hst0 : l.stackTraces = false) (D : va_G) (cy : Nat → ClassId) (sz : Nat) (ad : Nat → Nat → Nat) (en g : Nat → Nat) (x : Mem) (p1 : Int32)  (code : Int32) (r : Int32) (hF : D_X9_account x p1 = some (code, r)) : MT l yX9_account cX9_account 2 (some .int) rm_X9_account D cy en g (cW cy ad en x) sz [.ref (ad 12 0), .int p1] exn_X9_account code r (cW cy ad en x) := by
  refine MT.of (by decide +kernel) (Nat.le_of_ble_eq_true rfl) ?_
  intro p e s m args below meth c A ls Q hAt htb hST hP hD hA hS hl hQ
  obtain ⟨hx, hb, hr, hml, hown, hw, hlk, hK, hN⟩ := hAt
  have hown : s.vm.findClass "CloudDeeds" = some m.cls := hown
  have hl : lv_has ls 2 [(0, .ref (ad 12 0)), (1, .int p1)] := hl
  refine lv_iload_n hx hb dX9_account_0 rfl (lv_at hl 1 rfl) ?_
  refine lv_bipush (v := 13) hx hb dX9_account_1 (by decide) ?_
  refine cS_i (As := [.int p1, .int 13]) (rest := []) hx hb hml hown hw hK hN hA hl.1 hP hD hS k_830 k_385 k_76 k_386 (met_X9_isWithin l D cy _ (cW cy ad en x) p1 13 (D_X9_isWithin p1 13) rfl) (fun _ _ _ => trivial) Xok_T ⟨rfl, rfl⟩ (n := 2) (by decide +kernel) rfl ⟨Nat.le_of_ble_eq_true rfl, Nat.le_of_ble_eq_true rfl⟩ ⟨Nat.le_of_ble_eq_true rfl, Nat.le_of_ble_eq_true rfl⟩ (Nat.le_of_ble_eq_true rfl) rfl dX9_account_3 (fun H locs hP hD hS => ?_)
  refine lv_if_ne (tgt := 20) hx hb dX9_account_6 (by decide) (fun h4 => ?_) (fun h4 => ?_)
  · replace hF := (if_neg h4).symm.trans hF
    refine lv_iload_n hx hb dX9_account_20 rfl (lv_at hl 1 rfl) ?_
    refine lv_bipush (v := 11) hx hb dX9_account_21 (by decide) ?_
    refine lv_icmp_ne (tgt := 34) hx hb dX9_account_23 (by decide) (fun h5 => ?_) (fun h5 => ?_)
    · replace hF := (if_neg h5).symm.trans hF
      refine lv_iload_n hx hb dX9_account_34 rfl (lv_at hl 1 rfl) ?_
      refine lv_bipush (v := 12) hx hb dX9_account_35 (by decide) ?_
      refine lv_icmp_ne (tgt := 50) hx hb dX9_account_37 (by decide) (fun h6 => ?_) (fun h6 => ?_)
      · replace hF := (if_neg h6).symm.trans hF
        refine lv_aload_n hx hb dX9_account_50 rfl (lv_at hl 0 rfl) ?_
        refine get' (ci := 11) (fs := [.ref (ad 0 0), .ref (ad 1 0), .ref (ad 2 0), .ref (ad 3 0), .int (((x 12) 0) 4), .ref (ad 12 1), .ref (ad 12 3), .ref (ad 12 4), .int (((x 12) 0) 8), .ref (ad 12 31)]) (v := .ref (ad 0 0)) hx hb hw inWX9 hown hK hP (gY (x := x) (r := 0) (f := ((x 12) 0)) (by decide) ((congrFun rfl _).trans rfl)) rfl 0 (by decide) k_345 rfl rfl dX9_account_51 ?_
        refine lv_iload_n hx hb dX9_account_54 rfl (lv_at hl 1 rfl) ?_
        have hP := cvP hP ((congrArg (cW cy ad en) (up_self x 0)).symm.trans (congrArg (fun z => cW cy ad en (va_up x 0 z)) rfl))
        have hD := cvD hD ((congrArg (cW cy ad en) (up_self x 0)).symm.trans (congrArg (fun z => cW cy ad en (va_up x 0 z)) rfl))
        obtain ⟨r7, hc9, hF⟩ := bind_some hF
        try dsimp only at hF
        refine cV_i (As := [.int p1]) (rest := []) hx hb hml hown hw hK hN hA hl.1 hP hD hS k_1531 k_1532 k_1533 k_77 k_1534 (met_X4_tellAccount l D cy _ ad en x 0 (by decide) (x 0) p1 r7 hc9) (fun _ _ _ => trivial) Xok_T (gX (x := (va_up x 0 (x 0))) (k := 0) (r := 0) (f := ((x 0) 0)) (by decide) (by decide) ((congrFun (va_up_self _ _ _) _).trans rfl)) rfl ⟨rfl, rfl⟩ (n := 1) (by decide +kernel) rfl ⟨Nat.le_of_ble_eq_true rfl, Nat.le_of_ble_eq_true rfl⟩ ⟨Nat.le_of_ble_eq_true rfl, Nat.le_of_ble_eq_true rfl⟩ (Nat.le_of_ble_eq_true rfl) rfl dX9_account_55 (fun H locs hP hD hS => ?_)
        have hP : va_P D vwCl (cW cy ad en x) H := cvP hP ((congrArg (cW cy ad en) (up_self x 0)).symm.trans (congrArg (fun z => cW cy ad en (va_up x 0 z)) rfl)).symm
        have hD : va_D A (cW cy ad en x) := cvD hD ((congrArg (cW cy ad en) (up_self x 0)).symm.trans (congrArg (fun z => cW cy ad en (va_up x 0 z)) rfl)).symm
        cases hF
        rw [hQ]
        exact retx_i hx hb hr hlk (Nat.le_of_ble_eq_true rfl) (Nat.le_of_ble_eq_true rfl) hS hP hD rfl rfl rfl dX9_account_58
      · replace hF := (if_pos h6).symm.trans hF
        refine lv_aload_n hx hb dX9_account_40 rfl (lv_at hl 0 rfl) ?_
        refine get' (ci := 11) (fs := [.ref (ad 0 0), .ref (ad 1 0), .ref (ad 2 0), .ref (ad 3 0), .int (((x 12) 0) 4), .ref (ad 12 1), .ref (ad 12 3), .ref (ad 12 4), .int (((x 12) 0) 8), .ref (ad 12 31)]) (v := .ref (ad 12 1)) hx hb hw inWX9 hown hK hP (gY (x := x) (r := 0) (f := ((x 12) 0)) (by decide) ((congrFun rfl _).trans rfl)) rfl 5 (by decide) k_350 rfl rfl dX9_account_41 ?_
        refine getN' (ci := 5) (fs := [.ref (ad 12 2), .int (((x 12) 1) 1), .int (((x 12) 1) 2)]) (v := .int (((x 12) 1) 2)) hx hb hw hN inWX2 hown hK hP (gY (x := x) (r := 1) (f := ((x 12) 1)) (by decide) ((congrFun rfl _).trans rfl)) rfl 2 (by decide) n_236 rfl rfl dX9_account_44 ?_
        refine lv_goto (tgt := 58) hx hb dX9_account_47 (by decide) ?_
        cases hF
        rw [hQ]
        exact retx_i hx hb hr hlk (Nat.le_of_ble_eq_true rfl) (Nat.le_of_ble_eq_true rfl) hS hP hD rfl rfl rfl dX9_account_58
    · replace hF := (if_pos h5).symm.trans hF
      refine lv_aload_n hx hb dX9_account_26 rfl (lv_at hl 0 rfl) ?_
      refine get' (ci := 11) (fs := [.ref (ad 0 0), .ref (ad 1 0), .ref (ad 2 0), .ref (ad 3 0), .int (((x 12) 0) 4), .ref (ad 12 1), .ref (ad 12 3), .ref (ad 12 4), .int (((x 12) 0) 8), .ref (ad 12 31)]) (v := .ref (ad 12 4)) hx hb hw inWX9 hown hK hP (gY (x := x) (r := 0) (f := ((x 12) 0)) (by decide) ((congrFun rfl _).trans rfl)) rfl 7 (by decide) k_352 rfl rfl dX9_account_27 ?_
      refine getN' (ci := 10) (fs := [.ref (ad 12 5), .int (((x 12) 4) 1), .int (((x 12) 4) 2), .ref (ad 12 6), .int (((x 12) 4) 4)]) (v := .int (((x 12) 4) 1)) hx hb hw hN inWX8 hown hK hP (gY (x := x) (r := 4) (f := ((x 12) 4)) (by decide) ((congrFun rfl _).trans rfl)) rfl 1 (by decide) n_295 rfl rfl dX9_account_30 ?_
      cases hF
      rw [hQ]
      exact retx_i hx hb hr hlk (Nat.le_of_ble_eq_true rfl) (Nat.le_of_ble_eq_true rfl) hS hP hD rfl rfl rfl dX9_account_33
  · replace hF := (if_pos h4).symm.trans hF
    cases hF
    rw [hQ]
    exact thrSW (g := g) (en := en) hx hb hst0 hml hown hw hN hlk htb hST hS hP hD hl.1 (text := "there is no such account") 19 rfl (by decide) k_831 k_100 at_119 (by decide) rfl rfl dX9_account_9 dX9_account_12 dX9_account_13 dX9_account_16 dX9_account_19 ⟨Nat.le_of_ble_eq_true rfl, Nat.le_of_ble_eq_true rfl, Nat.le_of_ble_eq_true rfl, Nat.le_of_ble_eq_true rfl⟩ (Nat.le_of_ble_eq_true rfl) ⟨Nat.le_of_ble_eq_true rfl, Nat.le_of_ble_eq_true rfl⟩
def D_X9_isBalanced (x : Mem) : Option (Int32) := (D_X4_areCloudsAlike (x 0)).bind (fun r1 => if r1 = 0 then (some 0) else ((D_X4_coinsCounted (x 0)).bind (fun r5 => if r5 = (D_X4_coinsByPayments (x 0)) then ((D_X4_areWindsAlike (x 0)).bind (fun r12 => if r12 = 0 then (some 0) else (some 1))) else (some 0))))
abbrev rm_X9_isBalanced : Room := { frames := 4, cells := 0, slots := 0, locals := 87 }
set_option maxHeartbeats 4000000 in
set_option maxRecDepth 100000 in
theorem met_X9_isBalanced (l : Launch) (D : va_G) (cy : Nat → ClassId) (sz : Nat) (ad : Nat → Nat → Nat) (en g : Nat → Nat) (x : Mem)  (r : Int32) (hF : D_X9_isBalanced x = some r) : MI l yX9_isBalanced cX9_isBalanced 1 (some .boolean) rm_X9_isBalanced D cy (cW cy ad en x) sz (fun _ => True) [.ref (ad 12 0)] r (cW cy ad en x) := by
  refine MZ.of (by decide +kernel) (Nat.le_of_ble_eq_true rfl) ?_
  intro p e s m args below meth c A ls Q hAt _ hP hD hA hS hl hret
  obtain ⟨hx, hb, hr, hml, hown, hw, hlk, hK, hN⟩ := hAt
  have hown : s.vm.findClass "CloudDeeds" = some m.cls := hown
  have hl : lv_has ls 1 [(0, .ref (ad 12 0))] := hl
  refine lv_aload_n hx hb dX9_isBalanced_0 rfl (lv_at hl 0 rfl) ?_
  refine get' (ci := 11) (fs := [.ref (ad 0 0), .ref (ad 1 0), .ref (ad 2 0), .ref (ad 3 0), .int (((x 12) 0) 4), .ref (ad 12 1), .ref (ad 12 3), .ref (ad 12 4), .int (((x 12) 0) 8), .ref (ad 12 31)]) (v := .ref (ad 0 0)) hx hb hw inWX9 hown hK hP (gY (x := x) (r := 0) (f := ((x 12) 0)) (by decide) ((congrFun rfl _).trans rfl)) rfl 0 (by decide) k_345 rfl rfl dX9_isBalanced_1 ?_
  have hP := cvP hP ((congrArg (cW cy ad en) (up_self x 0)).symm.trans (congrArg (fun z => cW cy ad en (va_up x 0 z)) rfl))
  have hD := cvD hD ((congrArg (cW cy ad en) (up_self x 0)).symm.trans (congrArg (fun z => cW cy ad en (va_up x 0 z)) rfl))
  obtain ⟨r1, hc3, hF⟩ := bind_some hF
  try dsimp only at hF
  refine cV_i (As := []) (rest := []) hx hb hml hown hw hK hN hA hl.1 hP hD hS k_489 k_490 k_491 k_77 k_492 (met_X4_areCloudsAlike l D cy _ ad en x 0 (by decide) (x 0) r1 hc3) (fun _ _ _ => trivial) Xok_T (gX (x := (va_up x 0 (x 0))) (k := 0) (r := 0) (f := ((x 0) 0)) (by decide) (by decide) ((congrFun (va_up_self _ _ _) _).trans rfl)) rfl ⟨rfl, rfl⟩ (n := 0) (by decide +kernel) rfl ⟨Nat.le_of_ble_eq_true rfl, Nat.le_of_ble_eq_true rfl⟩ ⟨Nat.le_of_ble_eq_true rfl, Nat.le_of_ble_eq_true rfl⟩ (Nat.le_of_ble_eq_true rfl) rfl dX9_isBalanced_4 (fun H locs hP hD hS => ?_)
  have hP : va_P D vwCl (cW cy ad en x) H := cvP hP ((congrArg (cW cy ad en) (up_self x 0)).symm.trans (congrArg (fun z => cW cy ad en (va_up x 0 z)) rfl)).symm
  have hD : va_D A (cW cy ad en x) := cvD hD ((congrArg (cW cy ad en) (up_self x 0)).symm.trans (congrArg (fun z => cW cy ad en (va_up x 0 z)) rfl)).symm
  refine lv_if_eq (tgt := 41) hx hb dX9_isBalanced_7 (by decide) (fun h4 => ?_) (fun h4 => ?_)
  · replace hF := (if_pos h4).symm.trans hF
    refine lv_iconst (v := 0) hx hb dX9_isBalanced_41 (by decide) ?_
    cases hF
    exact hret _ _ _ _ _ _ hP hD hS rfl rfl rfl dX9_isBalanced_42
  · replace hF := (if_neg h4).symm.trans hF
    refine lv_aload_n hx hb dX9_isBalanced_10 rfl (lv_at hl 0 rfl) ?_
    refine get' (ci := 11) (fs := [.ref (ad 0 0), .ref (ad 1 0), .ref (ad 2 0), .ref (ad 3 0), .int (((x 12) 0) 4), .ref (ad 12 1), .ref (ad 12 3), .ref (ad 12 4), .int (((x 12) 0) 8), .ref (ad 12 31)]) (v := .ref (ad 0 0)) hx hb hw inWX9 hown hK hP (gY (x := x) (r := 0) (f := ((x 12) 0)) (by decide) ((congrFun rfl _).trans rfl)) rfl 0 (by decide) k_345 rfl rfl dX9_isBalanced_11 ?_
    have hP := cvP hP ((congrArg (cW cy ad en) (up_self x 0)).symm.trans (congrArg (fun z => cW cy ad en (va_up x 0 z)) rfl))
    have hD := cvD hD ((congrArg (cW cy ad en) (up_self x 0)).symm.trans (congrArg (fun z => cW cy ad en (va_up x 0 z)) rfl))
    obtain ⟨r5, hc7, hF⟩ := bind_some hF
    try dsimp only at hF
    refine cV_i (As := []) (rest := []) hx hb hml hown hw hK hN hA hl.1 hP hD hS k_473 k_474 k_475 k_77 k_476 (met_X4_coinsCounted l D cy _ ad en x 0 (by decide) (x 0) r5 hc7) (fun _ _ _ => trivial) Xok_T (gX (x := (va_up x 0 (x 0))) (k := 0) (r := 0) (f := ((x 0) 0)) (by decide) (by decide) ((congrFun (va_up_self _ _ _) _).trans rfl)) rfl ⟨rfl, rfl⟩ (n := 0) (by decide +kernel) rfl ⟨Nat.le_of_ble_eq_true rfl, Nat.le_of_ble_eq_true rfl⟩ ⟨Nat.le_of_ble_eq_true rfl, Nat.le_of_ble_eq_true rfl⟩ (Nat.le_of_ble_eq_true rfl) rfl dX9_isBalanced_14 (fun H locs hP hD hS => ?_)
    have hP : va_P D vwCl (cW cy ad en x) H := cvP hP ((congrArg (cW cy ad en) (up_self x 0)).symm.trans (congrArg (fun z => cW cy ad en (va_up x 0 z)) rfl)).symm
    have hD : va_D A (cW cy ad en x) := cvD hD ((congrArg (cW cy ad en) (up_self x 0)).symm.trans (congrArg (fun z => cW cy ad en (va_up x 0 z)) rfl)).symm
    refine lv_aload_n hx hb dX9_isBalanced_17 rfl (lv_at hl 0 rfl) ?_
    refine get' (ci := 11) (fs := [.ref (ad 0 0), .ref (ad 1 0), .ref (ad 2 0), .ref (ad 3 0), .int (((x 12) 0) 4), .ref (ad 12 1), .ref (ad 12 3), .ref (ad 12 4), .int (((x 12) 0) 8), .ref (ad 12 31)]) (v := .ref (ad 0 0)) hx hb hw inWX9 hown hK hP (gY (x := x) (r := 0) (f := ((x 12) 0)) (by decide) ((congrFun rfl _).trans rfl)) rfl 0 (by decide) k_345 rfl rfl dX9_isBalanced_18 ?_
    have hP := cvP hP ((congrArg (cW cy ad en) (up_self x 0)).symm.trans (congrArg (fun z => cW cy ad en (va_up x 0 z)) rfl))
    have hD := cvD hD ((congrArg (cW cy ad en) (up_self x 0)).symm.trans (congrArg (fun z => cW cy ad en (va_up x 0 z)) rfl))
    refine cV_i (As := []) (rest := [.int r5]) hx hb hml hown hw hK hN hA hl.1 hP hD hS k_481 k_482 k_483 k_77 k_484 (met_X4_coinsByPayments l D cy _ ad en x 0 (by decide) (x 0) (D_X4_coinsByPayments (x 0)) rfl) (fun _ _ _ => trivial) Xok_T (gX (x := (va_up x 0 (x 0))) (k := 0) (r := 0) (f := ((x 0) 0)) (by decide) (by decide) ((congrFun (va_up_self _ _ _) _).trans rfl)) rfl ⟨rfl, rfl⟩ (n := 0) (by decide +kernel) rfl ⟨Nat.le_of_ble_eq_true rfl, Nat.le_of_ble_eq_true rfl⟩ ⟨Nat.le_of_ble_eq_true rfl, Nat.le_of_ble_eq_true rfl⟩ (Nat.le_of_ble_eq_true rfl) rfl dX9_isBalanced_21 (fun H locs hP hD hS => ?_)
    have hP : va_P D vwCl (cW cy ad en x) H := cvP hP ((congrArg (cW cy ad en) (up_self x 0)).symm.trans (congrArg (fun z => cW cy ad en (va_up x 0 z)) rfl)).symm
    have hD : va_D A (cW cy ad en x) := cvD hD ((congrArg (cW cy ad en) (up_self x 0)).symm.trans (congrArg (fun z => cW cy ad en (va_up x 0 z)) rfl)).symm
    refine lv_icmp_ne (tgt := 41) hx hb dX9_isBalanced_24 (by decide) (fun h11 => ?_) (fun h11 => ?_)
    · replace hF := (if_neg h11).symm.trans hF
      refine lv_iconst (v := 0) hx hb dX9_isBalanced_41 (by decide) ?_
      cases hF
      exact hret _ _ _ _ _ _ hP hD hS rfl rfl rfl dX9_isBalanced_42
    · replace hF := (if_pos h11).symm.trans hF
      refine lv_aload_n hx hb dX9_isBalanced_27 rfl (lv_at hl 0 rfl) ?_
      refine get' (ci := 11) (fs := [.ref (ad 0 0), .ref (ad 1 0), .ref (ad 2 0), .ref (ad 3 0), .int (((x 12) 0) 4), .ref (ad 12 1), .ref (ad 12 3), .ref (ad 12 4), .int (((x 12) 0) 8), .ref (ad 12 31)]) (v := .ref (ad 0 0)) hx hb hw inWX9 hown hK hP (gY (x := x) (r := 0) (f := ((x 12) 0)) (by decide) ((congrFun rfl _).trans rfl)) rfl 0 (by decide) k_345 rfl rfl dX9_isBalanced_28 ?_
      have hP := cvP hP ((congrArg (cW cy ad en) (up_self x 0)).symm.trans (congrArg (fun z => cW cy ad en (va_up x 0 z)) rfl))
      have hD := cvD hD ((congrArg (cW cy ad en) (up_self x 0)).symm.trans (congrArg (fun z => cW cy ad en (va_up x 0 z)) rfl))
      obtain ⟨r12, hc14, hF⟩ := bind_some hF
      try dsimp only at hF
      refine cV_i (As := []) (rest := []) hx hb hml hown hw hK hN hA hl.1 hP hD hS k_501 k_502 k_503 k_77 k_504 (met_X4_areWindsAlike l D cy _ ad en x 0 (by decide) (x 0) r12 hc14) (fun _ _ _ => trivial) Xok_T (gX (x := (va_up x 0 (x 0))) (k := 0) (r := 0) (f := ((x 0) 0)) (by decide) (by decide) ((congrFun (va_up_self _ _ _) _).trans rfl)) rfl ⟨rfl, rfl⟩ (n := 0) (by decide +kernel) rfl ⟨Nat.le_of_ble_eq_true rfl, Nat.le_of_ble_eq_true rfl⟩ ⟨Nat.le_of_ble_eq_true rfl, Nat.le_of_ble_eq_true rfl⟩ (Nat.le_of_ble_eq_true rfl) rfl dX9_isBalanced_31 (fun H locs hP hD hS => ?_)
      have hP : va_P D vwCl (cW cy ad en x) H := cvP hP ((congrArg (cW cy ad en) (up_self x 0)).symm.trans (congrArg (fun z => cW cy ad en (va_up x 0 z)) rfl)).symm
      have hD : va_D A (cW cy ad en x) := cvD hD ((congrArg (cW cy ad en) (up_self x 0)).symm.trans (congrArg (fun z => cW cy ad en (va_up x 0 z)) rfl)).symm
      refine lv_if_eq (tgt := 41) hx hb dX9_isBalanced_34 (by decide) (fun h15 => ?_) (fun h15 => ?_)
      · replace hF := (if_pos h15).symm.trans hF
        refine lv_iconst (v := 0) hx hb dX9_isBalanced_41 (by decide) ?_
        cases hF
        exact hret _ _ _ _ _ _ hP hD hS rfl rfl rfl dX9_isBalanced_42
      · replace hF := (if_neg h15).symm.trans hF
        refine lv_iconst (v := 1) hx hb dX9_isBalanced_37 (by decide) ?_
        refine lv_goto (tgt := 42) hx hb dX9_isBalanced_38 (by decide) ?_
        cases hF
        exact hret _ _ _ _ _ _ hP hD hS rfl rfl rfl dX9_isBalanced_42
def D_X9_save (x : Mem) : Option (Int32 × (Mem)) := (D_X4_copyFrom (x 3) (x 0)).bind (fun o2 => some ((((x 0) 0) 1), (va_up (va_up x 3 o2) 12 (va_up (x 12) 0 (upd ((x 12) 0) 4 1)))))
abbrev rm_X9_save : Room := { frames := 4, cells := 0, slots := 0, locals := 124 }
set_option maxHeartbeats 4000000 in
set_option maxRecDepth 100000 in
theorem met_X9_save (l : Launch) (D : va_G) (cy : Nat → ClassId) (sz : Nat) (ad : Nat → Nat → Nat) (en g : Nat → Nat) (x : Mem)  (r : Int32) (t' : Mem) (hF : D_X9_save x = some (r, t')) : MI l yX9_save cX9_save 1 (some .int) rm_X9_save D cy (cW cy ad en x) sz (fun _ => True) [.ref (ad 12 0)] r (cW cy ad en t') := by
  refine MI.of (by decide +kernel) (Nat.le_of_ble_eq_true rfl) ?_
  intro p e s m args below meth c A ls Q hAt _ hP hD hA hS hl hret
  obtain ⟨hx, hb, hr, hml, hown, hw, hlk, hK, hN⟩ := hAt
  have hown : s.vm.findClass "CloudDeeds" = some m.cls := hown
  have hl : lv_has ls 1 [(0, .ref (ad 12 0))] := hl
  refine lv_aload_n hx hb dX9_save_0 rfl (lv_at hl 0 rfl) ?_
  refine get' (ci := 11) (fs := [.ref (ad 0 0), .ref (ad 1 0), .ref (ad 2 0), .ref (ad 3 0), .int (((x 12) 0) 4), .ref (ad 12 1), .ref (ad 12 3), .ref (ad 12 4), .int (((x 12) 0) 8), .ref (ad 12 31)]) (v := .ref (ad 3 0)) hx hb hw inWX9 hown hK hP (gY (x := x) (r := 0) (f := ((x 12) 0)) (by decide) ((congrFun rfl _).trans rfl)) rfl 3 (by decide) k_348 rfl rfl dX9_save_1 ?_
  refine lv_aload_n hx hb dX9_save_4 rfl (lv_at hl 0 rfl) ?_
  refine get' (ci := 11) (fs := [.ref (ad 0 0), .ref (ad 1 0), .ref (ad 2 0), .ref (ad 3 0), .int (((x 12) 0) 4), .ref (ad 12 1), .ref (ad 12 3), .ref (ad 12 4), .int (((x 12) 0) 8), .ref (ad 12 31)]) (v := .ref (ad 0 0)) hx hb hw inWX9 hown hK hP (gY (x := x) (r := 0) (f := ((x 12) 0)) (by decide) ((congrFun rfl _).trans rfl)) rfl 0 (by decide) k_345 rfl rfl dX9_save_5 ?_
  have hP := cvP hP ((congrArg (cW cy ad en) (up_self x 3)).symm.trans (congrArg (fun z => cW cy ad en (va_up x 3 z)) rfl))
  have hD := cvD hD ((congrArg (cW cy ad en) (up_self x 3)).symm.trans (congrArg (fun z => cW cy ad en (va_up x 3 z)) rfl))
  obtain ⟨o2, hc3, hF⟩ := bind_some hF
  try dsimp only at hF
  refine cV_v (As := [.ref (ad 0 0)]) (rest := []) hx hb hml hown hw hK hN hA hl.1 hP hD hS k_522 k_388 k_389 k_77 k_390 (met_X4_copyFrom l D cy _ ad en x 3 (by decide) (x 3) 0 (by decide) (by decide) (x 0) rfl o2 hc3) (fun _ _ _ => trivial) Xok_T (gX (x := (va_up x 3 (x 3))) (k := 3) (r := 0) (f := ((x 3) 0)) (by decide) (by decide) ((congrFun (va_up_self _ _ _) _).trans rfl)) rfl ⟨rfl, rfl⟩ (n := 1) (by decide +kernel) rfl ⟨Nat.le_of_ble_eq_true rfl, Nat.le_of_ble_eq_true rfl⟩ ⟨Nat.le_of_ble_eq_true rfl, Nat.le_of_ble_eq_true rfl⟩ (Nat.le_of_ble_eq_true rfl) rfl dX9_save_8 (fun H locs hP hD hS => ?_)
  refine lv_aload_n hx hb dX9_save_11 rfl (lv_at hl 0 rfl) ?_
  refine lv_iconst (v := 1) hx hb dX9_save_12 (by decide) ?_
  refine put' (ci := 11) (fs := [.ref (ad 0 0), .ref (ad 1 0), .ref (ad 2 0), .ref (ad 3 0), .int (((x 12) 0) 4), .ref (ad 12 1), .ref (ad 12 3), .ref (ad 12 4), .int (((x 12) 0) 8), .ref (ad 12 31)]) (v := .int 1) (ty := .boolean) (ws' := (cW cy ad en (va_up (va_up x 3 o2) 12 (va_up (x 12) 0 (upd ((x 12) 0) 4 1))))) hx hb hw inWX9 tyX9 tyX9_ok nmX9 hown hK hP hD hS (gY (x := (va_up x 3 o2)) (r := 0) (f := ((x 12) 0)) (by decide) ((congrFun ((va_up_ne _ _ (by decide)).trans rfl) _).trans rfl)) rfl 4 (by decide) k_349 rfl rfl (by decide +kernel) rfl rfl (Nat.le_of_ble_eq_true rfl) dX9_save_13 ((sY (x := (va_up x 3 o2)) (r := 0) (g := (upd ((x 12) 0) 4 1)) (by decide)).trans (congrArg (fun z => cW cy ad en (va_up (va_up x 3 o2) 12 (va_up z 0 (upd ((x 12) 0) 4 1)))) ((va_up_ne _ _ (by decide)).trans rfl))) (fun H locs hP hD hS => ?_)
  refine lv_aload_n hx hb dX9_save_16 rfl (lv_at hl 0 rfl) ?_
  refine get' (ci := 11) (fs := [.ref (ad 0 0), .ref (ad 1 0), .ref (ad 2 0), .ref (ad 3 0), .int ((upd ((x 12) 0) 4 1) 4), .ref (ad 12 1), .ref (ad 12 3), .ref (ad 12 4), .int ((upd ((x 12) 0) 4 1) 8), .ref (ad 12 31)]) (v := .ref (ad 0 0)) hx hb hw inWX9 hown hK hP (gY (x := (va_up (va_up x 3 o2) 12 (va_up (x 12) 0 (upd ((x 12) 0) 4 1)))) (r := 0) (f := (upd ((x 12) 0) 4 1)) (by decide) ((congrFun (va_up_self _ _ _) _).trans (va_up_self _ _ _))) rfl 0 (by decide) k_345 rfl rfl dX9_save_17 ?_
  refine getN' (ci := 6) (fs := oF (ad 0) ((x 0) 0)) (v := .int (((x 0) 0) 1)) hx hb hw hN inWX4 hown hK hP (gX (x := (va_up (va_up x 3 o2) 12 (va_up (x 12) 0 (upd ((x 12) 0) 4 1)))) (k := 0) (r := 0) (f := ((x 0) 0)) (by decide) (by decide) ((congrFun ((va_up_ne _ _ (by decide)).trans ((va_up_ne _ _ (by decide)).trans rfl)) _).trans rfl)) rfl 1 (by decide) n_179 rfl rfl dX9_save_20 ?_
  cases hF
  exact hret _ _ _ _ _ _ hP hD hS rfl rfl dX9_save_23
def D_X9_restore (x : Mem) : Option (Int32 × Int32 × (Mem)) := if (((x 12) 0) 4) = 0 then (some (1, 0, x)) else ((D_X4_copyFrom (x 0) (x 3)).bind (fun o3 => some (0, ((((D_X2_clear (va_up x 0 o3)) 0) 0) 1), (D_X2_clear (va_up x 0 o3)))))
abbrev rm_X9_restore : Room := { frames := 6, cells := 2, slots := 12, locals := 124 }
def exn_X9_restore : Int32 → String := fun _ => "java/lang/IllegalStateException"
set_option maxHeartbeats 4000000 in
set_option maxRecDepth 100000 in
theorem met_X9_restore (l : Launch) (hst0 : l.stackTraces = false) (D : va_G) (cy : Nat → ClassId) (sz : Nat) (ad : Nat → Nat → Nat) (en g : Nat → Nat) (x : Mem)  (code : Int32) (r : Int32) (t' : Mem) (hF : D_X9_restore x = some (code, r, t')) : MT l yX9_restore cX9_restore 1 (some .int) rm_X9_restore D cy en g (cW cy ad en x) sz [.ref (ad 12 0)] exn_X9_restore code r (cW cy ad en t') := by
  refine MT.of (by decide +kernel) (Nat.le_of_ble_eq_true rfl) ?_
  intro p e s m args below meth c A ls Q hAt htb hST hP hD hA hS hl hQ
  obtain ⟨hx, hb, hr, hml, hown, hw, hlk, hK, hN⟩ := hAt
  have hown : s.vm.findClass "CloudDeeds" = some m.cls := hown
  have hl : lv_has ls 1 [(0, .ref (ad 12 0))] := hl
  refine lv_aload_n hx hb dX9_restore_0 rfl (lv_at hl 0 rfl) ?_
  refine get' (ci := 11) (fs := [.ref (ad 0 0), .ref (ad 1 0), .ref (ad 2 0), .ref (ad 3 0), .int (((x 12) 0) 4), .ref (ad 12 1), .ref (ad 12 3), .ref (ad 12 4), .int (((x 12) 0) 8), .ref (ad 12 31)]) (v := .int (((x 12) 0) 4)) hx hb hw inWX9 hown hK hP (gY (x := x) (r := 0) (f := ((x 12) 0)) (by decide) ((congrFun rfl _).trans rfl)) rfl 4 (by decide) k_349 rfl rfl dX9_restore_1 ?_
  refine lv_if_ne (tgt := 18) hx hb dX9_restore_4 (by decide) (fun h1 => ?_) (fun h1 => ?_)
  · replace hF := (if_neg h1).symm.trans hF
    refine lv_aload_n hx hb dX9_restore_18 rfl (lv_at hl 0 rfl) ?_
    refine get' (ci := 11) (fs := [.ref (ad 0 0), .ref (ad 1 0), .ref (ad 2 0), .ref (ad 3 0), .int (((x 12) 0) 4), .ref (ad 12 1), .ref (ad 12 3), .ref (ad 12 4), .int (((x 12) 0) 8), .ref (ad 12 31)]) (v := .ref (ad 0 0)) hx hb hw inWX9 hown hK hP (gY (x := x) (r := 0) (f := ((x 12) 0)) (by decide) ((congrFun rfl _).trans rfl)) rfl 0 (by decide) k_345 rfl rfl dX9_restore_19 ?_
    refine lv_aload_n hx hb dX9_restore_22 rfl (lv_at hl 0 rfl) ?_
    refine get' (ci := 11) (fs := [.ref (ad 0 0), .ref (ad 1 0), .ref (ad 2 0), .ref (ad 3 0), .int (((x 12) 0) 4), .ref (ad 12 1), .ref (ad 12 3), .ref (ad 12 4), .int (((x 12) 0) 8), .ref (ad 12 31)]) (v := .ref (ad 3 0)) hx hb hw inWX9 hown hK hP (gY (x := x) (r := 0) (f := ((x 12) 0)) (by decide) ((congrFun rfl _).trans rfl)) rfl 3 (by decide) k_348 rfl rfl dX9_restore_23 ?_
    have hP := cvP hP ((congrArg (cW cy ad en) (up_self x 0)).symm.trans (congrArg (fun z => cW cy ad en (va_up x 0 z)) rfl))
    have hD := cvD hD ((congrArg (cW cy ad en) (up_self x 0)).symm.trans (congrArg (fun z => cW cy ad en (va_up x 0 z)) rfl))
    obtain ⟨o3, hc4, hF⟩ := bind_some hF
    try dsimp only at hF
    refine cV_v (As := [.ref (ad 3 0)]) (rest := []) hx hb hml hown hw hK hN hA hl.1 hP hD hS k_522 k_388 k_389 k_77 k_390 (met_X4_copyFrom l D cy _ ad en x 0 (by decide) (x 0) 3 (by decide) (by decide) (x 3) rfl o3 hc4) (fun _ _ _ => trivial) Xok_T (gX (x := (va_up x 0 (x 0))) (k := 0) (r := 0) (f := ((x 0) 0)) (by decide) (by decide) ((congrFun (va_up_self _ _ _) _).trans rfl)) rfl ⟨rfl, rfl⟩ (n := 1) (by decide +kernel) rfl ⟨Nat.le_of_ble_eq_true rfl, Nat.le_of_ble_eq_true rfl⟩ ⟨Nat.le_of_ble_eq_true rfl, Nat.le_of_ble_eq_true rfl⟩ (Nat.le_of_ble_eq_true rfl) rfl dX9_restore_26 (fun H locs hP hD hS => ?_)
    refine lv_aload_n hx hb dX9_restore_29 rfl (lv_at hl 0 rfl) ?_
    refine get' (ci := 11) (fs := [.ref (ad 0 0), .ref (ad 1 0), .ref (ad 2 0), .ref (ad 3 0), .int (((x 12) 0) 4), .ref (ad 12 1), .ref (ad 12 3), .ref (ad 12 4), .int (((x 12) 0) 8), .ref (ad 12 31)]) (v := .ref (ad 12 1)) hx hb hw inWX9 hown hK hP (gY (x := (va_up x 0 o3)) (r := 0) (f := ((x 12) 0)) (by decide) ((congrFun ((va_up_ne _ _ (by decide)).trans rfl) _).trans rfl)) rfl 5 (by decide) k_350 rfl rfl dX9_restore_30 ?_
    refine cV_v (As := []) (rest := []) hx hb hml hown hw hK hN hA hl.1 hP hD hS k_1560 k_1561 k_1562 k_80 k_1563 (met_X2_clear l D cy _ ad en g (va_up x 0 o3) (D_X2_clear (va_up x 0 o3)) rfl) (fun _ _ _ => trivial) Xok_T (gY (x := (va_up x 0 o3)) (r := 1) (f := ((x 12) 1)) (by decide) ((congrFun ((va_up_ne _ _ (by decide)).trans rfl) _).trans rfl)) rfl ⟨rfl, rfl⟩ (n := 0) (by decide +kernel) rfl ⟨Nat.le_of_ble_eq_true rfl, Nat.le_of_ble_eq_true rfl⟩ ⟨Nat.le_of_ble_eq_true rfl, Nat.le_of_ble_eq_true rfl⟩ (Nat.le_of_ble_eq_true rfl) rfl dX9_restore_33 (fun H locs hP hD hS => ?_)
    refine lv_aload_n hx hb dX9_restore_36 rfl (lv_at hl 0 rfl) ?_
    refine get' (ci := 11) (fs := [.ref (ad 0 0), .ref (ad 1 0), .ref (ad 2 0), .ref (ad 3 0), .int ((((D_X2_clear (va_up x 0 o3)) 12) 0) 4), .ref (ad 12 1), .ref (ad 12 3), .ref (ad 12 4), .int ((((D_X2_clear (va_up x 0 o3)) 12) 0) 8), .ref (ad 12 31)]) (v := .ref (ad 0 0)) hx hb hw inWX9 hown hK hP (gY (x := (D_X2_clear (va_up x 0 o3))) (r := 0) (f := (((D_X2_clear (va_up x 0 o3)) 12) 0)) (by decide) ((congrFun rfl _).trans rfl)) rfl 0 (by decide) k_345 rfl rfl dX9_restore_37 ?_
    refine getN' (ci := 6) (fs := oF (ad 0) (((D_X2_clear (va_up x 0 o3)) 0) 0)) (v := .int ((((D_X2_clear (va_up x 0 o3)) 0) 0) 1)) hx hb hw hN inWX4 hown hK hP (gX (x := (D_X2_clear (va_up x 0 o3))) (k := 0) (r := 0) (f := (((D_X2_clear (va_up x 0 o3)) 0) 0)) (by decide) (by decide) ((congrFun rfl _).trans rfl)) rfl 1 (by decide) n_179 rfl rfl dX9_restore_40 ?_
    cases hF
    rw [hQ]
    exact retx_i hx hb hr hlk (Nat.le_of_ble_eq_true rfl) (Nat.le_of_ble_eq_true rfl) hS hP hD rfl rfl rfl dX9_restore_43
  · replace hF := (if_pos h1).symm.trans hF
    cases hF
    rw [hQ]
    exact thrSW (g := g) (en := en) hx hb hst0 hml hown hw hN hlk htb hST hS hP hD hl.1 (text := "nothing was saved") 21 rfl (by decide) k_1031 k_102 at_214 (by decide) rfl rfl dX9_restore_7 dX9_restore_10 dX9_restore_11 dX9_restore_14 dX9_restore_17 ⟨Nat.le_of_ble_eq_true rfl, Nat.le_of_ble_eq_true rfl, Nat.le_of_ble_eq_true rfl, Nat.le_of_ble_eq_true rfl⟩ (Nat.le_of_ble_eq_true rfl) ⟨Nat.le_of_ble_eq_true rfl, Nat.le_of_ble_eq_true rfl⟩
def D_X9_cloudsImagined (x : Mem) (p1 : Int32) (p2 : Int32) : Option (Int32 × (Mem)) := (D_X4_copyFrom (x 2) (x 0)).bind (fun o2 => if p2 = 0 then ((D_X4_letDawn o2).bind (fun (r5, o6) => (D_X4_cloudsCounted o6 p1).bind (fun r8 => some (r8, (va_up x 2 o6))))) else ((D_X4_blow o2 p2).bind (fun (r11, o12) => (D_X4_letDawn o12).bind (fun (r14, o15) => (D_X4_cloudsCounted o15 p1).bind (fun r17 => some (r17, (va_up x 2 o15)))))))
abbrev rm_X9_cloudsImagined : Room := { frames := 4, cells := 0, slots := 0, locals := 124 }
set_option maxHeartbeats 4000000 in
set_option maxRecDepth 100000 in
theorem met_X9_cloudsImagined (l : Launch) (D : va_G) (cy : Nat → ClassId) (sz : Nat) (ad : Nat → Nat → Nat) (en g : Nat → Nat) (x : Mem) (p1 : Int32) (p2 : Int32)  (r : Int32) (t' : Mem) (hF : D_X9_cloudsImagined x p1 p2 = some (r, t')) : MI l yX9_cloudsImagined cX9_cloudsImagined 3 (some .int) rm_X9_cloudsImagined D cy (cW cy ad en x) sz (fun _ => True) [.ref (ad 12 0), .int p1, .int p2] r (cW cy ad en t') := by
  refine MI.of (by decide +kernel) (Nat.le_of_ble_eq_true rfl) ?_
  intro p e s m args below meth c A ls Q hAt _ hP hD hA hS hl hret
  obtain ⟨hx, hb, hr, hml, hown, hw, hlk, hK, hN⟩ := hAt
  have hown : s.vm.findClass "CloudDeeds" = some m.cls := hown
  have hl : lv_has ls 3 [(0, .ref (ad 12 0)), (1, .int p1), (2, .int p2)] := hl
  refine lv_aload_n hx hb dX9_cloudsImagined_0 rfl (lv_at hl 0 rfl) ?_
  refine get' (ci := 11) (fs := [.ref (ad 0 0), .ref (ad 1 0), .ref (ad 2 0), .ref (ad 3 0), .int (((x 12) 0) 4), .ref (ad 12 1), .ref (ad 12 3), .ref (ad 12 4), .int (((x 12) 0) 8), .ref (ad 12 31)]) (v := .ref (ad 2 0)) hx hb hw inWX9 hown hK hP (gY (x := x) (r := 0) (f := ((x 12) 0)) (by decide) ((congrFun rfl _).trans rfl)) rfl 2 (by decide) k_347 rfl rfl dX9_cloudsImagined_1 ?_
  refine lv_aload_n hx hb dX9_cloudsImagined_4 rfl (lv_at hl 0 rfl) ?_
  refine get' (ci := 11) (fs := [.ref (ad 0 0), .ref (ad 1 0), .ref (ad 2 0), .ref (ad 3 0), .int (((x 12) 0) 4), .ref (ad 12 1), .ref (ad 12 3), .ref (ad 12 4), .int (((x 12) 0) 8), .ref (ad 12 31)]) (v := .ref (ad 0 0)) hx hb hw inWX9 hown hK hP (gY (x := x) (r := 0) (f := ((x 12) 0)) (by decide) ((congrFun rfl _).trans rfl)) rfl 0 (by decide) k_345 rfl rfl dX9_cloudsImagined_5 ?_
  have hP := cvP hP ((congrArg (cW cy ad en) (up_self x 2)).symm.trans (congrArg (fun z => cW cy ad en (va_up x 2 z)) rfl))
  have hD := cvD hD ((congrArg (cW cy ad en) (up_self x 2)).symm.trans (congrArg (fun z => cW cy ad en (va_up x 2 z)) rfl))
  obtain ⟨o2, hc3, hF⟩ := bind_some hF
  try dsimp only at hF
  refine cV_v (As := [.ref (ad 0 0)]) (rest := []) hx hb hml hown hw hK hN hA hl.1 hP hD hS k_522 k_388 k_389 k_77 k_390 (met_X4_copyFrom l D cy _ ad en x 2 (by decide) (x 2) 0 (by decide) (by decide) (x 0) rfl o2 hc3) (fun _ _ _ => trivial) Xok_T (gX (x := (va_up x 2 (x 2))) (k := 2) (r := 0) (f := ((x 2) 0)) (by decide) (by decide) ((congrFun (va_up_self _ _ _) _).trans rfl)) rfl ⟨rfl, rfl⟩ (n := 1) (by decide +kernel) rfl ⟨Nat.le_of_ble_eq_true rfl, Nat.le_of_ble_eq_true rfl⟩ ⟨Nat.le_of_ble_eq_true rfl, Nat.le_of_ble_eq_true rfl⟩ (Nat.le_of_ble_eq_true rfl) rfl dX9_cloudsImagined_8 (fun H locs hP hD hS => ?_)
  refine lv_iload_n hx hb dX9_cloudsImagined_11 rfl (lv_at hl 2 rfl) ?_
  refine lv_if_eq (tgt := 24) hx hb dX9_cloudsImagined_12 (by decide) (fun h4 => ?_) (fun h4 => ?_)
  · replace hF := (if_pos h4).symm.trans hF
    refine lv_aload_n hx hb dX9_cloudsImagined_24 rfl (lv_at hl 0 rfl) ?_
    refine get' (ci := 11) (fs := [.ref (ad 0 0), .ref (ad 1 0), .ref (ad 2 0), .ref (ad 3 0), .int (((x 12) 0) 4), .ref (ad 12 1), .ref (ad 12 3), .ref (ad 12 4), .int (((x 12) 0) 8), .ref (ad 12 31)]) (v := .ref (ad 2 0)) hx hb hw inWX9 hown hK hP (gY (x := (va_up x 2 o2)) (r := 0) (f := ((x 12) 0)) (by decide) ((congrFun ((va_up_ne _ _ (by decide)).trans rfl) _).trans rfl)) rfl 2 (by decide) k_347 rfl rfl dX9_cloudsImagined_25 ?_
    obtain ⟨⟨r5, o6⟩, hc7, hF⟩ := bind_some hF
    try dsimp only at hF
    refine cV_i (As := []) (rest := []) hx hb hml hown hw hK hN hA hl.1 hP hD hS k_413 k_414 k_415 k_77 k_416 (met_X4_letDawn l D cy _ ad en x 2 (by decide) o2 r5 o6 hc7) (fun _ _ _ => trivial) Xok_T (gX (x := (va_up x 2 o2)) (k := 2) (r := 0) (f := (o2 0)) (by decide) (by decide) ((congrFun (va_up_self _ _ _) _).trans rfl)) rfl ⟨rfl, rfl⟩ (n := 0) (by decide +kernel) rfl ⟨Nat.le_of_ble_eq_true rfl, Nat.le_of_ble_eq_true rfl⟩ ⟨Nat.le_of_ble_eq_true rfl, Nat.le_of_ble_eq_true rfl⟩ (Nat.le_of_ble_eq_true rfl) rfl dX9_cloudsImagined_28 (fun H locs hP hD hS => ?_)
    refine lv_pop hx hb dX9_cloudsImagined_31 rfl ?_
    refine lv_aload_n hx hb dX9_cloudsImagined_32 rfl (lv_at hl 0 rfl) ?_
    refine get' (ci := 11) (fs := [.ref (ad 0 0), .ref (ad 1 0), .ref (ad 2 0), .ref (ad 3 0), .int (((x 12) 0) 4), .ref (ad 12 1), .ref (ad 12 3), .ref (ad 12 4), .int (((x 12) 0) 8), .ref (ad 12 31)]) (v := .ref (ad 2 0)) hx hb hw inWX9 hown hK hP (gY (x := (va_up x 2 o6)) (r := 0) (f := ((x 12) 0)) (by decide) ((congrFun ((va_up_ne _ _ (by decide)).trans rfl) _).trans rfl)) rfl 2 (by decide) k_347 rfl rfl dX9_cloudsImagined_33 ?_
    refine lv_iload_n hx hb dX9_cloudsImagined_36 rfl (lv_at hl 1 rfl) ?_
    obtain ⟨r8, hc10, hF⟩ := bind_some hF
    try dsimp only at hF
    refine cV_i (As := [.int p1]) (rest := []) hx hb hml hown hw hK hN hA hl.1 hP hD hS k_890 k_494 k_495 k_77 k_496 (met_X4_cloudsCounted l D cy _ ad en x 2 (by decide) o6 p1 r8 hc10) (fun _ _ _ => trivial) Xok_T (gX (x := (va_up x 2 o6)) (k := 2) (r := 0) (f := (o6 0)) (by decide) (by decide) ((congrFun (va_up_self _ _ _) _).trans rfl)) rfl ⟨rfl, rfl⟩ (n := 1) (by decide +kernel) rfl ⟨Nat.le_of_ble_eq_true rfl, Nat.le_of_ble_eq_true rfl⟩ ⟨Nat.le_of_ble_eq_true rfl, Nat.le_of_ble_eq_true rfl⟩ (Nat.le_of_ble_eq_true rfl) rfl dX9_cloudsImagined_37 (fun H locs hP hD hS => ?_)
    cases hF
    exact hret _ _ _ _ _ _ hP hD hS rfl rfl dX9_cloudsImagined_40
  · replace hF := (if_neg h4).symm.trans hF
    refine lv_aload_n hx hb dX9_cloudsImagined_15 rfl (lv_at hl 0 rfl) ?_
    refine get' (ci := 11) (fs := [.ref (ad 0 0), .ref (ad 1 0), .ref (ad 2 0), .ref (ad 3 0), .int (((x 12) 0) 4), .ref (ad 12 1), .ref (ad 12 3), .ref (ad 12 4), .int (((x 12) 0) 8), .ref (ad 12 31)]) (v := .ref (ad 2 0)) hx hb hw inWX9 hown hK hP (gY (x := (va_up x 2 o2)) (r := 0) (f := ((x 12) 0)) (by decide) ((congrFun ((va_up_ne _ _ (by decide)).trans rfl) _).trans rfl)) rfl 2 (by decide) k_347 rfl rfl dX9_cloudsImagined_16 ?_
    refine lv_iload_n hx hb dX9_cloudsImagined_19 rfl (lv_at hl 2 rfl) ?_
    obtain ⟨⟨r11, o12⟩, hc13, hF⟩ := bind_some hF
    try dsimp only at hF
    refine cV_i (As := [.int p2]) (rest := []) hx hb hml hown hw hK hN hA hl.1 hP hD hS k_928 k_626 k_627 k_77 k_628 (met_X4_blow l D cy _ ad en x 2 (by decide) o2 p2 r11 o12 hc13) (fun _ _ _ => trivial) Xok_T (gX (x := (va_up x 2 o2)) (k := 2) (r := 0) (f := (o2 0)) (by decide) (by decide) ((congrFun (va_up_self _ _ _) _).trans rfl)) rfl ⟨rfl, rfl⟩ (n := 1) (by decide +kernel) rfl ⟨Nat.le_of_ble_eq_true rfl, Nat.le_of_ble_eq_true rfl⟩ ⟨Nat.le_of_ble_eq_true rfl, Nat.le_of_ble_eq_true rfl⟩ (Nat.le_of_ble_eq_true rfl) rfl dX9_cloudsImagined_20 (fun H locs hP hD hS => ?_)
    refine lv_pop hx hb dX9_cloudsImagined_23 rfl ?_
    refine lv_aload_n hx hb dX9_cloudsImagined_24 rfl (lv_at hl 0 rfl) ?_
    refine get' (ci := 11) (fs := [.ref (ad 0 0), .ref (ad 1 0), .ref (ad 2 0), .ref (ad 3 0), .int (((x 12) 0) 4), .ref (ad 12 1), .ref (ad 12 3), .ref (ad 12 4), .int (((x 12) 0) 8), .ref (ad 12 31)]) (v := .ref (ad 2 0)) hx hb hw inWX9 hown hK hP (gY (x := (va_up x 2 o12)) (r := 0) (f := ((x 12) 0)) (by decide) ((congrFun ((va_up_ne _ _ (by decide)).trans rfl) _).trans rfl)) rfl 2 (by decide) k_347 rfl rfl dX9_cloudsImagined_25 ?_
    obtain ⟨⟨r14, o15⟩, hc16, hF⟩ := bind_some hF
    try dsimp only at hF
    refine cV_i (As := []) (rest := []) hx hb hml hown hw hK hN hA hl.1 hP hD hS k_413 k_414 k_415 k_77 k_416 (met_X4_letDawn l D cy _ ad en x 2 (by decide) o12 r14 o15 hc16) (fun _ _ _ => trivial) Xok_T (gX (x := (va_up x 2 o12)) (k := 2) (r := 0) (f := (o12 0)) (by decide) (by decide) ((congrFun (va_up_self _ _ _) _).trans rfl)) rfl ⟨rfl, rfl⟩ (n := 0) (by decide +kernel) rfl ⟨Nat.le_of_ble_eq_true rfl, Nat.le_of_ble_eq_true rfl⟩ ⟨Nat.le_of_ble_eq_true rfl, Nat.le_of_ble_eq_true rfl⟩ (Nat.le_of_ble_eq_true rfl) rfl dX9_cloudsImagined_28 (fun H locs hP hD hS => ?_)
    refine lv_pop hx hb dX9_cloudsImagined_31 rfl ?_
    refine lv_aload_n hx hb dX9_cloudsImagined_32 rfl (lv_at hl 0 rfl) ?_
    refine get' (ci := 11) (fs := [.ref (ad 0 0), .ref (ad 1 0), .ref (ad 2 0), .ref (ad 3 0), .int (((x 12) 0) 4), .ref (ad 12 1), .ref (ad 12 3), .ref (ad 12 4), .int (((x 12) 0) 8), .ref (ad 12 31)]) (v := .ref (ad 2 0)) hx hb hw inWX9 hown hK hP (gY (x := (va_up x 2 o15)) (r := 0) (f := ((x 12) 0)) (by decide) ((congrFun ((va_up_ne _ _ (by decide)).trans rfl) _).trans rfl)) rfl 2 (by decide) k_347 rfl rfl dX9_cloudsImagined_33 ?_
    refine lv_iload_n hx hb dX9_cloudsImagined_36 rfl (lv_at hl 1 rfl) ?_
    obtain ⟨r17, hc19, hF⟩ := bind_some hF
    try dsimp only at hF
    refine cV_i (As := [.int p1]) (rest := []) hx hb hml hown hw hK hN hA hl.1 hP hD hS k_890 k_494 k_495 k_77 k_496 (met_X4_cloudsCounted l D cy _ ad en x 2 (by decide) o15 p1 r17 hc19) (fun _ _ _ => trivial) Xok_T (gX (x := (va_up x 2 o15)) (k := 2) (r := 0) (f := (o15 0)) (by decide) (by decide) ((congrFun (va_up_self _ _ _) _).trans rfl)) rfl ⟨rfl, rfl⟩ (n := 1) (by decide +kernel) rfl ⟨Nat.le_of_ble_eq_true rfl, Nat.le_of_ble_eq_true rfl⟩ ⟨Nat.le_of_ble_eq_true rfl, Nat.le_of_ble_eq_true rfl⟩ (Nat.le_of_ble_eq_true rfl) rfl dX9_cloudsImagined_37 (fun H locs hP hD hS => ?_)
    cases hF
    exact hret _ _ _ _ _ _ hP hD hS rfl rfl dX9_cloudsImagined_40
def D_X2_push (x : Mem) (p1 : Nat) : Option ((Mem)) := if (D_X9_isWithin (((x 12) 1) 1) 8) = 0 then ((D_J9_floorMod_7cf53 ((((x 12) 1) 1) + 1) 8).bind (fun r5 => some (va_up x 12 (va_up (x 12) 1 (upd (upd ((x 12) 1) 1 r5) 2 (if 8 < ((((x 12) 1) 2) + 1) then 8 else ((((x 12) 1) 2) + 1))))))) else (if inb (((x 12) 1) 1) 8 then ((D_X4_copyFrom (x ((((x 12) 1) 1).toNatClampNeg + 4)) (x p1)).bind (fun o11 => (D_J9_floorMod_7cf53 ((((x 12) 1) 1) + 1) 8).bind (fun r13 => some (va_up (va_up x ((((x 12) 1) 1).toNatClampNeg + 4) o11) 12 (va_up (x 12) 1 (upd (upd ((x 12) 1) 1 r13) 2 (if 8 < ((((x 12) 1) 2) + 1) then 8 else ((((x 12) 1) 2) + 1)))))))) else none)
abbrev rm_X2_push : Room := { frames := 4, cells := 0, slots := 0, locals := 124 }
set_option maxHeartbeats 4000000 in
set_option maxRecDepth 100000 in
theorem met_X2_push (l : Launch) (D : va_G) (cy : Nat → ClassId) (sz : Nat) (ad : Nat → Nat → Nat) (en g : Nat → Nat) (x : Mem) (p1 : Nat) (hp1 : p1 < 12) (gp1 : p1 < 4)  (t' : Mem) (hF : D_X2_push x p1 = some t') : MV l yX2_push cX2_push 2 rm_X2_push D cy (cW cy ad en x) sz (fun _ => True) [.ref (ad 12 1), .ref (ad p1 0)] (cW cy ad en t') := by
  refine MV.of (by decide +kernel) (Nat.le_of_ble_eq_true rfl) ?_
  intro p e s m args below meth c A ls Q hAt _ hP hD hA hS hl hret
  obtain ⟨hx, hb, hr, hml, hown, hw, hlk, hK, hN⟩ := hAt
  have hown : s.vm.findClass "CloudDeeds$History" = some m.cls := hown
  have hl : lv_has ls 2 [(0, .ref (ad 12 1)), (1, .ref (ad p1 0))] := hl
  refine lv_aload_n hx hb dX2_push_0 rfl (lv_at hl 0 rfl) ?_
  refine get' (ci := 5) (fs := [.ref (ad 12 2), .int (((x 12) 1) 1), .int (((x 12) 1) 2)]) (v := .int (((x 12) 1) 1)) hx hb hw inWX2 hown hK hP (gY (x := x) (r := 1) (f := ((x 12) 1)) (by decide) ((congrFun rfl _).trans rfl)) rfl 1 (by decide) k_234 rfl rfl dX2_push_1 ?_
  refine lv_aload_n hx hb dX2_push_4 rfl (lv_at hl 0 rfl) ?_
  refine get' (ci := 5) (fs := [.ref (ad 12 2), .int (((x 12) 1) 1), .int (((x 12) 1) 2)]) (v := .ref (ad 12 2)) hx hb hw inWX2 hown hK hP (gY (x := x) (r := 1) (f := ((x 12) 1)) (by decide) ((congrFun rfl _).trans rfl)) rfl 0 (by decide) k_233 rfl rfl dX2_push_5 ?_
  refine va_alen (v := 8) hx hb hK hP _ 4 (gY (x := x) (r := 2) (f := ((x 12) 2)) (by decide) ((congrFun rfl _).trans rfl)) rfl (show Int32.ofNat 8 = 8 by decide) dX2_push_8 ?_
  refine cSN_i (As := [.int (((x 12) 1) 1), .int 8]) (rest := []) hx hb hml hown hw hK hN hA hl.1 hP hD hS n_384 k_385 k_76 k_386 (met_X9_isWithin l D cy _ (cW cy ad en x) (((x 12) 1) 1) 8 (D_X9_isWithin (((x 12) 1) 1) 8) rfl) (fun _ _ _ => trivial) Xok_T ⟨rfl, rfl⟩ (n := 2) (by decide +kernel) rfl ⟨Nat.le_of_ble_eq_true rfl, Nat.le_of_ble_eq_true rfl⟩ ⟨Nat.le_of_ble_eq_true rfl, Nat.le_of_ble_eq_true rfl⟩ (Nat.le_of_ble_eq_true rfl) rfl dX2_push_9 (fun H locs hP hD hS => ?_)
  refine lv_if_eq (tgt := 28) hx hb dX2_push_12 (by decide) (fun h4 => ?_) (fun h4 => ?_)
  · replace hF := (if_pos h4).symm.trans hF
    refine lv_aload_n hx hb dX2_push_28 rfl (lv_at hl 0 rfl) ?_
    refine lv_aload_n hx hb dX2_push_29 rfl (lv_at hl 0 rfl) ?_
    refine get' (ci := 5) (fs := [.ref (ad 12 2), .int (((x 12) 1) 1), .int (((x 12) 1) 2)]) (v := .int (((x 12) 1) 1)) hx hb hw inWX2 hown hK hP (gY (x := x) (r := 1) (f := ((x 12) 1)) (by decide) ((congrFun rfl _).trans rfl)) rfl 1 (by decide) k_234 rfl rfl dX2_push_30 ?_
    refine lv_iconst (v := 1) hx hb dX2_push_33 (by decide) ?_
    refine lv_iadd hx hb dX2_push_34 ?_
    refine lv_bipush (v := 8) hx hb dX2_push_35 (by decide) ?_
    obtain ⟨r5, hc7, hF⟩ := bind_some hF
    try dsimp only at hF
    refine cS_i (As := [.int ((((x 12) 1) 1) + 1), .int 8]) (rest := [.ref (ad 12 1)]) hx hb hml hown hw hK hN hA hl.1 hP hD hS k_409 k_410 k_91 k_411 (met_J9_floorMod_7cf53 l D cy _ (cW cy ad en x) ((((x 12) 1) 1) + 1) 8 r5 hc7) (fun _ _ _ => trivial) Xok_T ⟨rfl, rfl⟩ (n := 2) (by decide +kernel) rfl ⟨Nat.le_of_ble_eq_true rfl, Nat.le_of_ble_eq_true rfl⟩ ⟨Nat.le_of_ble_eq_true rfl, Nat.le_of_ble_eq_true rfl⟩ (Nat.le_of_ble_eq_true rfl) rfl dX2_push_37 (fun H locs hP hD hS => ?_)
    refine put' (ci := 5) (fs := [.ref (ad 12 2), .int (((x 12) 1) 1), .int (((x 12) 1) 2)]) (v := .int r5) (ty := .int) (ws' := (cW cy ad en (va_up x 12 (va_up (x 12) 1 (upd ((x 12) 1) 1 r5))))) hx hb hw inWX2 tyX2 tyX2_ok nmX2 hown hK hP hD hS (gY (x := x) (r := 1) (f := ((x 12) 1)) (by decide) ((congrFun rfl _).trans rfl)) rfl 1 (by decide) k_234 rfl rfl (by decide +kernel) rfl rfl (Nat.le_of_ble_eq_true rfl) dX2_push_40 ((sY (x := x) (r := 1) (g := (upd ((x 12) 1) 1 r5)) (by decide)).trans (congrArg (fun z => cW cy ad en (va_up x 12 (va_up z 1 (upd ((x 12) 1) 1 r5)))) rfl)) (fun H locs hP hD hS => ?_)
    refine lv_aload_n hx hb dX2_push_43 rfl (lv_at hl 0 rfl) ?_
    refine lv_aload_n hx hb dX2_push_44 rfl (lv_at hl 0 rfl) ?_
    refine get' (ci := 5) (fs := [.ref (ad 12 2), .int ((upd ((x 12) 1) 1 r5) 1), .int ((upd ((x 12) 1) 1 r5) 2)]) (v := .int (((x 12) 1) 2)) hx hb hw inWX2 hown hK hP (gY (x := (va_up x 12 (va_up (x 12) 1 (upd ((x 12) 1) 1 r5)))) (r := 1) (f := (upd ((x 12) 1) 1 r5)) (by decide) ((congrFun (va_up_self _ _ _) _).trans (va_up_self _ _ _))) rfl 2 (by decide) k_235 rfl rfl dX2_push_45 ?_
    refine lv_iconst (v := 1) hx hb dX2_push_48 (by decide) ?_
    refine lv_iadd hx hb dX2_push_49 ?_
    refine lv_bipush (v := 8) hx hb dX2_push_50 (by decide) ?_
    refine va_mmin hx hb (hml.trans hl.1.symm) hown (hw _ k_412) (hw _ k_399) (hw _ k_91) (hw _ k_400) (Nat.le_of_ble_eq_true rfl) (Nat.le_of_ble_eq_true rfl) (Nat.zero_le _) (Nat.zero_le _) dX2_push_52 ?_
    refine put' (ci := 5) (fs := [.ref (ad 12 2), .int ((upd ((x 12) 1) 1 r5) 1), .int ((upd ((x 12) 1) 1 r5) 2)]) (v := .int (if 8 < ((((x 12) 1) 2) + 1) then 8 else ((((x 12) 1) 2) + 1))) (ty := .int) (ws' := (cW cy ad en (va_up x 12 (va_up (x 12) 1 (upd (upd ((x 12) 1) 1 r5) 2 (if 8 < ((((x 12) 1) 2) + 1) then 8 else ((((x 12) 1) 2) + 1))))))) hx hb hw inWX2 tyX2 tyX2_ok nmX2 hown hK hP hD hS (gY (x := (va_up x 12 (va_up (x 12) 1 (upd ((x 12) 1) 1 r5)))) (r := 1) (f := (upd ((x 12) 1) 1 r5)) (by decide) ((congrFun (va_up_self _ _ _) _).trans (va_up_self _ _ _))) rfl 2 (by decide) k_235 rfl rfl (by decide +kernel) rfl rfl (Nat.le_of_ble_eq_true rfl) dX2_push_55 ((sT (x := x) (r := 1) (o := (va_up (x 12) 1 (upd ((x 12) 1) 1 r5))) (g := (upd (upd ((x 12) 1) 1 r5) 2 (if 8 < ((((x 12) 1) 2) + 1) then 8 else ((((x 12) 1) 2) + 1)))) (by decide)).trans (congrArg (fun z => cW cy ad en (va_up x 12 z)) (up_up _ _ _ _))) (fun H locs hP hD hS => ?_)
    cases hF
    exact hret _ _ _ _ _ hP hD hS rfl dX2_push_58
  · replace hF := (if_neg h4).symm.trans hF
    refine lv_aload_n hx hb dX2_push_15 rfl (lv_at hl 0 rfl) ?_
    refine get' (ci := 5) (fs := [.ref (ad 12 2), .int (((x 12) 1) 1), .int (((x 12) 1) 2)]) (v := .ref (ad 12 2)) hx hb hw inWX2 hown hK hP (gY (x := x) (r := 1) (f := ((x 12) 1)) (by decide) ((congrFun rfl _).trans rfl)) rfl 0 (by decide) k_233 rfl rfl dX2_push_16 ?_
    refine lv_aload_n hx hb dX2_push_19 rfl (lv_at hl 0 rfl) ?_
    refine get' (ci := 5) (fs := [.ref (ad 12 2), .int (((x 12) 1) 1), .int (((x 12) 1) 2)]) (v := .int (((x 12) 1) 1)) hx hb hw inWX2 hown hK hP (gY (x := x) (r := 1) (f := ((x 12) 1)) (by decide) ((congrFun rfl _).trans rfl)) rfl 1 (by decide) k_234 rfl rfl dX2_push_20 ?_
    obtain ⟨h8, hF⟩ := ite_some hF
    have hr9 : ((((x 12) 1) 1).toNatClampNeg + 4) < 12 := Nat.add_lt_add_right (inb_lt h8) 4
    refine aald' (n := 8) (g := (ad ((((x 12) 1) 1).toNatClampNeg + 4) 0)) hx hb hK hP (gY (x := x) (r := 2) (f := ((x 12) 2)) (by decide) ((congrFun rfl _).trans rfl)) (t0 := 4) rfl (vp_inb h8) rfl dX2_push_23 ?_
    refine lv_aload_n hx hb dX2_push_24 rfl (lv_at hl 1 rfl) ?_
    have hP := cvP hP ((congrArg (cW cy ad en) (up_self x ((((x 12) 1) 1).toNatClampNeg + 4))).symm.trans (congrArg (fun z => cW cy ad en (va_up x ((((x 12) 1) 1).toNatClampNeg + 4) z)) rfl))
    have hD := cvD hD ((congrArg (cW cy ad en) (up_self x ((((x 12) 1) 1).toNatClampNeg + 4))).symm.trans (congrArg (fun z => cW cy ad en (va_up x ((((x 12) 1) 1).toNatClampNeg + 4) z)) rfl))
    obtain ⟨o11, hc12, hF⟩ := bind_some hF
    try dsimp only at hF
    refine cV_v (As := [.ref (ad p1 0)]) (rest := []) hx hb hml hown hw hK hN hA hl.1 hP hD hS k_387 k_388 k_389 k_77 k_390 (met_X4_copyFrom l D cy _ ad en x ((((x 12) 1) 1).toNatClampNeg + 4) hr9 (x ((((x 12) 1) 1).toNatClampNeg + 4)) p1 hp1 (by omega) (x p1) rfl o11 hc12) (fun _ _ _ => trivial) Xok_T (gX (x := (va_up x ((((x 12) 1) 1).toNatClampNeg + 4) (x ((((x 12) 1) 1).toNatClampNeg + 4)))) (k := ((((x 12) 1) 1).toNatClampNeg + 4)) (r := 0) (f := ((x ((((x 12) 1) 1).toNatClampNeg + 4)) 0)) hr9 (by decide) ((congrFun (va_up_self _ _ _) _).trans rfl)) rfl ⟨rfl, rfl⟩ (n := 1) (by decide +kernel) rfl ⟨Nat.le_of_ble_eq_true rfl, Nat.le_of_ble_eq_true rfl⟩ ⟨Nat.le_of_ble_eq_true rfl, Nat.le_of_ble_eq_true rfl⟩ (Nat.le_of_ble_eq_true rfl) rfl dX2_push_25 (fun H locs hP hD hS => ?_)
    refine lv_aload_n hx hb dX2_push_28 rfl (lv_at hl 0 rfl) ?_
    refine lv_aload_n hx hb dX2_push_29 rfl (lv_at hl 0 rfl) ?_
    refine get' (ci := 5) (fs := [.ref (ad 12 2), .int (((x 12) 1) 1), .int (((x 12) 1) 2)]) (v := .int (((x 12) 1) 1)) hx hb hw inWX2 hown hK hP (gY (x := (va_up x ((((x 12) 1) 1).toNatClampNeg + 4) o11)) (r := 1) (f := ((x 12) 1)) (by decide) ((congrFun ((va_up_ne _ _ (by omega)).trans rfl) _).trans rfl)) rfl 1 (by decide) k_234 rfl rfl dX2_push_30 ?_
    refine lv_iconst (v := 1) hx hb dX2_push_33 (by decide) ?_
    refine lv_iadd hx hb dX2_push_34 ?_
    refine lv_bipush (v := 8) hx hb dX2_push_35 (by decide) ?_
    obtain ⟨r13, hc15, hF⟩ := bind_some hF
    try dsimp only at hF
    refine cS_i (As := [.int ((((x 12) 1) 1) + 1), .int 8]) (rest := [.ref (ad 12 1)]) hx hb hml hown hw hK hN hA hl.1 hP hD hS k_409 k_410 k_91 k_411 (met_J9_floorMod_7cf53 l D cy _ (cW cy ad en (va_up x ((((x 12) 1) 1).toNatClampNeg + 4) o11)) ((((x 12) 1) 1) + 1) 8 r13 hc15) (fun _ _ _ => trivial) Xok_T ⟨rfl, rfl⟩ (n := 2) (by decide +kernel) rfl ⟨Nat.le_of_ble_eq_true rfl, Nat.le_of_ble_eq_true rfl⟩ ⟨Nat.le_of_ble_eq_true rfl, Nat.le_of_ble_eq_true rfl⟩ (Nat.le_of_ble_eq_true rfl) rfl dX2_push_37 (fun H locs hP hD hS => ?_)
    refine put' (ci := 5) (fs := [.ref (ad 12 2), .int (((x 12) 1) 1), .int (((x 12) 1) 2)]) (v := .int r13) (ty := .int) (ws' := (cW cy ad en (va_up (va_up x ((((x 12) 1) 1).toNatClampNeg + 4) o11) 12 (va_up (x 12) 1 (upd ((x 12) 1) 1 r13))))) hx hb hw inWX2 tyX2 tyX2_ok nmX2 hown hK hP hD hS (gY (x := (va_up x ((((x 12) 1) 1).toNatClampNeg + 4) o11)) (r := 1) (f := ((x 12) 1)) (by decide) ((congrFun ((va_up_ne _ _ (by omega)).trans rfl) _).trans rfl)) rfl 1 (by decide) k_234 rfl rfl (by decide +kernel) rfl rfl (Nat.le_of_ble_eq_true rfl) dX2_push_40 ((sY (x := (va_up x ((((x 12) 1) 1).toNatClampNeg + 4) o11)) (r := 1) (g := (upd ((x 12) 1) 1 r13)) (by decide)).trans (congrArg (fun z => cW cy ad en (va_up (va_up x ((((x 12) 1) 1).toNatClampNeg + 4) o11) 12 (va_up z 1 (upd ((x 12) 1) 1 r13)))) ((va_up_ne _ _ (by omega)).trans rfl))) (fun H locs hP hD hS => ?_)
    refine lv_aload_n hx hb dX2_push_43 rfl (lv_at hl 0 rfl) ?_
    refine lv_aload_n hx hb dX2_push_44 rfl (lv_at hl 0 rfl) ?_
    refine get' (ci := 5) (fs := [.ref (ad 12 2), .int ((upd ((x 12) 1) 1 r13) 1), .int ((upd ((x 12) 1) 1 r13) 2)]) (v := .int (((x 12) 1) 2)) hx hb hw inWX2 hown hK hP (gY (x := (va_up (va_up x ((((x 12) 1) 1).toNatClampNeg + 4) o11) 12 (va_up (x 12) 1 (upd ((x 12) 1) 1 r13)))) (r := 1) (f := (upd ((x 12) 1) 1 r13)) (by decide) ((congrFun (va_up_self _ _ _) _).trans (va_up_self _ _ _))) rfl 2 (by decide) k_235 rfl rfl dX2_push_45 ?_
    refine lv_iconst (v := 1) hx hb dX2_push_48 (by decide) ?_
    refine lv_iadd hx hb dX2_push_49 ?_
    refine lv_bipush (v := 8) hx hb dX2_push_50 (by decide) ?_
    refine va_mmin hx hb (hml.trans hl.1.symm) hown (hw _ k_412) (hw _ k_399) (hw _ k_91) (hw _ k_400) (Nat.le_of_ble_eq_true rfl) (Nat.le_of_ble_eq_true rfl) (Nat.zero_le _) (Nat.zero_le _) dX2_push_52 ?_
    refine put' (ci := 5) (fs := [.ref (ad 12 2), .int ((upd ((x 12) 1) 1 r13) 1), .int ((upd ((x 12) 1) 1 r13) 2)]) (v := .int (if 8 < ((((x 12) 1) 2) + 1) then 8 else ((((x 12) 1) 2) + 1))) (ty := .int) (ws' := (cW cy ad en (va_up (va_up x ((((x 12) 1) 1).toNatClampNeg + 4) o11) 12 (va_up (x 12) 1 (upd (upd ((x 12) 1) 1 r13) 2 (if 8 < ((((x 12) 1) 2) + 1) then 8 else ((((x 12) 1) 2) + 1))))))) hx hb hw inWX2 tyX2 tyX2_ok nmX2 hown hK hP hD hS (gY (x := (va_up (va_up x ((((x 12) 1) 1).toNatClampNeg + 4) o11) 12 (va_up (x 12) 1 (upd ((x 12) 1) 1 r13)))) (r := 1) (f := (upd ((x 12) 1) 1 r13)) (by decide) ((congrFun (va_up_self _ _ _) _).trans (va_up_self _ _ _))) rfl 2 (by decide) k_235 rfl rfl (by decide +kernel) rfl rfl (Nat.le_of_ble_eq_true rfl) dX2_push_55 ((sT (x := (va_up x ((((x 12) 1) 1).toNatClampNeg + 4) o11)) (r := 1) (o := (va_up (x 12) 1 (upd ((x 12) 1) 1 r13))) (g := (upd (upd ((x 12) 1) 1 r13) 2 (if 8 < ((((x 12) 1) 2) + 1) then 8 else ((((x 12) 1) 2) + 1)))) (by decide)).trans (congrArg (fun z => cW cy ad en (va_up (va_up x ((((x 12) 1) 1).toNatClampNeg + 4) o11) 12 z)) (up_up _ _ _ _))) (fun H locs hP hD hS => ?_)
    cases hF
    exact hret _ _ _ _ _ hP hD hS rfl dX2_push_58
def D_X2_popInto (x : Mem) (p1 : Nat) : Option ((Mem)) := (D_J9_floorMod_7cf53 ((((x 12) 1) 1) - 1) 8).bind (fun r1 => if (D_X9_isWithin r1 8) = 0 then (some (va_up x 12 (va_up (x 12) 1 (upd (upd ((x 12) 1) 1 r1) 2 ((((x 12) 1) 2) - 1))))) else (if inb r1 8 then ((D_X4_copyFrom (x p1) (x (r1.toNatClampNeg + 4))).bind (fun o11 => some (va_up (va_up x 12 (va_up (x 12) 1 (upd (upd ((x 12) 1) 1 r1) 2 ((((x 12) 1) 2) - 1)))) p1 o11))) else none))
abbrev rm_X2_popInto : Room := { frames := 4, cells := 0, slots := 0, locals := 124 }
set_option maxHeartbeats 4000000 in
set_option maxRecDepth 100000 in
theorem met_X2_popInto (l : Launch) (D : va_G) (cy : Nat → ClassId) (sz : Nat) (ad : Nat → Nat → Nat) (en g : Nat → Nat) (x : Mem) (p1 : Nat) (hp1 : p1 < 12) (gp1 : p1 < 4)  (t' : Mem) (hF : D_X2_popInto x p1 = some t') : MV l yX2_popInto cX2_popInto 2 rm_X2_popInto D cy (cW cy ad en x) sz (fun _ => True) [.ref (ad 12 1), .ref (ad p1 0)] (cW cy ad en t') := by
  refine MV.of (by decide +kernel) (Nat.le_of_ble_eq_true rfl) ?_
  intro p e s m args below meth c A ls Q hAt _ hP hD hA hS hl hret
  obtain ⟨hx, hb, hr, hml, hown, hw, hlk, hK, hN⟩ := hAt
  have hown : s.vm.findClass "CloudDeeds$History" = some m.cls := hown
  have hl : lv_has ls 2 [(0, .ref (ad 12 1)), (1, .ref (ad p1 0))] := hl
  refine lv_aload_n hx hb dX2_popInto_0 rfl (lv_at hl 0 rfl) ?_
  refine lv_aload_n hx hb dX2_popInto_1 rfl (lv_at hl 0 rfl) ?_
  refine get' (ci := 5) (fs := [.ref (ad 12 2), .int (((x 12) 1) 1), .int (((x 12) 1) 2)]) (v := .int (((x 12) 1) 1)) hx hb hw inWX2 hown hK hP (gY (x := x) (r := 1) (f := ((x 12) 1)) (by decide) ((congrFun rfl _).trans rfl)) rfl 1 (by decide) k_234 rfl rfl dX2_popInto_2 ?_
  refine lv_iconst (v := 1) hx hb dX2_popInto_5 (by decide) ?_
  refine lv_isub hx hb dX2_popInto_6 ?_
  refine lv_bipush (v := 8) hx hb dX2_popInto_7 (by decide) ?_
  obtain ⟨r1, hc3, hF⟩ := bind_some hF
  try dsimp only at hF
  refine cS_i (As := [.int ((((x 12) 1) 1) - 1), .int 8]) (rest := [.ref (ad 12 1)]) hx hb hml hown hw hK hN hA hl.1 hP hD hS k_409 k_410 k_91 k_411 (met_J9_floorMod_7cf53 l D cy _ (cW cy ad en x) ((((x 12) 1) 1) - 1) 8 r1 hc3) (fun _ _ _ => trivial) Xok_T ⟨rfl, rfl⟩ (n := 2) (by decide +kernel) rfl ⟨Nat.le_of_ble_eq_true rfl, Nat.le_of_ble_eq_true rfl⟩ ⟨Nat.le_of_ble_eq_true rfl, Nat.le_of_ble_eq_true rfl⟩ (Nat.le_of_ble_eq_true rfl) rfl dX2_popInto_9 (fun H locs hP hD hS => ?_)
  refine put' (ci := 5) (fs := [.ref (ad 12 2), .int (((x 12) 1) 1), .int (((x 12) 1) 2)]) (v := .int r1) (ty := .int) (ws' := (cW cy ad en (va_up x 12 (va_up (x 12) 1 (upd ((x 12) 1) 1 r1))))) hx hb hw inWX2 tyX2 tyX2_ok nmX2 hown hK hP hD hS (gY (x := x) (r := 1) (f := ((x 12) 1)) (by decide) ((congrFun rfl _).trans rfl)) rfl 1 (by decide) k_234 rfl rfl (by decide +kernel) rfl rfl (Nat.le_of_ble_eq_true rfl) dX2_popInto_12 ((sY (x := x) (r := 1) (g := (upd ((x 12) 1) 1 r1)) (by decide)).trans (congrArg (fun z => cW cy ad en (va_up x 12 (va_up z 1 (upd ((x 12) 1) 1 r1)))) rfl)) (fun H locs hP hD hS => ?_)
  refine lv_aload_n hx hb dX2_popInto_15 rfl (lv_at hl 0 rfl) ?_
  refine lv_dup hx hb dX2_popInto_16 rfl ?_
  refine get' (ci := 5) (fs := [.ref (ad 12 2), .int ((upd ((x 12) 1) 1 r1) 1), .int ((upd ((x 12) 1) 1 r1) 2)]) (v := .int (((x 12) 1) 2)) hx hb hw inWX2 hown hK hP (gY (x := (va_up x 12 (va_up (x 12) 1 (upd ((x 12) 1) 1 r1)))) (r := 1) (f := (upd ((x 12) 1) 1 r1)) (by decide) ((congrFun (va_up_self _ _ _) _).trans (va_up_self _ _ _))) rfl 2 (by decide) k_235 rfl rfl dX2_popInto_17 ?_
  refine lv_iconst (v := 1) hx hb dX2_popInto_20 (by decide) ?_
  refine lv_isub hx hb dX2_popInto_21 ?_
  refine put' (ci := 5) (fs := [.ref (ad 12 2), .int ((upd ((x 12) 1) 1 r1) 1), .int ((upd ((x 12) 1) 1 r1) 2)]) (v := .int ((((x 12) 1) 2) - 1)) (ty := .int) (ws' := (cW cy ad en (va_up x 12 (va_up (x 12) 1 (upd (upd ((x 12) 1) 1 r1) 2 ((((x 12) 1) 2) - 1)))))) hx hb hw inWX2 tyX2 tyX2_ok nmX2 hown hK hP hD hS (gY (x := (va_up x 12 (va_up (x 12) 1 (upd ((x 12) 1) 1 r1)))) (r := 1) (f := (upd ((x 12) 1) 1 r1)) (by decide) ((congrFun (va_up_self _ _ _) _).trans (va_up_self _ _ _))) rfl 2 (by decide) k_235 rfl rfl (by decide +kernel) rfl rfl (Nat.le_of_ble_eq_true rfl) dX2_popInto_22 ((sT (x := x) (r := 1) (o := (va_up (x 12) 1 (upd ((x 12) 1) 1 r1))) (g := (upd (upd ((x 12) 1) 1 r1) 2 ((((x 12) 1) 2) - 1))) (by decide)).trans (congrArg (fun z => cW cy ad en (va_up x 12 z)) (up_up _ _ _ _))) (fun H locs hP hD hS => ?_)
  refine lv_aload_n hx hb dX2_popInto_25 rfl (lv_at hl 0 rfl) ?_
  refine get' (ci := 5) (fs := [.ref (ad 12 2), .int ((upd (upd ((x 12) 1) 1 r1) 2 ((((x 12) 1) 2) - 1)) 1), .int ((upd (upd ((x 12) 1) 1 r1) 2 ((((x 12) 1) 2) - 1)) 2)]) (v := .int r1) hx hb hw inWX2 hown hK hP (gY (x := (va_up x 12 (va_up (x 12) 1 (upd (upd ((x 12) 1) 1 r1) 2 ((((x 12) 1) 2) - 1))))) (r := 1) (f := (upd (upd ((x 12) 1) 1 r1) 2 ((((x 12) 1) 2) - 1))) (by decide) ((congrFun (va_up_self _ _ _) _).trans (va_up_self _ _ _))) rfl 1 (by decide) k_234 rfl rfl dX2_popInto_26 ?_
  refine lv_aload_n hx hb dX2_popInto_29 rfl (lv_at hl 0 rfl) ?_
  refine get' (ci := 5) (fs := [.ref (ad 12 2), .int ((upd (upd ((x 12) 1) 1 r1) 2 ((((x 12) 1) 2) - 1)) 1), .int ((upd (upd ((x 12) 1) 1 r1) 2 ((((x 12) 1) 2) - 1)) 2)]) (v := .ref (ad 12 2)) hx hb hw inWX2 hown hK hP (gY (x := (va_up x 12 (va_up (x 12) 1 (upd (upd ((x 12) 1) 1 r1) 2 ((((x 12) 1) 2) - 1))))) (r := 1) (f := (upd (upd ((x 12) 1) 1 r1) 2 ((((x 12) 1) 2) - 1))) (by decide) ((congrFun (va_up_self _ _ _) _).trans (va_up_self _ _ _))) rfl 0 (by decide) k_233 rfl rfl dX2_popInto_30 ?_
  refine va_alen (v := 8) hx hb hK hP _ 4 (gY (x := (va_up x 12 (va_up (x 12) 1 (upd (upd ((x 12) 1) 1 r1) 2 ((((x 12) 1) 2) - 1))))) (r := 2) (f := ((x 12) 2)) (by decide) ((congrFun (va_up_self _ _ _) _).trans ((va_up_ne _ _ (by decide)).trans rfl))) rfl (show Int32.ofNat 8 = 8 by decide) dX2_popInto_33 ?_
  refine cSN_i (As := [.int r1, .int 8]) (rest := []) hx hb hml hown hw hK hN hA hl.1 hP hD hS n_384 k_385 k_76 k_386 (met_X9_isWithin l D cy _ (cW cy ad en (va_up x 12 (va_up (x 12) 1 (upd (upd ((x 12) 1) 1 r1) 2 ((((x 12) 1) 2) - 1))))) r1 8 (D_X9_isWithin r1 8) rfl) (fun _ _ _ => trivial) Xok_T ⟨rfl, rfl⟩ (n := 2) (by decide +kernel) rfl ⟨Nat.le_of_ble_eq_true rfl, Nat.le_of_ble_eq_true rfl⟩ ⟨Nat.le_of_ble_eq_true rfl, Nat.le_of_ble_eq_true rfl⟩ (Nat.le_of_ble_eq_true rfl) rfl dX2_popInto_34 (fun H locs hP hD hS => ?_)
  refine lv_if_eq (tgt := 53) hx hb dX2_popInto_37 (by decide) (fun h7 => ?_) (fun h7 => ?_)
  · replace hF := (if_pos h7).symm.trans hF
    cases hF
    exact hret _ _ _ _ _ hP hD hS rfl dX2_popInto_53
  · replace hF := (if_neg h7).symm.trans hF
    refine lv_aload_n hx hb dX2_popInto_40 rfl (lv_at hl 1 rfl) ?_
    refine lv_aload_n hx hb dX2_popInto_41 rfl (lv_at hl 0 rfl) ?_
    refine get' (ci := 5) (fs := [.ref (ad 12 2), .int ((upd (upd ((x 12) 1) 1 r1) 2 ((((x 12) 1) 2) - 1)) 1), .int ((upd (upd ((x 12) 1) 1 r1) 2 ((((x 12) 1) 2) - 1)) 2)]) (v := .ref (ad 12 2)) hx hb hw inWX2 hown hK hP (gY (x := (va_up x 12 (va_up (x 12) 1 (upd (upd ((x 12) 1) 1 r1) 2 ((((x 12) 1) 2) - 1))))) (r := 1) (f := (upd (upd ((x 12) 1) 1 r1) 2 ((((x 12) 1) 2) - 1))) (by decide) ((congrFun (va_up_self _ _ _) _).trans (va_up_self _ _ _))) rfl 0 (by decide) k_233 rfl rfl dX2_popInto_42 ?_
    refine lv_aload_n hx hb dX2_popInto_45 rfl (lv_at hl 0 rfl) ?_
    refine get' (ci := 5) (fs := [.ref (ad 12 2), .int ((upd (upd ((x 12) 1) 1 r1) 2 ((((x 12) 1) 2) - 1)) 1), .int ((upd (upd ((x 12) 1) 1 r1) 2 ((((x 12) 1) 2) - 1)) 2)]) (v := .int r1) hx hb hw inWX2 hown hK hP (gY (x := (va_up x 12 (va_up (x 12) 1 (upd (upd ((x 12) 1) 1 r1) 2 ((((x 12) 1) 2) - 1))))) (r := 1) (f := (upd (upd ((x 12) 1) 1 r1) 2 ((((x 12) 1) 2) - 1))) (by decide) ((congrFun (va_up_self _ _ _) _).trans (va_up_self _ _ _))) rfl 1 (by decide) k_234 rfl rfl dX2_popInto_46 ?_
    obtain ⟨h8, hF⟩ := ite_some hF
    have hr9 : (r1.toNatClampNeg + 4) < 12 := Nat.add_lt_add_right (inb_lt h8) 4
    refine aald' (n := 8) (g := (ad (r1.toNatClampNeg + 4) 0)) hx hb hK hP (gY (x := (va_up x 12 (va_up (x 12) 1 (upd (upd ((x 12) 1) 1 r1) 2 ((((x 12) 1) 2) - 1))))) (r := 2) (f := ((x 12) 2)) (by decide) ((congrFun (va_up_self _ _ _) _).trans ((va_up_ne _ _ (by decide)).trans rfl))) (t0 := 4) rfl (vp_inb h8) rfl dX2_popInto_49 ?_
    have hP := cvP hP ((congrArg (cW cy ad en) (up_self (va_up x 12 (va_up (x 12) 1 (upd (upd ((x 12) 1) 1 r1) 2 ((((x 12) 1) 2) - 1)))) p1)).symm.trans (congrArg (fun z => cW cy ad en (va_up (va_up x 12 (va_up (x 12) 1 (upd (upd ((x 12) 1) 1 r1) 2 ((((x 12) 1) 2) - 1)))) p1 z)) ((va_up_ne _ _ (by omega)).trans rfl)))
    have hD := cvD hD ((congrArg (cW cy ad en) (up_self (va_up x 12 (va_up (x 12) 1 (upd (upd ((x 12) 1) 1 r1) 2 ((((x 12) 1) 2) - 1)))) p1)).symm.trans (congrArg (fun z => cW cy ad en (va_up (va_up x 12 (va_up (x 12) 1 (upd (upd ((x 12) 1) 1 r1) 2 ((((x 12) 1) 2) - 1)))) p1 z)) ((va_up_ne _ _ (by omega)).trans rfl)))
    obtain ⟨o11, hc12, hF⟩ := bind_some hF
    try dsimp only at hF
    refine cV_v (As := [.ref (ad (r1.toNatClampNeg + 4) 0)]) (rest := []) hx hb hml hown hw hK hN hA hl.1 hP hD hS k_387 k_388 k_389 k_77 k_390 (met_X4_copyFrom l D cy _ ad en (va_up x 12 (va_up (x 12) 1 (upd (upd ((x 12) 1) 1 r1) 2 ((((x 12) 1) 2) - 1)))) p1 hp1 (x p1) (r1.toNatClampNeg + 4) hr9 (by omega) (x (r1.toNatClampNeg + 4)) ((va_up_ne _ _ (by omega)).trans rfl) o11 hc12) (fun _ _ _ => trivial) Xok_T (gX (x := (va_up (va_up x 12 (va_up (x 12) 1 (upd (upd ((x 12) 1) 1 r1) 2 ((((x 12) 1) 2) - 1)))) p1 (x p1))) (k := p1) (r := 0) (f := ((x p1) 0)) hp1 (by decide) ((congrFun (va_up_self _ _ _) _).trans rfl)) rfl ⟨rfl, rfl⟩ (n := 1) (by decide +kernel) rfl ⟨Nat.le_of_ble_eq_true rfl, Nat.le_of_ble_eq_true rfl⟩ ⟨Nat.le_of_ble_eq_true rfl, Nat.le_of_ble_eq_true rfl⟩ (Nat.le_of_ble_eq_true rfl) rfl dX2_popInto_50 (fun H locs hP hD hS => ?_)
    cases hF
    exact hret _ _ _ _ _ hP hD hS rfl dX2_popInto_53
def D_X5_carryOutIn (x : Mem) (j : Nat) (p1 : Nat) : Option (Int32 × (Mem)) := if inb (((x 12) (j + 7)) 0) 9 then (if inb 0 3 then (if inb 1 3 then (if inb 2 3 then ((D_X4_carryOut (x p1) (((x 12) (j + 7)) 0).toNatClampNeg (((x 12) (j + 19)) (0 : Int32).toNatClampNeg) (((x 12) (j + 19)) (1 : Int32).toNatClampNeg) (((x 12) (j + 19)) (2 : Int32).toNatClampNeg)).bind (fun (r5, o6) => some (r5, (va_up x p1 o6)))) else none) else none) else none) else none
abbrev rm_X5_carryOutIn : Room := { frames := 5, cells := 0, slots := 0, locals := 114 }
set_option maxHeartbeats 4000000 in
set_option maxRecDepth 100000 in
theorem met_X5_carryOutIn (l : Launch) (D : va_G) (cy : Nat → ClassId) (sz : Nat) (ad : Nat → Nat → Nat) (en g : Nat → Nat) (x : Mem) (j : Nat) (hj : j + 7 < 19) (p1 : Nat) (hp1 : p1 < 12)  (r : Int32) (t' : Mem) (hF : D_X5_carryOutIn x j p1 = some (r, t')) : MIS l yX5_carryOutIn cX5_carryOutIn 2 (some .int) rm_X5_carryOutIn D cy en g (cW cy ad en x) sz [.ref (ad 12 (j + 7)), .ref (ad p1 0)] r (cW cy ad en t') := by
  refine MIS.of (by decide +kernel) (Nat.le_of_ble_eq_true rfl) ?_
  intro p e s m args below meth c A ls Q hAt hST hP hD hA hS hl hret
  obtain ⟨hx, hb, hr, hml, hown, hw, hlk, hK, hN⟩ := hAt
  have hown : s.vm.findClass "CloudDeeds$Order" = some m.cls := hown
  have hl : lv_has ls 2 [(0, .ref (ad 12 (j + 7))), (1, .ref (ad p1 0))] := hl
  refine lv_aload_n hx hb dX5_carryOutIn_0 rfl (lv_at hl 1 rfl) ?_
  refine lv_aload_n hx hb dX5_carryOutIn_1 rfl (lv_at hl 0 rfl) ?_
  obtain ⟨h1, hF⟩ := ite_some hF
  refine get' (ci := 7) (fs := [.ref (en (((x 12) (j + 7)) 0).toNatClampNeg), .ref (ad 12 (j + 19)), .int (((x 12) (j + 7)) 2)]) (v := .ref (en (((x 12) (j + 7)) 0).toNatClampNeg)) hx hb hw inWX5 hown hK hP (gYord (x := x) (j := j) (f := ((x 12) (j + 7))) hj ((congrFun rfl _).trans rfl)) rfl 0 (by decide) k_282 rfl rfl dX5_carryOutIn_2 ?_
  refine lv_aload_n hx hb dX5_carryOutIn_5 rfl (lv_at hl 0 rfl) ?_
  refine get' (ci := 7) (fs := [.ref (en (((x 12) (j + 7)) 0).toNatClampNeg), .ref (ad 12 (j + 19)), .int (((x 12) (j + 7)) 2)]) (v := .ref (ad 12 (j + 19))) hx hb hw inWX5 hown hK hP (gYord (x := x) (j := j) (f := ((x 12) (j + 7))) hj ((congrFun rfl _).trans rfl)) rfl 1 (by decide) k_283 rfl rfl dX5_carryOutIn_6 ?_
  refine lv_iconst (v := 0) hx hb dX5_carryOutIn_9 (by decide) ?_
  obtain ⟨h2, hF⟩ := ite_some hF
  refine va_iald (n := 3) (f := ((x 12) (j + 19))) hx hb hK hP _ 0 (gYnum (x := x) (j := j) (f := ((x 12) (j + 19))) hj ((congrFun rfl _).trans rfl)) rfl (vp_inb h2) dX5_carryOutIn_10 ?_
  refine lv_aload_n hx hb dX5_carryOutIn_11 rfl (lv_at hl 0 rfl) ?_
  refine get' (ci := 7) (fs := [.ref (en (((x 12) (j + 7)) 0).toNatClampNeg), .ref (ad 12 (j + 19)), .int (((x 12) (j + 7)) 2)]) (v := .ref (ad 12 (j + 19))) hx hb hw inWX5 hown hK hP (gYord (x := x) (j := j) (f := ((x 12) (j + 7))) hj ((congrFun rfl _).trans rfl)) rfl 1 (by decide) k_283 rfl rfl dX5_carryOutIn_12 ?_
  refine lv_iconst (v := 1) hx hb dX5_carryOutIn_15 (by decide) ?_
  obtain ⟨h3, hF⟩ := ite_some hF
  refine va_iald (n := 3) (f := ((x 12) (j + 19))) hx hb hK hP _ 0 (gYnum (x := x) (j := j) (f := ((x 12) (j + 19))) hj ((congrFun rfl _).trans rfl)) rfl (vp_inb h3) dX5_carryOutIn_16 ?_
  refine lv_aload_n hx hb dX5_carryOutIn_17 rfl (lv_at hl 0 rfl) ?_
  refine get' (ci := 7) (fs := [.ref (en (((x 12) (j + 7)) 0).toNatClampNeg), .ref (ad 12 (j + 19)), .int (((x 12) (j + 7)) 2)]) (v := .ref (ad 12 (j + 19))) hx hb hw inWX5 hown hK hP (gYord (x := x) (j := j) (f := ((x 12) (j + 7))) hj ((congrFun rfl _).trans rfl)) rfl 1 (by decide) k_283 rfl rfl dX5_carryOutIn_18 ?_
  refine lv_iconst (v := 2) hx hb dX5_carryOutIn_21 (by decide) ?_
  obtain ⟨h4, hF⟩ := ite_some hF
  refine va_iald (n := 3) (f := ((x 12) (j + 19))) hx hb hK hP _ 0 (gYnum (x := x) (j := j) (f := ((x 12) (j + 19))) hj ((congrFun rfl _).trans rfl)) rfl (vp_inb h4) dX5_carryOutIn_22 ?_
  have hP := cvP hP ((congrArg (cW cy ad en) (up_self x p1)).symm.trans (congrArg (fun z => cW cy ad en (va_up x p1 z)) rfl))
  have hD := cvD hD ((congrArg (cW cy ad en) (up_self x p1)).symm.trans (congrArg (fun z => cW cy ad en (va_up x p1 z)) rfl))
  obtain ⟨⟨r5, o6⟩, hc7, hF⟩ := bind_some hF
  try dsimp only at hF
  refine cV_i (As := [.ref (en (((x 12) (j + 7)) 0).toNatClampNeg), .int (((x 12) (j + 19)) (0 : Int32).toNatClampNeg), .int (((x 12) (j + 19)) (1 : Int32).toNatClampNeg), .int (((x 12) (j + 19)) (2 : Int32).toNatClampNeg)]) (rest := []) hx hb hml hown hw hK hN hA hl.1 hP hD hS k_1170 k_538 k_539 k_77 k_540 (met_X4_carryOut l D cy _ ad en g x p1 hp1 (x p1) (((x 12) (j + 7)) 0).toNatClampNeg (inb_lt h1) (((x 12) (j + 19)) (0 : Int32).toNatClampNeg) (((x 12) (j + 19)) (1 : Int32).toNatClampNeg) (((x 12) (j + 19)) (2 : Int32).toNatClampNeg) r5 o6 hc7) (ST_call hST hS (free_all hD hS hA)) Xok_S (gX (x := (va_up x p1 (x p1))) (k := p1) (r := 0) (f := ((x p1) 0)) hp1 (by decide) ((congrFun (va_up_self _ _ _) _).trans rfl)) rfl ⟨rfl, rfl⟩ (n := 4) (by decide +kernel) rfl ⟨Nat.le_of_ble_eq_true rfl, Nat.le_of_ble_eq_true rfl⟩ ⟨Nat.le_of_ble_eq_true rfl, Nat.le_of_ble_eq_true rfl⟩ (Nat.le_of_ble_eq_true rfl) rfl dX5_carryOutIn_23 (fun H locs hP hD hS => ?_)
  cases hF
  exact hret _ _ _ _ _ _ hP hD hS rfl rfl dX5_carryOutIn_26
def D_X8_isFull (x : Mem) : Int32 := if (D_X9_isWithin (((x 12) 4) 1) 60) = 0 then (1) else (0)
abbrev rm_X8_isFull : Room := { frames := 1, cells := 0, slots := 0, locals := 21 }
set_option maxHeartbeats 4000000 in
set_option maxRecDepth 100000 in
theorem met_X8_isFull (l : Launch) (D : va_G) (cy : Nat → ClassId) (sz : Nat) (ad : Nat → Nat → Nat) (en g : Nat → Nat) (x : Mem)  (r : Int32) (hF : D_X8_isFull x = r) : MI l yX8_isFull cX8_isFull 1 (some .boolean) rm_X8_isFull D cy (cW cy ad en x) sz (fun _ => True) [.ref (ad 12 4)] r (cW cy ad en x) := by
  refine MZ.of (by decide +kernel) (Nat.le_of_ble_eq_true rfl) ?_
  intro p e s m args below meth c A ls Q hAt _ hP hD hA hS hl hret
  obtain ⟨hx, hb, hr, hml, hown, hw, hlk, hK, hN⟩ := hAt
  have hown : s.vm.findClass "CloudDeeds$Tape" = some m.cls := hown
  have hl : lv_has ls 1 [(0, .ref (ad 12 4))] := hl
  refine lv_aload_n hx hb dX8_isFull_0 rfl (lv_at hl 0 rfl) ?_
  refine get' (ci := 10) (fs := [.ref (ad 12 5), .int (((x 12) 4) 1), .int (((x 12) 4) 2), .ref (ad 12 6), .int (((x 12) 4) 4)]) (v := .int (((x 12) 4) 1)) hx hb hw inWX8 hown hK hP (gY (x := x) (r := 4) (f := ((x 12) 4)) (by decide) ((congrFun rfl _).trans rfl)) rfl 1 (by decide) k_294 rfl rfl dX8_isFull_1 ?_
  refine lv_aload_n hx hb dX8_isFull_4 rfl (lv_at hl 0 rfl) ?_
  refine get' (ci := 10) (fs := [.ref (ad 12 5), .int (((x 12) 4) 1), .int (((x 12) 4) 2), .ref (ad 12 6), .int (((x 12) 4) 4)]) (v := .ref (ad 12 5)) hx hb hw inWX8 hown hK hP (gY (x := x) (r := 4) (f := ((x 12) 4)) (by decide) ((congrFun rfl _).trans rfl)) rfl 0 (by decide) k_293 rfl rfl dX8_isFull_5 ?_
  refine va_alen (v := 60) hx hb hK hP _ 1 (gY (x := x) (r := 5) (f := ((x 12) 5)) (by decide) ((congrFun rfl _).trans rfl)) rfl (show Int32.ofNat 60 = 60 by decide) dX8_isFull_8 ?_
  refine cSN_i (As := [.int (((x 12) 4) 1), .int 60]) (rest := []) hx hb hml hown hw hK hN hA hl.1 hP hD hS n_1030 k_385 k_76 k_386 (met_X9_isWithin l D cy _ (cW cy ad en x) (((x 12) 4) 1) 60 (D_X9_isWithin (((x 12) 4) 1) 60) rfl) (fun _ _ _ => trivial) Xok_T ⟨rfl, rfl⟩ (n := 2) (by decide +kernel) rfl ⟨Nat.le_of_ble_eq_true rfl, Nat.le_of_ble_eq_true rfl⟩ ⟨Nat.le_of_ble_eq_true rfl, Nat.le_of_ble_eq_true rfl⟩ (Nat.le_of_ble_eq_true rfl) rfl dX8_isFull_9 (fun H locs hP hD hS => ?_)
  refine lv_if_ne (tgt := 19) hx hb dX8_isFull_12 (by decide) (fun h4 => ?_) (fun h4 => ?_)
  · replace hF := (if_neg h4).symm.trans hF
    refine lv_iconst (v := 0) hx hb dX8_isFull_19 (by decide) ?_
    cases hF
    exact hret _ _ _ _ _ _ hP hD hS rfl rfl rfl dX8_isFull_20
  · replace hF := (if_pos h4).symm.trans hF
    refine lv_iconst (v := 1) hx hb dX8_isFull_15 (by decide) ?_
    refine lv_goto (tgt := 20) hx hb dX8_isFull_16 (by decide) ?_
    cases hF
    exact hret _ _ _ _ _ _ hP hD hS rfl rfl rfl dX8_isFull_20
theorem bz_X8_isFull (x : Mem) : (D_X8_isFull x) = 0 ∨ (D_X8_isFull x) = 1 := by
  unfold D_X8_isFull
  repeat' split
  all_goals first | exact Or.inl rfl | exact Or.inr rfl | assumption | exact bz_X9_isWithin ..
def D_X8_append (x : Mem) (p1 : Int32) : Option (Int32 × (Mem)) := if (D_X9_isWithin (((x 12) 4) 1) 60) = 0 then (some ((((x 12) 4) 1), x)) else (if inb (((x 12) 4) 1) 60 then (some (((((x 12) 4) 1) + 1), (va_up x 12 (va_up (va_up (x 12) 5 (upd ((x 12) 5) ((((x 12) 4) 1).toNatClampNeg) (vp_nar .char p1))) 4 (upd ((x 12) 4) 1 ((((x 12) 4) 1) + 1)))))) else none)
abbrev rm_X8_append : Room := { frames := 1, cells := 0, slots := 0, locals := 21 }
set_option maxHeartbeats 4000000 in
set_option maxRecDepth 100000 in
theorem met_X8_append (l : Launch) (D : va_G) (cy : Nat → ClassId) (sz : Nat) (ad : Nat → Nat → Nat) (en g : Nat → Nat) (x : Mem) (p1 : Int32)  (r : Int32) (t' : Mem) (hF : D_X8_append x p1 = some (r, t')) : MI l yX8_append cX8_append 2 (some .int) rm_X8_append D cy (cW cy ad en x) sz (fun _ => True) [.ref (ad 12 4), .int p1] r (cW cy ad en t') := by
  refine MI.of (by decide +kernel) (Nat.le_of_ble_eq_true rfl) ?_
  intro p e s m args below meth c A ls Q hAt _ hP hD hA hS hl hret
  obtain ⟨hx, hb, hr, hml, hown, hw, hlk, hK, hN⟩ := hAt
  have hown : s.vm.findClass "CloudDeeds$Tape" = some m.cls := hown
  have hl : lv_has ls 2 [(0, .ref (ad 12 4)), (1, .int p1)] := hl
  refine lv_aload_n hx hb dX8_append_0 rfl (lv_at hl 0 rfl) ?_
  refine get' (ci := 10) (fs := [.ref (ad 12 5), .int (((x 12) 4) 1), .int (((x 12) 4) 2), .ref (ad 12 6), .int (((x 12) 4) 4)]) (v := .int (((x 12) 4) 1)) hx hb hw inWX8 hown hK hP (gY (x := x) (r := 4) (f := ((x 12) 4)) (by decide) ((congrFun rfl _).trans rfl)) rfl 1 (by decide) k_294 rfl rfl dX8_append_1 ?_
  refine lv_aload_n hx hb dX8_append_4 rfl (lv_at hl 0 rfl) ?_
  refine get' (ci := 10) (fs := [.ref (ad 12 5), .int (((x 12) 4) 1), .int (((x 12) 4) 2), .ref (ad 12 6), .int (((x 12) 4) 4)]) (v := .ref (ad 12 5)) hx hb hw inWX8 hown hK hP (gY (x := x) (r := 4) (f := ((x 12) 4)) (by decide) ((congrFun rfl _).trans rfl)) rfl 0 (by decide) k_293 rfl rfl dX8_append_5 ?_
  refine va_alen (v := 60) hx hb hK hP _ 1 (gY (x := x) (r := 5) (f := ((x 12) 5)) (by decide) ((congrFun rfl _).trans rfl)) rfl (show Int32.ofNat 60 = 60 by decide) dX8_append_8 ?_
  refine cSN_i (As := [.int (((x 12) 4) 1), .int 60]) (rest := []) hx hb hml hown hw hK hN hA hl.1 hP hD hS n_1030 k_385 k_76 k_386 (met_X9_isWithin l D cy _ (cW cy ad en x) (((x 12) 4) 1) 60 (D_X9_isWithin (((x 12) 4) 1) 60) rfl) (fun _ _ _ => trivial) Xok_T ⟨rfl, rfl⟩ (n := 2) (by decide +kernel) rfl ⟨Nat.le_of_ble_eq_true rfl, Nat.le_of_ble_eq_true rfl⟩ ⟨Nat.le_of_ble_eq_true rfl, Nat.le_of_ble_eq_true rfl⟩ (Nat.le_of_ble_eq_true rfl) rfl dX8_append_9 (fun H locs hP hD hS => ?_)
  refine lv_if_eq (tgt := 35) hx hb dX8_append_12 (by decide) (fun h4 => ?_) (fun h4 => ?_)
  · replace hF := (if_pos h4).symm.trans hF
    refine lv_aload_n hx hb dX8_append_35 rfl (lv_at hl 0 rfl) ?_
    refine get' (ci := 10) (fs := [.ref (ad 12 5), .int (((x 12) 4) 1), .int (((x 12) 4) 2), .ref (ad 12 6), .int (((x 12) 4) 4)]) (v := .int (((x 12) 4) 1)) hx hb hw inWX8 hown hK hP (gY (x := x) (r := 4) (f := ((x 12) 4)) (by decide) ((congrFun rfl _).trans rfl)) rfl 1 (by decide) k_294 rfl rfl dX8_append_36 ?_
    cases hF
    exact hret _ _ _ _ _ _ hP hD hS rfl rfl dX8_append_39
  · replace hF := (if_neg h4).symm.trans hF
    refine lv_aload_n hx hb dX8_append_15 rfl (lv_at hl 0 rfl) ?_
    refine get' (ci := 10) (fs := [.ref (ad 12 5), .int (((x 12) 4) 1), .int (((x 12) 4) 2), .ref (ad 12 6), .int (((x 12) 4) 4)]) (v := .ref (ad 12 5)) hx hb hw inWX8 hown hK hP (gY (x := x) (r := 4) (f := ((x 12) 4)) (by decide) ((congrFun rfl _).trans rfl)) rfl 0 (by decide) k_293 rfl rfl dX8_append_16 ?_
    refine lv_aload_n hx hb dX8_append_19 rfl (lv_at hl 0 rfl) ?_
    refine get' (ci := 10) (fs := [.ref (ad 12 5), .int (((x 12) 4) 1), .int (((x 12) 4) 2), .ref (ad 12 6), .int (((x 12) 4) 4)]) (v := .int (((x 12) 4) 1)) hx hb hw inWX8 hown hK hP (gY (x := x) (r := 4) (f := ((x 12) 4)) (by decide) ((congrFun rfl _).trans rfl)) rfl 1 (by decide) k_294 rfl rfl dX8_append_20 ?_
    refine lv_iload_n hx hb dX8_append_23 rfl (lv_at hl 1 rfl) ?_
    obtain ⟨h5, hF⟩ := ite_some hF
    refine cast' (n := 60) (f := ((x 12) 5)) (ws' := (cW cy ad en (va_up x 12 (va_up (x 12) 5 (upd ((x 12) 5) ((((x 12) 4) 1).toNatClampNeg) (vp_nar .char p1)))))) hx hb hK hP hD hS (gY (x := x) (r := 5) (f := ((x 12) 5)) (by decide) ((congrFun rfl _).trans rfl)) (t0 := 1) rfl (vp_inb h5) dX8_append_24 ((sY (x := x) (r := 5) (g := (upd ((x 12) 5) ((((x 12) 4) 1).toNatClampNeg) (vp_nar .char p1))) (by decide)).trans (congrArg (fun z => cW cy ad en (va_up x 12 (va_up z 5 (upd ((x 12) 5) ((((x 12) 4) 1).toNatClampNeg) (vp_nar .char p1))))) rfl)) (fun H locs hP hD hS => ?_)
    refine lv_aload_n hx hb dX8_append_25 rfl (lv_at hl 0 rfl) ?_
    refine lv_dup hx hb dX8_append_26 rfl ?_
    refine get' (ci := 10) (fs := [.ref (ad 12 5), .int (((x 12) 4) 1), .int (((x 12) 4) 2), .ref (ad 12 6), .int (((x 12) 4) 4)]) (v := .int (((x 12) 4) 1)) hx hb hw inWX8 hown hK hP (gY (x := (va_up x 12 (va_up (x 12) 5 (upd ((x 12) 5) ((((x 12) 4) 1).toNatClampNeg) (vp_nar .char p1))))) (r := 4) (f := ((x 12) 4)) (by decide) ((congrFun (va_up_self _ _ _) _).trans ((va_up_ne _ _ (by decide)).trans rfl))) rfl 1 (by decide) k_294 rfl rfl dX8_append_27 ?_
    refine lv_iconst (v := 1) hx hb dX8_append_30 (by decide) ?_
    refine lv_iadd hx hb dX8_append_31 ?_
    refine put' (ci := 10) (fs := [.ref (ad 12 5), .int (((x 12) 4) 1), .int (((x 12) 4) 2), .ref (ad 12 6), .int (((x 12) 4) 4)]) (v := .int ((((x 12) 4) 1) + 1)) (ty := .int) (ws' := (cW cy ad en (va_up x 12 (va_up (va_up (x 12) 5 (upd ((x 12) 5) ((((x 12) 4) 1).toNatClampNeg) (vp_nar .char p1))) 4 (upd ((x 12) 4) 1 ((((x 12) 4) 1) + 1)))))) hx hb hw inWX8 tyX8 tyX8_ok nmX8 hown hK hP hD hS (gY (x := (va_up x 12 (va_up (x 12) 5 (upd ((x 12) 5) ((((x 12) 4) 1).toNatClampNeg) (vp_nar .char p1))))) (r := 4) (f := ((x 12) 4)) (by decide) ((congrFun (va_up_self _ _ _) _).trans ((va_up_ne _ _ (by decide)).trans rfl))) rfl 1 (by decide) k_294 rfl rfl (by decide +kernel) rfl rfl (Nat.le_of_ble_eq_true rfl) dX8_append_32 (sT (x := x) (r := 4) (o := (va_up (x 12) 5 (upd ((x 12) 5) ((((x 12) 4) 1).toNatClampNeg) (vp_nar .char p1)))) (g := (upd ((x 12) 4) 1 ((((x 12) 4) 1) + 1))) (by decide)) (fun H locs hP hD hS => ?_)
    refine lv_aload_n hx hb dX8_append_35 rfl (lv_at hl 0 rfl) ?_
    refine get' (ci := 10) (fs := [.ref (ad 12 5), .int ((upd ((x 12) 4) 1 ((((x 12) 4) 1) + 1)) 1), .int ((upd ((x 12) 4) 1 ((((x 12) 4) 1) + 1)) 2), .ref (ad 12 6), .int ((upd ((x 12) 4) 1 ((((x 12) 4) 1) + 1)) 4)]) (v := .int ((((x 12) 4) 1) + 1)) hx hb hw inWX8 hown hK hP (gY (x := (va_up x 12 (va_up (va_up (x 12) 5 (upd ((x 12) 5) ((((x 12) 4) 1).toNatClampNeg) (vp_nar .char p1))) 4 (upd ((x 12) 4) 1 ((((x 12) 4) 1) + 1))))) (r := 4) (f := (upd ((x 12) 4) 1 ((((x 12) 4) 1) + 1))) (by decide) ((congrFun (va_up_self _ _ _) _).trans (va_up_self _ _ _))) rfl 1 (by decide) k_294 rfl rfl dX8_append_36 ?_
    cases hF
    exact hret _ _ _ _ _ _ hP hD hS rfl rfl dX8_append_39
def D_X8_empty (x : Mem) : (Mem) := (va_up x 12 (va_up (x 12) 4 (upd ((x 12) 4) 1 0)))
abbrev rm_X8_empty : Room := { frames := 0, cells := 0, slots := 0, locals := 0 }
set_option maxHeartbeats 4000000 in
set_option maxRecDepth 100000 in
theorem met_X8_empty (l : Launch) (D : va_G) (cy : Nat → ClassId) (sz : Nat) (ad : Nat → Nat → Nat) (en g : Nat → Nat) (x : Mem)  (t' : Mem) (hF : D_X8_empty x = t') : MV l yX8_empty cX8_empty 1 rm_X8_empty D cy (cW cy ad en x) sz (fun _ => True) [.ref (ad 12 4)] (cW cy ad en t') := by
  refine MV.of (by decide +kernel) (Nat.le_of_ble_eq_true rfl) ?_
  intro p e s m args below meth c A ls Q hAt _ hP hD hA hS hl hret
  obtain ⟨hx, hb, hr, hml, hown, hw, hlk, hK, hN⟩ := hAt
  have hown : s.vm.findClass "CloudDeeds$Tape" = some m.cls := hown
  have hl : lv_has ls 1 [(0, .ref (ad 12 4))] := hl
  refine lv_aload_n hx hb dX8_empty_0 rfl (lv_at hl 0 rfl) ?_
  refine lv_iconst (v := 0) hx hb dX8_empty_1 (by decide) ?_
  refine put' (ci := 10) (fs := [.ref (ad 12 5), .int (((x 12) 4) 1), .int (((x 12) 4) 2), .ref (ad 12 6), .int (((x 12) 4) 4)]) (v := .int 0) (ty := .int) (ws' := (cW cy ad en (va_up x 12 (va_up (x 12) 4 (upd ((x 12) 4) 1 0))))) hx hb hw inWX8 tyX8 tyX8_ok nmX8 hown hK hP hD hS (gY (x := x) (r := 4) (f := ((x 12) 4)) (by decide) ((congrFun rfl _).trans rfl)) rfl 1 (by decide) k_294 rfl rfl (by decide +kernel) rfl rfl (Nat.le_of_ble_eq_true rfl) dX8_empty_2 ((sY (x := x) (r := 4) (g := (upd ((x 12) 4) 1 0)) (by decide)).trans (congrArg (fun z => cW cy ad en (va_up x 12 (va_up z 4 (upd ((x 12) 4) 1 0)))) rfl)) (fun H locs hP hD hS => ?_)
  cases hF
  exact hret _ _ _ _ _ hP hD hS rfl dX8_empty_5
def D_X8_nextSign (x : Mem) : Option (Int32) := if (((x 12) 4) 2) < 0 then (some (-1)) else (if (((x 12) 4) 1) ≤ (((x 12) 4) 2) then (some (-1)) else (if 60 ≤ (((x 12) 4) 2) then (some (-1)) else (if inb (((x 12) 4) 2) 60 then (some (((x 12) 5) (((x 12) 4) 2).toNatClampNeg)) else none)))
abbrev rm_X8_nextSign : Room := { frames := 0, cells := 0, slots := 0, locals := 0 }
set_option maxHeartbeats 4000000 in
set_option maxRecDepth 100000 in
theorem met_X8_nextSign (l : Launch) (D : va_G) (cy : Nat → ClassId) (sz : Nat) (ad : Nat → Nat → Nat) (en g : Nat → Nat) (x : Mem)  (r : Int32) (hF : D_X8_nextSign x = some r) : MI l yX8_nextSign cX8_nextSign 1 (some .int) rm_X8_nextSign D cy (cW cy ad en x) sz (fun _ => True) [.ref (ad 12 4)] r (cW cy ad en x) := by
  refine MI.of (by decide +kernel) (Nat.le_of_ble_eq_true rfl) ?_
  intro p e s m args below meth c A ls Q hAt _ hP hD hA hS hl hret
  obtain ⟨hx, hb, hr, hml, hown, hw, hlk, hK, hN⟩ := hAt
  have hown : s.vm.findClass "CloudDeeds$Tape" = some m.cls := hown
  have hl : lv_has ls 1 [(0, .ref (ad 12 4))] := hl
  refine lv_aload_n hx hb dX8_nextSign_0 rfl (lv_at hl 0 rfl) ?_
  refine get' (ci := 10) (fs := [.ref (ad 12 5), .int (((x 12) 4) 1), .int (((x 12) 4) 2), .ref (ad 12 6), .int (((x 12) 4) 4)]) (v := .int (((x 12) 4) 2)) hx hb hw inWX8 hown hK hP (gY (x := x) (r := 4) (f := ((x 12) 4)) (by decide) ((congrFun rfl _).trans rfl)) rfl 2 (by decide) k_296 rfl rfl dX8_nextSign_1 ?_
  refine lv_if_lt (tgt := 42) hx hb dX8_nextSign_4 (by decide) (fun h1 => ?_) (fun h1 => ?_)
  · replace hF := (if_pos h1).symm.trans hF
    refine lv_iconst (v := (-1)) hx hb dX8_nextSign_42 (by decide) ?_
    cases hF
    exact hret _ _ _ _ _ _ hP hD hS rfl rfl dX8_nextSign_43
  · replace hF := (if_neg h1).symm.trans hF
    refine lv_aload_n hx hb dX8_nextSign_7 rfl (lv_at hl 0 rfl) ?_
    refine get' (ci := 10) (fs := [.ref (ad 12 5), .int (((x 12) 4) 1), .int (((x 12) 4) 2), .ref (ad 12 6), .int (((x 12) 4) 4)]) (v := .int (((x 12) 4) 2)) hx hb hw inWX8 hown hK hP (gY (x := x) (r := 4) (f := ((x 12) 4)) (by decide) ((congrFun rfl _).trans rfl)) rfl 2 (by decide) k_296 rfl rfl dX8_nextSign_8 ?_
    refine lv_aload_n hx hb dX8_nextSign_11 rfl (lv_at hl 0 rfl) ?_
    refine get' (ci := 10) (fs := [.ref (ad 12 5), .int (((x 12) 4) 1), .int (((x 12) 4) 2), .ref (ad 12 6), .int (((x 12) 4) 4)]) (v := .int (((x 12) 4) 1)) hx hb hw inWX8 hown hK hP (gY (x := x) (r := 4) (f := ((x 12) 4)) (by decide) ((congrFun rfl _).trans rfl)) rfl 1 (by decide) k_294 rfl rfl dX8_nextSign_12 ?_
    refine lv_icmp_ge (tgt := 42) hx hb dX8_nextSign_15 (by decide) (fun h2 => ?_) (fun h2 => ?_)
    · replace hF := (if_pos h2).symm.trans hF
      refine lv_iconst (v := (-1)) hx hb dX8_nextSign_42 (by decide) ?_
      cases hF
      exact hret _ _ _ _ _ _ hP hD hS rfl rfl dX8_nextSign_43
    · replace hF := (if_neg h2).symm.trans hF
      refine lv_aload_n hx hb dX8_nextSign_18 rfl (lv_at hl 0 rfl) ?_
      refine get' (ci := 10) (fs := [.ref (ad 12 5), .int (((x 12) 4) 1), .int (((x 12) 4) 2), .ref (ad 12 6), .int (((x 12) 4) 4)]) (v := .int (((x 12) 4) 2)) hx hb hw inWX8 hown hK hP (gY (x := x) (r := 4) (f := ((x 12) 4)) (by decide) ((congrFun rfl _).trans rfl)) rfl 2 (by decide) k_296 rfl rfl dX8_nextSign_19 ?_
      refine lv_aload_n hx hb dX8_nextSign_22 rfl (lv_at hl 0 rfl) ?_
      refine get' (ci := 10) (fs := [.ref (ad 12 5), .int (((x 12) 4) 1), .int (((x 12) 4) 2), .ref (ad 12 6), .int (((x 12) 4) 4)]) (v := .ref (ad 12 5)) hx hb hw inWX8 hown hK hP (gY (x := x) (r := 4) (f := ((x 12) 4)) (by decide) ((congrFun rfl _).trans rfl)) rfl 0 (by decide) k_293 rfl rfl dX8_nextSign_23 ?_
      refine va_alen (v := 60) hx hb hK hP _ 1 (gY (x := x) (r := 5) (f := ((x 12) 5)) (by decide) ((congrFun rfl _).trans rfl)) rfl (show Int32.ofNat 60 = 60 by decide) dX8_nextSign_26 ?_
      refine lv_icmp_ge (tgt := 42) hx hb dX8_nextSign_27 (by decide) (fun h3 => ?_) (fun h3 => ?_)
      · replace hF := (if_pos h3).symm.trans hF
        refine lv_iconst (v := (-1)) hx hb dX8_nextSign_42 (by decide) ?_
        cases hF
        exact hret _ _ _ _ _ _ hP hD hS rfl rfl dX8_nextSign_43
      · replace hF := (if_neg h3).symm.trans hF
        refine lv_aload_n hx hb dX8_nextSign_30 rfl (lv_at hl 0 rfl) ?_
        refine get' (ci := 10) (fs := [.ref (ad 12 5), .int (((x 12) 4) 1), .int (((x 12) 4) 2), .ref (ad 12 6), .int (((x 12) 4) 4)]) (v := .ref (ad 12 5)) hx hb hw inWX8 hown hK hP (gY (x := x) (r := 4) (f := ((x 12) 4)) (by decide) ((congrFun rfl _).trans rfl)) rfl 0 (by decide) k_293 rfl rfl dX8_nextSign_31 ?_
        refine lv_aload_n hx hb dX8_nextSign_34 rfl (lv_at hl 0 rfl) ?_
        refine get' (ci := 10) (fs := [.ref (ad 12 5), .int (((x 12) 4) 1), .int (((x 12) 4) 2), .ref (ad 12 6), .int (((x 12) 4) 4)]) (v := .int (((x 12) 4) 2)) hx hb hw inWX8 hown hK hP (gY (x := x) (r := 4) (f := ((x 12) 4)) (by decide) ((congrFun rfl _).trans rfl)) rfl 2 (by decide) k_296 rfl rfl dX8_nextSign_35 ?_
        obtain ⟨h4, hF⟩ := ite_some hF
        refine va_cald (n := 60) (f := ((x 12) 5)) hx hb hK hP _ 1 (gY (x := x) (r := 5) (f := ((x 12) 5)) (by decide) ((congrFun rfl _).trans rfl)) rfl (vp_inb h4) dX8_nextSign_38 ?_
        refine lv_goto (tgt := 43) hx hb dX8_nextSign_39 (by decide) ?_
        cases hF
        exact hret _ _ _ _ _ _ hP hD hS rfl rfl dX8_nextSign_43
def D_X9_dawn (x : Mem) : Option (Int32 × (Mem)) := (D_X2_push x 0).bind (fun o2 => (D_X4_letDawn (o2 0)).bind (fun (r4, o5) => some (r4, (va_up o2 0 o5))))
abbrev rm_X9_dawn : Room := { frames := 5, cells := 0, slots := 0, locals := 145 }
set_option maxHeartbeats 4000000 in
set_option maxRecDepth 100000 in
theorem met_X9_dawn (l : Launch) (D : va_G) (cy : Nat → ClassId) (sz : Nat) (ad : Nat → Nat → Nat) (en g : Nat → Nat) (x : Mem)  (r : Int32) (t' : Mem) (hF : D_X9_dawn x = some (r, t')) : MI l yX9_dawn cX9_dawn 1 (some .int) rm_X9_dawn D cy (cW cy ad en x) sz (fun _ => True) [.ref (ad 12 0)] r (cW cy ad en t') := by
  refine MI.of (by decide +kernel) (Nat.le_of_ble_eq_true rfl) ?_
  intro p e s m args below meth c A ls Q hAt _ hP hD hA hS hl hret
  obtain ⟨hx, hb, hr, hml, hown, hw, hlk, hK, hN⟩ := hAt
  have hown : s.vm.findClass "CloudDeeds" = some m.cls := hown
  have hl : lv_has ls 1 [(0, .ref (ad 12 0))] := hl
  refine lv_aload_n hx hb dX9_dawn_0 rfl (lv_at hl 0 rfl) ?_
  refine get' (ci := 11) (fs := [.ref (ad 0 0), .ref (ad 1 0), .ref (ad 2 0), .ref (ad 3 0), .int (((x 12) 0) 4), .ref (ad 12 1), .ref (ad 12 3), .ref (ad 12 4), .int (((x 12) 0) 8), .ref (ad 12 31)]) (v := .ref (ad 12 1)) hx hb hw inWX9 hown hK hP (gY (x := x) (r := 0) (f := ((x 12) 0)) (by decide) ((congrFun rfl _).trans rfl)) rfl 5 (by decide) k_350 rfl rfl dX9_dawn_1 ?_
  refine lv_aload_n hx hb dX9_dawn_4 rfl (lv_at hl 0 rfl) ?_
  refine get' (ci := 11) (fs := [.ref (ad 0 0), .ref (ad 1 0), .ref (ad 2 0), .ref (ad 3 0), .int (((x 12) 0) 4), .ref (ad 12 1), .ref (ad 12 3), .ref (ad 12 4), .int (((x 12) 0) 8), .ref (ad 12 31)]) (v := .ref (ad 0 0)) hx hb hw inWX9 hown hK hP (gY (x := x) (r := 0) (f := ((x 12) 0)) (by decide) ((congrFun rfl _).trans rfl)) rfl 0 (by decide) k_345 rfl rfl dX9_dawn_5 ?_
  obtain ⟨o2, hc3, hF⟩ := bind_some hF
  try dsimp only at hF
  refine cV_v (As := [.ref (ad 0 0)]) (rest := []) hx hb hml hown hw hK hN hA hl.1 hP hD hS k_380 k_381 k_382 k_80 k_383 (met_X2_push l D cy _ ad en g x 0 (by decide) (by decide) o2 hc3) (fun _ _ _ => trivial) Xok_T (gY (x := x) (r := 1) (f := ((x 12) 1)) (by decide) ((congrFun rfl _).trans rfl)) rfl ⟨rfl, rfl⟩ (n := 1) (by decide +kernel) rfl ⟨Nat.le_of_ble_eq_true rfl, Nat.le_of_ble_eq_true rfl⟩ ⟨Nat.le_of_ble_eq_true rfl, Nat.le_of_ble_eq_true rfl⟩ (Nat.le_of_ble_eq_true rfl) rfl dX9_dawn_8 (fun H locs hP hD hS => ?_)
  refine lv_aload_n hx hb dX9_dawn_11 rfl (lv_at hl 0 rfl) ?_
  refine get' (ci := 11) (fs := [.ref (ad 0 0), .ref (ad 1 0), .ref (ad 2 0), .ref (ad 3 0), .int (((o2 12) 0) 4), .ref (ad 12 1), .ref (ad 12 3), .ref (ad 12 4), .int (((o2 12) 0) 8), .ref (ad 12 31)]) (v := .ref (ad 0 0)) hx hb hw inWX9 hown hK hP (gY (x := o2) (r := 0) (f := ((o2 12) 0)) (by decide) ((congrFun rfl _).trans rfl)) rfl 0 (by decide) k_345 rfl rfl dX9_dawn_12 ?_
  have hP := cvP hP ((congrArg (cW cy ad en) (up_self o2 0)).symm.trans (congrArg (fun z => cW cy ad en (va_up o2 0 z)) rfl))
  have hD := cvD hD ((congrArg (cW cy ad en) (up_self o2 0)).symm.trans (congrArg (fun z => cW cy ad en (va_up o2 0 z)) rfl))
  obtain ⟨⟨r4, o5⟩, hc6, hF⟩ := bind_some hF
  try dsimp only at hF
  refine cV_i (As := []) (rest := []) hx hb hml hown hw hK hN hA hl.1 hP hD hS k_413 k_414 k_415 k_77 k_416 (met_X4_letDawn l D cy _ ad en o2 0 (by decide) (o2 0) r4 o5 hc6) (fun _ _ _ => trivial) Xok_T (gX (x := (va_up o2 0 (o2 0))) (k := 0) (r := 0) (f := ((o2 0) 0)) (by decide) (by decide) ((congrFun (va_up_self _ _ _) _).trans rfl)) rfl ⟨rfl, rfl⟩ (n := 0) (by decide +kernel) rfl ⟨Nat.le_of_ble_eq_true rfl, Nat.le_of_ble_eq_true rfl⟩ ⟨Nat.le_of_ble_eq_true rfl, Nat.le_of_ble_eq_true rfl⟩ (Nat.le_of_ble_eq_true rfl) rfl dX9_dawn_15 (fun H locs hP hD hS => ?_)
  cases hF
  exact hret _ _ _ _ _ _ hP hD hS rfl rfl dX9_dawn_18
def D_X9_would (x : Mem) (p1 : Int32) (p2 : Int32) : Option (Int32 × Int32 × (Mem)) := if (D_X9_demandOwner p1) = 0 then (if p2 < (-3) then (some (2, 0, x)) else (if p2 ≤ 3 then ((D_X9_cloudsImagined x p1 p2).bind (fun (r9, o10) => some (0, r9, o10))) else (some (2, 0, x)))) else (some (1, 0, x))
abbrev rm_X9_would : Room := { frames := 7, cells := 2, slots := 12, locals := 146 }
def exn_X9_would : Int32 → String := fun c => if c = 1 then "java/lang/IndexOutOfBoundsException" else "java/lang/IllegalArgumentException"
set_option maxHeartbeats 4000000 in
set_option maxRecDepth 100000 in
theorem met_X9_would (l : Launch) (hst0 : l.stackTraces = false) (D : va_G) (cy : Nat → ClassId) (sz : Nat) (ad : Nat → Nat → Nat) (en g : Nat → Nat) (x : Mem) (p1 : Int32) (p2 : Int32)  (code : Int32) (r : Int32) (t' : Mem) (hF : D_X9_would x p1 p2 = some (code, r, t')) : MT l yX9_would cX9_would 3 (some .int) rm_X9_would D cy en g (cW cy ad en x) sz [.ref (ad 12 0), .int p1, .int p2] exn_X9_would code r (cW cy ad en t') := by
  refine MT.of (by decide +kernel) (Nat.le_of_ble_eq_true rfl) ?_
  intro p e s m args below meth c A ls Q hAt htb hST hP hD hA hS hl hQ
  obtain ⟨hx, hb, hr, hml, hown, hw, hlk, hK, hN⟩ := hAt
  have hown : s.vm.findClass "CloudDeeds" = some m.cls := hown
  have hl : lv_has ls 3 [(0, .ref (ad 12 0)), (1, .int p1), (2, .int p2)] := hl
  refine lv_iload_n hx hb dX9_would_0 rfl (lv_at hl 1 rfl) ?_
  refine xS_v (As := [.int p1]) (rest := []) hx hb hml hown hw hK hN hA hl.1 hP hD hS hST k_859 k_860 k_76 k_861 (met_X9_demandOwner l hst0 D cy _ en g (cW cy ad en x) p1 (D_X9_demandOwner p1) rfl) ⟨rfl, rfl⟩ (n := 1) (by decide +kernel) rfl ⟨Nat.le_of_ble_eq_true rfl, Nat.le_of_ble_eq_true rfl⟩ ⟨Nat.le_of_ble_eq_true rfl, Nat.le_of_ble_eq_true rfl⟩ (Nat.le_of_ble_eq_true rfl) rfl dX9_would_1 (fun H locs q9 ce9 hne4 hP hD hS hce hcv hcl => ?_) (fun H locs h05 hP hD hS => ?_)
  · replace hF := (if_neg hne4).symm.trans hF
    cases hF
    rw [hQ]
    exact outx hlk htb hP hD hS hce hcv hcl (by decide) rfl (Nat.le_of_ble_eq_true rfl) (Nat.le_of_ble_eq_true rfl)
  · replace hF := (if_pos h05).symm.trans hF
    refine lv_iload_n hx hb dX9_would_4 rfl (lv_at hl 2 rfl) ?_
    refine lv_bipush (v := (-3)) hx hb dX9_would_5 (by decide) ?_
    refine lv_icmp_lt (tgt := 15) hx hb dX9_would_7 (by decide) (fun h7 => ?_) (fun h7 => ?_)
    · replace hF := (if_pos h7).symm.trans hF
      cases hF
      rw [hQ]
      exact thrS (g := g) (en := en) hx hb hst0 hml hown hw hN hlk htb hST hS hP hD hl.1 (text := "the wind is out of range") 8 rfl (by decide) k_831 k_100 at_119 (by decide) rfl rfl dX9_would_15 dX9_would_18 dX9_would_19 dX9_would_21 dX9_would_24 ⟨Nat.le_of_ble_eq_true rfl, Nat.le_of_ble_eq_true rfl, Nat.le_of_ble_eq_true rfl, Nat.le_of_ble_eq_true rfl⟩ (Nat.le_of_ble_eq_true rfl) ⟨Nat.le_of_ble_eq_true rfl, Nat.le_of_ble_eq_true rfl⟩
    · replace hF := (if_neg h7).symm.trans hF
      refine lv_iload_n hx hb dX9_would_10 rfl (lv_at hl 2 rfl) ?_
      refine lv_iconst (v := 3) hx hb dX9_would_11 (by decide) ?_
      refine lv_icmp_le (tgt := 25) hx hb dX9_would_12 (by decide) (fun h8 => ?_) (fun h8 => ?_)
      · replace hF := (if_pos h8).symm.trans hF
        refine lv_aload_n hx hb dX9_would_25 rfl (lv_at hl 0 rfl) ?_
        refine lv_iload_n hx hb dX9_would_26 rfl (lv_at hl 1 rfl) ?_
        refine lv_iload_n hx hb dX9_would_27 rfl (lv_at hl 2 rfl) ?_
        obtain ⟨⟨r9, o10⟩, hc11, hF⟩ := bind_some hF
        try dsimp only at hF
        refine cV_i (As := [.int p1, .int p2]) (rest := []) hx hb hml hown hw hK hN hA hl.1 hP hD hS k_924 k_926 k_14 k_76 k_927 (met_X9_cloudsImagined l D cy _ ad en g x p1 p2 r9 o10 hc11) (fun _ _ _ => trivial) Xok_T (gY (x := x) (r := 0) (f := ((x 12) 0)) (by decide) ((congrFun rfl _).trans rfl)) rfl ⟨rfl, rfl⟩ (n := 2) (by decide +kernel) rfl ⟨Nat.le_of_ble_eq_true rfl, Nat.le_of_ble_eq_true rfl⟩ ⟨Nat.le_of_ble_eq_true rfl, Nat.le_of_ble_eq_true rfl⟩ (Nat.le_of_ble_eq_true rfl) rfl dX9_would_28 (fun H locs hP hD hS => ?_)
        cases hF
        rw [hQ]
        exact retx_i hx hb hr hlk (Nat.le_of_ble_eq_true rfl) (Nat.le_of_ble_eq_true rfl) hS hP hD rfl rfl rfl dX9_would_31
      · replace hF := (if_neg h8).symm.trans hF
        cases hF
        rw [hQ]
        exact thrS (g := g) (en := en) hx hb hst0 hml hown hw hN hlk htb hST hS hP hD hl.1 (text := "the wind is out of range") 8 rfl (by decide) k_831 k_100 at_119 (by decide) rfl rfl dX9_would_15 dX9_would_18 dX9_would_19 dX9_would_21 dX9_would_24 ⟨Nat.le_of_ble_eq_true rfl, Nat.le_of_ble_eq_true rfl, Nat.le_of_ble_eq_true rfl, Nat.le_of_ble_eq_true rfl⟩ (Nat.le_of_ble_eq_true rfl) ⟨Nat.le_of_ble_eq_true rfl, Nat.le_of_ble_eq_true rfl⟩
def L_X9_bestWind_12 : Nat → (Mem) → (Int32) → (Int32) → (Int32) → (Int32) → (Mem) → Option (Int32 × Int32 × (Mem))
  | 0, _, _, _, _, _, _ => none
  | n12 + 1, x, p1, i4h12, i3h12, i2h12, s12 => if 3 < i4h12 then (some (0, i2h12, s12)) else ((D_X9_cloudsImagined s12 p1 i4h12).bind (fun (r8, o9) => if r8 ≤ i3h12 then (L_X9_bestWind_12 n12 x p1 (i4h12 + 1) i3h12 i2h12 o9) else (L_X9_bestWind_12 n12 x p1 (i4h12 + 1) r8 i4h12 o9)))
def D_X9_bestWind (x : Mem) (p1 : Int32) : Option (Int32 × Int32 × (Mem)) := if (D_X9_demandOwner p1) = 0 then (L_X9_bestWind_12 200 x p1 (-3) (-1) 0 x) else (some (1, 0, x))
abbrev rm_X9_bestWind : Room := { frames := 7, cells := 2, slots := 12, locals := 146 }
def exn_X9_bestWind : Int32 → String := fun _ => "java/lang/IndexOutOfBoundsException"
set_option maxHeartbeats 4000000 in
set_option maxRecDepth 100000 in
theorem met_X9_bestWind (l : Launch) (hst0 : l.stackTraces = false) (D : va_G) (cy : Nat → ClassId) (sz : Nat) (ad : Nat → Nat → Nat) (en g : Nat → Nat) (x : Mem) (p1 : Int32)  (code : Int32) (r : Int32) (t' : Mem) (hF : D_X9_bestWind x p1 = some (code, r, t')) : MT l yX9_bestWind cX9_bestWind 6 (some .int) rm_X9_bestWind D cy en g (cW cy ad en x) sz [.ref (ad 12 0), .int p1] exn_X9_bestWind code r (cW cy ad en t') := by
  refine MT.of (by decide +kernel) (Nat.le_of_ble_eq_true rfl) ?_
  intro p e s m args below meth c A ls Q hAt htb hST hP hD hA hS hl hQ
  obtain ⟨hx, hb, hr, hml, hown, hw, hlk, hK, hN⟩ := hAt
  have hown : s.vm.findClass "CloudDeeds" = some m.cls := hown
  have hl : lv_has ls 6 [(0, .ref (ad 12 0)), (1, .int p1)] := hl
  refine lv_iload_n hx hb dX9_bestWind_0 rfl (lv_at hl 1 rfl) ?_
  refine xS_v (As := [.int p1]) (rest := []) hx hb hml hown hw hK hN hA hl.1 hP hD hS hST k_859 k_860 k_76 k_861 (met_X9_demandOwner l hst0 D cy _ en g (cW cy ad en x) p1 (D_X9_demandOwner p1) rfl) ⟨rfl, rfl⟩ (n := 1) (by decide +kernel) rfl ⟨Nat.le_of_ble_eq_true rfl, Nat.le_of_ble_eq_true rfl⟩ ⟨Nat.le_of_ble_eq_true rfl, Nat.le_of_ble_eq_true rfl⟩ (Nat.le_of_ble_eq_true rfl) rfl dX9_bestWind_1 (fun H locs q9 ce9 hne4 hP hD hS hce hcv hcl => ?_) (fun H locs h05 hP hD hS => ?_)
  · replace hF := (if_neg hne4).symm.trans hF
    cases hF
    rw [hQ]
    exact outx hlk htb hP hD hS hce hcv hcl (by decide) rfl (Nat.le_of_ble_eq_true rfl) (Nat.le_of_ble_eq_true rfl)
  · replace hF := (if_pos h05).symm.trans hF
    refine lv_iconst (v := 0) hx hb dX9_bestWind_4 (by decide) ?_
    refine lv_istore_n (lv' := [(2, .int 0), (0, .ref (ad 12 0)), (1, .int p1)]) hx hb dX9_bestWind_5 rfl hl (by decide) rfl (fun ls hl => ?_)
    refine lv_iconst (v := (-1)) hx hb dX9_bestWind_6 (by decide) ?_
    refine lv_istore_n (lv' := [(3, .int (-1)), (2, .int 0), (0, .ref (ad 12 0)), (1, .int p1)]) hx hb dX9_bestWind_7 rfl hl (by decide) rfl (fun ls hl => ?_)
    refine lv_bipush (v := (-3)) hx hb dX9_bestWind_8 (by decide) ?_
    refine lv_istore (lv' := [(4, .int (-3)), (3, .int (-1)), (2, .int 0), (0, .ref (ad 12 0)), (1, .int p1)]) hx hb dX9_bestWind_10 hl (by decide) rfl (fun ls hl => ?_)
    have loop12 : ∀ (n : Nat) (i4h12 : Int32) (i3h12 : Int32) (i2h12 : Int32) (s12 : Mem) (H : Heap) (locs : List Loc) (ls : Array Slot), L_X9_bestWind_12 n x p1 i4h12 i3h12 i2h12 s12 = some (code, r, t') → va_P D vwCl (cW cy ad en s12) H → va_D A (cW cy ad en s12) → va_S A s.heap H locs → lv_has ls 6 [(4, .int i4h12), (3, .int i3h12), (2, .int i2h12), (0, .ref (ad 12 0)), (1, .int p1)] → W p l e rm_X9_bestWind s m args below meth c H locs (0 + 1) (0 + 6) Q (F0 m 12 ls []) := by
      intro n
      induction n with
      | zero => intro i4h12 i3h12 i2h12 s12 H locs ls hF _ _ _ _; exact absurd hF (by simp [L_X9_bestWind_12])
      | succ n12 ih12 =>
        intro i4h12 i3h12 i2h12 s12 H locs ls hF hP hD hS hl
        refine lv_iload hx hb dX9_bestWind_12 (lv_at hl 0 rfl) ?_
        refine lv_iconst (v := 3) hx hb dX9_bestWind_14 (by decide) ?_
        refine lv_icmp_gt (tgt := 45) hx hb dX9_bestWind_15 (by decide) (fun h7 => ?_) (fun h7 => ?_)
        · replace hF := (if_pos h7).symm.trans hF
          refine lv_iload_n hx hb dX9_bestWind_45 rfl (lv_at hl 2 rfl) ?_
          cases hF
          rw [hQ]
          exact retx_i hx hb hr hlk (Nat.le_of_ble_eq_true rfl) (Nat.le_of_ble_eq_true rfl) hS hP hD rfl rfl rfl dX9_bestWind_46
        · replace hF := (if_neg h7).symm.trans hF
          refine lv_aload_n hx hb dX9_bestWind_18 rfl (lv_at hl 3 rfl) ?_
          refine lv_iload_n hx hb dX9_bestWind_19 rfl (lv_at hl 4 rfl) ?_
          refine lv_iload hx hb dX9_bestWind_20 (lv_at hl 0 rfl) ?_
          obtain ⟨⟨r8, o9⟩, hc10, hF⟩ := bind_some hF
          try dsimp only at hF
          refine cV_i (As := [.int p1, .int i4h12]) (rest := []) hx hb hml hown hw hK hN hA hl.1 hP hD hS k_924 k_926 k_14 k_76 k_927 (met_X9_cloudsImagined l D cy _ ad en g s12 p1 i4h12 r8 o9 hc10) (fun _ _ _ => trivial) Xok_T (gY (x := s12) (r := 0) (f := ((s12 12) 0)) (by decide) ((congrFun rfl _).trans rfl)) rfl ⟨rfl, rfl⟩ (n := 2) (by decide +kernel) rfl ⟨Nat.le_of_ble_eq_true rfl, Nat.le_of_ble_eq_true rfl⟩ ⟨Nat.le_of_ble_eq_true rfl, Nat.le_of_ble_eq_true rfl⟩ (Nat.le_of_ble_eq_true rfl) rfl dX9_bestWind_22 (fun H locs hP hD hS => ?_)
          refine lv_istore (lv' := [(5, .int r8), (4, .int i4h12), (3, .int i3h12), (2, .int i2h12), (0, .ref (ad 12 0)), (1, .int p1)]) hx hb dX9_bestWind_25 hl (by decide) rfl (fun ls hl => ?_)
          refine lv_iload hx hb dX9_bestWind_27 (lv_at hl 0 rfl) ?_
          refine lv_iload_n hx hb dX9_bestWind_29 rfl (lv_at hl 2 rfl) ?_
          refine lv_icmp_le (tgt := 39) hx hb dX9_bestWind_30 (by decide) (fun h11 => ?_) (fun h11 => ?_)
          · replace hF := (if_pos h11).symm.trans hF
            refine lv_iinc (v := (i4h12 + 1)) (lv' := [(4, .int (i4h12 + 1)), (5, .int r8), (3, .int i3h12), (2, .int i2h12), (0, .ref (ad 12 0)), (1, .int p1)]) hx hb dX9_bestWind_39 hl (k := 1) rfl rfl (by decide) rfl (fun ls hl => ?_)
            refine lv_goto (tgt := 12) hx hb dX9_bestWind_42 (by decide) ?_
            exact ih12 (i4h12 + 1) i3h12 i2h12 o9 _ _ _ hF hP hD hS (lv_sub hl [0, 2, 3, 4, 5] rfl)
          · replace hF := (if_neg h11).symm.trans hF
            refine lv_iload hx hb dX9_bestWind_33 (lv_at hl 0 rfl) ?_
            refine lv_istore_n (lv' := [(3, .int r8), (5, .int r8), (4, .int i4h12), (2, .int i2h12), (0, .ref (ad 12 0)), (1, .int p1)]) hx hb dX9_bestWind_35 rfl hl (by decide) rfl (fun ls hl => ?_)
            refine lv_iload hx hb dX9_bestWind_36 (lv_at hl 2 rfl) ?_
            refine lv_istore_n (lv' := [(2, .int i4h12), (3, .int r8), (5, .int r8), (4, .int i4h12), (0, .ref (ad 12 0)), (1, .int p1)]) hx hb dX9_bestWind_38 rfl hl (by decide) rfl (fun ls hl => ?_)
            refine lv_iinc (v := (i4h12 + 1)) (lv' := [(4, .int (i4h12 + 1)), (2, .int i4h12), (3, .int r8), (5, .int r8), (0, .ref (ad 12 0)), (1, .int p1)]) hx hb dX9_bestWind_39 hl (k := 3) rfl rfl (by decide) rfl (fun ls hl => ?_)
            refine lv_goto (tgt := 12) hx hb dX9_bestWind_42 (by decide) ?_
            exact ih12 (i4h12 + 1) r8 i4h12 o9 _ _ _ hF hP hD hS (lv_sub hl [0, 2, 1, 4, 5] rfl)
    exact loop12 200 (-3) (-1) 0 x _ _ _ hF hP hD hS (lv_sub hl [0, 1, 2, 3, 4] rfl)
def D_X9_feed (x : Mem) (p1 : Int32) : Option (Int32 × Int32 × (Mem)) := if (D_X8_isFull x) = 0 then ((D_X8_append x p1).bind (fun (r5, o6) => some (0, r5, o6))) else (some (1, 0, x))
abbrev rm_X9_feed : Room := { frames := 6, cells := 2, slots := 12, locals := 90 }
def exn_X9_feed : Int32 → String := fun _ => "java/lang/IllegalStateException"
set_option maxHeartbeats 4000000 in
set_option maxRecDepth 100000 in
theorem met_X9_feed (l : Launch) (hst0 : l.stackTraces = false) (D : va_G) (cy : Nat → ClassId) (sz : Nat) (ad : Nat → Nat → Nat) (en g : Nat → Nat) (x : Mem) (p1 : Int32)  (code : Int32) (r : Int32) (t' : Mem) (hF : D_X9_feed x p1 = some (code, r, t')) : MT l yX9_feed cX9_feed 2 (some .int) rm_X9_feed D cy en g (cW cy ad en x) sz [.ref (ad 12 0), .int p1] exn_X9_feed code r (cW cy ad en t') := by
  refine MT.of (by decide +kernel) (Nat.le_of_ble_eq_true rfl) ?_
  intro p e s m args below meth c A ls Q hAt htb hST hP hD hA hS hl hQ
  obtain ⟨hx, hb, hr, hml, hown, hw, hlk, hK, hN⟩ := hAt
  have hown : s.vm.findClass "CloudDeeds" = some m.cls := hown
  have hl : lv_has ls 2 [(0, .ref (ad 12 0)), (1, .int p1)] := hl
  refine lv_aload_n hx hb dX9_feed_0 rfl (lv_at hl 0 rfl) ?_
  refine get' (ci := 11) (fs := [.ref (ad 0 0), .ref (ad 1 0), .ref (ad 2 0), .ref (ad 3 0), .int (((x 12) 0) 4), .ref (ad 12 1), .ref (ad 12 3), .ref (ad 12 4), .int (((x 12) 0) 8), .ref (ad 12 31)]) (v := .ref (ad 12 4)) hx hb hw inWX9 hown hK hP (gY (x := x) (r := 0) (f := ((x 12) 0)) (by decide) ((congrFun rfl _).trans rfl)) rfl 7 (by decide) k_352 rfl rfl dX9_feed_1 ?_
  refine cV_i (As := []) (rest := []) hx hb hml hown hw hK hN hA hl.1 hP hD hS k_1026 k_1027 k_1028 k_82 k_1029 (met_X8_isFull l D cy _ ad en g x (D_X8_isFull x) rfl) (fun _ _ _ => trivial) Xok_T (gY (x := x) (r := 4) (f := ((x 12) 4)) (by decide) ((congrFun rfl _).trans rfl)) rfl ⟨rfl, rfl⟩ (n := 0) (by decide +kernel) rfl ⟨Nat.le_of_ble_eq_true rfl, Nat.le_of_ble_eq_true rfl⟩ ⟨Nat.le_of_ble_eq_true rfl, Nat.le_of_ble_eq_true rfl⟩ (Nat.le_of_ble_eq_true rfl) rfl dX9_feed_4 (fun H locs hP hD hS => ?_)
  refine lv_if_eq (tgt := 20) hx hb dX9_feed_7 (by decide) (fun h4 => ?_) (fun h4 => ?_)
  · replace hF := (if_pos h4).symm.trans hF
    refine lv_aload_n hx hb dX9_feed_20 rfl (lv_at hl 0 rfl) ?_
    refine get' (ci := 11) (fs := [.ref (ad 0 0), .ref (ad 1 0), .ref (ad 2 0), .ref (ad 3 0), .int (((x 12) 0) 4), .ref (ad 12 1), .ref (ad 12 3), .ref (ad 12 4), .int (((x 12) 0) 8), .ref (ad 12 31)]) (v := .ref (ad 12 4)) hx hb hw inWX9 hown hK hP (gY (x := x) (r := 0) (f := ((x 12) 0)) (by decide) ((congrFun rfl _).trans rfl)) rfl 7 (by decide) k_352 rfl rfl dX9_feed_21 ?_
    refine lv_iload_n hx hb dX9_feed_24 rfl (lv_at hl 1 rfl) ?_
    obtain ⟨⟨r5, o6⟩, hc7, hF⟩ := bind_some hF
    try dsimp only at hF
    refine cV_i (As := [.int p1]) (rest := []) hx hb hml hown hw hK hN hA hl.1 hP hD hS k_1047 k_1048 k_1049 k_82 k_1050 (met_X8_append l D cy _ ad en g x p1 r5 o6 hc7) (fun _ _ _ => trivial) Xok_T (gY (x := x) (r := 4) (f := ((x 12) 4)) (by decide) ((congrFun rfl _).trans rfl)) rfl ⟨rfl, rfl⟩ (n := 1) (by decide +kernel) rfl ⟨Nat.le_of_ble_eq_true rfl, Nat.le_of_ble_eq_true rfl⟩ ⟨Nat.le_of_ble_eq_true rfl, Nat.le_of_ble_eq_true rfl⟩ (Nat.le_of_ble_eq_true rfl) rfl dX9_feed_25 (fun H locs hP hD hS => ?_)
    cases hF
    rw [hQ]
    exact retx_i hx hb hr hlk (Nat.le_of_ble_eq_true rfl) (Nat.le_of_ble_eq_true rfl) hS hP hD rfl rfl rfl dX9_feed_28
  · replace hF := (if_neg h4).symm.trans hF
    cases hF
    rw [hQ]
    exact thrS (g := g) (en := en) hx hb hst0 hml hown hw hN hlk htb hST hS hP hD hl.1 (text := "the tape is full") 11 rfl (by decide) k_1031 k_102 at_214 (by decide) rfl rfl dX9_feed_10 dX9_feed_13 dX9_feed_14 dX9_feed_16 dX9_feed_19 ⟨Nat.le_of_ble_eq_true rfl, Nat.le_of_ble_eq_true rfl, Nat.le_of_ble_eq_true rfl, Nat.le_of_ble_eq_true rfl⟩ (Nat.le_of_ble_eq_true rfl) ⟨Nat.le_of_ble_eq_true rfl, Nat.le_of_ble_eq_true rfl⟩
def D_X9_undo (x : Mem) : Option (Int32 × Int32 × (Mem)) := if (((x 12) 1) 2) = 0 then (some (1, 0, x)) else ((D_X2_popInto x 0).bind (fun o3 => some (0, (((o3 12) 1) 2), o3)))
abbrev rm_X9_undo : Room := { frames := 6, cells := 2, slots := 12, locals := 145 }
def exn_X9_undo : Int32 → String := fun _ => "java/lang/IllegalStateException"
set_option maxHeartbeats 4000000 in
set_option maxRecDepth 100000 in
theorem met_X9_undo (l : Launch) (hst0 : l.stackTraces = false) (D : va_G) (cy : Nat → ClassId) (sz : Nat) (ad : Nat → Nat → Nat) (en g : Nat → Nat) (x : Mem)  (code : Int32) (r : Int32) (t' : Mem) (hF : D_X9_undo x = some (code, r, t')) : MT l yX9_undo cX9_undo 1 (some .int) rm_X9_undo D cy en g (cW cy ad en x) sz [.ref (ad 12 0)] exn_X9_undo code r (cW cy ad en t') := by
  refine MT.of (by decide +kernel) (Nat.le_of_ble_eq_true rfl) ?_
  intro p e s m args below meth c A ls Q hAt htb hST hP hD hA hS hl hQ
  obtain ⟨hx, hb, hr, hml, hown, hw, hlk, hK, hN⟩ := hAt
  have hown : s.vm.findClass "CloudDeeds" = some m.cls := hown
  have hl : lv_has ls 1 [(0, .ref (ad 12 0))] := hl
  refine lv_aload_n hx hb dX9_undo_0 rfl (lv_at hl 0 rfl) ?_
  refine get' (ci := 11) (fs := [.ref (ad 0 0), .ref (ad 1 0), .ref (ad 2 0), .ref (ad 3 0), .int (((x 12) 0) 4), .ref (ad 12 1), .ref (ad 12 3), .ref (ad 12 4), .int (((x 12) 0) 8), .ref (ad 12 31)]) (v := .ref (ad 12 1)) hx hb hw inWX9 hown hK hP (gY (x := x) (r := 0) (f := ((x 12) 0)) (by decide) ((congrFun rfl _).trans rfl)) rfl 5 (by decide) k_350 rfl rfl dX9_undo_1 ?_
  refine getN' (ci := 5) (fs := [.ref (ad 12 2), .int (((x 12) 1) 1), .int (((x 12) 1) 2)]) (v := .int (((x 12) 1) 2)) hx hb hw hN inWX2 hown hK hP (gY (x := x) (r := 1) (f := ((x 12) 1)) (by decide) ((congrFun rfl _).trans rfl)) rfl 2 (by decide) n_236 rfl rfl dX9_undo_4 ?_
  refine lv_if_ne (tgt := 21) hx hb dX9_undo_7 (by decide) (fun h1 => ?_) (fun h1 => ?_)
  · replace hF := (if_neg h1).symm.trans hF
    refine lv_aload_n hx hb dX9_undo_21 rfl (lv_at hl 0 rfl) ?_
    refine get' (ci := 11) (fs := [.ref (ad 0 0), .ref (ad 1 0), .ref (ad 2 0), .ref (ad 3 0), .int (((x 12) 0) 4), .ref (ad 12 1), .ref (ad 12 3), .ref (ad 12 4), .int (((x 12) 0) 8), .ref (ad 12 31)]) (v := .ref (ad 12 1)) hx hb hw inWX9 hown hK hP (gY (x := x) (r := 0) (f := ((x 12) 0)) (by decide) ((congrFun rfl _).trans rfl)) rfl 5 (by decide) k_350 rfl rfl dX9_undo_22 ?_
    refine lv_aload_n hx hb dX9_undo_25 rfl (lv_at hl 0 rfl) ?_
    refine get' (ci := 11) (fs := [.ref (ad 0 0), .ref (ad 1 0), .ref (ad 2 0), .ref (ad 3 0), .int (((x 12) 0) 4), .ref (ad 12 1), .ref (ad 12 3), .ref (ad 12 4), .int (((x 12) 0) 8), .ref (ad 12 31)]) (v := .ref (ad 0 0)) hx hb hw inWX9 hown hK hP (gY (x := x) (r := 0) (f := ((x 12) 0)) (by decide) ((congrFun rfl _).trans rfl)) rfl 0 (by decide) k_345 rfl rfl dX9_undo_26 ?_
    obtain ⟨o3, hc4, hF⟩ := bind_some hF
    try dsimp only at hF
    refine cV_v (As := [.ref (ad 0 0)]) (rest := []) hx hb hml hown hw hK hN hA hl.1 hP hD hS k_1548 k_1549 k_1550 k_80 k_1551 (met_X2_popInto l D cy _ ad en g x 0 (by decide) (by decide) o3 hc4) (fun _ _ _ => trivial) Xok_T (gY (x := x) (r := 1) (f := ((x 12) 1)) (by decide) ((congrFun rfl _).trans rfl)) rfl ⟨rfl, rfl⟩ (n := 1) (by decide +kernel) rfl ⟨Nat.le_of_ble_eq_true rfl, Nat.le_of_ble_eq_true rfl⟩ ⟨Nat.le_of_ble_eq_true rfl, Nat.le_of_ble_eq_true rfl⟩ (Nat.le_of_ble_eq_true rfl) rfl dX9_undo_29 (fun H locs hP hD hS => ?_)
    refine lv_aload_n hx hb dX9_undo_32 rfl (lv_at hl 0 rfl) ?_
    refine get' (ci := 11) (fs := [.ref (ad 0 0), .ref (ad 1 0), .ref (ad 2 0), .ref (ad 3 0), .int (((o3 12) 0) 4), .ref (ad 12 1), .ref (ad 12 3), .ref (ad 12 4), .int (((o3 12) 0) 8), .ref (ad 12 31)]) (v := .ref (ad 12 1)) hx hb hw inWX9 hown hK hP (gY (x := o3) (r := 0) (f := ((o3 12) 0)) (by decide) ((congrFun rfl _).trans rfl)) rfl 5 (by decide) k_350 rfl rfl dX9_undo_33 ?_
    refine getN' (ci := 5) (fs := [.ref (ad 12 2), .int (((o3 12) 1) 1), .int (((o3 12) 1) 2)]) (v := .int (((o3 12) 1) 2)) hx hb hw hN inWX2 hown hK hP (gY (x := o3) (r := 1) (f := ((o3 12) 1)) (by decide) ((congrFun rfl _).trans rfl)) rfl 2 (by decide) n_236 rfl rfl dX9_undo_36 ?_
    cases hF
    rw [hQ]
    exact retx_i hx hb hr hlk (Nat.le_of_ble_eq_true rfl) (Nat.le_of_ble_eq_true rfl) hS hP hD rfl rfl rfl dX9_undo_39
  · replace hF := (if_pos h1).symm.trans hF
    cases hF
    rw [hQ]
    exact thrSW (g := g) (en := en) hx hb hst0 hml hown hw hN hlk htb hST hS hP hD hl.1 (text := "nothing can be undone") 20 rfl (by decide) k_1031 k_102 at_214 (by decide) rfl rfl dX9_undo_10 dX9_undo_13 dX9_undo_14 dX9_undo_17 dX9_undo_20 ⟨Nat.le_of_ble_eq_true rfl, Nat.le_of_ble_eq_true rfl, Nat.le_of_ble_eq_true rfl, Nat.le_of_ble_eq_true rfl⟩ (Nat.le_of_ble_eq_true rfl) ⟨Nat.le_of_ble_eq_true rfl, Nat.le_of_ble_eq_true rfl⟩
def D_X9_change (x : Mem) (p1 : Nat) (p2 : Int32) (p3 : Int32) (p4 : Int32) : Option (Int32 × Int32 × (Mem)) := (D_X4_copyFrom (x 1) (x 0)).bind (fun o2 => (D_X4_carryOut (x 0) p1 p2 p3 p4).bind (fun (r4, o5) => if r4 = (-1) then (some (1, 0, (D_X6_keep (va_up (va_up x 1 o2) 0 o5) 0))) else ((D_X2_push (va_up (va_up x 1 o2) 0 o5) 1).bind (fun o9 => some (0, r4, o9)))))
abbrev rm_X9_change : Room := { frames := 6, cells := 2, slots := 12, locals := 145 }
def exn_X9_change : Int32 → String := fun _ => "java/lang/UnsupportedOperationException"
set_option maxHeartbeats 4000000 in
set_option maxRecDepth 100000 in
theorem met_X9_change (l : Launch) (hst0 : l.stackTraces = false) (D : va_G) (cy : Nat → ClassId) (sz : Nat) (ad : Nat → Nat → Nat) (en g : Nat → Nat) (x : Mem) (p1 : Nat) (hp1 : p1 < 9) (p2 : Int32) (p3 : Int32) (p4 : Int32)  (code : Int32) (r : Int32) (t' : Mem) (hF : D_X9_change x p1 p2 p3 p4 = some (code, r, t')) : MT l yX9_change cX9_change 6 (some .int) rm_X9_change D cy en g (cW cy ad en x) sz [.ref (ad 12 0), .ref (en p1), .int p2, .int p3, .int p4] exn_X9_change code r (cW cy ad en t') := by
  refine MT.of (by decide +kernel) (Nat.le_of_ble_eq_true rfl) ?_
  intro p e s m args below meth c A ls Q hAt htb hST hP hD hA hS hl hQ
  obtain ⟨hx, hb, hr, hml, hown, hw, hlk, hK, hN⟩ := hAt
  have hown : s.vm.findClass "CloudDeeds" = some m.cls := hown
  have hl : lv_has ls 6 [(0, .ref (ad 12 0)), (1, .ref (en p1)), (2, .int p2), (3, .int p3), (4, .int p4)] := hl
  refine lv_aload_n hx hb dX9_change_0 rfl (lv_at hl 0 rfl) ?_
  refine get' (ci := 11) (fs := [.ref (ad 0 0), .ref (ad 1 0), .ref (ad 2 0), .ref (ad 3 0), .int (((x 12) 0) 4), .ref (ad 12 1), .ref (ad 12 3), .ref (ad 12 4), .int (((x 12) 0) 8), .ref (ad 12 31)]) (v := .ref (ad 1 0)) hx hb hw inWX9 hown hK hP (gY (x := x) (r := 0) (f := ((x 12) 0)) (by decide) ((congrFun rfl _).trans rfl)) rfl 1 (by decide) k_346 rfl rfl dX9_change_1 ?_
  refine lv_aload_n hx hb dX9_change_4 rfl (lv_at hl 0 rfl) ?_
  refine get' (ci := 11) (fs := [.ref (ad 0 0), .ref (ad 1 0), .ref (ad 2 0), .ref (ad 3 0), .int (((x 12) 0) 4), .ref (ad 12 1), .ref (ad 12 3), .ref (ad 12 4), .int (((x 12) 0) 8), .ref (ad 12 31)]) (v := .ref (ad 0 0)) hx hb hw inWX9 hown hK hP (gY (x := x) (r := 0) (f := ((x 12) 0)) (by decide) ((congrFun rfl _).trans rfl)) rfl 0 (by decide) k_345 rfl rfl dX9_change_5 ?_
  have hP := cvP hP ((congrArg (cW cy ad en) (up_self x 1)).symm.trans (congrArg (fun z => cW cy ad en (va_up x 1 z)) rfl))
  have hD := cvD hD ((congrArg (cW cy ad en) (up_self x 1)).symm.trans (congrArg (fun z => cW cy ad en (va_up x 1 z)) rfl))
  obtain ⟨o2, hc3, hF⟩ := bind_some hF
  try dsimp only at hF
  refine cV_v (As := [.ref (ad 0 0)]) (rest := []) hx hb hml hown hw hK hN hA hl.1 hP hD hS k_522 k_388 k_389 k_77 k_390 (met_X4_copyFrom l D cy _ ad en x 1 (by decide) (x 1) 0 (by decide) (by decide) (x 0) rfl o2 hc3) (fun _ _ _ => trivial) Xok_T (gX (x := (va_up x 1 (x 1))) (k := 1) (r := 0) (f := ((x 1) 0)) (by decide) (by decide) ((congrFun (va_up_self _ _ _) _).trans rfl)) rfl ⟨rfl, rfl⟩ (n := 1) (by decide +kernel) rfl ⟨Nat.le_of_ble_eq_true rfl, Nat.le_of_ble_eq_true rfl⟩ ⟨Nat.le_of_ble_eq_true rfl, Nat.le_of_ble_eq_true rfl⟩ (Nat.le_of_ble_eq_true rfl) rfl dX9_change_8 (fun H locs hP hD hS => ?_)
  refine lv_aload_n hx hb dX9_change_11 rfl (lv_at hl 0 rfl) ?_
  refine get' (ci := 11) (fs := [.ref (ad 0 0), .ref (ad 1 0), .ref (ad 2 0), .ref (ad 3 0), .int (((x 12) 0) 4), .ref (ad 12 1), .ref (ad 12 3), .ref (ad 12 4), .int (((x 12) 0) 8), .ref (ad 12 31)]) (v := .ref (ad 0 0)) hx hb hw inWX9 hown hK hP (gY (x := (va_up x 1 o2)) (r := 0) (f := ((x 12) 0)) (by decide) ((congrFun ((va_up_ne _ _ (by decide)).trans rfl) _).trans rfl)) rfl 0 (by decide) k_345 rfl rfl dX9_change_12 ?_
  refine lv_aload_n hx hb dX9_change_15 rfl (lv_at hl 1 rfl) ?_
  refine lv_iload_n hx hb dX9_change_16 rfl (lv_at hl 2 rfl) ?_
  refine lv_iload_n hx hb dX9_change_17 rfl (lv_at hl 3 rfl) ?_
  refine lv_iload hx hb dX9_change_18 (lv_at hl 4 rfl) ?_
  have hP := cvP hP ((congrArg (cW cy ad en) (up_self (va_up x 1 o2) 0)).symm.trans (congrArg (fun z => cW cy ad en (va_up (va_up x 1 o2) 0 z)) ((va_up_ne _ _ (by decide)).trans rfl)))
  have hD := cvD hD ((congrArg (cW cy ad en) (up_self (va_up x 1 o2) 0)).symm.trans (congrArg (fun z => cW cy ad en (va_up (va_up x 1 o2) 0 z)) ((va_up_ne _ _ (by decide)).trans rfl)))
  obtain ⟨⟨r4, o5⟩, hc6, hF⟩ := bind_some hF
  try dsimp only at hF
  refine cV_i (As := [.ref (en p1), .int p2, .int p3, .int p4]) (rest := []) hx hb hml hown hw hK hN hA hl.1 hP hD hS k_537 k_538 k_539 k_77 k_540 (met_X4_carryOut l D cy _ ad en g (va_up x 1 o2) 0 (by decide) (x 0) p1 hp1 p2 p3 p4 r4 o5 hc6) (ST_call hST hS (free_all hD hS hA)) Xok_S (gX (x := (va_up (va_up x 1 o2) 0 (x 0))) (k := 0) (r := 0) (f := ((x 0) 0)) (by decide) (by decide) ((congrFun (va_up_self _ _ _) _).trans rfl)) rfl ⟨rfl, rfl⟩ (n := 4) (by decide +kernel) rfl ⟨Nat.le_of_ble_eq_true rfl, Nat.le_of_ble_eq_true rfl⟩ ⟨Nat.le_of_ble_eq_true rfl, Nat.le_of_ble_eq_true rfl⟩ (Nat.le_of_ble_eq_true rfl) rfl dX9_change_20 (fun H locs hP hD hS => ?_)
  refine lv_istore (lv' := [(5, .int r4), (0, .ref (ad 12 0)), (1, .ref (en p1)), (2, .int p2), (3, .int p3), (4, .int p4)]) hx hb dX9_change_23 hl (by decide) rfl (fun ls hl => ?_)
  refine lv_iload hx hb dX9_change_25 (lv_at hl 0 rfl) ?_
  refine lv_iconst (v := (-1)) hx hb dX9_change_27 (by decide) ?_
  refine lv_icmp_ne (tgt := 53) hx hb dX9_change_28 (by decide) (fun h7 => ?_) (fun h7 => ?_)
  · replace hF := (if_neg h7).symm.trans hF
    refine lv_aload_n hx hb dX9_change_53 rfl (lv_at hl 1 rfl) ?_
    refine get' (ci := 11) (fs := [.ref (ad 0 0), .ref (ad 1 0), .ref (ad 2 0), .ref (ad 3 0), .int (((x 12) 0) 4), .ref (ad 12 1), .ref (ad 12 3), .ref (ad 12 4), .int (((x 12) 0) 8), .ref (ad 12 31)]) (v := .ref (ad 12 1)) hx hb hw inWX9 hown hK hP (gY (x := (va_up (va_up x 1 o2) 0 o5)) (r := 0) (f := ((x 12) 0)) (by decide) ((congrFun ((va_up_ne _ _ (by decide)).trans ((va_up_ne _ _ (by decide)).trans rfl)) _).trans rfl)) rfl 5 (by decide) k_350 rfl rfl dX9_change_54 ?_
    refine lv_aload_n hx hb dX9_change_57 rfl (lv_at hl 1 rfl) ?_
    refine get' (ci := 11) (fs := [.ref (ad 0 0), .ref (ad 1 0), .ref (ad 2 0), .ref (ad 3 0), .int (((x 12) 0) 4), .ref (ad 12 1), .ref (ad 12 3), .ref (ad 12 4), .int (((x 12) 0) 8), .ref (ad 12 31)]) (v := .ref (ad 1 0)) hx hb hw inWX9 hown hK hP (gY (x := (va_up (va_up x 1 o2) 0 o5)) (r := 0) (f := ((x 12) 0)) (by decide) ((congrFun ((va_up_ne _ _ (by decide)).trans ((va_up_ne _ _ (by decide)).trans rfl)) _).trans rfl)) rfl 1 (by decide) k_346 rfl rfl dX9_change_58 ?_
    obtain ⟨o9, hc10, hF⟩ := bind_some hF
    try dsimp only at hF
    refine cV_v (As := [.ref (ad 1 0)]) (rest := []) hx hb hml hown hw hK hN hA hl.1 hP hD hS k_380 k_381 k_382 k_80 k_383 (met_X2_push l D cy _ ad en g (va_up (va_up x 1 o2) 0 o5) 1 (by decide) (by decide) o9 hc10) (fun _ _ _ => trivial) Xok_T (gY (x := (va_up (va_up x 1 o2) 0 o5)) (r := 1) (f := ((x 12) 1)) (by decide) ((congrFun ((va_up_ne _ _ (by decide)).trans ((va_up_ne _ _ (by decide)).trans rfl)) _).trans rfl)) rfl ⟨rfl, rfl⟩ (n := 1) (by decide +kernel) rfl ⟨Nat.le_of_ble_eq_true rfl, Nat.le_of_ble_eq_true rfl⟩ ⟨Nat.le_of_ble_eq_true rfl, Nat.le_of_ble_eq_true rfl⟩ (Nat.le_of_ble_eq_true rfl) rfl dX9_change_61 (fun H locs hP hD hS => ?_)
    refine lv_iload hx hb dX9_change_64 (lv_at hl 0 rfl) ?_
    cases hF
    rw [hQ]
    exact retx_i hx hb hr hlk (Nat.le_of_ble_eq_true rfl) (Nat.le_of_ble_eq_true rfl) hS hP hD rfl rfl rfl dX9_change_66
  · replace hF := (if_pos h7).symm.trans hF
    refine lv_aload_n hx hb dX9_change_31 rfl (lv_at hl 1 rfl) ?_
    refine get' (ci := 11) (fs := [.ref (ad 0 0), .ref (ad 1 0), .ref (ad 2 0), .ref (ad 3 0), .int (((x 12) 0) 4), .ref (ad 12 1), .ref (ad 12 3), .ref (ad 12 4), .int (((x 12) 0) 8), .ref (ad 12 31)]) (v := .ref (ad 12 3)) hx hb hw inWX9 hown hK hP (gY (x := (va_up (va_up x 1 o2) 0 o5)) (r := 0) (f := ((x 12) 0)) (by decide) ((congrFun ((va_up_ne _ _ (by decide)).trans ((va_up_ne _ _ (by decide)).trans rfl)) _).trans rfl)) rfl 6 (by decide) k_351 rfl rfl dX9_change_32 ?_
    refine lv_aload_n hx hb dX9_change_35 rfl (lv_at hl 1 rfl) ?_
    refine get' (ci := 11) (fs := [.ref (ad 0 0), .ref (ad 1 0), .ref (ad 2 0), .ref (ad 3 0), .int (((x 12) 0) 4), .ref (ad 12 1), .ref (ad 12 3), .ref (ad 12 4), .int (((x 12) 0) 8), .ref (ad 12 31)]) (v := .ref (ad 0 0)) hx hb hw inWX9 hown hK hP (gY (x := (va_up (va_up x 1 o2) 0 o5)) (r := 0) (f := ((x 12) 0)) (by decide) ((congrFun ((va_up_ne _ _ (by decide)).trans ((va_up_ne _ _ (by decide)).trans rfl)) _).trans rfl)) rfl 0 (by decide) k_345 rfl rfl dX9_change_36 ?_
    refine cV_v (As := [.ref (ad 0 0)]) (rest := []) hx hb hml hown hw hK hN hA hl.1 hP hD hS k_645 k_646 k_647 k_81 k_648 (met_X6_keep l D cy _ ad en g (va_up (va_up x 1 o2) 0 o5) 0 (by decide) (D_X6_keep (va_up (va_up x 1 o2) 0 o5) 0) rfl) (fun _ _ _ => trivial) Xok_T (gY (x := (va_up (va_up x 1 o2) 0 o5)) (r := 3) (f := ((x 12) 3)) (by decide) ((congrFun ((va_up_ne _ _ (by decide)).trans ((va_up_ne _ _ (by decide)).trans rfl)) _).trans rfl)) rfl ⟨rfl, rfl⟩ (n := 1) (by decide +kernel) rfl ⟨Nat.le_of_ble_eq_true rfl, Nat.le_of_ble_eq_true rfl⟩ ⟨Nat.le_of_ble_eq_true rfl, Nat.le_of_ble_eq_true rfl⟩ (Nat.le_of_ble_eq_true rfl) rfl dX9_change_39 (fun H locs hP hD hS => ?_)
    cases hF
    rw [hQ]
    exact thrSW (g := g) (en := en) hx hb hst0 hml hown hw hN hlk htb hST hS hP hD hl.1 (text := "this is refused") 0 rfl (by decide) k_649 k_97 at_251 (by decide) rfl rfl dX9_change_42 dX9_change_45 dX9_change_46 dX9_change_49 dX9_change_52 ⟨Nat.le_of_ble_eq_true rfl, Nat.le_of_ble_eq_true rfl, Nat.le_of_ble_eq_true rfl, Nat.le_of_ble_eq_true rfl⟩ (Nat.le_of_ble_eq_true rfl) ⟨Nat.le_of_ble_eq_true rfl, Nat.le_of_ble_eq_true rfl⟩
def D_X8_readSign (x : Mem) (p1 : Int32) : Option (Int32 × (Mem)) := (D_X8_nextSign x).bind (fun r1 => if r1 = p1 then (some (1, (va_up x 12 (va_up (x 12) 4 (upd ((x 12) 4) 2 ((((x 12) 4) 2) + 1)))))) else (some (0, x)))
abbrev rm_X8_readSign : Room := { frames := 1, cells := 0, slots := 0, locals := 20 }
set_option maxHeartbeats 4000000 in
set_option maxRecDepth 100000 in
theorem met_X8_readSign (l : Launch) (D : va_G) (cy : Nat → ClassId) (sz : Nat) (ad : Nat → Nat → Nat) (en g : Nat → Nat) (x : Mem) (p1 : Int32)  (r : Int32) (t' : Mem) (hF : D_X8_readSign x p1 = some (r, t')) : MI l yX8_readSign cX8_readSign 2 (some .boolean) rm_X8_readSign D cy (cW cy ad en x) sz (fun _ => True) [.ref (ad 12 4), .int p1] r (cW cy ad en t') := by
  refine MZ.of (by decide +kernel) (Nat.le_of_ble_eq_true rfl) ?_
  intro p e s m args below meth c A ls Q hAt _ hP hD hA hS hl hret
  obtain ⟨hx, hb, hr, hml, hown, hw, hlk, hK, hN⟩ := hAt
  have hown : s.vm.findClass "CloudDeeds$Tape" = some m.cls := hown
  have hl : lv_has ls 2 [(0, .ref (ad 12 4)), (1, .int p1)] := hl
  refine lv_aload_n hx hb dX8_readSign_0 rfl (lv_at hl 0 rfl) ?_
  obtain ⟨r1, hc3, hF⟩ := bind_some hF
  try dsimp only at hF
  refine cV_i (As := []) (rest := []) hx hb hml hown hw hK hN hA hl.1 hP hD hS k_1068 k_1070 k_20 k_82 k_1071 (met_X8_nextSign l D cy _ ad en g x r1 hc3) (fun _ _ _ => trivial) Xok_T (gY (x := x) (r := 4) (f := ((x 12) 4)) (by decide) ((congrFun rfl _).trans rfl)) rfl ⟨rfl, rfl⟩ (n := 0) (by decide +kernel) rfl ⟨Nat.le_of_ble_eq_true rfl, Nat.le_of_ble_eq_true rfl⟩ ⟨Nat.le_of_ble_eq_true rfl, Nat.le_of_ble_eq_true rfl⟩ (Nat.le_of_ble_eq_true rfl) rfl dX8_readSign_1 (fun H locs hP hD hS => ?_)
  refine lv_iload_n hx hb dX8_readSign_4 rfl (lv_at hl 1 rfl) ?_
  refine lv_icmp_eq (tgt := 10) hx hb dX8_readSign_5 (by decide) (fun h4 => ?_) (fun h4 => ?_)
  · replace hF := (if_pos h4).symm.trans hF
    refine lv_aload_n hx hb dX8_readSign_10 rfl (lv_at hl 0 rfl) ?_
    refine lv_dup hx hb dX8_readSign_11 rfl ?_
    refine get' (ci := 10) (fs := [.ref (ad 12 5), .int (((x 12) 4) 1), .int (((x 12) 4) 2), .ref (ad 12 6), .int (((x 12) 4) 4)]) (v := .int (((x 12) 4) 2)) hx hb hw inWX8 hown hK hP (gY (x := x) (r := 4) (f := ((x 12) 4)) (by decide) ((congrFun rfl _).trans rfl)) rfl 2 (by decide) k_296 rfl rfl dX8_readSign_12 ?_
    refine lv_iconst (v := 1) hx hb dX8_readSign_15 (by decide) ?_
    refine lv_iadd hx hb dX8_readSign_16 ?_
    refine put' (ci := 10) (fs := [.ref (ad 12 5), .int (((x 12) 4) 1), .int (((x 12) 4) 2), .ref (ad 12 6), .int (((x 12) 4) 4)]) (v := .int ((((x 12) 4) 2) + 1)) (ty := .int) (ws' := (cW cy ad en (va_up x 12 (va_up (x 12) 4 (upd ((x 12) 4) 2 ((((x 12) 4) 2) + 1)))))) hx hb hw inWX8 tyX8 tyX8_ok nmX8 hown hK hP hD hS (gY (x := x) (r := 4) (f := ((x 12) 4)) (by decide) ((congrFun rfl _).trans rfl)) rfl 2 (by decide) k_296 rfl rfl (by decide +kernel) rfl rfl (Nat.le_of_ble_eq_true rfl) dX8_readSign_17 ((sY (x := x) (r := 4) (g := (upd ((x 12) 4) 2 ((((x 12) 4) 2) + 1))) (by decide)).trans (congrArg (fun z => cW cy ad en (va_up x 12 (va_up z 4 (upd ((x 12) 4) 2 ((((x 12) 4) 2) + 1))))) rfl)) (fun H locs hP hD hS => ?_)
    refine lv_iconst (v := 1) hx hb dX8_readSign_20 (by decide) ?_
    cases hF
    exact hret _ _ _ _ _ _ hP hD hS rfl rfl rfl dX8_readSign_21
  · replace hF := (if_neg h4).symm.trans hF
    refine lv_iconst (v := 0) hx hb dX8_readSign_8 (by decide) ?_
    cases hF
    exact hret _ _ _ _ _ _ hP hD hS rfl rfl rfl dX8_readSign_9
def D_X8_nextDigit (x : Mem) : Option (Int32) := (D_X8_nextSign x).bind (fun r1 => if r1 < 48 then (some (-1)) else (if 57 < r1 then (some (-1)) else (some (r1 - 48))))
abbrev rm_X8_nextDigit : Room := { frames := 1, cells := 0, slots := 0, locals := 20 }
set_option maxHeartbeats 4000000 in
set_option maxRecDepth 100000 in
theorem met_X8_nextDigit (l : Launch) (D : va_G) (cy : Nat → ClassId) (sz : Nat) (ad : Nat → Nat → Nat) (en g : Nat → Nat) (x : Mem)  (r : Int32) (hF : D_X8_nextDigit x = some r) : MI l yX8_nextDigit cX8_nextDigit 2 (some .int) rm_X8_nextDigit D cy (cW cy ad en x) sz (fun _ => True) [.ref (ad 12 4)] r (cW cy ad en x) := by
  refine MI.of (by decide +kernel) (Nat.le_of_ble_eq_true rfl) ?_
  intro p e s m args below meth c A ls Q hAt _ hP hD hA hS hl hret
  obtain ⟨hx, hb, hr, hml, hown, hw, hlk, hK, hN⟩ := hAt
  have hown : s.vm.findClass "CloudDeeds$Tape" = some m.cls := hown
  have hl : lv_has ls 2 [(0, .ref (ad 12 4))] := hl
  refine lv_aload_n hx hb dX8_nextDigit_0 rfl (lv_at hl 0 rfl) ?_
  obtain ⟨r1, hc3, hF⟩ := bind_some hF
  try dsimp only at hF
  refine cV_i (As := []) (rest := []) hx hb hml hown hw hK hN hA hl.1 hP hD hS k_1068 k_1070 k_20 k_82 k_1071 (met_X8_nextSign l D cy _ ad en g x r1 hc3) (fun _ _ _ => trivial) Xok_T (gY (x := x) (r := 4) (f := ((x 12) 4)) (by decide) ((congrFun rfl _).trans rfl)) rfl ⟨rfl, rfl⟩ (n := 0) (by decide +kernel) rfl ⟨Nat.le_of_ble_eq_true rfl, Nat.le_of_ble_eq_true rfl⟩ ⟨Nat.le_of_ble_eq_true rfl, Nat.le_of_ble_eq_true rfl⟩ (Nat.le_of_ble_eq_true rfl) rfl dX8_nextDigit_1 (fun H locs hP hD hS => ?_)
  refine lv_istore_n (lv' := [(1, .int r1), (0, .ref (ad 12 4))]) hx hb dX8_nextDigit_4 rfl hl (by decide) rfl (fun ls hl => ?_)
  refine lv_iload_n hx hb dX8_nextDigit_5 rfl (lv_at hl 0 rfl) ?_
  refine lv_bipush (v := 48) hx hb dX8_nextDigit_6 (by decide) ?_
  refine lv_icmp_lt (tgt := 24) hx hb dX8_nextDigit_8 (by decide) (fun h4 => ?_) (fun h4 => ?_)
  · replace hF := (if_pos h4).symm.trans hF
    refine lv_iconst (v := (-1)) hx hb dX8_nextDigit_24 (by decide) ?_
    cases hF
    exact hret _ _ _ _ _ _ hP hD hS rfl rfl dX8_nextDigit_25
  · replace hF := (if_neg h4).symm.trans hF
    refine lv_iload_n hx hb dX8_nextDigit_11 rfl (lv_at hl 0 rfl) ?_
    refine lv_bipush (v := 57) hx hb dX8_nextDigit_12 (by decide) ?_
    refine lv_icmp_gt (tgt := 24) hx hb dX8_nextDigit_14 (by decide) (fun h5 => ?_) (fun h5 => ?_)
    · replace hF := (if_pos h5).symm.trans hF
      refine lv_iconst (v := (-1)) hx hb dX8_nextDigit_24 (by decide) ?_
      cases hF
      exact hret _ _ _ _ _ _ hP hD hS rfl rfl dX8_nextDigit_25
    · replace hF := (if_neg h5).symm.trans hF
      refine lv_iload_n hx hb dX8_nextDigit_17 rfl (lv_at hl 0 rfl) ?_
      refine lv_bipush (v := 48) hx hb dX8_nextDigit_18 (by decide) ?_
      refine lv_isub hx hb dX8_nextDigit_20 ?_
      refine lv_goto (tgt := 25) hx hb dX8_nextDigit_21 (by decide) ?_
      cases hF
      exact hret _ _ _ _ _ _ hP hD hS rfl rfl dX8_nextDigit_25
def D_X9_cloud (x : Mem) (p1 : Int32) (p2 : Int32) (p3 : Int32) : Option (Int32 × Int32 × (Mem)) := (D_X9_change x 0 p1 p2 p3).bind (fun (cd6, r1, o2) => if cd6 = 0 then (some (0, r1, o2)) else (some (1, 0, o2)))
abbrev rm_X9_cloud : Room := { frames := 7, cells := 2, slots := 12, locals := 170 }
def exn_X9_cloud : Int32 → String := fun _ => "java/lang/UnsupportedOperationException"
set_option maxHeartbeats 4000000 in
set_option maxRecDepth 100000 in
theorem met_X9_cloud (l : Launch) (hst0 : l.stackTraces = false) (D : va_G) (cy : Nat → ClassId) (sz : Nat) (ad : Nat → Nat → Nat) (en g : Nat → Nat) (x : Mem) (p1 : Int32) (p2 : Int32) (p3 : Int32)  (code : Int32) (r : Int32) (t' : Mem) (hF : D_X9_cloud x p1 p2 p3 = some (code, r, t')) : MT l yX9_cloud cX9_cloud 4 (some .int) rm_X9_cloud D cy en g (cW cy ad en x) sz [.ref (ad 12 0), .int p1, .int p2, .int p3] exn_X9_cloud code r (cW cy ad en t') := by
  refine MT.of (by decide +kernel) (Nat.le_of_ble_eq_true rfl) ?_
  intro p e s m args below meth c A ls Q hAt htb hST hP hD hA hS hl hQ
  obtain ⟨hx, hb, hr, hml, hown, hw, hlk, hK, hN⟩ := hAt
  have hown : s.vm.findClass "CloudDeeds" = some m.cls := hown
  have hl : lv_has ls 4 [(0, .ref (ad 12 0)), (1, .int p1), (2, .int p2), (3, .int p3)] := hl
  refine lv_aload_n hx hb dX9_cloud_0 rfl (lv_at hl 0 rfl) ?_
  refine va_gets (n := "CLOUD") (v := .ref (en 0)) hx hb (hST.2.2.2.1.1 0 (by decide)).1 hS hown (hw _ k_531) (fun _ h9 => h9) dX9_cloud_1 ?_
  refine lv_iload_n hx hb dX9_cloud_4 rfl (lv_at hl 1 rfl) ?_
  refine lv_iload_n hx hb dX9_cloud_5 rfl (lv_at hl 2 rfl) ?_
  refine lv_iload_n hx hb dX9_cloud_6 rfl (lv_at hl 3 rfl) ?_
  obtain ⟨⟨cd6, r1, o2⟩, hc3, hF⟩ := bind_some hF
  try dsimp only at hF
  refine xV_i (As := [.ref (en 0), .int p1, .int p2, .int p3]) (rest := []) hx hb hml hown hw hK hN hA hl.1 hP hD hS hST k_533 k_535 k_5 k_76 k_536 (met_X9_change l hst0 D cy _ ad en g x 0 (by decide) p1 p2 p3 cd6 r1 o2 hc3) (gY (x := x) (r := 0) (f := ((x 12) 0)) (by decide) ((congrFun rfl _).trans rfl)) rfl ⟨rfl, rfl⟩ (n := 4) (by decide +kernel) rfl ⟨Nat.le_of_ble_eq_true rfl, Nat.le_of_ble_eq_true rfl⟩ ⟨Nat.le_of_ble_eq_true rfl, Nat.le_of_ble_eq_true rfl⟩ (Nat.le_of_ble_eq_true rfl) rfl dX9_cloud_7 (fun H locs q9 ce9 hne4 hP hD hS hce hcv hcl => ?_) (fun H locs h05 hP hD hS => ?_)
  · replace hF := (if_neg hne4).symm.trans hF
    cases hF
    rw [hQ]
    exact outx hlk htb hP hD hS hce hcv hcl (by decide) rfl (Nat.le_of_ble_eq_true rfl) (Nat.le_of_ble_eq_true rfl)
  · replace hF := (if_pos h05).symm.trans hF
    cases hF
    rw [hQ]
    exact retx_i hx hb hr hlk (Nat.le_of_ble_eq_true rfl) (Nat.le_of_ble_eq_true rfl) hS hP hD rfl rfl rfl dX9_cloud_10
def D_X9_vine (x : Mem) (p1 : Int32) (p2 : Int32) : Option (Int32 × Int32 × (Mem)) := (D_X9_change x 1 p1 p2 0).bind (fun (cd6, r1, o2) => if cd6 = 0 then (some (0, r1, o2)) else (some (1, 0, o2)))
abbrev rm_X9_vine : Room := { frames := 7, cells := 2, slots := 12, locals := 170 }
def exn_X9_vine : Int32 → String := fun _ => "java/lang/UnsupportedOperationException"
set_option maxHeartbeats 4000000 in
set_option maxRecDepth 100000 in
theorem met_X9_vine (l : Launch) (hst0 : l.stackTraces = false) (D : va_G) (cy : Nat → ClassId) (sz : Nat) (ad : Nat → Nat → Nat) (en g : Nat → Nat) (x : Mem) (p1 : Int32) (p2 : Int32)  (code : Int32) (r : Int32) (t' : Mem) (hF : D_X9_vine x p1 p2 = some (code, r, t')) : MT l yX9_vine cX9_vine 3 (some .int) rm_X9_vine D cy en g (cW cy ad en x) sz [.ref (ad 12 0), .int p1, .int p2] exn_X9_vine code r (cW cy ad en t') := by
  refine MT.of (by decide +kernel) (Nat.le_of_ble_eq_true rfl) ?_
  intro p e s m args below meth c A ls Q hAt htb hST hP hD hA hS hl hQ
  obtain ⟨hx, hb, hr, hml, hown, hw, hlk, hK, hN⟩ := hAt
  have hown : s.vm.findClass "CloudDeeds" = some m.cls := hown
  have hl : lv_has ls 3 [(0, .ref (ad 12 0)), (1, .int p1), (2, .int p2)] := hl
  refine lv_aload_n hx hb dX9_vine_0 rfl (lv_at hl 0 rfl) ?_
  refine va_gets (n := "VINE") (v := .ref (en 1)) hx hb (hST.2.2.2.1.1 1 (by decide)).1 hS hown (hw _ k_728) (fun _ h9 => h9) dX9_vine_1 ?_
  refine lv_iload_n hx hb dX9_vine_4 rfl (lv_at hl 1 rfl) ?_
  refine lv_iload_n hx hb dX9_vine_5 rfl (lv_at hl 2 rfl) ?_
  refine lv_iconst (v := 0) hx hb dX9_vine_6 (by decide) ?_
  obtain ⟨⟨cd6, r1, o2⟩, hc3, hF⟩ := bind_some hF
  try dsimp only at hF
  refine xV_i (As := [.ref (en 1), .int p1, .int p2, .int 0]) (rest := []) hx hb hml hown hw hK hN hA hl.1 hP hD hS hST k_533 k_535 k_5 k_76 k_536 (met_X9_change l hst0 D cy _ ad en g x 1 (by decide) p1 p2 0 cd6 r1 o2 hc3) (gY (x := x) (r := 0) (f := ((x 12) 0)) (by decide) ((congrFun rfl _).trans rfl)) rfl ⟨rfl, rfl⟩ (n := 4) (by decide +kernel) rfl ⟨Nat.le_of_ble_eq_true rfl, Nat.le_of_ble_eq_true rfl⟩ ⟨Nat.le_of_ble_eq_true rfl, Nat.le_of_ble_eq_true rfl⟩ (Nat.le_of_ble_eq_true rfl) rfl dX9_vine_7 (fun H locs q9 ce9 hne4 hP hD hS hce hcv hcl => ?_) (fun H locs h05 hP hD hS => ?_)
  · replace hF := (if_neg hne4).symm.trans hF
    cases hF
    rw [hQ]
    exact outx hlk htb hP hD hS hce hcv hcl (by decide) rfl (Nat.le_of_ble_eq_true rfl) (Nat.le_of_ble_eq_true rfl)
  · replace hF := (if_pos h05).symm.trans hF
    cases hF
    rw [hQ]
    exact retx_i hx hb hr hlk (Nat.le_of_ble_eq_true rfl) (Nat.le_of_ble_eq_true rfl) hS hP hD rfl rfl rfl dX9_vine_10
def D_X9_title (x : Mem) (p1 : Int32) (p2 : Int32) : Option (Int32 × Int32 × (Mem)) := (D_X9_change x 2 p1 p2 0).bind (fun (cd6, r1, o2) => if cd6 = 0 then (some (0, r1, o2)) else (some (1, 0, o2)))
abbrev rm_X9_title : Room := { frames := 7, cells := 2, slots := 12, locals := 170 }
def exn_X9_title : Int32 → String := fun _ => "java/lang/UnsupportedOperationException"
set_option maxHeartbeats 4000000 in
set_option maxRecDepth 100000 in
theorem met_X9_title (l : Launch) (hst0 : l.stackTraces = false) (D : va_G) (cy : Nat → ClassId) (sz : Nat) (ad : Nat → Nat → Nat) (en g : Nat → Nat) (x : Mem) (p1 : Int32) (p2 : Int32)  (code : Int32) (r : Int32) (t' : Mem) (hF : D_X9_title x p1 p2 = some (code, r, t')) : MT l yX9_title cX9_title 3 (some .int) rm_X9_title D cy en g (cW cy ad en x) sz [.ref (ad 12 0), .int p1, .int p2] exn_X9_title code r (cW cy ad en t') := by
  refine MT.of (by decide +kernel) (Nat.le_of_ble_eq_true rfl) ?_
  intro p e s m args below meth c A ls Q hAt htb hST hP hD hA hS hl hQ
  obtain ⟨hx, hb, hr, hml, hown, hw, hlk, hK, hN⟩ := hAt
  have hown : s.vm.findClass "CloudDeeds" = some m.cls := hown
  have hl : lv_has ls 3 [(0, .ref (ad 12 0)), (1, .int p1), (2, .int p2)] := hl
  refine lv_aload_n hx hb dX9_title_0 rfl (lv_at hl 0 rfl) ?_
  refine va_gets (n := "TITLE") (v := .ref (en 2)) hx hb (hST.2.2.2.1.1 2 (by decide)).1 hS hown (hw _ k_737) (fun _ h9 => h9) dX9_title_1 ?_
  refine lv_iload_n hx hb dX9_title_4 rfl (lv_at hl 1 rfl) ?_
  refine lv_iload_n hx hb dX9_title_5 rfl (lv_at hl 2 rfl) ?_
  refine lv_iconst (v := 0) hx hb dX9_title_6 (by decide) ?_
  obtain ⟨⟨cd6, r1, o2⟩, hc3, hF⟩ := bind_some hF
  try dsimp only at hF
  refine xV_i (As := [.ref (en 2), .int p1, .int p2, .int 0]) (rest := []) hx hb hml hown hw hK hN hA hl.1 hP hD hS hST k_533 k_535 k_5 k_76 k_536 (met_X9_change l hst0 D cy _ ad en g x 2 (by decide) p1 p2 0 cd6 r1 o2 hc3) (gY (x := x) (r := 0) (f := ((x 12) 0)) (by decide) ((congrFun rfl _).trans rfl)) rfl ⟨rfl, rfl⟩ (n := 4) (by decide +kernel) rfl ⟨Nat.le_of_ble_eq_true rfl, Nat.le_of_ble_eq_true rfl⟩ ⟨Nat.le_of_ble_eq_true rfl, Nat.le_of_ble_eq_true rfl⟩ (Nat.le_of_ble_eq_true rfl) rfl dX9_title_7 (fun H locs q9 ce9 hne4 hP hD hS hce hcv hcl => ?_) (fun H locs h05 hP hD hS => ?_)
  · replace hF := (if_neg hne4).symm.trans hF
    cases hF
    rw [hQ]
    exact outx hlk htb hP hD hS hce hcv hcl (by decide) rfl (Nat.le_of_ble_eq_true rfl) (Nat.le_of_ble_eq_true rfl)
  · replace hF := (if_pos h05).symm.trans hF
    cases hF
    rw [hQ]
    exact retx_i hx hb hr hlk (Nat.le_of_ble_eq_true rfl) (Nat.le_of_ble_eq_true rfl) hS hP hD rfl rfl rfl dX9_title_10
def D_X9_sell (x : Mem) (p1 : Int32) (p2 : Int32) (p3 : Int32) : Option (Int32 × Int32 × (Mem)) := (D_X9_change x 3 p1 p2 p3).bind (fun (cd6, r1, o2) => if cd6 = 0 then (some (0, r1, o2)) else (some (1, 0, o2)))
abbrev rm_X9_sell : Room := { frames := 7, cells := 2, slots := 12, locals := 170 }
def exn_X9_sell : Int32 → String := fun _ => "java/lang/UnsupportedOperationException"
set_option maxHeartbeats 4000000 in
set_option maxRecDepth 100000 in
theorem met_X9_sell (l : Launch) (hst0 : l.stackTraces = false) (D : va_G) (cy : Nat → ClassId) (sz : Nat) (ad : Nat → Nat → Nat) (en g : Nat → Nat) (x : Mem) (p1 : Int32) (p2 : Int32) (p3 : Int32)  (code : Int32) (r : Int32) (t' : Mem) (hF : D_X9_sell x p1 p2 p3 = some (code, r, t')) : MT l yX9_sell cX9_sell 4 (some .int) rm_X9_sell D cy en g (cW cy ad en x) sz [.ref (ad 12 0), .int p1, .int p2, .int p3] exn_X9_sell code r (cW cy ad en t') := by
  refine MT.of (by decide +kernel) (Nat.le_of_ble_eq_true rfl) ?_
  intro p e s m args below meth c A ls Q hAt htb hST hP hD hA hS hl hQ
  obtain ⟨hx, hb, hr, hml, hown, hw, hlk, hK, hN⟩ := hAt
  have hown : s.vm.findClass "CloudDeeds" = some m.cls := hown
  have hl : lv_has ls 4 [(0, .ref (ad 12 0)), (1, .int p1), (2, .int p2), (3, .int p3)] := hl
  refine lv_aload_n hx hb dX9_sell_0 rfl (lv_at hl 0 rfl) ?_
  refine va_gets (n := "SELL") (v := .ref (en 3)) hx hb (hST.2.2.2.1.1 3 (by decide)).1 hS hown (hw _ k_746) (fun _ h9 => h9) dX9_sell_1 ?_
  refine lv_iload_n hx hb dX9_sell_4 rfl (lv_at hl 1 rfl) ?_
  refine lv_iload_n hx hb dX9_sell_5 rfl (lv_at hl 2 rfl) ?_
  refine lv_iload_n hx hb dX9_sell_6 rfl (lv_at hl 3 rfl) ?_
  obtain ⟨⟨cd6, r1, o2⟩, hc3, hF⟩ := bind_some hF
  try dsimp only at hF
  refine xV_i (As := [.ref (en 3), .int p1, .int p2, .int p3]) (rest := []) hx hb hml hown hw hK hN hA hl.1 hP hD hS hST k_533 k_535 k_5 k_76 k_536 (met_X9_change l hst0 D cy _ ad en g x 3 (by decide) p1 p2 p3 cd6 r1 o2 hc3) (gY (x := x) (r := 0) (f := ((x 12) 0)) (by decide) ((congrFun rfl _).trans rfl)) rfl ⟨rfl, rfl⟩ (n := 4) (by decide +kernel) rfl ⟨Nat.le_of_ble_eq_true rfl, Nat.le_of_ble_eq_true rfl⟩ ⟨Nat.le_of_ble_eq_true rfl, Nat.le_of_ble_eq_true rfl⟩ (Nat.le_of_ble_eq_true rfl) rfl dX9_sell_7 (fun H locs q9 ce9 hne4 hP hD hS hce hcv hcl => ?_) (fun H locs h05 hP hD hS => ?_)
  · replace hF := (if_neg hne4).symm.trans hF
    cases hF
    rw [hQ]
    exact outx hlk htb hP hD hS hce hcv hcl (by decide) rfl (Nat.le_of_ble_eq_true rfl) (Nat.le_of_ble_eq_true rfl)
  · replace hF := (if_pos h05).symm.trans hF
    cases hF
    rw [hQ]
    exact retx_i hx hb hr hlk (Nat.le_of_ble_eq_true rfl) (Nat.le_of_ble_eq_true rfl) hS hP hD rfl rfl rfl dX9_sell_10
def D_X9_pledge (x : Mem) (p1 : Int32) (p2 : Int32) : Option (Int32 × Int32 × (Mem)) := (D_X9_change x 4 p1 p2 0).bind (fun (cd6, r1, o2) => if cd6 = 0 then (some (0, r1, o2)) else (some (1, 0, o2)))
abbrev rm_X9_pledge : Room := { frames := 7, cells := 2, slots := 12, locals := 170 }
def exn_X9_pledge : Int32 → String := fun _ => "java/lang/UnsupportedOperationException"
set_option maxHeartbeats 4000000 in
set_option maxRecDepth 100000 in
theorem met_X9_pledge (l : Launch) (hst0 : l.stackTraces = false) (D : va_G) (cy : Nat → ClassId) (sz : Nat) (ad : Nat → Nat → Nat) (en g : Nat → Nat) (x : Mem) (p1 : Int32) (p2 : Int32)  (code : Int32) (r : Int32) (t' : Mem) (hF : D_X9_pledge x p1 p2 = some (code, r, t')) : MT l yX9_pledge cX9_pledge 3 (some .int) rm_X9_pledge D cy en g (cW cy ad en x) sz [.ref (ad 12 0), .int p1, .int p2] exn_X9_pledge code r (cW cy ad en t') := by
  refine MT.of (by decide +kernel) (Nat.le_of_ble_eq_true rfl) ?_
  intro p e s m args below meth c A ls Q hAt htb hST hP hD hA hS hl hQ
  obtain ⟨hx, hb, hr, hml, hown, hw, hlk, hK, hN⟩ := hAt
  have hown : s.vm.findClass "CloudDeeds" = some m.cls := hown
  have hl : lv_has ls 3 [(0, .ref (ad 12 0)), (1, .int p1), (2, .int p2)] := hl
  refine lv_aload_n hx hb dX9_pledge_0 rfl (lv_at hl 0 rfl) ?_
  refine va_gets (n := "PLEDGE") (v := .ref (en 4)) hx hb (hST.2.2.2.1.1 4 (by decide)).1 hS hown (hw _ k_755) (fun _ h9 => h9) dX9_pledge_1 ?_
  refine lv_iload_n hx hb dX9_pledge_4 rfl (lv_at hl 1 rfl) ?_
  refine lv_iload_n hx hb dX9_pledge_5 rfl (lv_at hl 2 rfl) ?_
  refine lv_iconst (v := 0) hx hb dX9_pledge_6 (by decide) ?_
  obtain ⟨⟨cd6, r1, o2⟩, hc3, hF⟩ := bind_some hF
  try dsimp only at hF
  refine xV_i (As := [.ref (en 4), .int p1, .int p2, .int 0]) (rest := []) hx hb hml hown hw hK hN hA hl.1 hP hD hS hST k_533 k_535 k_5 k_76 k_536 (met_X9_change l hst0 D cy _ ad en g x 4 (by decide) p1 p2 0 cd6 r1 o2 hc3) (gY (x := x) (r := 0) (f := ((x 12) 0)) (by decide) ((congrFun rfl _).trans rfl)) rfl ⟨rfl, rfl⟩ (n := 4) (by decide +kernel) rfl ⟨Nat.le_of_ble_eq_true rfl, Nat.le_of_ble_eq_true rfl⟩ ⟨Nat.le_of_ble_eq_true rfl, Nat.le_of_ble_eq_true rfl⟩ (Nat.le_of_ble_eq_true rfl) rfl dX9_pledge_7 (fun H locs q9 ce9 hne4 hP hD hS hce hcv hcl => ?_) (fun H locs h05 hP hD hS => ?_)
  · replace hF := (if_neg hne4).symm.trans hF
    cases hF
    rw [hQ]
    exact outx hlk htb hP hD hS hce hcv hcl (by decide) rfl (Nat.le_of_ble_eq_true rfl) (Nat.le_of_ble_eq_true rfl)
  · replace hF := (if_pos h05).symm.trans hF
    cases hF
    rw [hQ]
    exact retx_i hx hb hr hlk (Nat.le_of_ble_eq_true rfl) (Nat.le_of_ble_eq_true rfl) hS hP hD rfl rfl rfl dX9_pledge_10
def D_X9_redeem (x : Mem) (p1 : Int32) : Option (Int32 × Int32 × (Mem)) := (D_X9_change x 5 p1 0 0).bind (fun (cd6, r1, o2) => if cd6 = 0 then (some (0, r1, o2)) else (some (1, 0, o2)))
abbrev rm_X9_redeem : Room := { frames := 7, cells := 2, slots := 12, locals := 170 }
def exn_X9_redeem : Int32 → String := fun _ => "java/lang/UnsupportedOperationException"
set_option maxHeartbeats 4000000 in
set_option maxRecDepth 100000 in
theorem met_X9_redeem (l : Launch) (hst0 : l.stackTraces = false) (D : va_G) (cy : Nat → ClassId) (sz : Nat) (ad : Nat → Nat → Nat) (en g : Nat → Nat) (x : Mem) (p1 : Int32)  (code : Int32) (r : Int32) (t' : Mem) (hF : D_X9_redeem x p1 = some (code, r, t')) : MT l yX9_redeem cX9_redeem 2 (some .int) rm_X9_redeem D cy en g (cW cy ad en x) sz [.ref (ad 12 0), .int p1] exn_X9_redeem code r (cW cy ad en t') := by
  refine MT.of (by decide +kernel) (Nat.le_of_ble_eq_true rfl) ?_
  intro p e s m args below meth c A ls Q hAt htb hST hP hD hA hS hl hQ
  obtain ⟨hx, hb, hr, hml, hown, hw, hlk, hK, hN⟩ := hAt
  have hown : s.vm.findClass "CloudDeeds" = some m.cls := hown
  have hl : lv_has ls 2 [(0, .ref (ad 12 0)), (1, .int p1)] := hl
  refine lv_aload_n hx hb dX9_redeem_0 rfl (lv_at hl 0 rfl) ?_
  refine va_gets (n := "REDEEM") (v := .ref (en 5)) hx hb (hST.2.2.2.1.1 5 (by decide)).1 hS hown (hw _ k_764) (fun _ h9 => h9) dX9_redeem_1 ?_
  refine lv_iload_n hx hb dX9_redeem_4 rfl (lv_at hl 1 rfl) ?_
  refine lv_iconst (v := 0) hx hb dX9_redeem_5 (by decide) ?_
  refine lv_iconst (v := 0) hx hb dX9_redeem_6 (by decide) ?_
  obtain ⟨⟨cd6, r1, o2⟩, hc3, hF⟩ := bind_some hF
  try dsimp only at hF
  refine xV_i (As := [.ref (en 5), .int p1, .int 0, .int 0]) (rest := []) hx hb hml hown hw hK hN hA hl.1 hP hD hS hST k_533 k_535 k_5 k_76 k_536 (met_X9_change l hst0 D cy _ ad en g x 5 (by decide) p1 0 0 cd6 r1 o2 hc3) (gY (x := x) (r := 0) (f := ((x 12) 0)) (by decide) ((congrFun rfl _).trans rfl)) rfl ⟨rfl, rfl⟩ (n := 4) (by decide +kernel) rfl ⟨Nat.le_of_ble_eq_true rfl, Nat.le_of_ble_eq_true rfl⟩ ⟨Nat.le_of_ble_eq_true rfl, Nat.le_of_ble_eq_true rfl⟩ (Nat.le_of_ble_eq_true rfl) rfl dX9_redeem_7 (fun H locs q9 ce9 hne4 hP hD hS hce hcv hcl => ?_) (fun H locs h05 hP hD hS => ?_)
  · replace hF := (if_neg hne4).symm.trans hF
    cases hF
    rw [hQ]
    exact outx hlk htb hP hD hS hce hcv hcl (by decide) rfl (Nat.le_of_ble_eq_true rfl) (Nat.le_of_ble_eq_true rfl)
  · replace hF := (if_pos h05).symm.trans hF
    cases hF
    rw [hQ]
    exact retx_i hx hb hr hlk (Nat.le_of_ble_eq_true rfl) (Nat.le_of_ble_eq_true rfl) hS hP hD rfl rfl rfl dX9_redeem_10
def D_X9_wind (x : Mem) (p1 : Int32) : Option (Int32 × Int32 × (Mem)) := (D_X9_change x 6 p1 0 0).bind (fun (cd6, r1, o2) => if cd6 = 0 then (some (0, r1, o2)) else (some (1, 0, o2)))
abbrev rm_X9_wind : Room := { frames := 7, cells := 2, slots := 12, locals := 170 }
def exn_X9_wind : Int32 → String := fun _ => "java/lang/UnsupportedOperationException"
set_option maxHeartbeats 4000000 in
set_option maxRecDepth 100000 in
theorem met_X9_wind (l : Launch) (hst0 : l.stackTraces = false) (D : va_G) (cy : Nat → ClassId) (sz : Nat) (ad : Nat → Nat → Nat) (en g : Nat → Nat) (x : Mem) (p1 : Int32)  (code : Int32) (r : Int32) (t' : Mem) (hF : D_X9_wind x p1 = some (code, r, t')) : MT l yX9_wind cX9_wind 2 (some .int) rm_X9_wind D cy en g (cW cy ad en x) sz [.ref (ad 12 0), .int p1] exn_X9_wind code r (cW cy ad en t') := by
  refine MT.of (by decide +kernel) (Nat.le_of_ble_eq_true rfl) ?_
  intro p e s m args below meth c A ls Q hAt htb hST hP hD hA hS hl hQ
  obtain ⟨hx, hb, hr, hml, hown, hw, hlk, hK, hN⟩ := hAt
  have hown : s.vm.findClass "CloudDeeds" = some m.cls := hown
  have hl : lv_has ls 2 [(0, .ref (ad 12 0)), (1, .int p1)] := hl
  refine lv_aload_n hx hb dX9_wind_0 rfl (lv_at hl 0 rfl) ?_
  refine va_gets (n := "WIND") (v := .ref (en 6)) hx hb (hST.2.2.2.1.1 6 (by decide)).1 hS hown (hw _ k_773) (fun _ h9 => h9) dX9_wind_1 ?_
  refine lv_iload_n hx hb dX9_wind_4 rfl (lv_at hl 1 rfl) ?_
  refine lv_iconst (v := 0) hx hb dX9_wind_5 (by decide) ?_
  refine lv_iconst (v := 0) hx hb dX9_wind_6 (by decide) ?_
  obtain ⟨⟨cd6, r1, o2⟩, hc3, hF⟩ := bind_some hF
  try dsimp only at hF
  refine xV_i (As := [.ref (en 6), .int p1, .int 0, .int 0]) (rest := []) hx hb hml hown hw hK hN hA hl.1 hP hD hS hST k_533 k_535 k_5 k_76 k_536 (met_X9_change l hst0 D cy _ ad en g x 6 (by decide) p1 0 0 cd6 r1 o2 hc3) (gY (x := x) (r := 0) (f := ((x 12) 0)) (by decide) ((congrFun rfl _).trans rfl)) rfl ⟨rfl, rfl⟩ (n := 4) (by decide +kernel) rfl ⟨Nat.le_of_ble_eq_true rfl, Nat.le_of_ble_eq_true rfl⟩ ⟨Nat.le_of_ble_eq_true rfl, Nat.le_of_ble_eq_true rfl⟩ (Nat.le_of_ble_eq_true rfl) rfl dX9_wind_7 (fun H locs q9 ce9 hne4 hP hD hS hce hcv hcl => ?_) (fun H locs h05 hP hD hS => ?_)
  · replace hF := (if_neg hne4).symm.trans hF
    cases hF
    rw [hQ]
    exact outx hlk htb hP hD hS hce hcv hcl (by decide) rfl (Nat.le_of_ble_eq_true rfl) (Nat.le_of_ble_eq_true rfl)
  · replace hF := (if_pos h05).symm.trans hF
    cases hF
    rw [hQ]
    exact retx_i hx hb hr hlk (Nat.le_of_ble_eq_true rfl) (Nat.le_of_ble_eq_true rfl) hS hP hD rfl rfl rfl dX9_wind_10
def D_X9_hail (x : Mem) (p1 : Int32) : Option (Int32 × Int32 × (Mem)) := (D_X9_change x 7 p1 0 0).bind (fun (cd6, r1, o2) => if cd6 = 0 then (some (0, r1, o2)) else (some (1, 0, o2)))
abbrev rm_X9_hail : Room := { frames := 7, cells := 2, slots := 12, locals := 170 }
def exn_X9_hail : Int32 → String := fun _ => "java/lang/UnsupportedOperationException"
set_option maxHeartbeats 4000000 in
set_option maxRecDepth 100000 in
theorem met_X9_hail (l : Launch) (hst0 : l.stackTraces = false) (D : va_G) (cy : Nat → ClassId) (sz : Nat) (ad : Nat → Nat → Nat) (en g : Nat → Nat) (x : Mem) (p1 : Int32)  (code : Int32) (r : Int32) (t' : Mem) (hF : D_X9_hail x p1 = some (code, r, t')) : MT l yX9_hail cX9_hail 2 (some .int) rm_X9_hail D cy en g (cW cy ad en x) sz [.ref (ad 12 0), .int p1] exn_X9_hail code r (cW cy ad en t') := by
  refine MT.of (by decide +kernel) (Nat.le_of_ble_eq_true rfl) ?_
  intro p e s m args below meth c A ls Q hAt htb hST hP hD hA hS hl hQ
  obtain ⟨hx, hb, hr, hml, hown, hw, hlk, hK, hN⟩ := hAt
  have hown : s.vm.findClass "CloudDeeds" = some m.cls := hown
  have hl : lv_has ls 2 [(0, .ref (ad 12 0)), (1, .int p1)] := hl
  refine lv_aload_n hx hb dX9_hail_0 rfl (lv_at hl 0 rfl) ?_
  refine va_gets (n := "HAIL") (v := .ref (en 7)) hx hb (hST.2.2.2.1.1 7 (by decide)).1 hS hown (hw _ k_782) (fun _ h9 => h9) dX9_hail_1 ?_
  refine lv_iload_n hx hb dX9_hail_4 rfl (lv_at hl 1 rfl) ?_
  refine lv_iconst (v := 0) hx hb dX9_hail_5 (by decide) ?_
  refine lv_iconst (v := 0) hx hb dX9_hail_6 (by decide) ?_
  obtain ⟨⟨cd6, r1, o2⟩, hc3, hF⟩ := bind_some hF
  try dsimp only at hF
  refine xV_i (As := [.ref (en 7), .int p1, .int 0, .int 0]) (rest := []) hx hb hml hown hw hK hN hA hl.1 hP hD hS hST k_533 k_535 k_5 k_76 k_536 (met_X9_change l hst0 D cy _ ad en g x 7 (by decide) p1 0 0 cd6 r1 o2 hc3) (gY (x := x) (r := 0) (f := ((x 12) 0)) (by decide) ((congrFun rfl _).trans rfl)) rfl ⟨rfl, rfl⟩ (n := 4) (by decide +kernel) rfl ⟨Nat.le_of_ble_eq_true rfl, Nat.le_of_ble_eq_true rfl⟩ ⟨Nat.le_of_ble_eq_true rfl, Nat.le_of_ble_eq_true rfl⟩ (Nat.le_of_ble_eq_true rfl) rfl dX9_hail_7 (fun H locs q9 ce9 hne4 hP hD hS hce hcv hcl => ?_) (fun H locs h05 hP hD hS => ?_)
  · replace hF := (if_neg hne4).symm.trans hF
    cases hF
    rw [hQ]
    exact outx hlk htb hP hD hS hce hcv hcl (by decide) rfl (Nat.le_of_ble_eq_true rfl) (Nat.le_of_ble_eq_true rfl)
  · replace hF := (if_pos h05).symm.trans hF
    cases hF
    rw [hQ]
    exact retx_i hx hb hr hlk (Nat.le_of_ble_eq_true rfl) (Nat.le_of_ble_eq_true rfl) hS hP hD rfl rfl rfl dX9_hail_10
def D_X8_readDigit (x : Mem) (p1 : Nat) (p2 : Int32) : Option (Int32 × (Mem)) := (D_X8_nextDigit x).bind (fun r1 => if r1 = (-1) then (some (0, x)) else ((D_X5_add (va_up x 12 (va_up (x 12) 4 (upd ((x 12) 4) 2 ((((x 12) 4) 2) + 1)))) p1 (p2 * r1)).bind (fun (r5, o6) => if is01 r5 then (some (r5, o6)) else none)))
abbrev rm_X8_readDigit : Room := { frames := 2, cells := 0, slots := 0, locals := 42 }
set_option maxHeartbeats 4000000 in
set_option maxRecDepth 100000 in
theorem met_X8_readDigit (l : Launch) (D : va_G) (cy : Nat → ClassId) (sz : Nat) (ad : Nat → Nat → Nat) (en g : Nat → Nat) (x : Mem) (p1 : Nat) (hp1 : p1 + 7 < 19) (p2 : Int32)  (r : Int32) (t' : Mem) (hF : D_X8_readDigit x p1 p2 = some (r, t')) : MI l yX8_readDigit cX8_readDigit 4 (some .boolean) rm_X8_readDigit D cy (cW cy ad en x) sz (fun _ => True) [.ref (ad 12 4), .ref (ad 12 (p1 + 7)), .int p2] r (cW cy ad en t') := by
  refine MZ.of (by decide +kernel) (Nat.le_of_ble_eq_true rfl) ?_
  intro p e s m args below meth c A ls Q hAt _ hP hD hA hS hl hret
  obtain ⟨hx, hb, hr, hml, hown, hw, hlk, hK, hN⟩ := hAt
  have hown : s.vm.findClass "CloudDeeds$Tape" = some m.cls := hown
  have hl : lv_has ls 4 [(0, .ref (ad 12 4)), (1, .ref (ad 12 (p1 + 7))), (2, .int p2)] := hl
  refine lv_aload_n hx hb dX8_readDigit_0 rfl (lv_at hl 0 rfl) ?_
  obtain ⟨r1, hc3, hF⟩ := bind_some hF
  try dsimp only at hF
  refine cV_i (As := []) (rest := []) hx hb hml hown hw hK hN hA hl.1 hP hD hS k_1144 k_1146 k_24 k_82 k_1147 (met_X8_nextDigit l D cy _ ad en g x r1 hc3) (fun _ _ _ => trivial) Xok_T (gY (x := x) (r := 4) (f := ((x 12) 4)) (by decide) ((congrFun rfl _).trans rfl)) rfl ⟨rfl, rfl⟩ (n := 0) (by decide +kernel) rfl ⟨Nat.le_of_ble_eq_true rfl, Nat.le_of_ble_eq_true rfl⟩ ⟨Nat.le_of_ble_eq_true rfl, Nat.le_of_ble_eq_true rfl⟩ (Nat.le_of_ble_eq_true rfl) rfl dX8_readDigit_1 (fun H locs hP hD hS => ?_)
  refine lv_istore_n (lv' := [(3, .int r1), (0, .ref (ad 12 4)), (1, .ref (ad 12 (p1 + 7))), (2, .int p2)]) hx hb dX8_readDigit_4 rfl hl (by decide) rfl (fun ls hl => ?_)
  refine lv_iload_n hx hb dX8_readDigit_5 rfl (lv_at hl 0 rfl) ?_
  refine lv_iconst (v := (-1)) hx hb dX8_readDigit_6 (by decide) ?_
  refine lv_icmp_ne (tgt := 12) hx hb dX8_readDigit_7 (by decide) (fun h4 => ?_) (fun h4 => ?_)
  · replace hF := (if_neg h4).symm.trans hF
    refine lv_aload_n hx hb dX8_readDigit_12 rfl (lv_at hl 1 rfl) ?_
    refine lv_dup hx hb dX8_readDigit_13 rfl ?_
    refine get' (ci := 10) (fs := [.ref (ad 12 5), .int (((x 12) 4) 1), .int (((x 12) 4) 2), .ref (ad 12 6), .int (((x 12) 4) 4)]) (v := .int (((x 12) 4) 2)) hx hb hw inWX8 hown hK hP (gY (x := x) (r := 4) (f := ((x 12) 4)) (by decide) ((congrFun rfl _).trans rfl)) rfl 2 (by decide) k_296 rfl rfl dX8_readDigit_14 ?_
    refine lv_iconst (v := 1) hx hb dX8_readDigit_17 (by decide) ?_
    refine lv_iadd hx hb dX8_readDigit_18 ?_
    refine put' (ci := 10) (fs := [.ref (ad 12 5), .int (((x 12) 4) 1), .int (((x 12) 4) 2), .ref (ad 12 6), .int (((x 12) 4) 4)]) (v := .int ((((x 12) 4) 2) + 1)) (ty := .int) (ws' := (cW cy ad en (va_up x 12 (va_up (x 12) 4 (upd ((x 12) 4) 2 ((((x 12) 4) 2) + 1)))))) hx hb hw inWX8 tyX8 tyX8_ok nmX8 hown hK hP hD hS (gY (x := x) (r := 4) (f := ((x 12) 4)) (by decide) ((congrFun rfl _).trans rfl)) rfl 2 (by decide) k_296 rfl rfl (by decide +kernel) rfl rfl (Nat.le_of_ble_eq_true rfl) dX8_readDigit_19 ((sY (x := x) (r := 4) (g := (upd ((x 12) 4) 2 ((((x 12) 4) 2) + 1))) (by decide)).trans (congrArg (fun z => cW cy ad en (va_up x 12 (va_up z 4 (upd ((x 12) 4) 2 ((((x 12) 4) 2) + 1))))) rfl)) (fun H locs hP hD hS => ?_)
    refine lv_aload_n hx hb dX8_readDigit_22 rfl (lv_at hl 2 rfl) ?_
    refine lv_iload_n hx hb dX8_readDigit_23 rfl (lv_at hl 3 rfl) ?_
    refine lv_iload_n hx hb dX8_readDigit_24 rfl (lv_at hl 0 rfl) ?_
    refine lv_imul hx hb dX8_readDigit_25 ?_
    obtain ⟨⟨r5, o6⟩, hc7, hF⟩ := bind_some hF
    try dsimp only at hF
    refine cV_i (As := [.int (p2 * r1)]) (rest := []) hx hb hml hown hw hK hN hA hl.1 hP hD hS k_1148 k_1149 k_1150 k_83 k_1151 (met_X5_add l D cy _ ad en g (va_up x 12 (va_up (x 12) 4 (upd ((x 12) 4) 2 ((((x 12) 4) 2) + 1)))) p1 hp1 (p2 * r1) r5 o6 hc7) (fun _ _ _ => trivial) Xok_T (gYord (x := (va_up x 12 (va_up (x 12) 4 (upd ((x 12) 4) 2 ((((x 12) 4) 2) + 1))))) (j := p1) (f := ((x 12) (p1 + 7))) hp1 ((congrFun (va_up_self _ _ _) _).trans ((va_up_ne _ _ (by omega)).trans rfl))) rfl ⟨rfl, rfl⟩ (n := 1) (by decide +kernel) rfl ⟨Nat.le_of_ble_eq_true rfl, Nat.le_of_ble_eq_true rfl⟩ ⟨Nat.le_of_ble_eq_true rfl, Nat.le_of_ble_eq_true rfl⟩ (Nat.le_of_ble_eq_true rfl) rfl dX8_readDigit_26 (fun H locs hP hD hS => ?_)
    obtain ⟨hg8, hF⟩ := ite_some hF
    cases hF
    exact hret _ _ _ _ _ _ hP hD hS rfl rfl (nar_z (is01_iff.mp hg8)) dX8_readDigit_29
  · replace hF := (if_pos h4).symm.trans hF
    refine lv_iconst (v := 0) hx hb dX8_readDigit_10 (by decide) ?_
    cases hF
    exact hret _ _ _ _ _ _ hP hD hS rfl rfl rfl dX8_readDigit_11
def D_X8_readNumber (x : Mem) (p1 : Nat) : Option (Int32 × (Mem)) := (D_X8_nextDigit x).bind (fun r1 => if r1 = (-1) then (some (0, x)) else ((D_X8_nextDigit (va_up x 12 (va_up (x 12) 4 (upd ((x 12) 4) 2 ((((x 12) 4) 2) + 1))))).bind (fun r5 => if r5 = (-1) then ((D_X5_add (va_up x 12 (va_up (x 12) 4 (upd ((x 12) 4) 2 ((((x 12) 4) 2) + 1)))) p1 r1).bind (fun (r9, o10) => if is01 r9 then (some (r9, o10)) else none)) else ((D_X5_add (va_up x 12 (va_up (x 12) 4 (upd (upd ((x 12) 4) 2 ((((x 12) 4) 2) + 1)) 2 (((((x 12) 4) 2) + 1) + 1)))) p1 ((10 * r1) + r5)).bind (fun (r13, o14) => if is01 r13 then (some (r13, o14)) else none)))))
abbrev rm_X8_readNumber : Room := { frames := 2, cells := 0, slots := 0, locals := 42 }
set_option maxHeartbeats 4000000 in
set_option maxRecDepth 100000 in
theorem met_X8_readNumber (l : Launch) (D : va_G) (cy : Nat → ClassId) (sz : Nat) (ad : Nat → Nat → Nat) (en g : Nat → Nat) (x : Mem) (p1 : Nat) (hp1 : p1 + 7 < 19)  (r : Int32) (t' : Mem) (hF : D_X8_readNumber x p1 = some (r, t')) : MI l yX8_readNumber cX8_readNumber 4 (some .boolean) rm_X8_readNumber D cy (cW cy ad en x) sz (fun _ => True) [.ref (ad 12 4), .ref (ad 12 (p1 + 7))] r (cW cy ad en t') := by
  refine MZ.of (by decide +kernel) (Nat.le_of_ble_eq_true rfl) ?_
  intro p e s m args below meth c A ls Q hAt _ hP hD hA hS hl hret
  obtain ⟨hx, hb, hr, hml, hown, hw, hlk, hK, hN⟩ := hAt
  have hown : s.vm.findClass "CloudDeeds$Tape" = some m.cls := hown
  have hl : lv_has ls 4 [(0, .ref (ad 12 4)), (1, .ref (ad 12 (p1 + 7)))] := hl
  refine lv_aload_n hx hb dX8_readNumber_0 rfl (lv_at hl 0 rfl) ?_
  obtain ⟨r1, hc3, hF⟩ := bind_some hF
  try dsimp only at hF
  refine cV_i (As := []) (rest := []) hx hb hml hown hw hK hN hA hl.1 hP hD hS k_1144 k_1146 k_24 k_82 k_1147 (met_X8_nextDigit l D cy _ ad en g x r1 hc3) (fun _ _ _ => trivial) Xok_T (gY (x := x) (r := 4) (f := ((x 12) 4)) (by decide) ((congrFun rfl _).trans rfl)) rfl ⟨rfl, rfl⟩ (n := 0) (by decide +kernel) rfl ⟨Nat.le_of_ble_eq_true rfl, Nat.le_of_ble_eq_true rfl⟩ ⟨Nat.le_of_ble_eq_true rfl, Nat.le_of_ble_eq_true rfl⟩ (Nat.le_of_ble_eq_true rfl) rfl dX8_readNumber_1 (fun H locs hP hD hS => ?_)
  refine lv_istore_n (lv' := [(2, .int r1), (0, .ref (ad 12 4)), (1, .ref (ad 12 (p1 + 7)))]) hx hb dX8_readNumber_4 rfl hl (by decide) rfl (fun ls hl => ?_)
  refine lv_iload_n hx hb dX8_readNumber_5 rfl (lv_at hl 0 rfl) ?_
  refine lv_iconst (v := (-1)) hx hb dX8_readNumber_6 (by decide) ?_
  refine lv_icmp_ne (tgt := 12) hx hb dX8_readNumber_7 (by decide) (fun h4 => ?_) (fun h4 => ?_)
  · replace hF := (if_neg h4).symm.trans hF
    refine lv_aload_n hx hb dX8_readNumber_12 rfl (lv_at hl 1 rfl) ?_
    refine lv_dup hx hb dX8_readNumber_13 rfl ?_
    refine get' (ci := 10) (fs := [.ref (ad 12 5), .int (((x 12) 4) 1), .int (((x 12) 4) 2), .ref (ad 12 6), .int (((x 12) 4) 4)]) (v := .int (((x 12) 4) 2)) hx hb hw inWX8 hown hK hP (gY (x := x) (r := 4) (f := ((x 12) 4)) (by decide) ((congrFun rfl _).trans rfl)) rfl 2 (by decide) k_296 rfl rfl dX8_readNumber_14 ?_
    refine lv_iconst (v := 1) hx hb dX8_readNumber_17 (by decide) ?_
    refine lv_iadd hx hb dX8_readNumber_18 ?_
    refine put' (ci := 10) (fs := [.ref (ad 12 5), .int (((x 12) 4) 1), .int (((x 12) 4) 2), .ref (ad 12 6), .int (((x 12) 4) 4)]) (v := .int ((((x 12) 4) 2) + 1)) (ty := .int) (ws' := (cW cy ad en (va_up x 12 (va_up (x 12) 4 (upd ((x 12) 4) 2 ((((x 12) 4) 2) + 1)))))) hx hb hw inWX8 tyX8 tyX8_ok nmX8 hown hK hP hD hS (gY (x := x) (r := 4) (f := ((x 12) 4)) (by decide) ((congrFun rfl _).trans rfl)) rfl 2 (by decide) k_296 rfl rfl (by decide +kernel) rfl rfl (Nat.le_of_ble_eq_true rfl) dX8_readNumber_19 ((sY (x := x) (r := 4) (g := (upd ((x 12) 4) 2 ((((x 12) 4) 2) + 1))) (by decide)).trans (congrArg (fun z => cW cy ad en (va_up x 12 (va_up z 4 (upd ((x 12) 4) 2 ((((x 12) 4) 2) + 1))))) rfl)) (fun H locs hP hD hS => ?_)
    refine lv_aload_n hx hb dX8_readNumber_22 rfl (lv_at hl 1 rfl) ?_
    obtain ⟨r5, hc7, hF⟩ := bind_some hF
    try dsimp only at hF
    refine cV_i (As := []) (rest := []) hx hb hml hown hw hK hN hA hl.1 hP hD hS k_1144 k_1146 k_24 k_82 k_1147 (met_X8_nextDigit l D cy _ ad en g (va_up x 12 (va_up (x 12) 4 (upd ((x 12) 4) 2 ((((x 12) 4) 2) + 1)))) r5 hc7) (fun _ _ _ => trivial) Xok_T (gY (x := (va_up x 12 (va_up (x 12) 4 (upd ((x 12) 4) 2 ((((x 12) 4) 2) + 1))))) (r := 4) (f := (upd ((x 12) 4) 2 ((((x 12) 4) 2) + 1))) (by decide) ((congrFun (va_up_self _ _ _) _).trans (va_up_self _ _ _))) rfl ⟨rfl, rfl⟩ (n := 0) (by decide +kernel) rfl ⟨Nat.le_of_ble_eq_true rfl, Nat.le_of_ble_eq_true rfl⟩ ⟨Nat.le_of_ble_eq_true rfl, Nat.le_of_ble_eq_true rfl⟩ (Nat.le_of_ble_eq_true rfl) rfl dX8_readNumber_23 (fun H locs hP hD hS => ?_)
    refine lv_istore_n (lv' := [(3, .int r5), (2, .int r1), (0, .ref (ad 12 4)), (1, .ref (ad 12 (p1 + 7)))]) hx hb dX8_readNumber_26 rfl hl (by decide) rfl (fun ls hl => ?_)
    refine lv_iload_n hx hb dX8_readNumber_27 rfl (lv_at hl 0 rfl) ?_
    refine lv_iconst (v := (-1)) hx hb dX8_readNumber_28 (by decide) ?_
    refine lv_icmp_eq (tgt := 49) hx hb dX8_readNumber_29 (by decide) (fun h8 => ?_) (fun h8 => ?_)
    · replace hF := (if_pos h8).symm.trans hF
      refine lv_aload_n hx hb dX8_readNumber_49 rfl (lv_at hl 3 rfl) ?_
      refine lv_iload_n hx hb dX8_readNumber_50 rfl (lv_at hl 1 rfl) ?_
      obtain ⟨⟨r9, o10⟩, hc11, hF⟩ := bind_some hF
      try dsimp only at hF
      refine cV_i (As := [.int r1]) (rest := []) hx hb hml hown hw hK hN hA hl.1 hP hD hS k_1148 k_1149 k_1150 k_83 k_1151 (met_X5_add l D cy _ ad en g (va_up x 12 (va_up (x 12) 4 (upd ((x 12) 4) 2 ((((x 12) 4) 2) + 1)))) p1 hp1 r1 r9 o10 hc11) (fun _ _ _ => trivial) Xok_T (gYord (x := (va_up x 12 (va_up (x 12) 4 (upd ((x 12) 4) 2 ((((x 12) 4) 2) + 1))))) (j := p1) (f := ((x 12) (p1 + 7))) hp1 ((congrFun (va_up_self _ _ _) _).trans ((va_up_ne _ _ (by omega)).trans rfl))) rfl ⟨rfl, rfl⟩ (n := 1) (by decide +kernel) rfl ⟨Nat.le_of_ble_eq_true rfl, Nat.le_of_ble_eq_true rfl⟩ ⟨Nat.le_of_ble_eq_true rfl, Nat.le_of_ble_eq_true rfl⟩ (Nat.le_of_ble_eq_true rfl) rfl dX8_readNumber_51 (fun H locs hP hD hS => ?_)
      obtain ⟨hg12, hF⟩ := ite_some hF
      cases hF
      exact hret _ _ _ _ _ _ hP hD hS rfl rfl (nar_z (is01_iff.mp hg12)) dX8_readNumber_54
    · replace hF := (if_neg h8).symm.trans hF
      refine lv_bipush (v := 10) hx hb dX8_readNumber_32 (by decide) ?_
      refine lv_iload_n hx hb dX8_readNumber_34 rfl (lv_at hl 1 rfl) ?_
      refine lv_imul hx hb dX8_readNumber_35 ?_
      refine lv_iload_n hx hb dX8_readNumber_36 rfl (lv_at hl 0 rfl) ?_
      refine lv_iadd hx hb dX8_readNumber_37 ?_
      refine lv_istore_n (lv' := [(2, .int ((10 * r1) + r5)), (3, .int r5), (0, .ref (ad 12 4)), (1, .ref (ad 12 (p1 + 7)))]) hx hb dX8_readNumber_38 rfl hl (by decide) rfl (fun ls hl => ?_)
      refine lv_aload_n hx hb dX8_readNumber_39 rfl (lv_at hl 2 rfl) ?_
      refine lv_dup hx hb dX8_readNumber_40 rfl ?_
      refine get' (ci := 10) (fs := [.ref (ad 12 5), .int ((upd ((x 12) 4) 2 ((((x 12) 4) 2) + 1)) 1), .int ((upd ((x 12) 4) 2 ((((x 12) 4) 2) + 1)) 2), .ref (ad 12 6), .int ((upd ((x 12) 4) 2 ((((x 12) 4) 2) + 1)) 4)]) (v := .int ((((x 12) 4) 2) + 1)) hx hb hw inWX8 hown hK hP (gY (x := (va_up x 12 (va_up (x 12) 4 (upd ((x 12) 4) 2 ((((x 12) 4) 2) + 1))))) (r := 4) (f := (upd ((x 12) 4) 2 ((((x 12) 4) 2) + 1))) (by decide) ((congrFun (va_up_self _ _ _) _).trans (va_up_self _ _ _))) rfl 2 (by decide) k_296 rfl rfl dX8_readNumber_41 ?_
      refine lv_iconst (v := 1) hx hb dX8_readNumber_44 (by decide) ?_
      refine lv_iadd hx hb dX8_readNumber_45 ?_
      refine put' (ci := 10) (fs := [.ref (ad 12 5), .int ((upd ((x 12) 4) 2 ((((x 12) 4) 2) + 1)) 1), .int ((upd ((x 12) 4) 2 ((((x 12) 4) 2) + 1)) 2), .ref (ad 12 6), .int ((upd ((x 12) 4) 2 ((((x 12) 4) 2) + 1)) 4)]) (v := .int (((((x 12) 4) 2) + 1) + 1)) (ty := .int) (ws' := (cW cy ad en (va_up x 12 (va_up (x 12) 4 (upd (upd ((x 12) 4) 2 ((((x 12) 4) 2) + 1)) 2 (((((x 12) 4) 2) + 1) + 1)))))) hx hb hw inWX8 tyX8 tyX8_ok nmX8 hown hK hP hD hS (gY (x := (va_up x 12 (va_up (x 12) 4 (upd ((x 12) 4) 2 ((((x 12) 4) 2) + 1))))) (r := 4) (f := (upd ((x 12) 4) 2 ((((x 12) 4) 2) + 1))) (by decide) ((congrFun (va_up_self _ _ _) _).trans (va_up_self _ _ _))) rfl 2 (by decide) k_296 rfl rfl (by decide +kernel) rfl rfl (Nat.le_of_ble_eq_true rfl) dX8_readNumber_46 ((sT (x := x) (r := 4) (o := (va_up (x 12) 4 (upd ((x 12) 4) 2 ((((x 12) 4) 2) + 1)))) (g := (upd (upd ((x 12) 4) 2 ((((x 12) 4) 2) + 1)) 2 (((((x 12) 4) 2) + 1) + 1))) (by decide)).trans (congrArg (fun z => cW cy ad en (va_up x 12 z)) (up_up _ _ _ _))) (fun H locs hP hD hS => ?_)
      refine lv_aload_n hx hb dX8_readNumber_49 rfl (lv_at hl 3 rfl) ?_
      refine lv_iload_n hx hb dX8_readNumber_50 rfl (lv_at hl 0 rfl) ?_
      obtain ⟨⟨r13, o14⟩, hc15, hF⟩ := bind_some hF
      try dsimp only at hF
      refine cV_i (As := [.int ((10 * r1) + r5)]) (rest := []) hx hb hml hown hw hK hN hA hl.1 hP hD hS k_1148 k_1149 k_1150 k_83 k_1151 (met_X5_add l D cy _ ad en g (va_up x 12 (va_up (x 12) 4 (upd (upd ((x 12) 4) 2 ((((x 12) 4) 2) + 1)) 2 (((((x 12) 4) 2) + 1) + 1)))) p1 hp1 ((10 * r1) + r5) r13 o14 hc15) (fun _ _ _ => trivial) Xok_T (gYord (x := (va_up x 12 (va_up (x 12) 4 (upd (upd ((x 12) 4) 2 ((((x 12) 4) 2) + 1)) 2 (((((x 12) 4) 2) + 1) + 1))))) (j := p1) (f := ((x 12) (p1 + 7))) hp1 ((congrFun (va_up_self _ _ _) _).trans ((va_up_ne _ _ (by omega)).trans rfl))) rfl ⟨rfl, rfl⟩ (n := 1) (by decide +kernel) rfl ⟨Nat.le_of_ble_eq_true rfl, Nat.le_of_ble_eq_true rfl⟩ ⟨Nat.le_of_ble_eq_true rfl, Nat.le_of_ble_eq_true rfl⟩ (Nat.le_of_ble_eq_true rfl) rfl dX8_readNumber_51 (fun H locs hP hD hS => ?_)
      obtain ⟨hg16, hF⟩ := ite_some hF
      cases hF
      exact hret _ _ _ _ _ _ hP hD hS rfl rfl (nar_z (is01_iff.mp hg16)) dX8_readNumber_54
  · replace hF := (if_pos h4).symm.trans hF
    refine lv_iconst (v := 0) hx hb dX8_readNumber_10 (by decide) ?_
    cases hF
    exact hret _ _ _ _ _ _ hP hD hS rfl rfl rfl dX8_readNumber_11
def D_X8_readPart (x : Mem) (p1 : Int32) (p2 : Nat) : Option (Int32 × (Mem)) := if p1 = 35 then ((D_X8_readDigit x p2 1).bind (fun (r41, o42) => if is01 r41 then (some (r41, o42)) else none)) else (if p1 = 37 then ((D_X8_readNumber x p2).bind (fun (r37, o38) => if is01 r37 then (some (r37, o38)) else none)) else (if p1 = 126 then ((D_X8_readSign x 45).bind (fun (r25, o26) => if r25 = 0 then ((D_X8_readDigit o26 p2 1).bind (fun (r29, o30) => if is01 r29 then (some (r29, o30)) else none)) else ((D_X8_readDigit o26 p2 (-1)).bind (fun (r33, o34) => if is01 r33 then (some (r33, o34)) else none)))) else (if p1 = 33 then ((D_X8_readSign x 45).bind (fun (r9, o10) => if r9 = 0 then ((D_X8_readSign o10 62).bind (fun (r13, o14) => if r13 = 0 then (some (0, o14)) else ((D_X8_readDigit o14 p2 1).bind (fun (r17, o18) => if r17 = 0 then (some (0, o18)) else (some (1, o18)))))) else ((D_X5_add o10 p2 (-1)).bind (fun (r21, o22) => if is01 r21 then (some (r21, o22)) else none)))) else ((D_X8_readSign x p1).bind (fun (r5, o6) => if is01 r5 then (some (r5, o6)) else none)))))
abbrev rm_X8_readPart : Room := { frames := 3, cells := 0, slots := 0, locals := 65 }
set_option maxHeartbeats 4000000 in
set_option maxRecDepth 100000 in
theorem met_X8_readPart (l : Launch) (D : va_G) (cy : Nat → ClassId) (sz : Nat) (ad : Nat → Nat → Nat) (en g : Nat → Nat) (x : Mem) (p1 : Int32) (p2 : Nat) (hp2 : p2 + 7 < 19)  (r : Int32) (t' : Mem) (hF : D_X8_readPart x p1 p2 = some (r, t')) : MI l yX8_readPart cX8_readPart 3 (some .boolean) rm_X8_readPart D cy (cW cy ad en x) sz (fun _ => True) [.ref (ad 12 4), .int p1, .ref (ad 12 (p2 + 7))] r (cW cy ad en t') := by
  refine MZ.of (by decide +kernel) (Nat.le_of_ble_eq_true rfl) ?_
  intro p e s m args below meth c A ls Q hAt _ hP hD hA hS hl hret
  obtain ⟨hx, hb, hr, hml, hown, hw, hlk, hK, hN⟩ := hAt
  have hown : s.vm.findClass "CloudDeeds$Tape" = some m.cls := hown
  have hl : lv_has ls 3 [(0, .ref (ad 12 4)), (1, .int p1), (2, .ref (ad 12 (p2 + 7)))] := hl
  refine lv_iload_n hx hb dX8_readPart_0 rfl (lv_at hl 1 rfl) ?_
  refine lv_bipush (v := 35) hx hb dX8_readPart_1 (by decide) ?_
  refine lv_icmp_ne (tgt := 13) hx hb dX8_readPart_3 (by decide) (fun h1 => ?_) (fun h1 => ?_)
  · replace hF := (if_neg h1).symm.trans hF
    refine lv_iload_n hx hb dX8_readPart_13 rfl (lv_at hl 1 rfl) ?_
    refine lv_bipush (v := 37) hx hb dX8_readPart_14 (by decide) ?_
    refine lv_icmp_ne (tgt := 25) hx hb dX8_readPart_16 (by decide) (fun h2 => ?_) (fun h2 => ?_)
    · replace hF := (if_neg h2).symm.trans hF
      refine lv_iload_n hx hb dX8_readPart_25 rfl (lv_at hl 1 rfl) ?_
      refine lv_bipush (v := 126) hx hb dX8_readPart_26 (by decide) ?_
      refine lv_icmp_ne (tgt := 51) hx hb dX8_readPart_28 (by decide) (fun h3 => ?_) (fun h3 => ?_)
      · replace hF := (if_neg h3).symm.trans hF
        refine lv_iload_n hx hb dX8_readPart_51 rfl (lv_at hl 1 rfl) ?_
        refine lv_bipush (v := 33) hx hb dX8_readPart_52 (by decide) ?_
        refine lv_icmp_ne (tgt := 98) hx hb dX8_readPart_54 (by decide) (fun h4 => ?_) (fun h4 => ?_)
        · replace hF := (if_neg h4).symm.trans hF
          refine lv_aload_n hx hb dX8_readPart_98 rfl (lv_at hl 0 rfl) ?_
          refine lv_iload_n hx hb dX8_readPart_99 rfl (lv_at hl 1 rfl) ?_
          obtain ⟨⟨r5, o6⟩, hc7, hF⟩ := bind_some hF
          try dsimp only at hF
          refine cV_i (As := [.int p1]) (rest := []) hx hb hml hown hw hK hN hA hl.1 hP hD hS k_1157 k_1159 k_26 k_82 k_1160 (met_X8_readSign l D cy _ ad en g x p1 r5 o6 hc7) (fun _ _ _ => trivial) Xok_T (gY (x := x) (r := 4) (f := ((x 12) 4)) (by decide) ((congrFun rfl _).trans rfl)) rfl ⟨rfl, rfl⟩ (n := 1) (by decide +kernel) rfl ⟨Nat.le_of_ble_eq_true rfl, Nat.le_of_ble_eq_true rfl⟩ ⟨Nat.le_of_ble_eq_true rfl, Nat.le_of_ble_eq_true rfl⟩ (Nat.le_of_ble_eq_true rfl) rfl dX8_readPart_100 (fun H locs hP hD hS => ?_)
          obtain ⟨hg8, hF⟩ := ite_some hF
          cases hF
          exact hret _ _ _ _ _ _ hP hD hS rfl rfl (nar_z (is01_iff.mp hg8)) dX8_readPart_103
        · replace hF := (if_pos h4).symm.trans hF
          refine lv_aload_n hx hb dX8_readPart_57 rfl (lv_at hl 0 rfl) ?_
          refine lv_bipush (v := 45) hx hb dX8_readPart_58 (by decide) ?_
          obtain ⟨⟨r9, o10⟩, hc11, hF⟩ := bind_some hF
          try dsimp only at hF
          refine cV_i (As := [.int 45]) (rest := []) hx hb hml hown hw hK hN hA hl.1 hP hD hS k_1157 k_1159 k_26 k_82 k_1160 (met_X8_readSign l D cy _ ad en g x 45 r9 o10 hc11) (fun _ _ _ => trivial) Xok_T (gY (x := x) (r := 4) (f := ((x 12) 4)) (by decide) ((congrFun rfl _).trans rfl)) rfl ⟨rfl, rfl⟩ (n := 1) (by decide +kernel) rfl ⟨Nat.le_of_ble_eq_true rfl, Nat.le_of_ble_eq_true rfl⟩ ⟨Nat.le_of_ble_eq_true rfl, Nat.le_of_ble_eq_true rfl⟩ (Nat.le_of_ble_eq_true rfl) rfl dX8_readPart_60 (fun H locs hP hD hS => ?_)
          refine lv_if_eq (tgt := 74) hx hb dX8_readPart_63 (by decide) (fun h12 => ?_) (fun h12 => ?_)
          · replace hF := (if_pos h12).symm.trans hF
            refine lv_aload_n hx hb dX8_readPart_74 rfl (lv_at hl 0 rfl) ?_
            refine lv_bipush (v := 62) hx hb dX8_readPart_75 (by decide) ?_
            obtain ⟨⟨r13, o14⟩, hc15, hF⟩ := bind_some hF
            try dsimp only at hF
            refine cV_i (As := [.int 62]) (rest := []) hx hb hml hown hw hK hN hA hl.1 hP hD hS k_1157 k_1159 k_26 k_82 k_1160 (met_X8_readSign l D cy _ ad en g o10 62 r13 o14 hc15) (fun _ _ _ => trivial) Xok_T (gY (x := o10) (r := 4) (f := ((o10 12) 4)) (by decide) ((congrFun rfl _).trans rfl)) rfl ⟨rfl, rfl⟩ (n := 1) (by decide +kernel) rfl ⟨Nat.le_of_ble_eq_true rfl, Nat.le_of_ble_eq_true rfl⟩ ⟨Nat.le_of_ble_eq_true rfl, Nat.le_of_ble_eq_true rfl⟩ (Nat.le_of_ble_eq_true rfl) rfl dX8_readPart_77 (fun H locs hP hD hS => ?_)
            refine lv_if_eq (tgt := 96) hx hb dX8_readPart_80 (by decide) (fun h16 => ?_) (fun h16 => ?_)
            · replace hF := (if_pos h16).symm.trans hF
              refine lv_iconst (v := 0) hx hb dX8_readPart_96 (by decide) ?_
              cases hF
              exact hret _ _ _ _ _ _ hP hD hS rfl rfl rfl dX8_readPart_97
            · replace hF := (if_neg h16).symm.trans hF
              refine lv_aload_n hx hb dX8_readPart_83 rfl (lv_at hl 0 rfl) ?_
              refine lv_aload_n hx hb dX8_readPart_84 rfl (lv_at hl 2 rfl) ?_
              refine lv_iconst (v := 1) hx hb dX8_readPart_85 (by decide) ?_
              obtain ⟨⟨r17, o18⟩, hc19, hF⟩ := bind_some hF
              try dsimp only at hF
              refine cV_i (As := [.ref (ad 12 (p2 + 7)), .int 1]) (rest := []) hx hb hml hown hw hK hN hA hl.1 hP hD hS k_1140 k_1142 k_23 k_82 k_1143 (met_X8_readDigit l D cy _ ad en g o14 p2 hp2 1 r17 o18 hc19) (fun _ _ _ => trivial) Xok_T (gY (x := o14) (r := 4) (f := ((o14 12) 4)) (by decide) ((congrFun rfl _).trans rfl)) rfl ⟨rfl, rfl⟩ (n := 2) (by decide +kernel) rfl ⟨Nat.le_of_ble_eq_true rfl, Nat.le_of_ble_eq_true rfl⟩ ⟨Nat.le_of_ble_eq_true rfl, Nat.le_of_ble_eq_true rfl⟩ (Nat.le_of_ble_eq_true rfl) rfl dX8_readPart_86 (fun H locs hP hD hS => ?_)
              refine lv_if_eq (tgt := 96) hx hb dX8_readPart_89 (by decide) (fun h20 => ?_) (fun h20 => ?_)
              · replace hF := (if_pos h20).symm.trans hF
                refine lv_iconst (v := 0) hx hb dX8_readPart_96 (by decide) ?_
                cases hF
                exact hret _ _ _ _ _ _ hP hD hS rfl rfl rfl dX8_readPart_97
              · replace hF := (if_neg h20).symm.trans hF
                refine lv_iconst (v := 1) hx hb dX8_readPart_92 (by decide) ?_
                refine lv_goto (tgt := 97) hx hb dX8_readPart_93 (by decide) ?_
                cases hF
                exact hret _ _ _ _ _ _ hP hD hS rfl rfl rfl dX8_readPart_97
          · replace hF := (if_neg h12).symm.trans hF
            refine lv_aload_n hx hb dX8_readPart_66 rfl (lv_at hl 2 rfl) ?_
            refine lv_iconst (v := (-1)) hx hb dX8_readPart_67 (by decide) ?_
            obtain ⟨⟨r21, o22⟩, hc23, hF⟩ := bind_some hF
            try dsimp only at hF
            refine cV_i (As := [.int (-1)]) (rest := []) hx hb hml hown hw hK hN hA hl.1 hP hD hS k_1148 k_1149 k_1150 k_83 k_1151 (met_X5_add l D cy _ ad en g o10 p2 hp2 (-1) r21 o22 hc23) (fun _ _ _ => trivial) Xok_T (gYord (x := o10) (j := p2) (f := ((o10 12) (p2 + 7))) hp2 ((congrFun rfl _).trans rfl)) rfl ⟨rfl, rfl⟩ (n := 1) (by decide +kernel) rfl ⟨Nat.le_of_ble_eq_true rfl, Nat.le_of_ble_eq_true rfl⟩ ⟨Nat.le_of_ble_eq_true rfl, Nat.le_of_ble_eq_true rfl⟩ (Nat.le_of_ble_eq_true rfl) rfl dX8_readPart_68 (fun H locs hP hD hS => ?_)
            refine lv_goto (tgt := 97) hx hb dX8_readPart_71 (by decide) ?_
            obtain ⟨hg24, hF⟩ := ite_some hF
            cases hF
            exact hret _ _ _ _ _ _ hP hD hS rfl rfl (nar_z (is01_iff.mp hg24)) dX8_readPart_97
      · replace hF := (if_pos h3).symm.trans hF
        refine lv_aload_n hx hb dX8_readPart_31 rfl (lv_at hl 0 rfl) ?_
        refine lv_aload_n hx hb dX8_readPart_32 rfl (lv_at hl 2 rfl) ?_
        refine lv_aload_n hx hb dX8_readPart_33 rfl (lv_at hl 0 rfl) ?_
        refine lv_bipush (v := 45) hx hb dX8_readPart_34 (by decide) ?_
        obtain ⟨⟨r25, o26⟩, hc27, hF⟩ := bind_some hF
        try dsimp only at hF
        refine cV_i (As := [.int 45]) (rest := [.ref (ad 12 (p2 + 7)), .ref (ad 12 4)]) hx hb hml hown hw hK hN hA hl.1 hP hD hS k_1157 k_1159 k_26 k_82 k_1160 (met_X8_readSign l D cy _ ad en g x 45 r25 o26 hc27) (fun _ _ _ => trivial) Xok_T (gY (x := x) (r := 4) (f := ((x 12) 4)) (by decide) ((congrFun rfl _).trans rfl)) rfl ⟨rfl, rfl⟩ (n := 1) (by decide +kernel) rfl ⟨Nat.le_of_ble_eq_true rfl, Nat.le_of_ble_eq_true rfl⟩ ⟨Nat.le_of_ble_eq_true rfl, Nat.le_of_ble_eq_true rfl⟩ (Nat.le_of_ble_eq_true rfl) rfl dX8_readPart_36 (fun H locs hP hD hS => ?_)
        refine lv_if_eq (tgt := 46) hx hb dX8_readPart_39 (by decide) (fun h28 => ?_) (fun h28 => ?_)
        · replace hF := (if_pos h28).symm.trans hF
          refine lv_iconst (v := 1) hx hb dX8_readPart_46 (by decide) ?_
          obtain ⟨⟨r29, o30⟩, hc31, hF⟩ := bind_some hF
          try dsimp only at hF
          refine cV_i (As := [.ref (ad 12 (p2 + 7)), .int 1]) (rest := []) hx hb hml hown hw hK hN hA hl.1 hP hD hS k_1140 k_1142 k_23 k_82 k_1143 (met_X8_readDigit l D cy _ ad en g o26 p2 hp2 1 r29 o30 hc31) (fun _ _ _ => trivial) Xok_T (gY (x := o26) (r := 4) (f := ((o26 12) 4)) (by decide) ((congrFun rfl _).trans rfl)) rfl ⟨rfl, rfl⟩ (n := 2) (by decide +kernel) rfl ⟨Nat.le_of_ble_eq_true rfl, Nat.le_of_ble_eq_true rfl⟩ ⟨Nat.le_of_ble_eq_true rfl, Nat.le_of_ble_eq_true rfl⟩ (Nat.le_of_ble_eq_true rfl) rfl dX8_readPart_47 (fun H locs hP hD hS => ?_)
          obtain ⟨hg32, hF⟩ := ite_some hF
          cases hF
          exact hret _ _ _ _ _ _ hP hD hS rfl rfl (nar_z (is01_iff.mp hg32)) dX8_readPart_50
        · replace hF := (if_neg h28).symm.trans hF
          refine lv_iconst (v := (-1)) hx hb dX8_readPart_42 (by decide) ?_
          refine lv_goto (tgt := 47) hx hb dX8_readPart_43 (by decide) ?_
          obtain ⟨⟨r33, o34⟩, hc35, hF⟩ := bind_some hF
          try dsimp only at hF
          refine cV_i (As := [.ref (ad 12 (p2 + 7)), .int (-1)]) (rest := []) hx hb hml hown hw hK hN hA hl.1 hP hD hS k_1140 k_1142 k_23 k_82 k_1143 (met_X8_readDigit l D cy _ ad en g o26 p2 hp2 (-1) r33 o34 hc35) (fun _ _ _ => trivial) Xok_T (gY (x := o26) (r := 4) (f := ((o26 12) 4)) (by decide) ((congrFun rfl _).trans rfl)) rfl ⟨rfl, rfl⟩ (n := 2) (by decide +kernel) rfl ⟨Nat.le_of_ble_eq_true rfl, Nat.le_of_ble_eq_true rfl⟩ ⟨Nat.le_of_ble_eq_true rfl, Nat.le_of_ble_eq_true rfl⟩ (Nat.le_of_ble_eq_true rfl) rfl dX8_readPart_47 (fun H locs hP hD hS => ?_)
          obtain ⟨hg36, hF⟩ := ite_some hF
          cases hF
          exact hret _ _ _ _ _ _ hP hD hS rfl rfl (nar_z (is01_iff.mp hg36)) dX8_readPart_50
    · replace hF := (if_pos h2).symm.trans hF
      refine lv_aload_n hx hb dX8_readPart_19 rfl (lv_at hl 0 rfl) ?_
      refine lv_aload_n hx hb dX8_readPart_20 rfl (lv_at hl 2 rfl) ?_
      obtain ⟨⟨r37, o38⟩, hc39, hF⟩ := bind_some hF
      try dsimp only at hF
      refine cV_i (As := [.ref (ad 12 (p2 + 7))]) (rest := []) hx hb hml hown hw hK hN hA hl.1 hP hD hS k_1153 k_1155 k_25 k_82 k_1156 (met_X8_readNumber l D cy _ ad en g x p2 hp2 r37 o38 hc39) (fun _ _ _ => trivial) Xok_T (gY (x := x) (r := 4) (f := ((x 12) 4)) (by decide) ((congrFun rfl _).trans rfl)) rfl ⟨rfl, rfl⟩ (n := 1) (by decide +kernel) rfl ⟨Nat.le_of_ble_eq_true rfl, Nat.le_of_ble_eq_true rfl⟩ ⟨Nat.le_of_ble_eq_true rfl, Nat.le_of_ble_eq_true rfl⟩ (Nat.le_of_ble_eq_true rfl) rfl dX8_readPart_21 (fun H locs hP hD hS => ?_)
      obtain ⟨hg40, hF⟩ := ite_some hF
      cases hF
      exact hret _ _ _ _ _ _ hP hD hS rfl rfl (nar_z (is01_iff.mp hg40)) dX8_readPart_24
  · replace hF := (if_pos h1).symm.trans hF
    refine lv_aload_n hx hb dX8_readPart_6 rfl (lv_at hl 0 rfl) ?_
    refine lv_aload_n hx hb dX8_readPart_7 rfl (lv_at hl 2 rfl) ?_
    refine lv_iconst (v := 1) hx hb dX8_readPart_8 (by decide) ?_
    obtain ⟨⟨r41, o42⟩, hc43, hF⟩ := bind_some hF
    try dsimp only at hF
    refine cV_i (As := [.ref (ad 12 (p2 + 7)), .int 1]) (rest := []) hx hb hml hown hw hK hN hA hl.1 hP hD hS k_1140 k_1142 k_23 k_82 k_1143 (met_X8_readDigit l D cy _ ad en g x p2 hp2 1 r41 o42 hc43) (fun _ _ _ => trivial) Xok_T (gY (x := x) (r := 4) (f := ((x 12) 4)) (by decide) ((congrFun rfl _).trans rfl)) rfl ⟨rfl, rfl⟩ (n := 2) (by decide +kernel) rfl ⟨Nat.le_of_ble_eq_true rfl, Nat.le_of_ble_eq_true rfl⟩ ⟨Nat.le_of_ble_eq_true rfl, Nat.le_of_ble_eq_true rfl⟩ (Nat.le_of_ble_eq_true rfl) rfl dX8_readPart_9 (fun H locs hP hD hS => ?_)
    obtain ⟨hg44, hF⟩ := ite_some hF
    cases hF
    exact hret _ _ _ _ _ _ hP hD hS rfl rfl (nar_z (is01_iff.mp hg44)) dX8_readPart_12
def L_X8_readForm_2 : Nat → (Mem) → (Nat) → (Nat) → (Int32) → (Mem) → Option (Int32 × (Mem))
  | 0, _, _, _, _, _ => none
  | n2 + 1, x, p1, p2, i3h2, s2 => if (D_J0_length_8abf5 p1) ≤ i3h2 then (some (1, s2)) else ((D_J0_charAt_5068e p1 i3h2).bind (fun r5 => (D_X8_readPart s2 r5 p2).bind (fun (r8, o9) => if r8 = 0 then (some (0, o9)) else (L_X8_readForm_2 n2 x p1 p2 (i3h2 + 1) o9))))
def D_X8_readForm (x : Mem) (p1 : Nat) (p2 : Nat) : Option (Int32 × (Mem)) := L_X8_readForm_2 200 x p1 p2 0 x
abbrev rm_X8_readForm : Room := { frames := 6, cells := 0, slots := 0, locals := 136 }
set_option maxHeartbeats 4000000 in
set_option maxRecDepth 100000 in
theorem met_X8_readForm (l : Launch) (D : va_G) (cy : Nat → ClassId) (sz : Nat) (ad : Nat → Nat → Nat) (en g : Nat → Nat) (x : Mem) (p1 : Nat) (hp1 : p1 < 9) (p2 : Nat) (hp2 : p2 + 7 < 19)  (r : Int32) (t' : Mem) (hF : D_X8_readForm x p1 p2 = some (r, t')) : MIS l yX8_readForm cX8_readForm 4 (some .boolean) rm_X8_readForm D cy en g (cW cy ad en x) sz [.ref (ad 12 4), .ref (g (100 + p1)), .ref (ad 12 (p2 + 7))] r (cW cy ad en t') := by
  refine MZS.of (by decide +kernel) (Nat.le_of_ble_eq_true rfl) ?_
  intro p e s m args below meth c A ls Q hAt hST hP hD hA hS hl hret
  obtain ⟨hx, hb, hr, hml, hown, hw, hlk, hK, hN⟩ := hAt
  have hown : s.vm.findClass "CloudDeeds$Tape" = some m.cls := hown
  have hl : lv_has ls 4 [(0, .ref (ad 12 4)), (1, .ref (g (100 + p1))), (2, .ref (ad 12 (p2 + 7)))] := hl
  refine lv_iconst (v := 0) hx hb dX8_readForm_0 (by decide) ?_
  refine lv_istore_n (lv' := [(3, .int 0), (0, .ref (ad 12 4)), (1, .ref (g (100 + p1))), (2, .ref (ad 12 (p2 + 7)))]) hx hb dX8_readForm_1 rfl hl (by decide) rfl (fun ls hl => ?_)
  have loop2 : ∀ (n : Nat) (i3h2 : Int32) (s2 : Mem) (H : Heap) (locs : List Loc) (ls : Array Slot), L_X8_readForm_2 n x p1 p2 i3h2 s2 = some (r, t') → va_P D vwCl (cW cy ad en s2) H → va_D A (cW cy ad en s2) → va_S A s.heap H locs → lv_has ls 4 [(3, .int i3h2), (0, .ref (ad 12 4)), (1, .ref (g (100 + p1))), (2, .ref (ad 12 (p2 + 7)))] → W p l e rm_X8_readForm s m args below meth c H locs 0 0 Q (F0 m 2 ls []) := by
    intro n
    induction n with
    | zero => intro i3h2 s2 H locs ls hF _ _ _ _; exact absurd hF (by simp [L_X8_readForm_2])
    | succ n2 ih2 =>
      intro i3h2 s2 H locs ls hF hP hD hS hl
      refine lv_iload_n hx hb dX8_readForm_2 rfl (lv_at hl 0 rfl) ?_
      refine lv_aload_n hx hb dX8_readForm_3 rfl (lv_at hl 2 rfl) ?_
      refine cR_i (As := []) (rest := [.int i3h2]) hx hb hml hown hw hK hN hA hl.1 hP hD hS k_1127 k_1128 k_1129 k_88 k_1130 (met_J0_length_8abf5 l D cy _ en g (cW cy ad en s2) p1 hp1 (D_J0_length_8abf5 p1) rfl) (ST_call hST hS (free_all hD hS hA)) Xok_S (vk_recv hST.2.2.2.2.2.2.2.2.2.1 (i := p1) hp1 hS) ⟨rfl, rfl⟩ (n := 0) (by decide +kernel) rfl ⟨Nat.le_of_ble_eq_true rfl, Nat.le_of_ble_eq_true rfl⟩ ⟨Nat.le_of_ble_eq_true rfl, Nat.le_of_ble_eq_true rfl⟩ (Nat.le_of_ble_eq_true rfl) rfl dX8_readForm_4 (fun H locs hP hD hS => ?_)
      refine lv_icmp_ge (tgt := 31) hx hb dX8_readForm_7 (by decide) (fun h4 => ?_) (fun h4 => ?_)
      · replace hF := (if_pos h4).symm.trans hF
        refine lv_iconst (v := 1) hx hb dX8_readForm_31 (by decide) ?_
        cases hF
        exact hret _ _ _ _ _ _ hP hD hS rfl rfl rfl dX8_readForm_32
      · replace hF := (if_neg h4).symm.trans hF
        refine lv_aload_n hx hb dX8_readForm_10 rfl (lv_at hl 1 rfl) ?_
        refine lv_aload_n hx hb dX8_readForm_11 rfl (lv_at hl 2 rfl) ?_
        refine lv_iload_n hx hb dX8_readForm_12 rfl (lv_at hl 0 rfl) ?_
        obtain ⟨r5, hc7, hF⟩ := bind_some hF
        try dsimp only at hF
        refine cR_i (As := [.int i3h2]) (rest := [.ref (ad 12 4)]) hx hb hml hown hw hK hN hA hl.1 hP hD hS k_1135 k_1081 k_1082 k_88 k_1083 (met_J0_charAt_5068e l D cy _ en g (cW cy ad en s2) p1 hp1 i3h2 r5 hc7) (ST_call hST hS (free_all hD hS hA)) Xok_S (vk_recv hST.2.2.2.2.2.2.2.2.2.1 (i := p1) hp1 hS) ⟨rfl, rfl⟩ (n := 1) (by decide +kernel) rfl ⟨Nat.le_of_ble_eq_true rfl, Nat.le_of_ble_eq_true rfl⟩ ⟨Nat.le_of_ble_eq_true rfl, Nat.le_of_ble_eq_true rfl⟩ (Nat.le_of_ble_eq_true rfl) rfl dX8_readForm_13 (fun H locs hP hD hS => ?_)
        refine lv_aload_n hx hb dX8_readForm_16 rfl (lv_at hl 3 rfl) ?_
        obtain ⟨⟨r8, o9⟩, hc10, hF⟩ := bind_some hF
        try dsimp only at hF
        refine cV_i (As := [.int r5, .ref (ad 12 (p2 + 7))]) (rest := []) hx hb hml hown hw hK hN hA hl.1 hP hD hS k_1136 k_1138 k_22 k_82 k_1139 (met_X8_readPart l D cy _ ad en g s2 r5 p2 hp2 r8 o9 hc10) (fun _ _ _ => trivial) Xok_T (gY (x := s2) (r := 4) (f := ((s2 12) 4)) (by decide) ((congrFun rfl _).trans rfl)) rfl ⟨rfl, rfl⟩ (n := 2) (by decide +kernel) rfl ⟨Nat.le_of_ble_eq_true rfl, Nat.le_of_ble_eq_true rfl⟩ ⟨Nat.le_of_ble_eq_true rfl, Nat.le_of_ble_eq_true rfl⟩ (Nat.le_of_ble_eq_true rfl) rfl dX8_readForm_17 (fun H locs hP hD hS => ?_)
        refine lv_if_ne (tgt := 25) hx hb dX8_readForm_20 (by decide) (fun h11 => ?_) (fun h11 => ?_)
        · replace hF := (if_neg h11).symm.trans hF
          refine lv_iinc (v := (i3h2 + 1)) (lv' := [(3, .int (i3h2 + 1)), (0, .ref (ad 12 4)), (1, .ref (g (100 + p1))), (2, .ref (ad 12 (p2 + 7)))]) hx hb dX8_readForm_25 hl (k := 0) rfl rfl (by decide) rfl (fun ls hl => ?_)
          refine lv_goto (tgt := 2) hx hb dX8_readForm_28 (by decide) ?_
          exact ih2 (i3h2 + 1) o9 _ _ _ hF hP hD hS (lv_sub hl [0, 1, 2, 3] rfl)
        · replace hF := (if_pos h11).symm.trans hF
          refine lv_iconst (v := 0) hx hb dX8_readForm_23 (by decide) ?_
          cases hF
          exact hret _ _ _ _ _ _ hP hD hS rfl rfl rfl dX8_readForm_24
  exact loop2 200 0 x _ _ _ hF hP hD hS (lv_sub hl [0, 1, 2, 3] rfl)
def L_X8_readOrder_2 : Nat → (Mem) → (Nat) → (Int32) → (Mem) → Option (Int32 × (Mem))
  | 0, _, _, _, _ => none
  | n2 + 1, x, p1, i2h2, s2 => if 9 ≤ i2h2 then (some (0, s2)) else (if inb i2h2 9 then ((D_X8_nextSign s2).bind (fun r3 => (D_X3_startsWith i2h2.toNatClampNeg r3).bind (fun r6 => if r6 = 0 then (L_X8_readOrder_2 n2 x p1 (i2h2 + 1) s2) else (if inb i2h2 9 then (if inb i2h2 9 then ((D_X8_readForm (D_X5_start s2 p1 i2h2.toNatClampNeg) i2h2.toNatClampNeg p1).bind (fun (r15, o16) => if is01 r15 then (some (r15, o16)) else none)) else none) else none)))) else none)
def D_X8_readOrder (x : Mem) (p1 : Nat) : Option (Int32 × (Mem)) := L_X8_readOrder_2 200 x p1 0 x
abbrev rm_X8_readOrder : Room := { frames := 7, cells := 0, slots := 0, locals := 159 }
set_option maxHeartbeats 4000000 in
set_option maxRecDepth 100000 in
theorem met_X8_readOrder (l : Launch) (D : va_G) (cy : Nat → ClassId) (sz : Nat) (ad : Nat → Nat → Nat) (en g : Nat → Nat) (x : Mem) (p1 : Nat) (hp1 : p1 + 7 < 19)  (r : Int32) (t' : Mem) (hF : D_X8_readOrder x p1 = some (r, t')) : MIS l yX8_readOrder cX8_readOrder 3 (some .boolean) rm_X8_readOrder D cy en g (cW cy ad en x) sz [.ref (ad 12 4), .ref (ad 12 (p1 + 7))] r (cW cy ad en t') := by
  refine MZS.of (by decide +kernel) (Nat.le_of_ble_eq_true rfl) ?_
  intro p e s m args below meth c A ls Q hAt hST hP hD hA hS hl hret
  obtain ⟨hx, hb, hr, hml, hown, hw, hlk, hK, hN⟩ := hAt
  have hown : s.vm.findClass "CloudDeeds$Tape" = some m.cls := hown
  have hl : lv_has ls 3 [(0, .ref (ad 12 4)), (1, .ref (ad 12 (p1 + 7)))] := hl
  refine lv_iconst (v := 0) hx hb dX8_readOrder_0 (by decide) ?_
  refine lv_istore_n (lv' := [(2, .int 0), (0, .ref (ad 12 4)), (1, .ref (ad 12 (p1 + 7)))]) hx hb dX8_readOrder_1 rfl hl (by decide) rfl (fun ls hl => ?_)
  have loop2 : ∀ (n : Nat) (i2h2 : Int32) (s2 : Mem) (H : Heap) (locs : List Loc) (ls : Array Slot), L_X8_readOrder_2 n x p1 i2h2 s2 = some (r, t') → va_P D vwCl (cW cy ad en s2) H → va_D A (cW cy ad en s2) → va_S A s.heap H locs → lv_has ls 3 [(2, .int i2h2), (0, .ref (ad 12 4)), (1, .ref (ad 12 (p1 + 7)))] → W p l e rm_X8_readOrder s m args below meth c H locs 0 0 Q (F0 m 2 ls []) := by
    intro n
    induction n with
    | zero => intro i2h2 s2 H locs ls hF _ _ _ _; exact absurd hF (by simp [L_X8_readOrder_2])
    | succ n2 ih2 =>
      intro i2h2 s2 H locs ls hF hP hD hS hl
      refine lv_iload_n hx hb dX8_readOrder_2 rfl (lv_at hl 0 rfl) ?_
      refine va_getsN (n := "KINDS") (v := .ref (g 0)) hx hb hST.2.2.2.2.1 hS hown (va_Nw.use rfl (hN _ n_1066)) (fun _ h9 => h9) dX8_readOrder_3 ?_
      refine va_tlen (v := 9) hx hb hST.2.2.2.2.2.1 hS (show Int32.ofNat 9 = 9 by decide) dX8_readOrder_6 ?_
      refine lv_icmp_ge (tgt := 54) hx hb dX8_readOrder_7 (by decide) (fun h1 => ?_) (fun h1 => ?_)
      · replace hF := (if_pos h1).symm.trans hF
        refine lv_iconst (v := 0) hx hb dX8_readOrder_54 (by decide) ?_
        cases hF
        exact hret _ _ _ _ _ _ hP hD hS rfl rfl rfl dX8_readOrder_55
      · replace hF := (if_neg h1).symm.trans hF
        refine va_getsN (n := "KINDS") (v := .ref (g 0)) hx hb hST.2.2.2.2.1 hS hown (va_Nw.use rfl (hN _ n_1066)) (fun _ h9 => h9) dX8_readOrder_10 ?_
        refine lv_iload_n hx hb dX8_readOrder_13 rfl (lv_at hl 0 rfl) ?_
        obtain ⟨h2, hF⟩ := ite_some hF
        refine vb_tq (v := .ref (en i2h2.toNatClampNeg)) hx hb hST.2.2.2.2.2.1 hS (vp_inb h2) rfl dX8_readOrder_14 ?_
        refine lv_aload_n hx hb dX8_readOrder_15 rfl (lv_at hl 1 rfl) ?_
        obtain ⟨r3, hc5, hF⟩ := bind_some hF
        try dsimp only at hF
        refine cV_i (As := []) (rest := [.ref (en i2h2.toNatClampNeg)]) hx hb hml hown hw hK hN hA hl.1 hP hD hS k_1068 k_1070 k_20 k_82 k_1071 (met_X8_nextSign l D cy _ ad en g s2 r3 hc5) (fun _ _ _ => trivial) Xok_T (gY (x := s2) (r := 4) (f := ((s2 12) 4)) (by decide) ((congrFun rfl _).trans rfl)) rfl ⟨rfl, rfl⟩ (n := 0) (by decide +kernel) rfl ⟨Nat.le_of_ble_eq_true rfl, Nat.le_of_ble_eq_true rfl⟩ ⟨Nat.le_of_ble_eq_true rfl, Nat.le_of_ble_eq_true rfl⟩ (Nat.le_of_ble_eq_true rfl) rfl dX8_readOrder_16 (fun H locs hP hD hS => ?_)
        obtain ⟨r6, hc8, hF⟩ := bind_some hF
        try dsimp only at hF
        refine cR_i (As := [.int r3]) (rest := []) hx hb hml hown hw hK hN hA hl.1 hP hD hS k_1072 k_1073 k_1074 k_85 k_1075 (met_X3_startsWith l D cy _ en g (cW cy ad en s2) i2h2.toNatClampNeg (inb_lt h2) r3 r6 hc8) (ST_call hST hS (free_all hD hS hA)) Xok_S (va_recvE hST.2.2.2.1 (i := i2h2.toNatClampNeg) (show i2h2.toNatClampNeg < nmKind.length from (inb_lt h2)) hS) ⟨rfl, rfl⟩ (n := 1) (by decide +kernel) rfl ⟨Nat.le_of_ble_eq_true rfl, Nat.le_of_ble_eq_true rfl⟩ ⟨Nat.le_of_ble_eq_true rfl, Nat.le_of_ble_eq_true rfl⟩ (Nat.le_of_ble_eq_true rfl) rfl dX8_readOrder_19 (fun H locs hP hD hS => ?_)
        refine lv_if_eq (tgt := 48) hx hb dX8_readOrder_22 (by decide) (fun h9 => ?_) (fun h9 => ?_)
        · replace hF := (if_pos h9).symm.trans hF
          refine lv_iinc (v := (i2h2 + 1)) (lv' := [(2, .int (i2h2 + 1)), (0, .ref (ad 12 4)), (1, .ref (ad 12 (p1 + 7)))]) hx hb dX8_readOrder_48 hl (k := 0) rfl rfl (by decide) rfl (fun ls hl => ?_)
          refine lv_goto (tgt := 2) hx hb dX8_readOrder_51 (by decide) ?_
          exact ih2 (i2h2 + 1) s2 _ _ _ hF hP hD hS (lv_sub hl [0, 1, 2] rfl)
        · replace hF := (if_neg h9).symm.trans hF
          refine lv_aload_n hx hb dX8_readOrder_25 rfl (lv_at hl 2 rfl) ?_
          refine va_getsN (n := "KINDS") (v := .ref (g 0)) hx hb hST.2.2.2.2.1 hS hown (va_Nw.use rfl (hN _ n_1066)) (fun _ h9 => h9) dX8_readOrder_26 ?_
          refine lv_iload_n hx hb dX8_readOrder_29 rfl (lv_at hl 0 rfl) ?_
          obtain ⟨h10, hF⟩ := ite_some hF
          refine vb_tq (v := .ref (en i2h2.toNatClampNeg)) hx hb hST.2.2.2.2.2.1 hS (vp_inb h10) rfl dX8_readOrder_30 ?_
          refine cV_v (As := [.ref (en i2h2.toNatClampNeg)]) (rest := []) hx hb hml hown hw hK hN hA hl.1 hP hD hS k_1119 k_1120 k_1121 k_83 k_1122 (met_X5_start l D cy _ ad en g s2 p1 hp1 i2h2.toNatClampNeg (inb_lt h10) (D_X5_start s2 p1 i2h2.toNatClampNeg) rfl) (fun _ _ _ => trivial) Xok_T (gYord (x := s2) (j := p1) (f := ((s2 12) (p1 + 7))) hp1 ((congrFun rfl _).trans rfl)) rfl ⟨rfl, rfl⟩ (n := 1) (by decide +kernel) rfl ⟨Nat.le_of_ble_eq_true rfl, Nat.le_of_ble_eq_true rfl⟩ ⟨Nat.le_of_ble_eq_true rfl, Nat.le_of_ble_eq_true rfl⟩ (Nat.le_of_ble_eq_true rfl) rfl dX8_readOrder_31 (fun H locs hP hD hS => ?_)
          refine lv_aload_n hx hb dX8_readOrder_34 rfl (lv_at hl 1 rfl) ?_
          refine va_getsN (n := "KINDS") (v := .ref (g 0)) hx hb hST.2.2.2.2.1 hS hown (va_Nw.use rfl (hN _ n_1066)) (fun _ h9 => h9) dX8_readOrder_35 ?_
          refine lv_iload_n hx hb dX8_readOrder_38 rfl (lv_at hl 0 rfl) ?_
          obtain ⟨h14, hF⟩ := ite_some hF
          refine vb_tq (v := .ref (en i2h2.toNatClampNeg)) hx hb hST.2.2.2.2.2.1 hS (vp_inb h14) rfl dX8_readOrder_39 ?_
          refine vk_getfN hx hb (hST.2.2.2.2.2.2.2.2.1 i2h2.toNatClampNeg (inb_lt h14)) hS hown (va_Nw.use rfl (hN _ n_2020)) (fun _ h9 => h9) dX8_readOrder_40 ?_
          refine lv_aload_n hx hb dX8_readOrder_43 rfl (lv_at hl 2 rfl) ?_
          obtain ⟨⟨r15, o16⟩, hc17, hF⟩ := bind_some hF
          try dsimp only at hF
          refine cV_i (As := [.ref (g (100 + i2h2.toNatClampNeg)), .ref (ad 12 (p1 + 7))]) (rest := []) hx hb hml hown hw hK hN hA hl.1 hP hD hS k_1123 k_1125 k_21 k_82 k_1126 (met_X8_readForm l D cy _ ad en g (D_X5_start s2 p1 i2h2.toNatClampNeg) i2h2.toNatClampNeg (inb_lt h14) p1 hp1 r15 o16 hc17) (ST_call hST hS (free_all hD hS hA)) Xok_S (gY (x := (D_X5_start s2 p1 i2h2.toNatClampNeg)) (r := 4) (f := (((D_X5_start s2 p1 i2h2.toNatClampNeg) 12) 4)) (by decide) ((congrFun rfl _).trans rfl)) rfl ⟨rfl, rfl⟩ (n := 2) (by decide +kernel) rfl ⟨Nat.le_of_ble_eq_true rfl, Nat.le_of_ble_eq_true rfl⟩ ⟨Nat.le_of_ble_eq_true rfl, Nat.le_of_ble_eq_true rfl⟩ (Nat.le_of_ble_eq_true rfl) rfl dX8_readOrder_44 (fun H locs hP hD hS => ?_)
          obtain ⟨hg18, hF⟩ := ite_some hF
          cases hF
          exact hret _ _ _ _ _ _ hP hD hS rfl rfl (nar_z (is01_iff.mp hg18)) dX8_readOrder_47
  exact loop2 200 0 x _ _ _ hF hP hD hS (lv_sub hl [0, 1, 2] rfl)
def L_X8_read_12 : Nat → (Mem) → (Int32) → (Mem) → Option (Int32 × (Mem))
  | 0, _, _, _ => none
  | n12 + 1, x, i1h12, s12 => if 12 ≤ i1h12 then (some ((((s12 12) 4) 2), s12)) else (if inb i1h12 12 then ((D_X8_readOrder s12 i1h12.toNatClampNeg).bind (fun (r4, o5) => if r4 = 0 then (some ((((o5 12) 4) 2), o5)) else (if (((o5 12) 4) 2) = (((o5 12) 4) 1) then (some ((-1), (va_up o5 12 (va_up (o5 12) 4 (upd ((o5 12) 4) 4 ((((o5 12) 4) 4) + 1)))))) else ((D_X8_readSign (va_up o5 12 (va_up (o5 12) 4 (upd ((o5 12) 4) 4 ((((o5 12) 4) 4) + 1)))) 59).bind (fun (r9, o10) => if r9 = 0 then (some ((((o10 12) 4) 2), o10)) else (L_X8_read_12 n12 x (i1h12 + 1) o10)))))) else none)
def D_X8_read (x : Mem) : Option (Int32 × (Mem)) := L_X8_read_12 200 x 0 (va_up x 12 (va_up (x 12) 4 (upd (upd ((x 12) 4) 2 0) 4 0)))
abbrev rm_X8_read : Room := { frames := 8, cells := 0, slots := 0, locals := 181 }
set_option maxHeartbeats 4000000 in
set_option maxRecDepth 100000 in
theorem met_X8_read (l : Launch) (D : va_G) (cy : Nat → ClassId) (sz : Nat) (ad : Nat → Nat → Nat) (en g : Nat → Nat) (x : Mem)  (r : Int32) (t' : Mem) (hF : D_X8_read x = some (r, t')) : MIS l yX8_read cX8_read 2 (some .int) rm_X8_read D cy en g (cW cy ad en x) sz [.ref (ad 12 4)] r (cW cy ad en t') := by
  refine MIS.of (by decide +kernel) (Nat.le_of_ble_eq_true rfl) ?_
  intro p e s m args below meth c A ls Q hAt hST hP hD hA hS hl hret
  obtain ⟨hx, hb, hr, hml, hown, hw, hlk, hK, hN⟩ := hAt
  have hown : s.vm.findClass "CloudDeeds$Tape" = some m.cls := hown
  have hl : lv_has ls 2 [(0, .ref (ad 12 4))] := hl
  refine lv_aload_n hx hb dX8_read_0 rfl (lv_at hl 0 rfl) ?_
  refine lv_iconst (v := 0) hx hb dX8_read_1 (by decide) ?_
  refine put' (ci := 10) (fs := [.ref (ad 12 5), .int (((x 12) 4) 1), .int (((x 12) 4) 2), .ref (ad 12 6), .int (((x 12) 4) 4)]) (v := .int 0) (ty := .int) (ws' := (cW cy ad en (va_up x 12 (va_up (x 12) 4 (upd ((x 12) 4) 2 0))))) hx hb hw inWX8 tyX8 tyX8_ok nmX8 hown hK hP hD hS (gY (x := x) (r := 4) (f := ((x 12) 4)) (by decide) ((congrFun rfl _).trans rfl)) rfl 2 (by decide) k_296 rfl rfl (by decide +kernel) rfl rfl (Nat.le_of_ble_eq_true rfl) dX8_read_2 ((sY (x := x) (r := 4) (g := (upd ((x 12) 4) 2 0)) (by decide)).trans (congrArg (fun z => cW cy ad en (va_up x 12 (va_up z 4 (upd ((x 12) 4) 2 0)))) rfl)) (fun H locs hP hD hS => ?_)
  refine lv_aload_n hx hb dX8_read_5 rfl (lv_at hl 0 rfl) ?_
  refine lv_iconst (v := 0) hx hb dX8_read_6 (by decide) ?_
  refine put' (ci := 10) (fs := [.ref (ad 12 5), .int ((upd ((x 12) 4) 2 0) 1), .int ((upd ((x 12) 4) 2 0) 2), .ref (ad 12 6), .int ((upd ((x 12) 4) 2 0) 4)]) (v := .int 0) (ty := .int) (ws' := (cW cy ad en (va_up x 12 (va_up (x 12) 4 (upd (upd ((x 12) 4) 2 0) 4 0))))) hx hb hw inWX8 tyX8 tyX8_ok nmX8 hown hK hP hD hS (gY (x := (va_up x 12 (va_up (x 12) 4 (upd ((x 12) 4) 2 0)))) (r := 4) (f := (upd ((x 12) 4) 2 0)) (by decide) ((congrFun (va_up_self _ _ _) _).trans (va_up_self _ _ _))) rfl 4 (by decide) k_299 rfl rfl (by decide +kernel) rfl rfl (Nat.le_of_ble_eq_true rfl) dX8_read_7 ((sT (x := x) (r := 4) (o := (va_up (x 12) 4 (upd ((x 12) 4) 2 0))) (g := (upd (upd ((x 12) 4) 2 0) 4 0)) (by decide)).trans (congrArg (fun z => cW cy ad en (va_up x 12 z)) (up_up _ _ _ _))) (fun H locs hP hD hS => ?_)
  refine lv_iconst (v := 0) hx hb dX8_read_10 (by decide) ?_
  refine lv_istore_n (lv' := [(1, .int 0), (0, .ref (ad 12 4))]) hx hb dX8_read_11 rfl hl (by decide) rfl (fun ls hl => ?_)
  have loop12 : ∀ (n : Nat) (i1h12 : Int32) (s12 : Mem) (H : Heap) (locs : List Loc) (ls : Array Slot), L_X8_read_12 n x i1h12 s12 = some (r, t') → va_P D vwCl (cW cy ad en s12) H → va_D A (cW cy ad en s12) → va_S A s.heap H locs → lv_has ls 2 [(1, .int i1h12), (0, .ref (ad 12 4))] → W p l e rm_X8_read s m args below meth c H locs 0 0 Q (F0 m 12 ls []) := by
    intro n
    induction n with
    | zero => intro i1h12 s12 H locs ls hF _ _ _ _; exact absurd hF (by simp [L_X8_read_12])
    | succ n12 ih12 =>
      intro i1h12 s12 H locs ls hF hP hD hS hl
      refine lv_iload_n hx hb dX8_read_12 rfl (lv_at hl 0 rfl) ?_
      refine lv_aload_n hx hb dX8_read_13 rfl (lv_at hl 1 rfl) ?_
      refine get' (ci := 10) (fs := [.ref (ad 12 5), .int (((s12 12) 4) 1), .int (((s12 12) 4) 2), .ref (ad 12 6), .int (((s12 12) 4) 4)]) (v := .ref (ad 12 6)) hx hb hw inWX8 hown hK hP (gY (x := s12) (r := 4) (f := ((s12 12) 4)) (by decide) ((congrFun rfl _).trans rfl)) rfl 3 (by decide) k_297 rfl rfl dX8_read_14 ?_
      refine va_alen (v := 12) hx hb hK hP _ 5 (gY (x := s12) (r := 6) (f := ((s12 12) 6)) (by decide) ((congrFun rfl _).trans rfl)) rfl (show Int32.ofNat 12 = 12 by decide) dX8_read_17 ?_
      refine lv_icmp_ge (tgt := 82) hx hb dX8_read_18 (by decide) (fun h1 => ?_) (fun h1 => ?_)
      · replace hF := (if_pos h1).symm.trans hF
        refine lv_aload_n hx hb dX8_read_82 rfl (lv_at hl 1 rfl) ?_
        refine get' (ci := 10) (fs := [.ref (ad 12 5), .int (((s12 12) 4) 1), .int (((s12 12) 4) 2), .ref (ad 12 6), .int (((s12 12) 4) 4)]) (v := .int (((s12 12) 4) 2)) hx hb hw inWX8 hown hK hP (gY (x := s12) (r := 4) (f := ((s12 12) 4)) (by decide) ((congrFun rfl _).trans rfl)) rfl 2 (by decide) k_296 rfl rfl dX8_read_83 ?_
        cases hF
        exact hret _ _ _ _ _ _ hP hD hS rfl rfl dX8_read_86
      · replace hF := (if_neg h1).symm.trans hF
        refine lv_aload_n hx hb dX8_read_21 rfl (lv_at hl 1 rfl) ?_
        refine lv_aload_n hx hb dX8_read_22 rfl (lv_at hl 1 rfl) ?_
        refine get' (ci := 10) (fs := [.ref (ad 12 5), .int (((s12 12) 4) 1), .int (((s12 12) 4) 2), .ref (ad 12 6), .int (((s12 12) 4) 4)]) (v := .ref (ad 12 6)) hx hb hw inWX8 hown hK hP (gY (x := s12) (r := 4) (f := ((s12 12) 4)) (by decide) ((congrFun rfl _).trans rfl)) rfl 3 (by decide) k_297 rfl rfl dX8_read_23 ?_
        refine lv_iload_n hx hb dX8_read_26 rfl (lv_at hl 0 rfl) ?_
        obtain ⟨h2, hF⟩ := ite_some hF
        have hr3 : (i1h12.toNatClampNeg + 7) < 19 := Nat.add_lt_add_right (inb_lt h2) 7
        refine aald' (n := 12) (g := (ad 12 (i1h12.toNatClampNeg + 7))) hx hb hK hP (gY (x := s12) (r := 6) (f := ((s12 12) 6)) (by decide) ((congrFun rfl _).trans rfl)) (t0 := 5) rfl (vp_inb h2) rfl dX8_read_27 ?_
        obtain ⟨⟨r4, o5⟩, hc6, hF⟩ := bind_some hF
        try dsimp only at hF
        refine cV_i (As := [.ref (ad 12 (i1h12.toNatClampNeg + 7))]) (rest := []) hx hb hml hown hw hK hN hA hl.1 hP hD hS k_1062 k_1064 k_19 k_82 k_1065 (met_X8_readOrder l D cy _ ad en g s12 i1h12.toNatClampNeg hr3 r4 o5 hc6) (ST_call hST hS (free_all hD hS hA)) Xok_S (gY (x := s12) (r := 4) (f := ((s12 12) 4)) (by decide) ((congrFun rfl _).trans rfl)) rfl ⟨rfl, rfl⟩ (n := 1) (by decide +kernel) rfl ⟨Nat.le_of_ble_eq_true rfl, Nat.le_of_ble_eq_true rfl⟩ ⟨Nat.le_of_ble_eq_true rfl, Nat.le_of_ble_eq_true rfl⟩ (Nat.le_of_ble_eq_true rfl) rfl dX8_read_28 (fun H locs hP hD hS => ?_)
        refine lv_if_ne (tgt := 39) hx hb dX8_read_31 (by decide) (fun h7 => ?_) (fun h7 => ?_)
        · replace hF := (if_neg h7).symm.trans hF
          refine lv_aload_n hx hb dX8_read_39 rfl (lv_at hl 1 rfl) ?_
          refine lv_dup hx hb dX8_read_40 rfl ?_
          refine get' (ci := 10) (fs := [.ref (ad 12 5), .int (((o5 12) 4) 1), .int (((o5 12) 4) 2), .ref (ad 12 6), .int (((o5 12) 4) 4)]) (v := .int (((o5 12) 4) 4)) hx hb hw inWX8 hown hK hP (gY (x := o5) (r := 4) (f := ((o5 12) 4)) (by decide) ((congrFun rfl _).trans rfl)) rfl 4 (by decide) k_299 rfl rfl dX8_read_41 ?_
          refine lv_iconst (v := 1) hx hb dX8_read_44 (by decide) ?_
          refine lv_iadd hx hb dX8_read_45 ?_
          refine put' (ci := 10) (fs := [.ref (ad 12 5), .int (((o5 12) 4) 1), .int (((o5 12) 4) 2), .ref (ad 12 6), .int (((o5 12) 4) 4)]) (v := .int ((((o5 12) 4) 4) + 1)) (ty := .int) (ws' := (cW cy ad en (va_up o5 12 (va_up (o5 12) 4 (upd ((o5 12) 4) 4 ((((o5 12) 4) 4) + 1)))))) hx hb hw inWX8 tyX8 tyX8_ok nmX8 hown hK hP hD hS (gY (x := o5) (r := 4) (f := ((o5 12) 4)) (by decide) ((congrFun rfl _).trans rfl)) rfl 4 (by decide) k_299 rfl rfl (by decide +kernel) rfl rfl (Nat.le_of_ble_eq_true rfl) dX8_read_46 ((sY (x := o5) (r := 4) (g := (upd ((o5 12) 4) 4 ((((o5 12) 4) 4) + 1))) (by decide)).trans (congrArg (fun z => cW cy ad en (va_up o5 12 (va_up z 4 (upd ((o5 12) 4) 4 ((((o5 12) 4) 4) + 1))))) rfl)) (fun H locs hP hD hS => ?_)
          refine lv_aload_n hx hb dX8_read_49 rfl (lv_at hl 1 rfl) ?_
          refine get' (ci := 10) (fs := [.ref (ad 12 5), .int ((upd ((o5 12) 4) 4 ((((o5 12) 4) 4) + 1)) 1), .int ((upd ((o5 12) 4) 4 ((((o5 12) 4) 4) + 1)) 2), .ref (ad 12 6), .int ((upd ((o5 12) 4) 4 ((((o5 12) 4) 4) + 1)) 4)]) (v := .int (((o5 12) 4) 2)) hx hb hw inWX8 hown hK hP (gY (x := (va_up o5 12 (va_up (o5 12) 4 (upd ((o5 12) 4) 4 ((((o5 12) 4) 4) + 1))))) (r := 4) (f := (upd ((o5 12) 4) 4 ((((o5 12) 4) 4) + 1))) (by decide) ((congrFun (va_up_self _ _ _) _).trans (va_up_self _ _ _))) rfl 2 (by decide) k_296 rfl rfl dX8_read_50 ?_
          refine lv_aload_n hx hb dX8_read_53 rfl (lv_at hl 1 rfl) ?_
          refine get' (ci := 10) (fs := [.ref (ad 12 5), .int ((upd ((o5 12) 4) 4 ((((o5 12) 4) 4) + 1)) 1), .int ((upd ((o5 12) 4) 4 ((((o5 12) 4) 4) + 1)) 2), .ref (ad 12 6), .int ((upd ((o5 12) 4) 4 ((((o5 12) 4) 4) + 1)) 4)]) (v := .int (((o5 12) 4) 1)) hx hb hw inWX8 hown hK hP (gY (x := (va_up o5 12 (va_up (o5 12) 4 (upd ((o5 12) 4) 4 ((((o5 12) 4) 4) + 1))))) (r := 4) (f := (upd ((o5 12) 4) 4 ((((o5 12) 4) 4) + 1))) (by decide) ((congrFun (va_up_self _ _ _) _).trans (va_up_self _ _ _))) rfl 1 (by decide) k_294 rfl rfl dX8_read_54 ?_
          refine lv_icmp_ne (tgt := 62) hx hb dX8_read_57 (by decide) (fun h8 => ?_) (fun h8 => ?_)
          · replace hF := (if_neg h8).symm.trans hF
            refine lv_aload_n hx hb dX8_read_62 rfl (lv_at hl 1 rfl) ?_
            refine lv_bipush (v := 59) hx hb dX8_read_63 (by decide) ?_
            obtain ⟨⟨r9, o10⟩, hc11, hF⟩ := bind_some hF
            try dsimp only at hF
            refine cV_i (As := [.int 59]) (rest := []) hx hb hml hown hw hK hN hA hl.1 hP hD hS k_1157 k_1159 k_26 k_82 k_1160 (met_X8_readSign l D cy _ ad en g (va_up o5 12 (va_up (o5 12) 4 (upd ((o5 12) 4) 4 ((((o5 12) 4) 4) + 1)))) 59 r9 o10 hc11) (fun _ _ _ => trivial) Xok_T (gY (x := (va_up o5 12 (va_up (o5 12) 4 (upd ((o5 12) 4) 4 ((((o5 12) 4) 4) + 1))))) (r := 4) (f := (upd ((o5 12) 4) 4 ((((o5 12) 4) 4) + 1))) (by decide) ((congrFun (va_up_self _ _ _) _).trans (va_up_self _ _ _))) rfl ⟨rfl, rfl⟩ (n := 1) (by decide +kernel) rfl ⟨Nat.le_of_ble_eq_true rfl, Nat.le_of_ble_eq_true rfl⟩ ⟨Nat.le_of_ble_eq_true rfl, Nat.le_of_ble_eq_true rfl⟩ (Nat.le_of_ble_eq_true rfl) rfl dX8_read_65 (fun H locs hP hD hS => ?_)
            refine lv_if_ne (tgt := 76) hx hb dX8_read_68 (by decide) (fun h12 => ?_) (fun h12 => ?_)
            · replace hF := (if_neg h12).symm.trans hF
              refine lv_iinc (v := (i1h12 + 1)) (lv' := [(1, .int (i1h12 + 1)), (0, .ref (ad 12 4))]) hx hb dX8_read_76 hl (k := 0) rfl rfl (by decide) rfl (fun ls hl => ?_)
              refine lv_goto (tgt := 12) hx hb dX8_read_79 (by decide) ?_
              exact ih12 (i1h12 + 1) o10 _ _ _ hF hP hD hS (lv_sub hl [0, 1] rfl)
            · replace hF := (if_pos h12).symm.trans hF
              refine lv_aload_n hx hb dX8_read_71 rfl (lv_at hl 1 rfl) ?_
              refine get' (ci := 10) (fs := [.ref (ad 12 5), .int (((o10 12) 4) 1), .int (((o10 12) 4) 2), .ref (ad 12 6), .int (((o10 12) 4) 4)]) (v := .int (((o10 12) 4) 2)) hx hb hw inWX8 hown hK hP (gY (x := o10) (r := 4) (f := ((o10 12) 4)) (by decide) ((congrFun rfl _).trans rfl)) rfl 2 (by decide) k_296 rfl rfl dX8_read_72 ?_
              cases hF
              exact hret _ _ _ _ _ _ hP hD hS rfl rfl dX8_read_75
          · replace hF := (if_pos h8).symm.trans hF
            refine lv_iconst (v := (-1)) hx hb dX8_read_60 (by decide) ?_
            cases hF
            exact hret _ _ _ _ _ _ hP hD hS rfl rfl dX8_read_61
        · replace hF := (if_pos h7).symm.trans hF
          refine lv_aload_n hx hb dX8_read_34 rfl (lv_at hl 1 rfl) ?_
          refine get' (ci := 10) (fs := [.ref (ad 12 5), .int (((o5 12) 4) 1), .int (((o5 12) 4) 2), .ref (ad 12 6), .int (((o5 12) 4) 4)]) (v := .int (((o5 12) 4) 2)) hx hb hw inWX8 hown hK hP (gY (x := o5) (r := 4) (f := ((o5 12) 4)) (by decide) ((congrFun rfl _).trans rfl)) rfl 2 (by decide) k_296 rfl rfl dX8_read_35 ?_
          cases hF
          exact hret _ _ _ _ _ _ hP hD hS rfl rfl dX8_read_38
  exact loop12 200 0 (va_up x 12 (va_up (x 12) 4 (upd (upd ((x 12) 4) 2 0) 4 0))) _ _ _ hF hP hD hS (lv_sub hl [0, 1] rfl)
def L_X9_run_48 : Nat → (Mem) → (Int32) → (Mem) → (Nat → Nat → Int32) → (Int32) → (Mem) → Option (Int32 × Int32 × (Mem))
  | 0, _, _, _, _, _, _ => none
  | n48 + 1, x, r1, o2, o9, i2h48, s48 => if (((s48 12) 4) 4) ≤ i2h48 then ((D_X2_push s48 1).bind (fun o13 => some (0, (((o13 12) 4) 4), o13))) else (if inb i2h48 12 then ((D_X5_carryOutIn s48 i2h48.toNatClampNeg 0).bind (fun (r17, o18) => if r17 = (-1) then ((D_X4_copyFrom ((D_X6_keepOrder o18 i2h48 0) 0) ((D_X6_keepOrder o18 i2h48 0) 1)).bind (fun o25 => some (2, 0, (va_up (D_X6_keepOrder o18 i2h48 0) 0 o25)))) else (L_X9_run_48 n48 x r1 o2 o9 (i2h48 + 1) o18))) else none)
def D_X9_run (x : Mem) : Option (Int32 × Int32 × (Mem)) := (D_X8_read x).bind (fun (r1, o2) => if r1 = (-1) then ((D_X4_copyFrom ((D_X8_empty o2) 1) ((D_X8_empty o2) 0)).bind (fun o9 => L_X9_run_48 200 x r1 o2 o9 0 (va_up (D_X8_empty o2) 1 o9))) else (some (1, 0, (va_up (D_X8_empty o2) 12 (va_up ((D_X8_empty o2) 12) 0 (upd (((D_X8_empty o2) 12) 0) 8 r1))))))
abbrev rm_X9_run : Room := { frames := 9, cells := 2, slots := 12, locals := 202 }
def exn_X9_run : Int32 → String := fun c => if c = 1 then "java/lang/IllegalArgumentException" else "java/lang/UnsupportedOperationException"
set_option maxHeartbeats 4000000 in
set_option maxRecDepth 100000 in
theorem met_X9_run (l : Launch) (hst0 : l.stackTraces = false) (D : va_G) (cy : Nat → ClassId) (sz : Nat) (ad : Nat → Nat → Nat) (en g : Nat → Nat) (x : Mem)  (code : Int32) (r : Int32) (t' : Mem) (hF : D_X9_run x = some (code, r, t')) : MT l yX9_run cX9_run 3 (some .int) rm_X9_run D cy en g (cW cy ad en x) sz [.ref (ad 12 0)] exn_X9_run code r (cW cy ad en t') := by
  refine MT.of (by decide +kernel) (Nat.le_of_ble_eq_true rfl) ?_
  intro p e s m args below meth c A ls Q hAt htb hST hP hD hA hS hl hQ
  obtain ⟨hx, hb, hr, hml, hown, hw, hlk, hK, hN⟩ := hAt
  have hown : s.vm.findClass "CloudDeeds" = some m.cls := hown
  have hl : lv_has ls 3 [(0, .ref (ad 12 0))] := hl
  refine lv_aload_n hx hb dX9_run_0 rfl (lv_at hl 0 rfl) ?_
  refine get' (ci := 11) (fs := [.ref (ad 0 0), .ref (ad 1 0), .ref (ad 2 0), .ref (ad 3 0), .int (((x 12) 0) 4), .ref (ad 12 1), .ref (ad 12 3), .ref (ad 12 4), .int (((x 12) 0) 8), .ref (ad 12 31)]) (v := .ref (ad 12 4)) hx hb hw inWX9 hown hK hP (gY (x := x) (r := 0) (f := ((x 12) 0)) (by decide) ((congrFun rfl _).trans rfl)) rfl 7 (by decide) k_352 rfl rfl dX9_run_1 ?_
  obtain ⟨⟨r1, o2⟩, hc3, hF⟩ := bind_some hF
  try dsimp only at hF
  refine cV_i (As := []) (rest := []) hx hb hml hown hw hK hN hA hl.1 hP hD hS k_1058 k_1059 k_1060 k_82 k_1061 (met_X8_read l D cy _ ad en g x r1 o2 hc3) (ST_call hST hS (free_all hD hS hA)) Xok_S (gY (x := x) (r := 4) (f := ((x 12) 4)) (by decide) ((congrFun rfl _).trans rfl)) rfl ⟨rfl, rfl⟩ (n := 0) (by decide +kernel) rfl ⟨Nat.le_of_ble_eq_true rfl, Nat.le_of_ble_eq_true rfl⟩ ⟨Nat.le_of_ble_eq_true rfl, Nat.le_of_ble_eq_true rfl⟩ (Nat.le_of_ble_eq_true rfl) rfl dX9_run_4 (fun H locs hP hD hS => ?_)
  refine lv_istore_n (lv' := [(1, .int r1), (0, .ref (ad 12 0))]) hx hb dX9_run_7 rfl hl (by decide) rfl (fun ls hl => ?_)
  refine lv_aload_n hx hb dX9_run_8 rfl (lv_at hl 1 rfl) ?_
  refine get' (ci := 11) (fs := [.ref (ad 0 0), .ref (ad 1 0), .ref (ad 2 0), .ref (ad 3 0), .int (((o2 12) 0) 4), .ref (ad 12 1), .ref (ad 12 3), .ref (ad 12 4), .int (((o2 12) 0) 8), .ref (ad 12 31)]) (v := .ref (ad 12 4)) hx hb hw inWX9 hown hK hP (gY (x := o2) (r := 0) (f := ((o2 12) 0)) (by decide) ((congrFun rfl _).trans rfl)) rfl 7 (by decide) k_352 rfl rfl dX9_run_9 ?_
  refine cV_v (As := []) (rest := []) hx hb hml hown hw hK hN hA hl.1 hP hD hS k_1161 k_1162 k_1163 k_82 k_1164 (met_X8_empty l D cy _ ad en g o2 (D_X8_empty o2) rfl) (fun _ _ _ => trivial) Xok_T (gY (x := o2) (r := 4) (f := ((o2 12) 4)) (by decide) ((congrFun rfl _).trans rfl)) rfl ⟨rfl, rfl⟩ (n := 0) (by decide +kernel) rfl ⟨Nat.le_of_ble_eq_true rfl, Nat.le_of_ble_eq_true rfl⟩ ⟨Nat.le_of_ble_eq_true rfl, Nat.le_of_ble_eq_true rfl⟩ (Nat.le_of_ble_eq_true rfl) rfl dX9_run_12 (fun H locs hP hD hS => ?_)
  refine lv_iload_n hx hb dX9_run_15 rfl (lv_at hl 0 rfl) ?_
  refine lv_iconst (v := (-1)) hx hb dX9_run_16 (by decide) ?_
  refine lv_icmp_eq (tgt := 35) hx hb dX9_run_17 (by decide) (fun h7 => ?_) (fun h7 => ?_)
  · replace hF := (if_pos h7).symm.trans hF
    refine lv_aload_n hx hb dX9_run_35 rfl (lv_at hl 1 rfl) ?_
    refine get' (ci := 11) (fs := [.ref (ad 0 0), .ref (ad 1 0), .ref (ad 2 0), .ref (ad 3 0), .int ((((D_X8_empty o2) 12) 0) 4), .ref (ad 12 1), .ref (ad 12 3), .ref (ad 12 4), .int ((((D_X8_empty o2) 12) 0) 8), .ref (ad 12 31)]) (v := .ref (ad 1 0)) hx hb hw inWX9 hown hK hP (gY (x := (D_X8_empty o2)) (r := 0) (f := (((D_X8_empty o2) 12) 0)) (by decide) ((congrFun rfl _).trans rfl)) rfl 1 (by decide) k_346 rfl rfl dX9_run_36 ?_
    refine lv_aload_n hx hb dX9_run_39 rfl (lv_at hl 1 rfl) ?_
    refine get' (ci := 11) (fs := [.ref (ad 0 0), .ref (ad 1 0), .ref (ad 2 0), .ref (ad 3 0), .int ((((D_X8_empty o2) 12) 0) 4), .ref (ad 12 1), .ref (ad 12 3), .ref (ad 12 4), .int ((((D_X8_empty o2) 12) 0) 8), .ref (ad 12 31)]) (v := .ref (ad 0 0)) hx hb hw inWX9 hown hK hP (gY (x := (D_X8_empty o2)) (r := 0) (f := (((D_X8_empty o2) 12) 0)) (by decide) ((congrFun rfl _).trans rfl)) rfl 0 (by decide) k_345 rfl rfl dX9_run_40 ?_
    have hP := cvP hP ((congrArg (cW cy ad en) (up_self (D_X8_empty o2) 1)).symm.trans (congrArg (fun z => cW cy ad en (va_up (D_X8_empty o2) 1 z)) rfl))
    have hD := cvD hD ((congrArg (cW cy ad en) (up_self (D_X8_empty o2) 1)).symm.trans (congrArg (fun z => cW cy ad en (va_up (D_X8_empty o2) 1 z)) rfl))
    obtain ⟨o9, hc10, hF⟩ := bind_some hF
    try dsimp only at hF
    refine cV_v (As := [.ref (ad 0 0)]) (rest := []) hx hb hml hown hw hK hN hA hl.1 hP hD hS k_522 k_388 k_389 k_77 k_390 (met_X4_copyFrom l D cy _ ad en (D_X8_empty o2) 1 (by decide) ((D_X8_empty o2) 1) 0 (by decide) (by decide) ((D_X8_empty o2) 0) rfl o9 hc10) (fun _ _ _ => trivial) Xok_T (gX (x := (va_up (D_X8_empty o2) 1 ((D_X8_empty o2) 1))) (k := 1) (r := 0) (f := (((D_X8_empty o2) 1) 0)) (by decide) (by decide) ((congrFun (va_up_self _ _ _) _).trans rfl)) rfl ⟨rfl, rfl⟩ (n := 1) (by decide +kernel) rfl ⟨Nat.le_of_ble_eq_true rfl, Nat.le_of_ble_eq_true rfl⟩ ⟨Nat.le_of_ble_eq_true rfl, Nat.le_of_ble_eq_true rfl⟩ (Nat.le_of_ble_eq_true rfl) rfl dX9_run_43 (fun H locs hP hD hS => ?_)
    refine lv_iconst (v := 0) hx hb dX9_run_46 (by decide) ?_
    refine lv_istore_n (lv' := [(2, .int 0), (1, .int r1), (0, .ref (ad 12 0))]) hx hb dX9_run_47 rfl hl (by decide) rfl (fun ls hl => ?_)
    have loop48 : ∀ (n : Nat) (i2h48 : Int32) (s48 : Mem) (H : Heap) (locs : List Loc) (ls : Array Slot), L_X9_run_48 n x r1 o2 o9 i2h48 s48 = some (code, r, t') → va_P D vwCl (cW cy ad en s48) H → va_D A (cW cy ad en s48) → va_S A s.heap H locs → lv_has ls 3 [(2, .int i2h48), (1, .int r1), (0, .ref (ad 12 0))] → W p l e rm_X9_run s m args below meth c H locs 0 0 Q (F0 m 48 ls []) := by
      intro n
      induction n with
      | zero => intro i2h48 s48 H locs ls hF _ _ _ _; exact absurd hF (by simp [L_X9_run_48])
      | succ n48 ih48 =>
        intro i2h48 s48 H locs ls hF hP hD hS hl
        refine lv_iload_n hx hb dX9_run_48 rfl (lv_at hl 0 rfl) ?_
        refine lv_aload_n hx hb dX9_run_49 rfl (lv_at hl 2 rfl) ?_
        refine get' (ci := 11) (fs := [.ref (ad 0 0), .ref (ad 1 0), .ref (ad 2 0), .ref (ad 3 0), .int (((s48 12) 0) 4), .ref (ad 12 1), .ref (ad 12 3), .ref (ad 12 4), .int (((s48 12) 0) 8), .ref (ad 12 31)]) (v := .ref (ad 12 4)) hx hb hw inWX9 hown hK hP (gY (x := s48) (r := 0) (f := ((s48 12) 0)) (by decide) ((congrFun rfl _).trans rfl)) rfl 7 (by decide) k_352 rfl rfl dX9_run_50 ?_
        refine getN' (ci := 10) (fs := [.ref (ad 12 5), .int (((s48 12) 4) 1), .int (((s48 12) 4) 2), .ref (ad 12 6), .int (((s48 12) 4) 4)]) (v := .int (((s48 12) 4) 4)) hx hb hw hN inWX8 hown hK hP (gY (x := s48) (r := 4) (f := ((s48 12) 4)) (by decide) ((congrFun rfl _).trans rfl)) rfl 4 (by decide) n_300 rfl rfl dX9_run_53 ?_
        refine lv_icmp_ge (tgt := 118) hx hb dX9_run_56 (by decide) (fun h11 => ?_) (fun h11 => ?_)
        · replace hF := (if_pos h11).symm.trans hF
          refine lv_aload_n hx hb dX9_run_118 rfl (lv_at hl 2 rfl) ?_
          refine get' (ci := 11) (fs := [.ref (ad 0 0), .ref (ad 1 0), .ref (ad 2 0), .ref (ad 3 0), .int (((s48 12) 0) 4), .ref (ad 12 1), .ref (ad 12 3), .ref (ad 12 4), .int (((s48 12) 0) 8), .ref (ad 12 31)]) (v := .ref (ad 12 1)) hx hb hw inWX9 hown hK hP (gY (x := s48) (r := 0) (f := ((s48 12) 0)) (by decide) ((congrFun rfl _).trans rfl)) rfl 5 (by decide) k_350 rfl rfl dX9_run_119 ?_
          refine lv_aload_n hx hb dX9_run_122 rfl (lv_at hl 2 rfl) ?_
          refine get' (ci := 11) (fs := [.ref (ad 0 0), .ref (ad 1 0), .ref (ad 2 0), .ref (ad 3 0), .int (((s48 12) 0) 4), .ref (ad 12 1), .ref (ad 12 3), .ref (ad 12 4), .int (((s48 12) 0) 8), .ref (ad 12 31)]) (v := .ref (ad 1 0)) hx hb hw inWX9 hown hK hP (gY (x := s48) (r := 0) (f := ((s48 12) 0)) (by decide) ((congrFun rfl _).trans rfl)) rfl 1 (by decide) k_346 rfl rfl dX9_run_123 ?_
          obtain ⟨o13, hc14, hF⟩ := bind_some hF
          try dsimp only at hF
          refine cV_v (As := [.ref (ad 1 0)]) (rest := []) hx hb hml hown hw hK hN hA hl.1 hP hD hS k_380 k_381 k_382 k_80 k_383 (met_X2_push l D cy _ ad en g s48 1 (by decide) (by decide) o13 hc14) (fun _ _ _ => trivial) Xok_T (gY (x := s48) (r := 1) (f := ((s48 12) 1)) (by decide) ((congrFun rfl _).trans rfl)) rfl ⟨rfl, rfl⟩ (n := 1) (by decide +kernel) rfl ⟨Nat.le_of_ble_eq_true rfl, Nat.le_of_ble_eq_true rfl⟩ ⟨Nat.le_of_ble_eq_true rfl, Nat.le_of_ble_eq_true rfl⟩ (Nat.le_of_ble_eq_true rfl) rfl dX9_run_126 (fun H locs hP hD hS => ?_)
          refine lv_aload_n hx hb dX9_run_129 rfl (lv_at hl 2 rfl) ?_
          refine get' (ci := 11) (fs := [.ref (ad 0 0), .ref (ad 1 0), .ref (ad 2 0), .ref (ad 3 0), .int (((o13 12) 0) 4), .ref (ad 12 1), .ref (ad 12 3), .ref (ad 12 4), .int (((o13 12) 0) 8), .ref (ad 12 31)]) (v := .ref (ad 12 4)) hx hb hw inWX9 hown hK hP (gY (x := o13) (r := 0) (f := ((o13 12) 0)) (by decide) ((congrFun rfl _).trans rfl)) rfl 7 (by decide) k_352 rfl rfl dX9_run_130 ?_
          refine getN' (ci := 10) (fs := [.ref (ad 12 5), .int (((o13 12) 4) 1), .int (((o13 12) 4) 2), .ref (ad 12 6), .int (((o13 12) 4) 4)]) (v := .int (((o13 12) 4) 4)) hx hb hw hN inWX8 hown hK hP (gY (x := o13) (r := 4) (f := ((o13 12) 4)) (by decide) ((congrFun rfl _).trans rfl)) rfl 4 (by decide) n_300 rfl rfl dX9_run_133 ?_
          cases hF
          rw [hQ]
          exact retx_i hx hb hr hlk (Nat.le_of_ble_eq_true rfl) (Nat.le_of_ble_eq_true rfl) hS hP hD rfl rfl rfl dX9_run_136
        · replace hF := (if_neg h11).symm.trans hF
          refine lv_aload_n hx hb dX9_run_59 rfl (lv_at hl 2 rfl) ?_
          refine get' (ci := 11) (fs := [.ref (ad 0 0), .ref (ad 1 0), .ref (ad 2 0), .ref (ad 3 0), .int (((s48 12) 0) 4), .ref (ad 12 1), .ref (ad 12 3), .ref (ad 12 4), .int (((s48 12) 0) 8), .ref (ad 12 31)]) (v := .ref (ad 12 4)) hx hb hw inWX9 hown hK hP (gY (x := s48) (r := 0) (f := ((s48 12) 0)) (by decide) ((congrFun rfl _).trans rfl)) rfl 7 (by decide) k_352 rfl rfl dX9_run_60 ?_
          refine getN' (ci := 10) (fs := [.ref (ad 12 5), .int (((s48 12) 4) 1), .int (((s48 12) 4) 2), .ref (ad 12 6), .int (((s48 12) 4) 4)]) (v := .ref (ad 12 6)) hx hb hw hN inWX8 hown hK hP (gY (x := s48) (r := 4) (f := ((s48 12) 4)) (by decide) ((congrFun rfl _).trans rfl)) rfl 3 (by decide) n_298 rfl rfl dX9_run_63 ?_
          refine lv_iload_n hx hb dX9_run_66 rfl (lv_at hl 0 rfl) ?_
          obtain ⟨h15, hF⟩ := ite_some hF
          have hr16 : (i2h48.toNatClampNeg + 7) < 19 := Nat.add_lt_add_right (inb_lt h15) 7
          refine aald' (n := 12) (g := (ad 12 (i2h48.toNatClampNeg + 7))) hx hb hK hP (gY (x := s48) (r := 6) (f := ((s48 12) 6)) (by decide) ((congrFun rfl _).trans rfl)) (t0 := 5) rfl (vp_inb h15) rfl dX9_run_67 ?_
          refine lv_aload_n hx hb dX9_run_68 rfl (lv_at hl 2 rfl) ?_
          refine get' (ci := 11) (fs := [.ref (ad 0 0), .ref (ad 1 0), .ref (ad 2 0), .ref (ad 3 0), .int (((s48 12) 0) 4), .ref (ad 12 1), .ref (ad 12 3), .ref (ad 12 4), .int (((s48 12) 0) 8), .ref (ad 12 31)]) (v := .ref (ad 0 0)) hx hb hw inWX9 hown hK hP (gY (x := s48) (r := 0) (f := ((s48 12) 0)) (by decide) ((congrFun rfl _).trans rfl)) rfl 0 (by decide) k_345 rfl rfl dX9_run_69 ?_
          obtain ⟨⟨r17, o18⟩, hc19, hF⟩ := bind_some hF
          try dsimp only at hF
          refine cV_i (As := [.ref (ad 0 0)]) (rest := []) hx hb hml hown hw hK hN hA hl.1 hP hD hS k_1166 k_1167 k_1168 k_83 k_1169 (met_X5_carryOutIn l D cy _ ad en g s48 i2h48.toNatClampNeg hr16 0 (by decide) r17 o18 hc19) (ST_call hST hS (free_all hD hS hA)) Xok_S (gYord (x := s48) (j := i2h48.toNatClampNeg) (f := ((s48 12) (i2h48.toNatClampNeg + 7))) hr16 ((congrFun rfl _).trans rfl)) rfl ⟨rfl, rfl⟩ (n := 1) (by decide +kernel) rfl ⟨Nat.le_of_ble_eq_true rfl, Nat.le_of_ble_eq_true rfl⟩ ⟨Nat.le_of_ble_eq_true rfl, Nat.le_of_ble_eq_true rfl⟩ (Nat.le_of_ble_eq_true rfl) rfl dX9_run_72 (fun H locs hP hD hS => ?_)
          refine lv_iconst (v := (-1)) hx hb dX9_run_75 (by decide) ?_
          refine lv_icmp_ne (tgt := 112) hx hb dX9_run_76 (by decide) (fun h20 => ?_) (fun h20 => ?_)
          · replace hF := (if_neg h20).symm.trans hF
            refine lv_iinc (v := (i2h48 + 1)) (lv' := [(2, .int (i2h48 + 1)), (1, .int r1), (0, .ref (ad 12 0))]) hx hb dX9_run_112 hl (k := 0) rfl rfl (by decide) rfl (fun ls hl => ?_)
            refine lv_goto (tgt := 48) hx hb dX9_run_115 (by decide) ?_
            exact ih48 (i2h48 + 1) o18 _ _ _ hF hP hD hS (lv_sub hl [0, 1, 2] rfl)
          · replace hF := (if_pos h20).symm.trans hF
            refine lv_aload_n hx hb dX9_run_79 rfl (lv_at hl 2 rfl) ?_
            refine get' (ci := 11) (fs := [.ref (ad 0 0), .ref (ad 1 0), .ref (ad 2 0), .ref (ad 3 0), .int (((o18 12) 0) 4), .ref (ad 12 1), .ref (ad 12 3), .ref (ad 12 4), .int (((o18 12) 0) 8), .ref (ad 12 31)]) (v := .ref (ad 12 3)) hx hb hw inWX9 hown hK hP (gY (x := o18) (r := 0) (f := ((o18 12) 0)) (by decide) ((congrFun rfl _).trans rfl)) rfl 6 (by decide) k_351 rfl rfl dX9_run_80 ?_
            refine lv_iload_n hx hb dX9_run_83 rfl (lv_at hl 0 rfl) ?_
            refine lv_aload_n hx hb dX9_run_84 rfl (lv_at hl 2 rfl) ?_
            refine get' (ci := 11) (fs := [.ref (ad 0 0), .ref (ad 1 0), .ref (ad 2 0), .ref (ad 3 0), .int (((o18 12) 0) 4), .ref (ad 12 1), .ref (ad 12 3), .ref (ad 12 4), .int (((o18 12) 0) 8), .ref (ad 12 31)]) (v := .ref (ad 0 0)) hx hb hw inWX9 hown hK hP (gY (x := o18) (r := 0) (f := ((o18 12) 0)) (by decide) ((congrFun rfl _).trans rfl)) rfl 0 (by decide) k_345 rfl rfl dX9_run_85 ?_
            refine cV_v (As := [.int i2h48, .ref (ad 0 0)]) (rest := []) hx hb hml hown hw hK hN hA hl.1 hP hD hS k_1171 k_1172 k_1173 k_81 k_1174 (met_X6_keepOrder l D cy _ ad en g o18 i2h48 0 (by decide) (D_X6_keepOrder o18 i2h48 0) rfl) (fun _ _ _ => trivial) Xok_T (gY (x := o18) (r := 3) (f := ((o18 12) 3)) (by decide) ((congrFun rfl _).trans rfl)) rfl ⟨rfl, rfl⟩ (n := 2) (by decide +kernel) rfl ⟨Nat.le_of_ble_eq_true rfl, Nat.le_of_ble_eq_true rfl⟩ ⟨Nat.le_of_ble_eq_true rfl, Nat.le_of_ble_eq_true rfl⟩ (Nat.le_of_ble_eq_true rfl) rfl dX9_run_88 (fun H locs hP hD hS => ?_)
            refine lv_aload_n hx hb dX9_run_91 rfl (lv_at hl 2 rfl) ?_
            refine get' (ci := 11) (fs := [.ref (ad 0 0), .ref (ad 1 0), .ref (ad 2 0), .ref (ad 3 0), .int ((((D_X6_keepOrder o18 i2h48 0) 12) 0) 4), .ref (ad 12 1), .ref (ad 12 3), .ref (ad 12 4), .int ((((D_X6_keepOrder o18 i2h48 0) 12) 0) 8), .ref (ad 12 31)]) (v := .ref (ad 0 0)) hx hb hw inWX9 hown hK hP (gY (x := (D_X6_keepOrder o18 i2h48 0)) (r := 0) (f := (((D_X6_keepOrder o18 i2h48 0) 12) 0)) (by decide) ((congrFun rfl _).trans rfl)) rfl 0 (by decide) k_345 rfl rfl dX9_run_92 ?_
            refine lv_aload_n hx hb dX9_run_95 rfl (lv_at hl 2 rfl) ?_
            refine get' (ci := 11) (fs := [.ref (ad 0 0), .ref (ad 1 0), .ref (ad 2 0), .ref (ad 3 0), .int ((((D_X6_keepOrder o18 i2h48 0) 12) 0) 4), .ref (ad 12 1), .ref (ad 12 3), .ref (ad 12 4), .int ((((D_X6_keepOrder o18 i2h48 0) 12) 0) 8), .ref (ad 12 31)]) (v := .ref (ad 1 0)) hx hb hw inWX9 hown hK hP (gY (x := (D_X6_keepOrder o18 i2h48 0)) (r := 0) (f := (((D_X6_keepOrder o18 i2h48 0) 12) 0)) (by decide) ((congrFun rfl _).trans rfl)) rfl 1 (by decide) k_346 rfl rfl dX9_run_96 ?_
            have hP := cvP hP ((congrArg (cW cy ad en) (up_self (D_X6_keepOrder o18 i2h48 0) 0)).symm.trans (congrArg (fun z => cW cy ad en (va_up (D_X6_keepOrder o18 i2h48 0) 0 z)) rfl))
            have hD := cvD hD ((congrArg (cW cy ad en) (up_self (D_X6_keepOrder o18 i2h48 0) 0)).symm.trans (congrArg (fun z => cW cy ad en (va_up (D_X6_keepOrder o18 i2h48 0) 0 z)) rfl))
            obtain ⟨o25, hc26, hF⟩ := bind_some hF
            try dsimp only at hF
            refine cV_v (As := [.ref (ad 1 0)]) (rest := []) hx hb hml hown hw hK hN hA hl.1 hP hD hS k_522 k_388 k_389 k_77 k_390 (met_X4_copyFrom l D cy _ ad en (D_X6_keepOrder o18 i2h48 0) 0 (by decide) ((D_X6_keepOrder o18 i2h48 0) 0) 1 (by decide) (by decide) ((D_X6_keepOrder o18 i2h48 0) 1) rfl o25 hc26) (fun _ _ _ => trivial) Xok_T (gX (x := (va_up (D_X6_keepOrder o18 i2h48 0) 0 ((D_X6_keepOrder o18 i2h48 0) 0))) (k := 0) (r := 0) (f := (((D_X6_keepOrder o18 i2h48 0) 0) 0)) (by decide) (by decide) ((congrFun (va_up_self _ _ _) _).trans rfl)) rfl ⟨rfl, rfl⟩ (n := 1) (by decide +kernel) rfl ⟨Nat.le_of_ble_eq_true rfl, Nat.le_of_ble_eq_true rfl⟩ ⟨Nat.le_of_ble_eq_true rfl, Nat.le_of_ble_eq_true rfl⟩ (Nat.le_of_ble_eq_true rfl) rfl dX9_run_99 (fun H locs hP hD hS => ?_)
            cases hF
            rw [hQ]
            exact thrS (g := g) (en := en) hx hb hst0 hml hown hw hN hlk htb hST hS hP hD hl.1 (text := "an order cannot be done") 13 rfl (by decide) k_649 k_97 at_251 (by decide) rfl rfl dX9_run_102 dX9_run_105 dX9_run_106 dX9_run_108 dX9_run_111 ⟨Nat.le_of_ble_eq_true rfl, Nat.le_of_ble_eq_true rfl, Nat.le_of_ble_eq_true rfl, Nat.le_of_ble_eq_true rfl⟩ (Nat.le_of_ble_eq_true rfl) ⟨Nat.le_of_ble_eq_true rfl, Nat.le_of_ble_eq_true rfl⟩
    exact loop48 200 0 (va_up (D_X8_empty o2) 1 o9) _ _ _ hF hP hD hS (lv_sub hl [0, 1, 2] rfl)
  · replace hF := (if_neg h7).symm.trans hF
    refine lv_aload_n hx hb dX9_run_20 rfl (lv_at hl 1 rfl) ?_
    refine lv_iload_n hx hb dX9_run_21 rfl (lv_at hl 0 rfl) ?_
    refine put' (ci := 11) (fs := [.ref (ad 0 0), .ref (ad 1 0), .ref (ad 2 0), .ref (ad 3 0), .int ((((D_X8_empty o2) 12) 0) 4), .ref (ad 12 1), .ref (ad 12 3), .ref (ad 12 4), .int ((((D_X8_empty o2) 12) 0) 8), .ref (ad 12 31)]) (v := .int r1) (ty := .int) (ws' := (cW cy ad en (va_up (D_X8_empty o2) 12 (va_up ((D_X8_empty o2) 12) 0 (upd (((D_X8_empty o2) 12) 0) 8 r1))))) hx hb hw inWX9 tyX9 tyX9_ok nmX9 hown hK hP hD hS (gY (x := (D_X8_empty o2)) (r := 0) (f := (((D_X8_empty o2) 12) 0)) (by decide) ((congrFun rfl _).trans rfl)) rfl 8 (by decide) k_353 rfl rfl (by decide +kernel) rfl rfl (Nat.le_of_ble_eq_true rfl) dX9_run_22 ((sY (x := (D_X8_empty o2)) (r := 0) (g := (upd (((D_X8_empty o2) 12) 0) 8 r1)) (by decide)).trans (congrArg (fun z => cW cy ad en (va_up (D_X8_empty o2) 12 (va_up z 0 (upd (((D_X8_empty o2) 12) 0) 8 r1)))) rfl)) (fun H locs hP hD hS => ?_)
    cases hF
    rw [hQ]
    exact thrS (g := g) (en := en) hx hb hst0 hml hown hw hN hlk htb hST hS hP hD hl.1 (text := "the text has a fault") 12 rfl (by decide) k_831 k_100 at_119 (by decide) rfl rfl dX9_run_25 dX9_run_28 dX9_run_29 dX9_run_31 dX9_run_34 ⟨Nat.le_of_ble_eq_true rfl, Nat.le_of_ble_eq_true rfl, Nat.le_of_ble_eq_true rfl, Nat.le_of_ble_eq_true rfl⟩ (Nat.le_of_ble_eq_true rfl) ⟨Nat.le_of_ble_eq_true rfl, Nat.le_of_ble_eq_true rfl⟩
