def D_Jx29ce0_ordinal_8abf5 (i : Nat) : Int32 := (nI i)
abbrev rm_Jx29ce0_ordinal_8abf5 : Room := { frames := 0, cells := 0, slots := 0, locals := 0 }
set_option maxHeartbeats 4000000 in
set_option maxRecDepth 100000 in
theorem met_Jx29ce0_ordinal_8abf5 (l : Launch) (D : va_G) (cy : Nat → ClassId) (sz : Nat) (en g : Nat → Nat) (ws : va_W) (i : Nat) (hi : i < 9)  (r : Int32) (hF : D_Jx29ce0_ordinal_8abf5 i = r) : MIS l yJx29ce0_ordinal_8abf5 cJx29ce0_ordinal_8abf5 1 (some .int) rm_Jx29ce0_ordinal_8abf5 D cy en g ws sz [.ref (en i)] r ws := by
  refine MIS.of (by decide +kernel) (Nat.le_of_ble_eq_true rfl) ?_
  intro p e s m args below meth c A ls Q hAt hST hP hD hA hS hl hret
  obtain ⟨hx, hb, hr, hml, hown, hw, hlk, hK, hN⟩ := hAt
  have hown : s.vm.findClass "java/lang/Enum" = some m.cls := hown
  have hl : lv_has ls 1 [(0, .ref (en i))] := hl
  refine lv_aload_n hx hb dJx29ce0_ordinal_8abf5_0 rfl (lv_at hl 0 rfl) ?_
  refine va_getE hx hb hST.2.2.2.1 (i := i) (show i < nmKind.length from hi) hS hown (List.mem_singleton.mpr rfl) (hw _ k_1316) (fun _ h9 => h9) dJx29ce0_ordinal_8abf5_1 ?_
  rw [ordv hi]
  cases hF
  exact hret _ _ _ _ _ _ hP hD hS rfl rfl dJx29ce0_ordinal_8abf5_4
def D_J0_coder_7d493 (i : Nat) : Int32 := 0
abbrev rm_J0_coder_7d493 : Room := { frames := 0, cells := 0, slots := 0, locals := 0 }
set_option maxHeartbeats 4000000 in
set_option maxRecDepth 100000 in
theorem met_J0_coder_7d493 (l : Launch) (D : va_G) (cy : Nat → ClassId) (sz : Nat) (en g : Nat → Nat) (ws : va_W) (i : Nat) (hi : i < 7)  (r : Int32) (hF : D_J0_coder_7d493 i = r) : MIS l yJ0_coder_7d493 cJ0_coder_7d493 1 (some .byte) rm_J0_coder_7d493 D cy en g ws sz [.ref (g (100 + i))] r ws := by
  refine MBS.of (by decide +kernel) (Nat.le_of_ble_eq_true rfl) ?_
  intro p e s m args below meth c A ls Q hAt hST hP hD hA hS hl hret
  obtain ⟨hx, hb, hr, hml, hown, hw, hlk, hK, hN⟩ := hAt
  have hown : s.vm.findClass "java/lang/String" = some m.cls := hown
  have hl : lv_has ls 1 [(0, .ref (g (100 + i)))] := hl
  refine va_gets (n := "COMPACT_STRINGS") (v := .int 1) hx hb hST.2.2.2.2.2.2.2.2.2.2.1 hS hown (hw _ k_1176) (fun _ h9 => h9) dJ0_coder_7d493_0 ?_
  refine lv_if_eq (tgt := 13) hx hb dJ0_coder_7d493_3 (by decide) (fun h => absurd h (by decide)) (fun _ => ?_)
  refine lv_aload_n hx hb dJ0_coder_7d493_6 rfl (lv_at hl 0 rfl) ?_
  refine vk_getf hx hb (hST.2.2.2.2.2.2.2.2.2.1.1 i hi).2.1 hS hown (hw _ k_1268) (fun _ h9 => h9) dJ0_coder_7d493_7 ?_
  refine lv_goto (tgt := 14) hx hb dJ0_coder_7d493_10 (by decide) ?_
  cases hF
  exact hret _ _ _ _ _ _ hP hD hS rfl rfl rfl dJ0_coder_7d493_14
def D_J0_isLatin1_aae02 (i : Nat) : Int32 := 1
abbrev rm_J0_isLatin1_aae02 : Room := { frames := 0, cells := 0, slots := 0, locals := 0 }
set_option maxHeartbeats 4000000 in
set_option maxRecDepth 100000 in
theorem met_J0_isLatin1_aae02 (l : Launch) (D : va_G) (cy : Nat → ClassId) (sz : Nat) (en g : Nat → Nat) (ws : va_W) (i : Nat) (hi : i < 7)  (r : Int32) (hF : D_J0_isLatin1_aae02 i = r) : MIS l yJ0_isLatin1_aae02 cJ0_isLatin1_aae02 1 (some .boolean) rm_J0_isLatin1_aae02 D cy en g ws sz [.ref (g (100 + i))] r ws := by
  refine MZS.of (by decide +kernel) (Nat.le_of_ble_eq_true rfl) ?_
  intro p e s m args below meth c A ls Q hAt hST hP hD hA hS hl hret
  obtain ⟨hx, hb, hr, hml, hown, hw, hlk, hK, hN⟩ := hAt
  have hown : s.vm.findClass "java/lang/String" = some m.cls := hown
  have hl : lv_has ls 1 [(0, .ref (g (100 + i)))] := hl
  refine va_gets (n := "COMPACT_STRINGS") (v := .int 1) hx hb hST.2.2.2.2.2.2.2.2.2.2.1 hS hown (hw _ k_1176) (fun _ h9 => h9) dJ0_isLatin1_aae02_0 ?_
  refine lv_if_eq (tgt := 17) hx hb dJ0_isLatin1_aae02_3 (by decide) (fun h => absurd h (by decide)) (fun _ => ?_)
  refine lv_aload_n hx hb dJ0_isLatin1_aae02_6 rfl (lv_at hl 0 rfl) ?_
  refine vk_getf hx hb (hST.2.2.2.2.2.2.2.2.2.1.1 i hi).2.1 hS hown (hw _ k_1268) (fun _ h9 => h9) dJ0_isLatin1_aae02_7 ?_
  refine lv_if_ne (tgt := 17) hx hb dJ0_isLatin1_aae02_10 (by decide) (fun h => absurd h (by decide)) (fun _ => ?_)
  refine lv_iconst (v := 1) hx hb dJ0_isLatin1_aae02_13 (by decide) ?_
  refine lv_goto (tgt := 18) hx hb dJ0_isLatin1_aae02_14 (by decide) ?_
  cases hF
  exact hret _ _ _ _ _ _ hP hD hS rfl rfl rfl dJ0_isLatin1_aae02_18
theorem bz_J0_isLatin1_aae02 (i : Nat) : (D_J0_isLatin1_aae02 i) = 0 ∨ (D_J0_isLatin1_aae02 i) = 1 := by
  unfold D_J0_isLatin1_aae02
  repeat' split
  all_goals first | exact Or.inl rfl | exact Or.inr rfl | assumption
def D_J0_length_8abf5 (i : Nat) : Int32 := ((nI (formLen.getD i 0)) >>> ((D_J0_coder_7d493 i) &&& 31))
abbrev rm_J0_length_8abf5 : Room := { frames := 1, cells := 0, slots := 0, locals := 20 }
set_option maxHeartbeats 4000000 in
set_option maxRecDepth 100000 in
theorem met_J0_length_8abf5 (l : Launch) (D : va_G) (cy : Nat → ClassId) (sz : Nat) (en g : Nat → Nat) (ws : va_W) (i : Nat) (hi : i < 7)  (r : Int32) (hF : D_J0_length_8abf5 i = r) : MIS l yJ0_length_8abf5 cJ0_length_8abf5 1 (some .int) rm_J0_length_8abf5 D cy en g ws sz [.ref (g (100 + i))] r ws := by
  refine MIS.of (by decide +kernel) (Nat.le_of_ble_eq_true rfl) ?_
  intro p e s m args below meth c A ls Q hAt hST hP hD hA hS hl hret
  obtain ⟨hx, hb, hr, hml, hown, hw, hlk, hK, hN⟩ := hAt
  have hown : s.vm.findClass "java/lang/String" = some m.cls := hown
  have hl : lv_has ls 1 [(0, .ref (g (100 + i)))] := hl
  refine lv_aload_n hx hb dJ0_length_8abf5_0 rfl (lv_at hl 0 rfl) ?_
  refine vk_getf hx hb (hST.2.2.2.2.2.2.2.2.2.1.1 i hi).2.2.1 hS hown (hw _ k_1267) (fun _ h9 => h9) dJ0_length_8abf5_1 ?_
  refine va_tlen (v := nI (formLen.getD i 0)) hx hb (hST.2.2.2.2.2.2.2.2.2.1.1 i hi).2.2.2 hS rfl dJ0_length_8abf5_4 ?_
  refine lv_aload_n hx hb dJ0_length_8abf5_5 rfl (lv_at hl 0 rfl) ?_
  refine cR_i (As := []) (rest := [.int (nI (formLen.getD i 0))]) hx hb hml hown hw hK hN hA hl.1 hP hD hS k_1172 k_1173 k_1174 k_33 k_1175 (met_J0_coder_7d493 l D cy _ en g ws i hi (D_J0_coder_7d493 i) rfl) (ST_call hST hS (free_all hD hS hA)) Xok_S (vk_recv hST.2.2.2.2.2.2.2.2.2.1 (i := i) hi hS) ⟨rfl, rfl⟩ (n := 0) (by decide +kernel) rfl ⟨Nat.le_of_ble_eq_true rfl, Nat.le_of_ble_eq_true rfl⟩ ⟨Nat.le_of_ble_eq_true rfl, Nat.le_of_ble_eq_true rfl⟩ (Nat.le_of_ble_eq_true rfl) rfl dJ0_length_8abf5_6 (fun H locs hP hD hS => ?_)
  refine lv_ishr hx hb dJ0_length_8abf5_9 ?_
  cases hF
  exact hret _ _ _ _ _ _ hP hD hS rfl rfl dJ0_length_8abf5_10
def D_J0_isEmpty_aae02 (i : Nat) : Int32 := if (nI (formLen.getD i 0)) = 0 then (1) else (0)
abbrev rm_J0_isEmpty_aae02 : Room := { frames := 0, cells := 0, slots := 0, locals := 0 }
theorem bz_J0_isEmpty_aae02 (i : Nat) : (D_J0_isEmpty_aae02 i) = 0 ∨ (D_J0_isEmpty_aae02 i) = 1 := by
  unfold D_J0_isEmpty_aae02
  repeat' split
  all_goals first | exact Or.inl rfl | exact Or.inr rfl | assumption
def D_J3_checkIndex_8e157N (p1 : Int32) (p2 : Int32) : Option (Int32) := if p1 < 0 then (none) else (if p1 < p2 then (some p1) else (none))
abbrev rm_J3_checkIndex_8e157 : Room := { frames := 1, cells := 0, slots := 0, locals := 30 }
set_option maxHeartbeats 4000000 in
set_option maxRecDepth 100000 in
theorem met_J3_checkIndex_8e157N (l : Launch) (D : va_G) (cy : Nat → ClassId) (sz : Nat) (en g : Nat → Nat) (ws : va_W) (p1 : Int32) (p2 : Int32)  (r : Int32) (hF : D_J3_checkIndex_8e157N p1 p2 = some r) : MIS l yJ3_checkIndex_8e157 cJ3_checkIndex_8e157 3 (some .int) rm_J3_checkIndex_8e157 D cy en g ws sz [.int p1, .int p2, .null] r ws := by
  refine MIS.of (by decide +kernel) (Nat.le_of_ble_eq_true rfl) ?_
  intro p e s m args below meth c A ls Q hAt hST hP hD hA hS hl hret
  obtain ⟨hx, hb, hr, hml, hown, hw, hlk, hK, hN⟩ := hAt
  have hown : s.vm.findClass "jdk/internal/util/Preconditions" = some m.cls := hown
  have hl : lv_has ls 3 [(0, .int p1), (1, .int p2), (2, .null)] := hl
  refine lv_iload_n hx hb dJ3_checkIndex_8e157_0 rfl (lv_at hl 0 rfl) ?_
  refine lv_if_lt (tgt := 9) hx hb dJ3_checkIndex_8e157_1 (by decide) (fun h1 => ?_) (fun h1 => ?_)
  · replace hF := (if_pos h1).symm.trans hF
    exact absurd hF (by simp)
  · replace hF := (if_neg h1).symm.trans hF
    refine lv_iload_n hx hb dJ3_checkIndex_8e157_4 rfl (lv_at hl 0 rfl) ?_
    refine lv_iload_n hx hb dJ3_checkIndex_8e157_5 rfl (lv_at hl 1 rfl) ?_
    refine lv_icmp_lt (tgt := 16) hx hb dJ3_checkIndex_8e157_6 (by decide) (fun h2 => ?_) (fun h2 => ?_)
    · replace hF := (if_pos h2).symm.trans hF
      refine lv_iload_n hx hb dJ3_checkIndex_8e157_16 rfl (lv_at hl 0 rfl) ?_
      cases hF
      exact hret _ _ _ _ _ _ hP hD hS rfl rfl dJ3_checkIndex_8e157_17
    · replace hF := (if_neg h2).symm.trans hF
      exact absurd hF (by simp)
set_option maxHeartbeats 4000000 in
set_option maxRecDepth 100000 in
theorem met_J3_checkIndex_8e157R (l : Launch) (D : va_G) (cy : Nat → ClassId) (sz : Nat) (en g : Nat → Nat) (ws : va_W) (p1 : Int32) (p2 : Int32) (t9 : Nat)  (r : Int32) (hF : D_J3_checkIndex_8e157N p1 p2 = some r) : MIS l yJ3_checkIndex_8e157 cJ3_checkIndex_8e157 3 (some .int) rm_J3_checkIndex_8e157 D cy en g ws sz [.int p1, .int p2, .ref t9] r ws := by
  refine MIS.of (by decide +kernel) (Nat.le_of_ble_eq_true rfl) ?_
  intro p e s m args below meth c A ls Q hAt hST hP hD hA hS hl hret
  obtain ⟨hx, hb, hr, hml, hown, hw, hlk, hK, hN⟩ := hAt
  have hown : s.vm.findClass "jdk/internal/util/Preconditions" = some m.cls := hown
  have hl : lv_has ls 3 [(0, .int p1), (1, .int p2), (2, .ref t9)] := hl
  refine lv_iload_n hx hb dJ3_checkIndex_8e157_0 rfl (lv_at hl 0 rfl) ?_
  refine lv_if_lt (tgt := 9) hx hb dJ3_checkIndex_8e157_1 (by decide) (fun h1 => ?_) (fun h1 => ?_)
  · replace hF := (if_pos h1).symm.trans hF
    exact absurd hF (by simp)
  · replace hF := (if_neg h1).symm.trans hF
    refine lv_iload_n hx hb dJ3_checkIndex_8e157_4 rfl (lv_at hl 0 rfl) ?_
    refine lv_iload_n hx hb dJ3_checkIndex_8e157_5 rfl (lv_at hl 1 rfl) ?_
    refine lv_icmp_lt (tgt := 16) hx hb dJ3_checkIndex_8e157_6 (by decide) (fun h2 => ?_) (fun h2 => ?_)
    · replace hF := (if_pos h2).symm.trans hF
      refine lv_iload_n hx hb dJ3_checkIndex_8e157_16 rfl (lv_at hl 0 rfl) ?_
      cases hF
      exact hret _ _ _ _ _ _ hP hD hS rfl rfl dJ3_checkIndex_8e157_17
    · replace hF := (if_neg h2).symm.trans hF
      exact absurd hF (by simp)
def D_J0_checkIndex_df160 (p1 : Int32) (p2 : Int32) : Option (Unit) := (D_J3_checkIndex_8e157N p1 p2).bind (fun r5 => some ())
abbrev rm_J0_checkIndex_df160 : Room := { frames := 2, cells := 0, slots := 0, locals := 52 }
set_option maxHeartbeats 4000000 in
set_option maxRecDepth 100000 in
theorem met_J0_checkIndex_df160 (l : Launch) (D : va_G) (cy : Nat → ClassId) (sz : Nat) (en g : Nat → Nat) (ws : va_W) (p1 : Int32) (p2 : Int32)   (hF : D_J0_checkIndex_df160 p1 p2 = some ()) : MVS l yJ0_checkIndex_df160 cJ0_checkIndex_df160 2 rm_J0_checkIndex_df160 D cy en g ws sz [.int p1, .int p2] ws := by
  refine MVS.of (by decide +kernel) (Nat.le_of_ble_eq_true rfl) ?_
  intro p e s m args below meth c A ls Q hAt hST hP hD hA hS hl hret
  obtain ⟨hx, hb, hr, hml, hown, hw, hlk, hK, hN⟩ := hAt
  have hown : s.vm.findClass "java/lang/String" = some m.cls := hown
  have hl : lv_has ls 2 [(0, .int p1), (1, .int p2)] := hl
  refine lv_iload_n hx hb dJ0_checkIndex_df160_0 rfl (lv_at hl 0 rfl) ?_
  refine lv_iload_n hx hb dJ0_checkIndex_df160_1 rfl (lv_at hl 1 rfl) ?_
  rcases hST.2.2.2.2.2.2.2.2.2.2.2.2.2.1 with hz1 | ⟨t9, hz1⟩
  · refine va_gets (n := "SIOOBE_FORMATTER") (v := .null) hx hb hz1 hS hown (hw _ k_763) (fun _ h9 => h9) dJ0_checkIndex_df160_2 ?_
    obtain ⟨r2, hc4, hF⟩ := bind_some hF
    try dsimp only at hF
    refine cS_i (As := [.int p1, .int p2, .null]) (rest := []) hx hb hml hown hw hK hN hA hl.1 hP hD hS k_824 k_825 k_49 k_826 (met_J3_checkIndex_8e157N l D cy _ en g ws p1 p2 r2 hc4) (ST_call hST hS (free_all hD hS hA)) Xok_S ⟨rfl, rfl⟩ (n := 3) (by decide +kernel) rfl ⟨Nat.le_of_ble_eq_true rfl, Nat.le_of_ble_eq_true rfl⟩ ⟨Nat.le_of_ble_eq_true rfl, Nat.le_of_ble_eq_true rfl⟩ (Nat.le_of_ble_eq_true rfl) rfl dJ0_checkIndex_df160_5 (fun H locs hP hD hS => ?_)
    refine lv_pop hx hb dJ0_checkIndex_df160_8 rfl ?_
    cases hF
    exact hret _ _ _ _ _ hP hD hS rfl dJ0_checkIndex_df160_9
  · refine va_gets (n := "SIOOBE_FORMATTER") (v := .ref t9) hx hb hz1 hS hown (hw _ k_763) (fun _ h9 => h9) dJ0_checkIndex_df160_2 ?_
    obtain ⟨r5, hc7, hF⟩ := bind_some hF
    try dsimp only at hF
    refine cS_i (As := [.int p1, .int p2, .ref t9]) (rest := []) hx hb hml hown hw hK hN hA hl.1 hP hD hS k_824 k_825 k_49 k_826 (met_J3_checkIndex_8e157R l D cy _ en g ws p1 p2 t9 r5 hc7) (ST_call hST hS (free_all hD hS hA)) Xok_S ⟨rfl, rfl⟩ (n := 3) (by decide +kernel) rfl ⟨Nat.le_of_ble_eq_true rfl, Nat.le_of_ble_eq_true rfl⟩ ⟨Nat.le_of_ble_eq_true rfl, Nat.le_of_ble_eq_true rfl⟩ (Nat.le_of_ble_eq_true rfl) rfl dJ0_checkIndex_df160_5 (fun H locs hP hD hS => ?_)
    refine lv_pop hx hb dJ0_checkIndex_df160_8 rfl ?_
    cases hF
    exact hret _ _ _ _ _ hP hD hS rfl dJ0_checkIndex_df160_9
def D_J1_charAt_3b067 (p1 : Nat) (p2 : Int32) : Option (Int32) := (D_J0_checkIndex_df160 p2 (nI (formLen.getD p1 0))).bind (fun o2 => if inb p2 (formLen.getD p1 0) then (if isCh (((((formB.getD p1 []).getD p2.toNatClampNeg 0) &&& 255).toUInt32 % 65536).toInt32) then (some (((((formB.getD p1 []).getD p2.toNatClampNeg 0) &&& 255).toUInt32 % 65536).toInt32)) else none) else none)
abbrev rm_J1_charAt_3b067 : Room := { frames := 3, cells := 0, slots := 0, locals := 73 }
set_option maxHeartbeats 4000000 in
set_option maxRecDepth 100000 in
theorem met_J1_charAt_3b067 (l : Launch) (D : va_G) (cy : Nat → ClassId) (sz : Nat) (en g : Nat → Nat) (ws : va_W) (p1 : Nat) (hp1 : p1 < 7) (p2 : Int32)  (r : Int32) (hF : D_J1_charAt_3b067 p1 p2 = some r) : MIS l yJ1_charAt_3b067 cJ1_charAt_3b067 2 (some .char) rm_J1_charAt_3b067 D cy en g ws sz [.ref (g (200 + p1)), .int p2] r ws := by
  refine MCS.of (by decide +kernel) (Nat.le_of_ble_eq_true rfl) ?_
  intro p e s m args below meth c A ls Q hAt hST hP hD hA hS hl hret
  obtain ⟨hx, hb, hr, hml, hown, hw, hlk, hK, hN⟩ := hAt
  have hown : s.vm.findClass "java/lang/StringLatin1" = some m.cls := hown
  have hl : lv_has ls 2 [(0, .ref (g (200 + p1))), (1, .int p2)] := hl
  refine lv_iload_n hx hb dJ1_charAt_3b067_0 rfl (lv_at hl 1 rfl) ?_
  refine lv_aload_n hx hb dJ1_charAt_3b067_1 rfl (lv_at hl 0 rfl) ?_
  refine va_tlen (v := nI (formLen.getD p1 0)) hx hb (hST.2.2.2.2.2.2.2.2.2.1.1 p1 hp1).2.2.2 hS rfl dJ1_charAt_3b067_2 ?_
  obtain ⟨o2, hc3, hF⟩ := bind_some hF
  try dsimp only at hF
  refine cS_v (As := [.int p2, .int (nI (formLen.getD p1 0))]) (rest := []) hx hb hml hown hw hK hN hA hl.1 hP hD hS k_1188 k_822 k_33 k_823 (met_J0_checkIndex_df160 l D cy _ en g ws p2 (nI (formLen.getD p1 0)) hc3) (ST_call hST hS (free_all hD hS hA)) Xok_S ⟨rfl, rfl⟩ (n := 2) (by decide +kernel) rfl ⟨Nat.le_of_ble_eq_true rfl, Nat.le_of_ble_eq_true rfl⟩ ⟨Nat.le_of_ble_eq_true rfl, Nat.le_of_ble_eq_true rfl⟩ (Nat.le_of_ble_eq_true rfl) rfl dJ1_charAt_3b067_3 (fun H locs hP hD hS => ?_)
  refine lv_aload_n hx hb dJ1_charAt_3b067_6 rfl (lv_at hl 0 rfl) ?_
  refine lv_iload_n hx hb dJ1_charAt_3b067_7 rfl (lv_at hl 1 rfl) ?_
  obtain ⟨h4, hF⟩ := ite_some hF
  refine va_tb (v := .int ((formB.getD p1 []).getD p2.toNatClampNeg 0)) hx hb (hST.2.2.2.2.2.2.2.2.2.1.1 p1 hp1).2.2.2 hS (vp_inb h4) rfl dJ1_charAt_3b067_8 ?_
  refine lv_sipush (v := 255) hx hb dJ1_charAt_3b067_9 (by decide) ?_
  refine lv_iand hx hb dJ1_charAt_3b067_12 ?_
  refine lv_i2c (v := ((((formB.getD p1 []).getD p2.toNatClampNeg 0) &&& 255).toUInt32 % 65536).toInt32) hx hb dJ1_charAt_3b067_13 rfl ?_
  obtain ⟨hg5, hF⟩ := ite_some hF
  cases hF
  exact hret _ _ _ _ _ _ hP hD hS rfl rfl (isCh_iff.mp hg5) dJ1_charAt_3b067_14
def D_J0_charAt_5068e (i : Nat) (p1 : Int32) : Option (Int32) := if (D_J0_isLatin1_aae02 i) = 0 then (none) else ((D_J1_charAt_3b067 i p1).bind (fun r5 => if isCh r5 then (some r5) else none))
abbrev rm_J0_charAt_5068e : Room := { frames := 5, cells := 0, slots := 0, locals := 115 }
set_option maxHeartbeats 4000000 in
set_option maxRecDepth 100000 in
theorem met_J0_charAt_5068e (l : Launch) (D : va_G) (cy : Nat → ClassId) (sz : Nat) (en g : Nat → Nat) (ws : va_W) (i : Nat) (hi : i < 7) (p1 : Int32)  (r : Int32) (hF : D_J0_charAt_5068e i p1 = some r) : MIS l yJ0_charAt_5068e cJ0_charAt_5068e 2 (some .char) rm_J0_charAt_5068e D cy en g ws sz [.ref (g (100 + i)), .int p1] r ws := by
  refine MCS.of (by decide +kernel) (Nat.le_of_ble_eq_true rfl) ?_
  intro p e s m args below meth c A ls Q hAt hST hP hD hA hS hl hret
  obtain ⟨hx, hb, hr, hml, hown, hw, hlk, hK, hN⟩ := hAt
  have hown : s.vm.findClass "java/lang/String" = some m.cls := hown
  have hl : lv_has ls 2 [(0, .ref (g (100 + i))), (1, .int p1)] := hl
  refine lv_aload_n hx hb dJ0_charAt_5068e_0 rfl (lv_at hl 0 rfl) ?_
  refine cR_i (As := []) (rest := []) hx hb hml hown hw hK hN hA hl.1 hP hD hS k_1181 k_1182 k_1183 k_33 k_1184 (met_J0_isLatin1_aae02 l D cy _ en g ws i hi (D_J0_isLatin1_aae02 i) rfl) (ST_call hST hS (free_all hD hS hA)) Xok_S (vk_recv hST.2.2.2.2.2.2.2.2.2.1 (i := i) hi hS) ⟨rfl, rfl⟩ (n := 0) (by decide +kernel) rfl ⟨Nat.le_of_ble_eq_true rfl, Nat.le_of_ble_eq_true rfl⟩ ⟨Nat.le_of_ble_eq_true rfl, Nat.le_of_ble_eq_true rfl⟩ (Nat.le_of_ble_eq_true rfl) rfl dJ0_charAt_5068e_1 (fun H locs hP hD hS => ?_)
  refine lv_if_eq (tgt := 16) hx hb dJ0_charAt_5068e_4 (by decide) (fun h4 => ?_) (fun h4 => ?_)
  · replace hF := (if_pos h4).symm.trans hF
    exact absurd hF (by simp)
  · replace hF := (if_neg h4).symm.trans hF
    refine lv_aload_n hx hb dJ0_charAt_5068e_7 rfl (lv_at hl 0 rfl) ?_
    refine vk_getf hx hb (hST.2.2.2.2.2.2.2.2.2.1.1 i hi).2.2.1 hS hown (hw _ k_1267) (fun _ h9 => h9) dJ0_charAt_5068e_8 ?_
    refine lv_iload_n hx hb dJ0_charAt_5068e_11 rfl (lv_at hl 1 rfl) ?_
    obtain ⟨r5, hc7, hF⟩ := bind_some hF
    try dsimp only at hF
    refine cS_i (As := [.ref (g (200 + i)), .int p1]) (rest := []) hx hb hml hown hw hK hN hA hl.1 hP hD hS k_1185 k_1186 k_50 k_1187 (met_J1_charAt_3b067 l D cy _ en g ws i hi p1 r5 hc7) (ST_call hST hS (free_all hD hS hA)) Xok_S ⟨rfl, rfl⟩ (n := 2) (by decide +kernel) rfl ⟨Nat.le_of_ble_eq_true rfl, Nat.le_of_ble_eq_true rfl⟩ ⟨Nat.le_of_ble_eq_true rfl, Nat.le_of_ble_eq_true rfl⟩ (Nat.le_of_ble_eq_true rfl) rfl dJ0_charAt_5068e_12 (fun H locs hP hD hS => ?_)
    obtain ⟨hg8, hF⟩ := ite_some hF
    cases hF
    exact hret _ _ _ _ _ _ hP hD hS rfl rfl (isCh_iff.mp hg8) dJ0_charAt_5068e_15
def D_X3_startsWith (i : Nat) (p1 : Int32) : Option (Int32) := if (D_J0_isEmpty_aae02 i) = 0 then ((D_J0_charAt_5068e i 0).bind (fun r5 => if r5 = p1 then (some 1) else (some 0))) else (some 0)
abbrev rm_X3_startsWith : Room := { frames := 6, cells := 0, slots := 0, locals := 136 }
def D_X9_demandOwner (p1 : Int32) : Int32 := if (D_X9_isOwner p1) = 0 then (1) else (0)
abbrev rm_X9_demandOwner : Room := { frames := 6, cells := 1, slots := 6, locals := 90 }
def exn_X9_demandOwner : Int32 → String := fun _ => "java/lang/IndexOutOfBoundsException"
set_option maxHeartbeats 4000000 in
set_option maxRecDepth 100000 in
theorem met_X9_demandOwner (l : Launch) (hst0 : l.stackTraces = false) (D : va_G) (cy : Nat → ClassId) (sz : Nat) (en g : Nat → Nat) (ws : va_W) (p1 : Int32)  (code : Int32)  (hF : D_X9_demandOwner p1 = code) : MTV l yX9_demandOwner cX9_demandOwner 1 rm_X9_demandOwner D cy en g ws sz [.int p1] exn_X9_demandOwner code ws := by
  refine MTV.of (by decide +kernel) (Nat.le_of_ble_eq_true rfl) ?_
  intro p e s m args below meth c A ls Q hAt htb hST hP hD hA hS hl hQ
  obtain ⟨hx, hb, hr, hml, hown, hw, hlk, hK, hN⟩ := hAt
  have hown : s.vm.findClass "CloudDeeds" = some m.cls := hown
  have hl : lv_has ls 1 [(0, .int p1)] := hl
  refine lv_iload_n hx hb dX9_demandOwner_0 rfl (lv_at hl 0 rfl) ?_
  refine cS_i (As := [.int p1]) (rest := []) hx hb hml hown hw hK hN hA hl.1 hP hD hS k_431 k_432 k_21 k_433 (met_X9_isOwner l D cy _ ws p1 (D_X9_isOwner p1) rfl) (fun _ _ _ => trivial) Xok_T ⟨rfl, rfl⟩ (n := 1) (by decide +kernel) rfl ⟨Nat.le_of_ble_eq_true rfl, Nat.le_of_ble_eq_true rfl⟩ ⟨Nat.le_of_ble_eq_true rfl, Nat.le_of_ble_eq_true rfl⟩ (Nat.le_of_ble_eq_true rfl) rfl dX9_demandOwner_1 (fun H locs hP hD hS => ?_)
  refine lv_if_ne (tgt := 18) hx hb dX9_demandOwner_4 (by decide) (fun h4 => ?_) (fun h4 => ?_)
  · replace hF := (if_neg h4).symm.trans hF
    cases hF
    rw [hQ]
    exact retx_v hx hb hr hlk (Nat.le_of_ble_eq_true rfl) (Nat.le_of_ble_eq_true rfl) hS hP hD rfl rfl dX9_demandOwner_18
  · replace hF := (if_pos h4).symm.trans hF
    cases hF
    rw [hQ]
    exact thrSW (g := g) (en := en) hx hb hst0 hml hown hw hN hlk htb hST hS hP hD hl.1 (text := "there is no such owner") 3 rfl (by decide) k_326 k_44 at_108 (by decide) rfl rfl dX9_demandOwner_7 dX9_demandOwner_10 dX9_demandOwner_11 dX9_demandOwner_14 dX9_demandOwner_17 ⟨Nat.le_of_ble_eq_true rfl, Nat.le_of_ble_eq_true rfl, Nat.le_of_ble_eq_true rfl, Nat.le_of_ble_eq_true rfl⟩ (Nat.le_of_ble_eq_true rfl) ⟨Nat.le_of_ble_eq_true rfl, Nat.le_of_ble_eq_true rfl⟩
def D_X6_keep (x : Mem) (p1 : Nat) : (Mem) := (va_up x 12 (va_up (x 12) 3 (upd (upd (upd (upd ((x 12) 3) 0 (((x p1) 0) 12)) 1 (((x p1) 0) 13)) 2 0) 3 0)))
abbrev rm_X6_keep : Room := { frames := 0, cells := 0, slots := 0, locals := 0 }
set_option maxHeartbeats 4000000 in
set_option maxRecDepth 100000 in
theorem met_X6_keep (l : Launch) (D : va_G) (cy : Nat → ClassId) (sz : Nat) (ad : Nat → Nat → Nat) (en g : Nat → Nat) (x : Mem) (p1 : Nat) (hp1 : p1 < 12)  (t' : Mem) (hF : D_X6_keep x p1 = t') : MV l yX6_keep cX6_keep 2 rm_X6_keep D cy (cW cy ad en x) sz (fun _ => True) [.ref (ad 12 3), .ref (ad p1 0)] (cW cy ad en t') := by
  refine MV.of (by decide +kernel) (Nat.le_of_ble_eq_true rfl) ?_
  intro p e s m args below meth c A ls Q hAt _ hP hD hA hS hl hret
  obtain ⟨hx, hb, hr, hml, hown, hw, hlk, hK, hN⟩ := hAt
  have hown : s.vm.findClass "CloudDeeds$Reasons" = some m.cls := hown
  have hl : lv_has ls 2 [(0, .ref (ad 12 3)), (1, .ref (ad p1 0))] := hl
  refine lv_aload_n hx hb dX6_keep_0 rfl (lv_at hl 0 rfl) ?_
  refine lv_aload_n hx hb dX6_keep_1 rfl (lv_at hl 1 rfl) ?_
  refine getN' (ci := 6) (fs := oF (ad p1) ((x p1) 0)) (v := .int (((x p1) 0) 12)) hx hb hw hN inWX4 hown hK hP (gX (x := x) (k := p1) (r := 0) (f := ((x p1) 0)) hp1 (by decide) ((congrFun rfl _).trans rfl)) rfl 12 (by decide) n_133 rfl rfl dX6_keep_2 ?_
  refine put' (ci := 8) (fs := [.int (((x 12) 3) 0), .int (((x 12) 3) 1), .int (((x 12) 3) 2), .int (((x 12) 3) 3)]) (v := .int (((x p1) 0) 12)) (ty := .int) (ws' := (cW cy ad en (va_up x 12 (va_up (x 12) 3 (upd ((x 12) 3) 0 (((x p1) 0) 12)))))) hx hb hw inWX6 tyX6 tyX6_ok nmX6 hown hK hP hD hS (gY (x := x) (r := 3) (f := ((x 12) 3)) (by decide) ((congrFun rfl _).trans rfl)) rfl 0 (by decide) k_191 rfl rfl (by decide +kernel) rfl rfl (Nat.le_of_ble_eq_true rfl) dX6_keep_5 ((sY (x := x) (r := 3) (g := (upd ((x 12) 3) 0 (((x p1) 0) 12))) (by decide)).trans (congrArg (fun z => cW cy ad en (va_up x 12 (va_up z 3 (upd ((x 12) 3) 0 (((x p1) 0) 12))))) rfl)) (fun H locs hP hD hS => ?_)
  refine lv_aload_n hx hb dX6_keep_8 rfl (lv_at hl 0 rfl) ?_
  refine lv_aload_n hx hb dX6_keep_9 rfl (lv_at hl 1 rfl) ?_
  refine getN' (ci := 6) (fs := oF (ad p1) ((x p1) 0)) (v := .int (((x p1) 0) 13)) hx hb hw hN inWX4 hown hK hP (gX (x := (va_up x 12 (va_up (x 12) 3 (upd ((x 12) 3) 0 (((x p1) 0) 12))))) (k := p1) (r := 0) (f := ((x p1) 0)) hp1 (by decide) ((congrFun ((va_up_ne _ _ (by omega)).trans rfl) _).trans rfl)) rfl 13 (by decide) n_135 rfl rfl dX6_keep_10 ?_
  refine put' (ci := 8) (fs := [.int ((upd ((x 12) 3) 0 (((x p1) 0) 12)) 0), .int ((upd ((x 12) 3) 0 (((x p1) 0) 12)) 1), .int ((upd ((x 12) 3) 0 (((x p1) 0) 12)) 2), .int ((upd ((x 12) 3) 0 (((x p1) 0) 12)) 3)]) (v := .int (((x p1) 0) 13)) (ty := .int) (ws' := (cW cy ad en (va_up x 12 (va_up (x 12) 3 (upd (upd ((x 12) 3) 0 (((x p1) 0) 12)) 1 (((x p1) 0) 13)))))) hx hb hw inWX6 tyX6 tyX6_ok nmX6 hown hK hP hD hS (gY (x := (va_up x 12 (va_up (x 12) 3 (upd ((x 12) 3) 0 (((x p1) 0) 12))))) (r := 3) (f := (upd ((x 12) 3) 0 (((x p1) 0) 12))) (by decide) ((congrFun (va_up_self _ _ _) _).trans (va_up_self _ _ _))) rfl 1 (by decide) k_193 rfl rfl (by decide +kernel) rfl rfl (Nat.le_of_ble_eq_true rfl) dX6_keep_13 ((sT (x := x) (r := 3) (o := (va_up (x 12) 3 (upd ((x 12) 3) 0 (((x p1) 0) 12)))) (g := (upd (upd ((x 12) 3) 0 (((x p1) 0) 12)) 1 (((x p1) 0) 13))) (by decide)).trans (congrArg (fun z => cW cy ad en (va_up x 12 z)) (up_up _ _ _ _))) (fun H locs hP hD hS => ?_)
  refine lv_aload_n hx hb dX6_keep_16 rfl (lv_at hl 0 rfl) ?_
  refine lv_iconst (v := 0) hx hb dX6_keep_17 (by decide) ?_
  refine put' (ci := 8) (fs := [.int ((upd (upd ((x 12) 3) 0 (((x p1) 0) 12)) 1 (((x p1) 0) 13)) 0), .int ((upd (upd ((x 12) 3) 0 (((x p1) 0) 12)) 1 (((x p1) 0) 13)) 1), .int ((upd (upd ((x 12) 3) 0 (((x p1) 0) 12)) 1 (((x p1) 0) 13)) 2), .int ((upd (upd ((x 12) 3) 0 (((x p1) 0) 12)) 1 (((x p1) 0) 13)) 3)]) (v := .int 0) (ty := .int) (ws' := (cW cy ad en (va_up x 12 (va_up (x 12) 3 (upd (upd (upd ((x 12) 3) 0 (((x p1) 0) 12)) 1 (((x p1) 0) 13)) 2 0))))) hx hb hw inWX6 tyX6 tyX6_ok nmX6 hown hK hP hD hS (gY (x := (va_up x 12 (va_up (x 12) 3 (upd (upd ((x 12) 3) 0 (((x p1) 0) 12)) 1 (((x p1) 0) 13))))) (r := 3) (f := (upd (upd ((x 12) 3) 0 (((x p1) 0) 12)) 1 (((x p1) 0) 13))) (by decide) ((congrFun (va_up_self _ _ _) _).trans (va_up_self _ _ _))) rfl 2 (by decide) k_195 rfl rfl (by decide +kernel) rfl rfl (Nat.le_of_ble_eq_true rfl) dX6_keep_18 ((sT (x := x) (r := 3) (o := (va_up (x 12) 3 (upd (upd ((x 12) 3) 0 (((x p1) 0) 12)) 1 (((x p1) 0) 13)))) (g := (upd (upd (upd ((x 12) 3) 0 (((x p1) 0) 12)) 1 (((x p1) 0) 13)) 2 0)) (by decide)).trans (congrArg (fun z => cW cy ad en (va_up x 12 z)) (up_up _ _ _ _))) (fun H locs hP hD hS => ?_)
  refine lv_aload_n hx hb dX6_keep_21 rfl (lv_at hl 0 rfl) ?_
  refine lv_iconst (v := 0) hx hb dX6_keep_22 (by decide) ?_
  refine put' (ci := 8) (fs := [.int ((upd (upd (upd ((x 12) 3) 0 (((x p1) 0) 12)) 1 (((x p1) 0) 13)) 2 0) 0), .int ((upd (upd (upd ((x 12) 3) 0 (((x p1) 0) 12)) 1 (((x p1) 0) 13)) 2 0) 1), .int ((upd (upd (upd ((x 12) 3) 0 (((x p1) 0) 12)) 1 (((x p1) 0) 13)) 2 0) 2), .int ((upd (upd (upd ((x 12) 3) 0 (((x p1) 0) 12)) 1 (((x p1) 0) 13)) 2 0) 3)]) (v := .int 0) (ty := .int) (ws' := (cW cy ad en (va_up x 12 (va_up (x 12) 3 (upd (upd (upd (upd ((x 12) 3) 0 (((x p1) 0) 12)) 1 (((x p1) 0) 13)) 2 0) 3 0))))) hx hb hw inWX6 tyX6 tyX6_ok nmX6 hown hK hP hD hS (gY (x := (va_up x 12 (va_up (x 12) 3 (upd (upd (upd ((x 12) 3) 0 (((x p1) 0) 12)) 1 (((x p1) 0) 13)) 2 0)))) (r := 3) (f := (upd (upd (upd ((x 12) 3) 0 (((x p1) 0) 12)) 1 (((x p1) 0) 13)) 2 0)) (by decide) ((congrFun (va_up_self _ _ _) _).trans (va_up_self _ _ _))) rfl 3 (by decide) k_197 rfl rfl (by decide +kernel) rfl rfl (Nat.le_of_ble_eq_true rfl) dX6_keep_23 ((sT (x := x) (r := 3) (o := (va_up (x 12) 3 (upd (upd (upd ((x 12) 3) 0 (((x p1) 0) 12)) 1 (((x p1) 0) 13)) 2 0))) (g := (upd (upd (upd (upd ((x 12) 3) 0 (((x p1) 0) 12)) 1 (((x p1) 0) 13)) 2 0) 3 0)) (by decide)).trans (congrArg (fun z => cW cy ad en (va_up x 12 z)) (up_up _ _ _ _))) (fun H locs hP hD hS => ?_)
  cases hF
  exact hret _ _ _ _ _ hP hD hS rfl dX6_keep_26
def D_X6_keepOrder (x : Mem) (p1 : Int32) (p2 : Nat) : (Mem) := (va_up x 12 (va_up (x 12) 3 (upd (upd (upd (upd ((x 12) 3) 0 10) 1 p1) 2 (((x p2) 0) 12)) 3 (((x p2) 0) 13))))
abbrev rm_X6_keepOrder : Room := { frames := 0, cells := 0, slots := 0, locals := 0 }
def D_X2_clear (x : Mem) : (Mem) := (va_up x 12 (va_up (x 12) 1 (upd ((x 12) 1) 2 0)))
abbrev rm_X2_clear : Room := { frames := 0, cells := 0, slots := 0, locals := 0 }
def D_X5_start (x : Mem) (j : Nat) (p1 : Nat) : (Mem) := (va_up x 12 (va_up (x 12) (j + 7) (upd (upd ((x 12) (j + 7)) 0 (nI p1)) 2 0)))
abbrev rm_X5_start : Room := { frames := 0, cells := 0, slots := 0, locals := 0 }
def D_X5_add (x : Mem) (j : Nat) (p1 : Int32) : Option (Int32 × (Mem)) := if (D_X9_isWithin (((x 12) (j + 7)) 2) 3) = 0 then (some (0, x)) else (if inb (((x 12) (j + 7)) 2) 3 then (some (1, (va_up x 12 (va_up (va_up (x 12) (j + 19) (upd ((x 12) (j + 19)) ((((x 12) (j + 7)) 2).toNatClampNeg) p1)) (j + 7) (upd ((va_up (x 12) (j + 19) (upd ((x 12) (j + 19)) ((((x 12) (j + 7)) 2).toNatClampNeg) p1)) (j + 7)) 2 ((((va_up (x 12) (j + 19) (upd ((x 12) (j + 19)) ((((x 12) (j + 7)) 2).toNatClampNeg) p1)) (j + 7)) 2) + 1)))))) else none)
abbrev rm_X5_add : Room := { frames := 1, cells := 0, slots := 0, locals := 21 }
def D_X4_carryOut (o : Nat → Nat → Int32) (p1 : Nat) (p2 : Int32) (p3 : Int32) (p4 : Int32) : Option (Int32 × (Nat → Nat → Int32)) := if (nI ((p1 + 1) % 9)) = 1 then ((D_X4_letCome o p2 p3 p4).bind (fun (r5, o6) => some (r5, o6))) else (if (nI ((p1 + 1) % 9)) = 2 then ((D_X4_giveVineyard o p2 p3).bind (fun (r9, o10) => some (r9, o10))) else (if (nI ((p1 + 1) % 9)) = 3 then ((D_X4_giveTitle o p2 p3).bind (fun (r13, o14) => some (r13, o14))) else (if (nI ((p1 + 1) % 9)) = 4 then ((D_X4_sellTo o p2 p3 p4).bind (fun (r17, o18) => some (r17, o18))) else (if (nI ((p1 + 1) % 9)) = 5 then ((D_X4_pledgeTo o p2 p3).bind (fun (r21, o22) => some (r21, o22))) else (if (nI ((p1 + 1) % 9)) = 6 then ((D_X4_redeemPledge o p2).bind (fun (r25, o26) => some (r25, o26))) else (if (nI ((p1 + 1) % 9)) = 7 then ((D_X4_blow o p2).bind (fun (r29, o30) => some (r29, o30))) else (if (nI ((p1 + 1) % 9)) = 8 then ((D_X4_hailDown o p2).bind (fun (r33, o34) => some (r33, o34))) else ((D_X4_letDawn o).bind (fun (r36, o37) => some (r36, o37))))))))))
abbrev rm_X4_carryOut : Room := { frames := 4, cells := 0, slots := 0, locals := 90 }
set_option maxHeartbeats 4000000 in
set_option maxRecDepth 100000 in
theorem met_X4_carryOut (l : Launch) (D : va_G) (cy : Nat → ClassId) (sz : Nat) (ad : Nat → Nat → Nat) (en g : Nat → Nat) (x : Mem) (k : Nat) (hk : k < 12) (o : Nat → Nat → Int32) (p1 : Nat) (hp1 : p1 < 9) (p2 : Int32) (p3 : Int32) (p4 : Int32)  (r : Int32) (t' : Nat → Nat → Int32) (hF : D_X4_carryOut o p1 p2 p3 p4 = some (r, t')) : MIS l yX4_carryOut cX4_carryOut 5 (some .int) rm_X4_carryOut D cy en g (cW cy ad en (va_up x k o)) sz [.ref (ad k 0), .ref (en p1), .int p2, .int p3, .int p4] r (cW cy ad en (va_up x k t')) := by
  refine MIS.of (by decide +kernel) (Nat.le_of_ble_eq_true rfl) ?_
  intro p e s m args below meth c A ls Q hAt hST hP hD hA hS hl hret
  obtain ⟨hx, hb, hr, hml, hown, hw, hlk, hK, hN⟩ := hAt
  have hown : s.vm.findClass "CloudDeeds$Office" = some m.cls := hown
  have hl : lv_has ls 5 [(0, .ref (ad k 0)), (1, .ref (en p1)), (2, .int p2), (3, .int p3), (4, .int p4)] := hl
  refine va_gets (n := "$SwitchMap$CloudDeeds$Kind") (v := .ref (g 1)) hx hb hST.2.2.2.2.2.2.1 hS hown (hw _ k_990) (fun _ h9 => h9) dX4_carryOut_0 ?_
  refine lv_aload_n hx hb dX4_carryOut_3 rfl (lv_at hl 1 rfl) ?_
  refine cU_i (As := []) (rest := [.ref (g 1)]) hx hb hml hown hw hK hN hA hl.1 hP hD hS k_992 k_993 k_995 k_996 k_29 k_997 rfl (met_Jx29ce0_ordinal_8abf5 l D cy _ en g (cW cy ad en (va_up x k o)) p1 hp1 (nI p1) rfl) (ST_call hST hS (free_all hD hS hA)) Xok_S (va_recvE hST.2.2.2.1 (i := p1) (show p1 < nmKind.length from hp1) hS) ⟨rfl, rfl⟩ (n := 0) (by decide +kernel) rfl ⟨Nat.le_of_ble_eq_true rfl, Nat.le_of_ble_eq_true rfl⟩ ⟨Nat.le_of_ble_eq_true rfl, Nat.le_of_ble_eq_true rfl⟩ (Nat.le_of_ble_eq_true rfl) rfl dX4_carryOut_4 (fun H locs hP hD hS => ?_)
  refine va_ti (v := .int (nI ((p1 + 1) % 9))) hx hb hST.2.2.2.2.2.2.2.1 hS (vp_in_nI hp1 (by decide)) (swv hp1) dX4_carryOut_7 ?_
  by_cases h4 : (nI ((p1 + 1) % 9)) = 1
  · replace hF := (if_pos h4).symm.trans hF
    refine lv_tableIn (tgt := 56) (off := 48) hx hb dX4_carryOut_8 (by rw [h4]; decide) (by rw [h4]; decide) (by rw [h4]; decide) (by decide) ?_
    refine lv_aload_n hx hb dX4_carryOut_56 rfl (lv_at hl 0 rfl) ?_
    refine lv_iload_n hx hb dX4_carryOut_57 rfl (lv_at hl 2 rfl) ?_
    refine lv_iload_n hx hb dX4_carryOut_58 rfl (lv_at hl 3 rfl) ?_
    refine lv_iload hx hb dX4_carryOut_59 (lv_at hl 4 rfl) ?_
    obtain ⟨⟨r5, o6⟩, hc7, hF⟩ := bind_some hF
    try dsimp only at hF
    refine cV_i (As := [.int p2, .int p3, .int p4]) (rest := []) hx hb hml hown hw hK hN hA hl.1 hP hD hS k_998 k_999 k_1000 k_22 k_1001 (met_X4_letCome l D cy _ ad en x k hk o p2 p3 p4 r5 o6 hc7) (fun _ _ _ => trivial) Xok_T (gO (x := x) (r := 0) (o := o) (f := (o 0)) hk (by decide) rfl) rfl ⟨rfl, rfl⟩ (n := 3) (by decide +kernel) rfl ⟨Nat.le_of_ble_eq_true rfl, Nat.le_of_ble_eq_true rfl⟩ ⟨Nat.le_of_ble_eq_true rfl, Nat.le_of_ble_eq_true rfl⟩ (Nat.le_of_ble_eq_true rfl) rfl dX4_carryOut_61 (fun H locs hP hD hS => ?_)
    cases hF
    exact hret _ _ _ _ _ _ hP hD hS rfl rfl dX4_carryOut_64
  · replace hF := (if_neg h4).symm.trans hF
    by_cases h8 : (nI ((p1 + 1) % 9)) = 2
    · replace hF := (if_pos h8).symm.trans hF
      refine lv_tableIn (tgt := 65) (off := 57) hx hb dX4_carryOut_8 (by rw [h8]; decide) (by rw [h8]; decide) (by rw [h8]; decide) (by decide) ?_
      refine lv_aload_n hx hb dX4_carryOut_65 rfl (lv_at hl 0 rfl) ?_
      refine lv_iload_n hx hb dX4_carryOut_66 rfl (lv_at hl 2 rfl) ?_
      refine lv_iload_n hx hb dX4_carryOut_67 rfl (lv_at hl 3 rfl) ?_
      obtain ⟨⟨r9, o10⟩, hc11, hF⟩ := bind_some hF
      try dsimp only at hF
      refine cV_i (As := [.int p2, .int p3]) (rest := []) hx hb hml hown hw hK hN hA hl.1 hP hD hS k_1007 k_1008 k_1009 k_22 k_1010 (met_X4_giveVineyard l D cy _ ad en x k hk o p2 p3 r9 o10 hc11) (fun _ _ _ => trivial) Xok_T (gO (x := x) (r := 0) (o := o) (f := (o 0)) hk (by decide) rfl) rfl ⟨rfl, rfl⟩ (n := 2) (by decide +kernel) rfl ⟨Nat.le_of_ble_eq_true rfl, Nat.le_of_ble_eq_true rfl⟩ ⟨Nat.le_of_ble_eq_true rfl, Nat.le_of_ble_eq_true rfl⟩ (Nat.le_of_ble_eq_true rfl) rfl dX4_carryOut_68 (fun H locs hP hD hS => ?_)
      cases hF
      exact hret _ _ _ _ _ _ hP hD hS rfl rfl dX4_carryOut_71
    · replace hF := (if_neg h8).symm.trans hF
      by_cases h12 : (nI ((p1 + 1) % 9)) = 3
      · replace hF := (if_pos h12).symm.trans hF
        refine lv_tableIn (tgt := 72) (off := 64) hx hb dX4_carryOut_8 (by rw [h12]; decide) (by rw [h12]; decide) (by rw [h12]; decide) (by decide) ?_
        refine lv_aload_n hx hb dX4_carryOut_72 rfl (lv_at hl 0 rfl) ?_
        refine lv_iload_n hx hb dX4_carryOut_73 rfl (lv_at hl 2 rfl) ?_
        refine lv_iload_n hx hb dX4_carryOut_74 rfl (lv_at hl 3 rfl) ?_
        obtain ⟨⟨r13, o14⟩, hc15, hF⟩ := bind_some hF
        try dsimp only at hF
        refine cV_i (As := [.int p2, .int p3]) (rest := []) hx hb hml hown hw hK hN hA hl.1 hP hD hS k_1011 k_1012 k_1013 k_22 k_1014 (met_X4_giveTitle l D cy _ ad en x k hk o p2 p3 r13 o14 hc15) (fun _ _ _ => trivial) Xok_T (gO (x := x) (r := 0) (o := o) (f := (o 0)) hk (by decide) rfl) rfl ⟨rfl, rfl⟩ (n := 2) (by decide +kernel) rfl ⟨Nat.le_of_ble_eq_true rfl, Nat.le_of_ble_eq_true rfl⟩ ⟨Nat.le_of_ble_eq_true rfl, Nat.le_of_ble_eq_true rfl⟩ (Nat.le_of_ble_eq_true rfl) rfl dX4_carryOut_75 (fun H locs hP hD hS => ?_)
        cases hF
        exact hret _ _ _ _ _ _ hP hD hS rfl rfl dX4_carryOut_78
      · replace hF := (if_neg h12).symm.trans hF
        by_cases h16 : (nI ((p1 + 1) % 9)) = 4
        · replace hF := (if_pos h16).symm.trans hF
          refine lv_tableIn (tgt := 79) (off := 71) hx hb dX4_carryOut_8 (by rw [h16]; decide) (by rw [h16]; decide) (by rw [h16]; decide) (by decide) ?_
          refine lv_aload_n hx hb dX4_carryOut_79 rfl (lv_at hl 0 rfl) ?_
          refine lv_iload_n hx hb dX4_carryOut_80 rfl (lv_at hl 2 rfl) ?_
          refine lv_iload_n hx hb dX4_carryOut_81 rfl (lv_at hl 3 rfl) ?_
          refine lv_iload hx hb dX4_carryOut_82 (lv_at hl 4 rfl) ?_
          obtain ⟨⟨r17, o18⟩, hc19, hF⟩ := bind_some hF
          try dsimp only at hF
          refine cV_i (As := [.int p2, .int p3, .int p4]) (rest := []) hx hb hml hown hw hK hN hA hl.1 hP hD hS k_1015 k_1016 k_1017 k_22 k_1018 (met_X4_sellTo l D cy _ ad en x k hk o p2 p3 p4 r17 o18 hc19) (fun _ _ _ => trivial) Xok_T (gO (x := x) (r := 0) (o := o) (f := (o 0)) hk (by decide) rfl) rfl ⟨rfl, rfl⟩ (n := 3) (by decide +kernel) rfl ⟨Nat.le_of_ble_eq_true rfl, Nat.le_of_ble_eq_true rfl⟩ ⟨Nat.le_of_ble_eq_true rfl, Nat.le_of_ble_eq_true rfl⟩ (Nat.le_of_ble_eq_true rfl) rfl dX4_carryOut_84 (fun H locs hP hD hS => ?_)
          cases hF
          exact hret _ _ _ _ _ _ hP hD hS rfl rfl dX4_carryOut_87
        · replace hF := (if_neg h16).symm.trans hF
          by_cases h20 : (nI ((p1 + 1) % 9)) = 5
          · replace hF := (if_pos h20).symm.trans hF
            refine lv_tableIn (tgt := 88) (off := 80) hx hb dX4_carryOut_8 (by rw [h20]; decide) (by rw [h20]; decide) (by rw [h20]; decide) (by decide) ?_
            refine lv_aload_n hx hb dX4_carryOut_88 rfl (lv_at hl 0 rfl) ?_
            refine lv_iload_n hx hb dX4_carryOut_89 rfl (lv_at hl 2 rfl) ?_
            refine lv_iload_n hx hb dX4_carryOut_90 rfl (lv_at hl 3 rfl) ?_
            obtain ⟨⟨r21, o22⟩, hc23, hF⟩ := bind_some hF
            try dsimp only at hF
            refine cV_i (As := [.int p2, .int p3]) (rest := []) hx hb hml hown hw hK hN hA hl.1 hP hD hS k_1027 k_1028 k_1029 k_22 k_1030 (met_X4_pledgeTo l D cy _ ad en x k hk o p2 p3 r21 o22 hc23) (fun _ _ _ => trivial) Xok_T (gO (x := x) (r := 0) (o := o) (f := (o 0)) hk (by decide) rfl) rfl ⟨rfl, rfl⟩ (n := 2) (by decide +kernel) rfl ⟨Nat.le_of_ble_eq_true rfl, Nat.le_of_ble_eq_true rfl⟩ ⟨Nat.le_of_ble_eq_true rfl, Nat.le_of_ble_eq_true rfl⟩ (Nat.le_of_ble_eq_true rfl) rfl dX4_carryOut_91 (fun H locs hP hD hS => ?_)
            cases hF
            exact hret _ _ _ _ _ _ hP hD hS rfl rfl dX4_carryOut_94
          · replace hF := (if_neg h20).symm.trans hF
            by_cases h24 : (nI ((p1 + 1) % 9)) = 6
            · replace hF := (if_pos h24).symm.trans hF
              refine lv_tableIn (tgt := 95) (off := 87) hx hb dX4_carryOut_8 (by rw [h24]; decide) (by rw [h24]; decide) (by rw [h24]; decide) (by decide) ?_
              refine lv_aload_n hx hb dX4_carryOut_95 rfl (lv_at hl 0 rfl) ?_
              refine lv_iload_n hx hb dX4_carryOut_96 rfl (lv_at hl 2 rfl) ?_
              obtain ⟨⟨r25, o26⟩, hc27, hF⟩ := bind_some hF
              try dsimp only at hF
              refine cV_i (As := [.int p2]) (rest := []) hx hb hml hown hw hK hN hA hl.1 hP hD hS k_1039 k_1040 k_1041 k_22 k_1042 (met_X4_redeemPledge l D cy _ ad en x k hk o p2 r25 o26 hc27) (fun _ _ _ => trivial) Xok_T (gO (x := x) (r := 0) (o := o) (f := (o 0)) hk (by decide) rfl) rfl ⟨rfl, rfl⟩ (n := 1) (by decide +kernel) rfl ⟨Nat.le_of_ble_eq_true rfl, Nat.le_of_ble_eq_true rfl⟩ ⟨Nat.le_of_ble_eq_true rfl, Nat.le_of_ble_eq_true rfl⟩ (Nat.le_of_ble_eq_true rfl) rfl dX4_carryOut_97 (fun H locs hP hD hS => ?_)
              cases hF
              exact hret _ _ _ _ _ _ hP hD hS rfl rfl dX4_carryOut_100
            · replace hF := (if_neg h24).symm.trans hF
              by_cases h28 : (nI ((p1 + 1) % 9)) = 7
              · replace hF := (if_pos h28).symm.trans hF
                refine lv_tableIn (tgt := 101) (off := 93) hx hb dX4_carryOut_8 (by rw [h28]; decide) (by rw [h28]; decide) (by rw [h28]; decide) (by decide) ?_
                refine lv_aload_n hx hb dX4_carryOut_101 rfl (lv_at hl 0 rfl) ?_
                refine lv_iload_n hx hb dX4_carryOut_102 rfl (lv_at hl 2 rfl) ?_
                obtain ⟨⟨r29, o30⟩, hc31, hF⟩ := bind_some hF
                try dsimp only at hF
                refine cV_i (As := [.int p2]) (rest := []) hx hb hml hown hw hK hN hA hl.1 hP hD hS k_1045 k_537 k_538 k_22 k_539 (met_X4_blow l D cy _ ad en x k hk o p2 r29 o30 hc31) (fun _ _ _ => trivial) Xok_T (gO (x := x) (r := 0) (o := o) (f := (o 0)) hk (by decide) rfl) rfl ⟨rfl, rfl⟩ (n := 1) (by decide +kernel) rfl ⟨Nat.le_of_ble_eq_true rfl, Nat.le_of_ble_eq_true rfl⟩ ⟨Nat.le_of_ble_eq_true rfl, Nat.le_of_ble_eq_true rfl⟩ (Nat.le_of_ble_eq_true rfl) rfl dX4_carryOut_103 (fun H locs hP hD hS => ?_)
                cases hF
                exact hret _ _ _ _ _ _ hP hD hS rfl rfl dX4_carryOut_106
              · replace hF := (if_neg h28).symm.trans hF
                by_cases h32 : (nI ((p1 + 1) % 9)) = 8
                · replace hF := (if_pos h32).symm.trans hF
                  refine lv_tableIn (tgt := 107) (off := 99) hx hb dX4_carryOut_8 (by rw [h32]; decide) (by rw [h32]; decide) (by rw [h32]; decide) (by decide) ?_
                  refine lv_aload_n hx hb dX4_carryOut_107 rfl (lv_at hl 0 rfl) ?_
                  refine lv_iload_n hx hb dX4_carryOut_108 rfl (lv_at hl 2 rfl) ?_
                  obtain ⟨⟨r33, o34⟩, hc35, hF⟩ := bind_some hF
                  try dsimp only at hF
                  refine cV_i (As := [.int p2]) (rest := []) hx hb hml hown hw hK hN hA hl.1 hP hD hS k_1046 k_1047 k_1048 k_22 k_1049 (met_X4_hailDown l D cy _ ad en x k hk o p2 r33 o34 hc35) (fun _ _ _ => trivial) Xok_T (gO (x := x) (r := 0) (o := o) (f := (o 0)) hk (by decide) rfl) rfl ⟨rfl, rfl⟩ (n := 1) (by decide +kernel) rfl ⟨Nat.le_of_ble_eq_true rfl, Nat.le_of_ble_eq_true rfl⟩ ⟨Nat.le_of_ble_eq_true rfl, Nat.le_of_ble_eq_true rfl⟩ (Nat.le_of_ble_eq_true rfl) rfl dX4_carryOut_109 (fun H locs hP hD hS => ?_)
                  cases hF
                  exact hret _ _ _ _ _ _ hP hD hS rfl rfl dX4_carryOut_112
                · replace hF := (if_neg h32).symm.trans hF
                  refine tableDf (tgt := 113) hx hb dX4_carryOut_8 (fun z hz1 hz2 hz3 => by have eh4 := lv_neT h4 (show (1 : Int32).toInt = 1 by decide); have eh8 := lv_neT h8 (show (2 : Int32).toInt = 2 by decide); have eh12 := lv_neT h12 (show (3 : Int32).toInt = 3 by decide); have eh16 := lv_neT h16 (show (4 : Int32).toInt = 4 by decide); have eh20 := lv_neT h20 (show (5 : Int32).toInt = 5 by decide); have eh24 := lv_neT h24 (show (6 : Int32).toInt = 6 by decide); have eh28 := lv_neT h28 (show (7 : Int32).toInt = 7 by decide); have eh32 := lv_neT h32 (show (8 : Int32).toInt = 8 by decide); omega) (by decide) ?_
                  refine lv_aload_n hx hb dX4_carryOut_113 rfl (lv_at hl 0 rfl) ?_
                  obtain ⟨⟨r36, o37⟩, hc38, hF⟩ := bind_some hF
                  try dsimp only at hF
                  refine cV_i (As := []) (rest := []) hx hb hml hown hw hK hN hA hl.1 hP hD hS k_1054 k_560 k_561 k_22 k_562 (met_X4_letDawn l D cy _ ad en x k hk o r36 o37 hc38) (fun _ _ _ => trivial) Xok_T (gO (x := x) (r := 0) (o := o) (f := (o 0)) hk (by decide) rfl) rfl ⟨rfl, rfl⟩ (n := 0) (by decide +kernel) rfl ⟨Nat.le_of_ble_eq_true rfl, Nat.le_of_ble_eq_true rfl⟩ ⟨Nat.le_of_ble_eq_true rfl, Nat.le_of_ble_eq_true rfl⟩ (Nat.le_of_ble_eq_true rfl) rfl dX4_carryOut_114 (fun H locs hP hD hS => ?_)
                  cases hF
                  exact hret _ _ _ _ _ _ hP hD hS rfl rfl dX4_carryOut_117
def D_X9_cloudOf (x : Mem) (p1 : Int32) (p2 : Int32) : Option (Int32 × Int32) := if (D_X4_hasCloud (x 0) p1) = 0 then (some (1, 0)) else (if (D_X9_isWithin p2 7) = 0 then (some (2, 0)) else (if inb p1 6 then (some (0, (D_X1_tell ((x 0) (p1.toNatClampNeg + 7)) p2))) else none))
abbrev rm_X9_cloudOf : Room := { frames := 6, cells := 2, slots := 12, locals := 90 }
def exn_X9_cloudOf : Int32 → String := fun c => if c = 1 then "java/lang/IndexOutOfBoundsException" else "java/lang/IllegalArgumentException"
set_option maxHeartbeats 4000000 in
set_option maxRecDepth 100000 in
theorem met_X9_cloudOf (l : Launch) (hst0 : l.stackTraces = false) (D : va_G) (cy : Nat → ClassId) (sz : Nat) (ad : Nat → Nat → Nat) (en g : Nat → Nat) (x : Mem) (p1 : Int32) (p2 : Int32)  (code : Int32) (r : Int32) (hF : D_X9_cloudOf x p1 p2 = some (code, r)) : MT l yX9_cloudOf cX9_cloudOf 3 (some .int) rm_X9_cloudOf D cy en g (cW cy ad en x) sz [.ref (ad 12 0), .int p1, .int p2] exn_X9_cloudOf code r (cW cy ad en x) := by
  refine MT.of (by decide +kernel) (Nat.le_of_ble_eq_true rfl) ?_
  intro p e s m args below meth c A ls Q hAt htb hST hP hD hA hS hl hQ
  obtain ⟨hx, hb, hr, hml, hown, hw, hlk, hK, hN⟩ := hAt
  have hown : s.vm.findClass "CloudDeeds" = some m.cls := hown
  have hl : lv_has ls 3 [(0, .ref (ad 12 0)), (1, .int p1), (2, .int p2)] := hl
  refine lv_aload_n hx hb dX9_cloudOf_0 rfl (lv_at hl 0 rfl) ?_
  refine get' (ci := 11) (fs := [.ref (ad 0 0), .ref (ad 1 0), .ref (ad 2 0), .ref (ad 3 0), .int (((x 12) 0) 4), .ref (ad 12 1), .ref (ad 12 3), .ref (ad 12 4), .int (((x 12) 0) 8), .ref (ad 12 31)]) (v := .ref (ad 0 0)) hx hb hw inWX9 hown hK hP (gY (x := x) (r := 0) (f := ((x 12) 0)) (by decide) ((congrFun rfl _).trans rfl)) rfl 0 (by decide) k_284 rfl rfl dX9_cloudOf_1 ?_
  refine lv_iload_n hx hb dX9_cloudOf_4 rfl (lv_at hl 1 rfl) ?_
  have hP := cvP hP ((congrArg (cW cy ad en) (up_self x 0)).symm.trans (congrArg (fun z => cW cy ad en (va_up x 0 z)) rfl))
  have hD := cvD hD ((congrArg (cW cy ad en) (up_self x 0)).symm.trans (congrArg (fun z => cW cy ad en (va_up x 0 z)) rfl))
  refine cV_i (As := [.int p1]) (rest := []) hx hb hml hown hw hK hN hA hl.1 hP hD hS k_319 k_320 k_321 k_22 k_322 (met_X4_hasCloud l D cy _ ad en x 0 (by decide) (x 0) p1 (D_X4_hasCloud (x 0) p1) rfl) (fun _ _ _ => trivial) Xok_T (gX (x := (va_up x 0 (x 0))) (k := 0) (r := 0) (f := ((x 0) 0)) (by decide) (by decide) ((congrFun (va_up_self _ _ _) _).trans rfl)) rfl ⟨rfl, rfl⟩ (n := 1) (by decide +kernel) rfl ⟨Nat.le_of_ble_eq_true rfl, Nat.le_of_ble_eq_true rfl⟩ ⟨Nat.le_of_ble_eq_true rfl, Nat.le_of_ble_eq_true rfl⟩ (Nat.le_of_ble_eq_true rfl) rfl dX9_cloudOf_5 (fun H locs hP hD hS => ?_)
  have hP : va_P D vwCl (cW cy ad en x) H := cvP hP ((congrArg (cW cy ad en) (up_self x 0)).symm.trans (congrArg (fun z => cW cy ad en (va_up x 0 z)) rfl)).symm
  have hD : va_D A (cW cy ad en x) := cvD hD ((congrArg (cW cy ad en) (up_self x 0)).symm.trans (congrArg (fun z => cW cy ad en (va_up x 0 z)) rfl)).symm
  refine lv_if_ne (tgt := 21) hx hb dX9_cloudOf_8 (by decide) (fun h4 => ?_) (fun h4 => ?_)
  · replace hF := (if_neg h4).symm.trans hF
    refine lv_iload_n hx hb dX9_cloudOf_21 rfl (lv_at hl 2 rfl) ?_
    refine lv_bipush (v := 7) hx hb dX9_cloudOf_22 (by decide) ?_
    refine cS_i (As := [.int p2, .int 7]) (rest := []) hx hb hml hown hw hK hN hA hl.1 hP hD hS k_395 k_324 k_21 k_325 (met_X9_isWithin l D cy _ (cW cy ad en x) p2 7 (D_X9_isWithin p2 7) rfl) (fun _ _ _ => trivial) Xok_T ⟨rfl, rfl⟩ (n := 2) (by decide +kernel) rfl ⟨Nat.le_of_ble_eq_true rfl, Nat.le_of_ble_eq_true rfl⟩ ⟨Nat.le_of_ble_eq_true rfl, Nat.le_of_ble_eq_true rfl⟩ (Nat.le_of_ble_eq_true rfl) rfl dX9_cloudOf_24 (fun H locs hP hD hS => ?_)
    refine lv_if_ne (tgt := 40) hx hb dX9_cloudOf_27 (by decide) (fun h8 => ?_) (fun h8 => ?_)
    · replace hF := (if_neg h8).symm.trans hF
      refine lv_aload_n hx hb dX9_cloudOf_40 rfl (lv_at hl 0 rfl) ?_
      refine get' (ci := 11) (fs := [.ref (ad 0 0), .ref (ad 1 0), .ref (ad 2 0), .ref (ad 3 0), .int (((x 12) 0) 4), .ref (ad 12 1), .ref (ad 12 3), .ref (ad 12 4), .int (((x 12) 0) 8), .ref (ad 12 31)]) (v := .ref (ad 0 0)) hx hb hw inWX9 hown hK hP (gY (x := x) (r := 0) (f := ((x 12) 0)) (by decide) ((congrFun rfl _).trans rfl)) rfl 0 (by decide) k_284 rfl rfl dX9_cloudOf_41 ?_
      refine getN' (ci := 6) (fs := oF (ad 0) ((x 0) 0)) (v := .ref (ad 0 1)) hx hb hw hN inWX4 hown hK hP (gX (x := x) (k := 0) (r := 0) (f := ((x 0) 0)) (by decide) (by decide) ((congrFun rfl _).trans rfl)) rfl 0 (by decide) n_118 rfl rfl dX9_cloudOf_44 ?_
      refine lv_iload_n hx hb dX9_cloudOf_47 rfl (lv_at hl 1 rfl) ?_
      obtain ⟨h9, hF⟩ := ite_some hF
      have hr10 : (p1.toNatClampNeg + 7) < 13 := Nat.add_lt_add_right (inb_lt h9) 7
      refine aald' (n := 6) (g := (ad 0 (p1.toNatClampNeg + 7))) hx hb hK hP (gX (x := x) (k := 0) (r := 1) (f := ((x 0) 1)) (by decide) (by decide) ((congrFun rfl _).trans rfl)) (t0 := 3) rfl (vp_inb h9) rfl dX9_cloudOf_48 ?_
      refine lv_iload_n hx hb dX9_cloudOf_49 rfl (lv_at hl 2 rfl) ?_
      refine cV_i (As := [.int p2]) (rest := []) hx hb hml hown hw hK hN hA hl.1 hP hD hS k_412 k_413 k_414 k_24 k_415 (met_X1_tell l D cy _ (cW cy ad en x) (13 * 0 + (p1.toNatClampNeg + 7)) (ad 0 (p1.toNatClampNeg + 7)) ((x 0) (p1.toNatClampNeg + 7)) p2 (gX (x := x) (k := 0) (r := (p1.toNatClampNeg + 7)) (f := ((x 0) (p1.toNatClampNeg + 7))) (by decide) hr10 ((congrFun rfl _).trans rfl)) (D_X1_tell ((x 0) (p1.toNatClampNeg + 7)) p2) rfl) (fun _ _ _ => trivial) Xok_T (gX (x := x) (k := 0) (r := (p1.toNatClampNeg + 7)) (f := ((x 0) (p1.toNatClampNeg + 7))) (by decide) hr10 ((congrFun rfl _).trans rfl)) rfl ⟨rfl, rfl⟩ (n := 1) (by decide +kernel) rfl ⟨Nat.le_of_ble_eq_true rfl, Nat.le_of_ble_eq_true rfl⟩ ⟨Nat.le_of_ble_eq_true rfl, Nat.le_of_ble_eq_true rfl⟩ (Nat.le_of_ble_eq_true rfl) rfl dX9_cloudOf_50 (fun H locs hP hD hS => ?_)
      cases hF
      rw [hQ]
      exact retx_i hx hb hr hlk (Nat.le_of_ble_eq_true rfl) (Nat.le_of_ble_eq_true rfl) hS hP hD rfl rfl rfl dX9_cloudOf_53
    · replace hF := (if_pos h8).symm.trans hF
      cases hF
      rw [hQ]
      exact thrS (g := g) (en := en) hx hb hst0 hml hown hw hN hlk htb hST hS hP hD hl.1 (text := "a cloud has no such number") 2 rfl (by decide) k_396 k_43 at_119 (by decide) rfl rfl dX9_cloudOf_30 dX9_cloudOf_33 dX9_cloudOf_34 dX9_cloudOf_36 dX9_cloudOf_39 ⟨Nat.le_of_ble_eq_true rfl, Nat.le_of_ble_eq_true rfl, Nat.le_of_ble_eq_true rfl, Nat.le_of_ble_eq_true rfl⟩ (Nat.le_of_ble_eq_true rfl) ⟨Nat.le_of_ble_eq_true rfl, Nat.le_of_ble_eq_true rfl⟩
  · replace hF := (if_pos h4).symm.trans hF
    cases hF
    rw [hQ]
    exact thrS (g := g) (en := en) hx hb hst0 hml hown hw hN hlk htb hST hS hP hD hl.1 (text := "there is no such cloud") 1 rfl (by decide) k_326 k_44 at_108 (by decide) rfl rfl dX9_cloudOf_11 dX9_cloudOf_14 dX9_cloudOf_15 dX9_cloudOf_17 dX9_cloudOf_20 ⟨Nat.le_of_ble_eq_true rfl, Nat.le_of_ble_eq_true rfl, Nat.le_of_ble_eq_true rfl, Nat.le_of_ble_eq_true rfl⟩ (Nat.le_of_ble_eq_true rfl) ⟨Nat.le_of_ble_eq_true rfl, Nat.le_of_ble_eq_true rfl⟩
def D_X9_ownerOf (x : Mem) (p1 : Int32) (p2 : Int32) : Option (Int32 × Int32) := if (D_X9_demandOwner p1) = 0 then (if (D_X9_isWithin p2 5) = 0 then (some (2, 0)) else ((D_X4_tellOfOwner (x 0) p1 p2).bind (fun r11 => some (0, r11)))) else (some (1, 0))
abbrev rm_X9_ownerOf : Room := { frames := 7, cells := 2, slots := 12, locals := 110 }
def exn_X9_ownerOf : Int32 → String := fun c => if c = 1 then "java/lang/IndexOutOfBoundsException" else "java/lang/IllegalArgumentException"
set_option maxHeartbeats 4000000 in
set_option maxRecDepth 100000 in
theorem met_X9_ownerOf (l : Launch) (hst0 : l.stackTraces = false) (D : va_G) (cy : Nat → ClassId) (sz : Nat) (ad : Nat → Nat → Nat) (en g : Nat → Nat) (x : Mem) (p1 : Int32) (p2 : Int32)  (code : Int32) (r : Int32) (hF : D_X9_ownerOf x p1 p2 = some (code, r)) : MT l yX9_ownerOf cX9_ownerOf 3 (some .int) rm_X9_ownerOf D cy en g (cW cy ad en x) sz [.ref (ad 12 0), .int p1, .int p2] exn_X9_ownerOf code r (cW cy ad en x) := by
  refine MT.of (by decide +kernel) (Nat.le_of_ble_eq_true rfl) ?_
  intro p e s m args below meth c A ls Q hAt htb hST hP hD hA hS hl hQ
  obtain ⟨hx, hb, hr, hml, hown, hw, hlk, hK, hN⟩ := hAt
  have hown : s.vm.findClass "CloudDeeds" = some m.cls := hown
  have hl : lv_has ls 3 [(0, .ref (ad 12 0)), (1, .int p1), (2, .int p2)] := hl
  refine lv_iload_n hx hb dX9_ownerOf_0 rfl (lv_at hl 1 rfl) ?_
  refine xS_v (As := [.int p1]) (rest := []) hx hb hml hown hw hK hN hA hl.1 hP hD hS hST k_428 k_429 k_21 k_430 (met_X9_demandOwner l hst0 D cy _ en g (cW cy ad en x) p1 (D_X9_demandOwner p1) rfl) ⟨rfl, rfl⟩ (n := 1) (by decide +kernel) rfl ⟨Nat.le_of_ble_eq_true rfl, Nat.le_of_ble_eq_true rfl⟩ ⟨Nat.le_of_ble_eq_true rfl, Nat.le_of_ble_eq_true rfl⟩ (Nat.le_of_ble_eq_true rfl) rfl dX9_ownerOf_1 (fun H locs q9 ce9 hne4 hP hD hS hce hcv hcl => ?_) (fun H locs h05 hP hD hS => ?_)
  · replace hF := (if_neg hne4).symm.trans hF
    cases hF
    rw [hQ]
    exact outx hlk htb hP hD hS hce hcv hcl (by decide) rfl (Nat.le_of_ble_eq_true rfl) (Nat.le_of_ble_eq_true rfl)
  · replace hF := (if_pos h05).symm.trans hF
    refine lv_iload_n hx hb dX9_ownerOf_4 rfl (lv_at hl 2 rfl) ?_
    refine lv_iconst (v := 5) hx hb dX9_ownerOf_5 (by decide) ?_
    refine cS_i (As := [.int p2, .int 5]) (rest := []) hx hb hml hown hw hK hN hA hl.1 hP hD hS k_395 k_324 k_21 k_325 (met_X9_isWithin l D cy _ (cW cy ad en x) p2 5 (D_X9_isWithin p2 5) rfl) (fun _ _ _ => trivial) Xok_T ⟨rfl, rfl⟩ (n := 2) (by decide +kernel) rfl ⟨Nat.le_of_ble_eq_true rfl, Nat.le_of_ble_eq_true rfl⟩ ⟨Nat.le_of_ble_eq_true rfl, Nat.le_of_ble_eq_true rfl⟩ (Nat.le_of_ble_eq_true rfl) rfl dX9_ownerOf_6 (fun H locs hP hD hS => ?_)
    refine lv_if_ne (tgt := 22) hx hb dX9_ownerOf_9 (by decide) (fun h10 => ?_) (fun h10 => ?_)
    · replace hF := (if_neg h10).symm.trans hF
      refine lv_aload_n hx hb dX9_ownerOf_22 rfl (lv_at hl 0 rfl) ?_
      refine get' (ci := 11) (fs := [.ref (ad 0 0), .ref (ad 1 0), .ref (ad 2 0), .ref (ad 3 0), .int (((x 12) 0) 4), .ref (ad 12 1), .ref (ad 12 3), .ref (ad 12 4), .int (((x 12) 0) 8), .ref (ad 12 31)]) (v := .ref (ad 0 0)) hx hb hw inWX9 hown hK hP (gY (x := x) (r := 0) (f := ((x 12) 0)) (by decide) ((congrFun rfl _).trans rfl)) rfl 0 (by decide) k_284 rfl rfl dX9_ownerOf_23 ?_
      refine lv_iload_n hx hb dX9_ownerOf_26 rfl (lv_at hl 1 rfl) ?_
      refine lv_iload_n hx hb dX9_ownerOf_27 rfl (lv_at hl 2 rfl) ?_
      have hP := cvP hP ((congrArg (cW cy ad en) (up_self x 0)).symm.trans (congrArg (fun z => cW cy ad en (va_up x 0 z)) rfl))
      have hD := cvD hD ((congrArg (cW cy ad en) (up_self x 0)).symm.trans (congrArg (fun z => cW cy ad en (va_up x 0 z)) rfl))
      obtain ⟨r11, hc13, hF⟩ := bind_some hF
      try dsimp only at hF
      refine cV_i (As := [.int p1, .int p2]) (rest := []) hx hb hml hown hw hK hN hA hl.1 hP hD hS k_436 k_437 k_438 k_22 k_439 (met_X4_tellOfOwner l D cy _ ad en x 0 (by decide) (x 0) p1 p2 r11 hc13) (fun _ _ _ => trivial) Xok_T (gX (x := (va_up x 0 (x 0))) (k := 0) (r := 0) (f := ((x 0) 0)) (by decide) (by decide) ((congrFun (va_up_self _ _ _) _).trans rfl)) rfl ⟨rfl, rfl⟩ (n := 2) (by decide +kernel) rfl ⟨Nat.le_of_ble_eq_true rfl, Nat.le_of_ble_eq_true rfl⟩ ⟨Nat.le_of_ble_eq_true rfl, Nat.le_of_ble_eq_true rfl⟩ (Nat.le_of_ble_eq_true rfl) rfl dX9_ownerOf_28 (fun H locs hP hD hS => ?_)
      have hP : va_P D vwCl (cW cy ad en x) H := cvP hP ((congrArg (cW cy ad en) (up_self x 0)).symm.trans (congrArg (fun z => cW cy ad en (va_up x 0 z)) rfl)).symm
      have hD : va_D A (cW cy ad en x) := cvD hD ((congrArg (cW cy ad en) (up_self x 0)).symm.trans (congrArg (fun z => cW cy ad en (va_up x 0 z)) rfl)).symm
      cases hF
      rw [hQ]
      exact retx_i hx hb hr hlk (Nat.le_of_ble_eq_true rfl) (Nat.le_of_ble_eq_true rfl) hS hP hD rfl rfl rfl dX9_ownerOf_31
    · replace hF := (if_pos h10).symm.trans hF
      cases hF
      rw [hQ]
      exact thrS (g := g) (en := en) hx hb hst0 hml hown hw hN hlk htb hST hS hP hD hl.1 (text := "an owner has no such number") 4 rfl (by decide) k_396 k_43 at_119 (by decide) rfl rfl dX9_ownerOf_12 dX9_ownerOf_15 dX9_ownerOf_16 dX9_ownerOf_18 dX9_ownerOf_21 ⟨Nat.le_of_ble_eq_true rfl, Nat.le_of_ble_eq_true rfl, Nat.le_of_ble_eq_true rfl, Nat.le_of_ble_eq_true rfl⟩ (Nat.le_of_ble_eq_true rfl) ⟨Nat.le_of_ble_eq_true rfl, Nat.le_of_ble_eq_true rfl⟩
def D_X9_vineyardOf (x : Mem) (p1 : Int32) (p2 : Int32) : Option (Int32 × Int32) := if (D_X9_isVineyard p1) = 0 then (some (1, 0)) else (if (D_X9_isWithin p2 3) = 0 then (some (2, 0)) else ((D_X4_tellOfVineyard (x 0) p1 p2).bind (fun r9 => some (0, r9))))
abbrev rm_X9_vineyardOf : Room := { frames := 6, cells := 2, slots := 12, locals := 90 }
def exn_X9_vineyardOf : Int32 → String := fun c => if c = 1 then "java/lang/IndexOutOfBoundsException" else "java/lang/IllegalArgumentException"
set_option maxHeartbeats 4000000 in
set_option maxRecDepth 100000 in
theorem met_X9_vineyardOf (l : Launch) (hst0 : l.stackTraces = false) (D : va_G) (cy : Nat → ClassId) (sz : Nat) (ad : Nat → Nat → Nat) (en g : Nat → Nat) (x : Mem) (p1 : Int32) (p2 : Int32)  (code : Int32) (r : Int32) (hF : D_X9_vineyardOf x p1 p2 = some (code, r)) : MT l yX9_vineyardOf cX9_vineyardOf 3 (some .int) rm_X9_vineyardOf D cy en g (cW cy ad en x) sz [.ref (ad 12 0), .int p1, .int p2] exn_X9_vineyardOf code r (cW cy ad en x) := by
  refine MT.of (by decide +kernel) (Nat.le_of_ble_eq_true rfl) ?_
  intro p e s m args below meth c A ls Q hAt htb hST hP hD hA hS hl hQ
  obtain ⟨hx, hb, hr, hml, hown, hw, hlk, hK, hN⟩ := hAt
  have hown : s.vm.findClass "CloudDeeds" = some m.cls := hown
  have hl : lv_has ls 3 [(0, .ref (ad 12 0)), (1, .int p1), (2, .int p2)] := hl
  refine lv_iload_n hx hb dX9_vineyardOf_0 rfl (lv_at hl 1 rfl) ?_
  refine cS_i (As := [.int p1]) (rest := []) hx hb hml hown hw hK hN hA hl.1 hP hD hS k_454 k_455 k_21 k_456 (met_X9_isVineyard l D cy _ (cW cy ad en x) p1 (D_X9_isVineyard p1) rfl) (fun _ _ _ => trivial) Xok_T ⟨rfl, rfl⟩ (n := 1) (by decide +kernel) rfl ⟨Nat.le_of_ble_eq_true rfl, Nat.le_of_ble_eq_true rfl⟩ ⟨Nat.le_of_ble_eq_true rfl, Nat.le_of_ble_eq_true rfl⟩ (Nat.le_of_ble_eq_true rfl) rfl dX9_vineyardOf_1 (fun H locs hP hD hS => ?_)
  refine lv_if_ne (tgt := 17) hx hb dX9_vineyardOf_4 (by decide) (fun h4 => ?_) (fun h4 => ?_)
  · replace hF := (if_neg h4).symm.trans hF
    refine lv_iload_n hx hb dX9_vineyardOf_17 rfl (lv_at hl 2 rfl) ?_
    refine lv_iconst (v := 3) hx hb dX9_vineyardOf_18 (by decide) ?_
    refine cS_i (As := [.int p2, .int 3]) (rest := []) hx hb hml hown hw hK hN hA hl.1 hP hD hS k_395 k_324 k_21 k_325 (met_X9_isWithin l D cy _ (cW cy ad en x) p2 3 (D_X9_isWithin p2 3) rfl) (fun _ _ _ => trivial) Xok_T ⟨rfl, rfl⟩ (n := 2) (by decide +kernel) rfl ⟨Nat.le_of_ble_eq_true rfl, Nat.le_of_ble_eq_true rfl⟩ ⟨Nat.le_of_ble_eq_true rfl, Nat.le_of_ble_eq_true rfl⟩ (Nat.le_of_ble_eq_true rfl) rfl dX9_vineyardOf_19 (fun H locs hP hD hS => ?_)
    refine lv_if_ne (tgt := 35) hx hb dX9_vineyardOf_22 (by decide) (fun h8 => ?_) (fun h8 => ?_)
    · replace hF := (if_neg h8).symm.trans hF
      refine lv_aload_n hx hb dX9_vineyardOf_35 rfl (lv_at hl 0 rfl) ?_
      refine get' (ci := 11) (fs := [.ref (ad 0 0), .ref (ad 1 0), .ref (ad 2 0), .ref (ad 3 0), .int (((x 12) 0) 4), .ref (ad 12 1), .ref (ad 12 3), .ref (ad 12 4), .int (((x 12) 0) 8), .ref (ad 12 31)]) (v := .ref (ad 0 0)) hx hb hw inWX9 hown hK hP (gY (x := x) (r := 0) (f := ((x 12) 0)) (by decide) ((congrFun rfl _).trans rfl)) rfl 0 (by decide) k_284 rfl rfl dX9_vineyardOf_36 ?_
      refine lv_iload_n hx hb dX9_vineyardOf_39 rfl (lv_at hl 1 rfl) ?_
      refine lv_iload_n hx hb dX9_vineyardOf_40 rfl (lv_at hl 2 rfl) ?_
      have hP := cvP hP ((congrArg (cW cy ad en) (up_self x 0)).symm.trans (congrArg (fun z => cW cy ad en (va_up x 0 z)) rfl))
      have hD := cvD hD ((congrArg (cW cy ad en) (up_self x 0)).symm.trans (congrArg (fun z => cW cy ad en (va_up x 0 z)) rfl))
      obtain ⟨r9, hc11, hF⟩ := bind_some hF
      try dsimp only at hF
      refine cV_i (As := [.int p1, .int p2]) (rest := []) hx hb hml hown hw hK hN hA hl.1 hP hD hS k_459 k_460 k_461 k_22 k_462 (met_X4_tellOfVineyard l D cy _ ad en x 0 (by decide) (x 0) p1 p2 r9 hc11) (fun _ _ _ => trivial) Xok_T (gX (x := (va_up x 0 (x 0))) (k := 0) (r := 0) (f := ((x 0) 0)) (by decide) (by decide) ((congrFun (va_up_self _ _ _) _).trans rfl)) rfl ⟨rfl, rfl⟩ (n := 2) (by decide +kernel) rfl ⟨Nat.le_of_ble_eq_true rfl, Nat.le_of_ble_eq_true rfl⟩ ⟨Nat.le_of_ble_eq_true rfl, Nat.le_of_ble_eq_true rfl⟩ (Nat.le_of_ble_eq_true rfl) rfl dX9_vineyardOf_41 (fun H locs hP hD hS => ?_)
      have hP : va_P D vwCl (cW cy ad en x) H := cvP hP ((congrArg (cW cy ad en) (up_self x 0)).symm.trans (congrArg (fun z => cW cy ad en (va_up x 0 z)) rfl)).symm
      have hD : va_D A (cW cy ad en x) := cvD hD ((congrArg (cW cy ad en) (up_self x 0)).symm.trans (congrArg (fun z => cW cy ad en (va_up x 0 z)) rfl)).symm
      cases hF
      rw [hQ]
      exact retx_i hx hb hr hlk (Nat.le_of_ble_eq_true rfl) (Nat.le_of_ble_eq_true rfl) hS hP hD rfl rfl rfl dX9_vineyardOf_44
    · replace hF := (if_pos h8).symm.trans hF
      cases hF
      rw [hQ]
      exact thrS (g := g) (en := en) hx hb hst0 hml hown hw hN hlk htb hST hS hP hD hl.1 (text := "a vineyard has no such number") 6 rfl (by decide) k_396 k_43 at_119 (by decide) rfl rfl dX9_vineyardOf_25 dX9_vineyardOf_28 dX9_vineyardOf_29 dX9_vineyardOf_31 dX9_vineyardOf_34 ⟨Nat.le_of_ble_eq_true rfl, Nat.le_of_ble_eq_true rfl, Nat.le_of_ble_eq_true rfl, Nat.le_of_ble_eq_true rfl⟩ (Nat.le_of_ble_eq_true rfl) ⟨Nat.le_of_ble_eq_true rfl, Nat.le_of_ble_eq_true rfl⟩
  · replace hF := (if_pos h4).symm.trans hF
    cases hF
    rw [hQ]
    exact thrS (g := g) (en := en) hx hb hst0 hml hown hw hN hlk htb hST hS hP hD hl.1 (text := "there is no such vineyard") 5 rfl (by decide) k_326 k_44 at_108 (by decide) rfl rfl dX9_vineyardOf_7 dX9_vineyardOf_10 dX9_vineyardOf_11 dX9_vineyardOf_13 dX9_vineyardOf_16 ⟨Nat.le_of_ble_eq_true rfl, Nat.le_of_ble_eq_true rfl, Nat.le_of_ble_eq_true rfl, Nat.le_of_ble_eq_true rfl⟩ (Nat.le_of_ble_eq_true rfl) ⟨Nat.le_of_ble_eq_true rfl, Nat.le_of_ble_eq_true rfl⟩
def D_X9_clouds (x : Mem) (p1 : Int32) : Option (Int32 × Int32) := if (D_X9_demandOwner p1) = 0 then ((D_X4_cloudsCounted (x 0) p1).bind (fun r7 => some (0, r7))) else (some (1, 0))
abbrev rm_X9_clouds : Room := { frames := 7, cells := 2, slots := 12, locals := 110 }
def exn_X9_clouds : Int32 → String := fun _ => "java/lang/IndexOutOfBoundsException"
set_option maxHeartbeats 4000000 in
set_option maxRecDepth 100000 in
theorem met_X9_clouds (l : Launch) (hst0 : l.stackTraces = false) (D : va_G) (cy : Nat → ClassId) (sz : Nat) (ad : Nat → Nat → Nat) (en g : Nat → Nat) (x : Mem) (p1 : Int32)  (code : Int32) (r : Int32) (hF : D_X9_clouds x p1 = some (code, r)) : MT l yX9_clouds cX9_clouds 2 (some .int) rm_X9_clouds D cy en g (cW cy ad en x) sz [.ref (ad 12 0), .int p1] exn_X9_clouds code r (cW cy ad en x) := by
  refine MT.of (by decide +kernel) (Nat.le_of_ble_eq_true rfl) ?_
  intro p e s m args below meth c A ls Q hAt htb hST hP hD hA hS hl hQ
  obtain ⟨hx, hb, hr, hml, hown, hw, hlk, hK, hN⟩ := hAt
  have hown : s.vm.findClass "CloudDeeds" = some m.cls := hown
  have hl : lv_has ls 2 [(0, .ref (ad 12 0)), (1, .int p1)] := hl
  refine lv_iload_n hx hb dX9_clouds_0 rfl (lv_at hl 1 rfl) ?_
  refine xS_v (As := [.int p1]) (rest := []) hx hb hml hown hw hK hN hA hl.1 hP hD hS hST k_428 k_429 k_21 k_430 (met_X9_demandOwner l hst0 D cy _ en g (cW cy ad en x) p1 (D_X9_demandOwner p1) rfl) ⟨rfl, rfl⟩ (n := 1) (by decide +kernel) rfl ⟨Nat.le_of_ble_eq_true rfl, Nat.le_of_ble_eq_true rfl⟩ ⟨Nat.le_of_ble_eq_true rfl, Nat.le_of_ble_eq_true rfl⟩ (Nat.le_of_ble_eq_true rfl) rfl dX9_clouds_1 (fun H locs q9 ce9 hne4 hP hD hS hce hcv hcl => ?_) (fun H locs h05 hP hD hS => ?_)
  · replace hF := (if_neg hne4).symm.trans hF
    cases hF
    rw [hQ]
    exact outx hlk htb hP hD hS hce hcv hcl (by decide) rfl (Nat.le_of_ble_eq_true rfl) (Nat.le_of_ble_eq_true rfl)
  · replace hF := (if_pos h05).symm.trans hF
    refine lv_aload_n hx hb dX9_clouds_4 rfl (lv_at hl 0 rfl) ?_
    refine get' (ci := 11) (fs := [.ref (ad 0 0), .ref (ad 1 0), .ref (ad 2 0), .ref (ad 3 0), .int (((x 12) 0) 4), .ref (ad 12 1), .ref (ad 12 3), .ref (ad 12 4), .int (((x 12) 0) 8), .ref (ad 12 31)]) (v := .ref (ad 0 0)) hx hb hw inWX9 hown hK hP (gY (x := x) (r := 0) (f := ((x 12) 0)) (by decide) ((congrFun rfl _).trans rfl)) rfl 0 (by decide) k_284 rfl rfl dX9_clouds_5 ?_
    refine lv_iload_n hx hb dX9_clouds_8 rfl (lv_at hl 1 rfl) ?_
    have hP := cvP hP ((congrArg (cW cy ad en) (up_self x 0)).symm.trans (congrArg (fun z => cW cy ad en (va_up x 0 z)) rfl))
    have hD := cvD hD ((congrArg (cW cy ad en) (up_self x 0)).symm.trans (congrArg (fun z => cW cy ad en (va_up x 0 z)) rfl))
    obtain ⟨r7, hc9, hF⟩ := bind_some hF
    try dsimp only at hF
    refine cV_i (As := [.int p1]) (rest := []) hx hb hml hown hw hK hN hA hl.1 hP hD hS k_468 k_469 k_470 k_22 k_471 (met_X4_cloudsCounted l D cy _ ad en x 0 (by decide) (x 0) p1 r7 hc9) (fun _ _ _ => trivial) Xok_T (gX (x := (va_up x 0 (x 0))) (k := 0) (r := 0) (f := ((x 0) 0)) (by decide) (by decide) ((congrFun (va_up_self _ _ _) _).trans rfl)) rfl ⟨rfl, rfl⟩ (n := 1) (by decide +kernel) rfl ⟨Nat.le_of_ble_eq_true rfl, Nat.le_of_ble_eq_true rfl⟩ ⟨Nat.le_of_ble_eq_true rfl, Nat.le_of_ble_eq_true rfl⟩ (Nat.le_of_ble_eq_true rfl) rfl dX9_clouds_9 (fun H locs hP hD hS => ?_)
    have hP : va_P D vwCl (cW cy ad en x) H := cvP hP ((congrArg (cW cy ad en) (up_self x 0)).symm.trans (congrArg (fun z => cW cy ad en (va_up x 0 z)) rfl)).symm
    have hD : va_D A (cW cy ad en x) := cvD hD ((congrArg (cW cy ad en) (up_self x 0)).symm.trans (congrArg (fun z => cW cy ad en (va_up x 0 z)) rfl)).symm
    cases hF
    rw [hQ]
    exact retx_i hx hb hr hlk (Nat.le_of_ble_eq_true rfl) (Nat.le_of_ble_eq_true rfl) hS hP hD rfl rfl rfl dX9_clouds_12
def D_X9_cloudsAgain (x : Mem) (p1 : Int32) : Option (Int32 × Int32) := if (D_X9_demandOwner p1) = 0 then ((D_X4_cloudsLeftOver (x 0) p1).bind (fun r7 => some (0, r7))) else (some (1, 0))
abbrev rm_X9_cloudsAgain : Room := { frames := 7, cells := 2, slots := 12, locals := 110 }
def exn_X9_cloudsAgain : Int32 → String := fun _ => "java/lang/IndexOutOfBoundsException"
set_option maxHeartbeats 4000000 in
set_option maxRecDepth 100000 in
theorem met_X9_cloudsAgain (l : Launch) (hst0 : l.stackTraces = false) (D : va_G) (cy : Nat → ClassId) (sz : Nat) (ad : Nat → Nat → Nat) (en g : Nat → Nat) (x : Mem) (p1 : Int32)  (code : Int32) (r : Int32) (hF : D_X9_cloudsAgain x p1 = some (code, r)) : MT l yX9_cloudsAgain cX9_cloudsAgain 2 (some .int) rm_X9_cloudsAgain D cy en g (cW cy ad en x) sz [.ref (ad 12 0), .int p1] exn_X9_cloudsAgain code r (cW cy ad en x) := by
  refine MT.of (by decide +kernel) (Nat.le_of_ble_eq_true rfl) ?_
  intro p e s m args below meth c A ls Q hAt htb hST hP hD hA hS hl hQ
  obtain ⟨hx, hb, hr, hml, hown, hw, hlk, hK, hN⟩ := hAt
  have hown : s.vm.findClass "CloudDeeds" = some m.cls := hown
  have hl : lv_has ls 2 [(0, .ref (ad 12 0)), (1, .int p1)] := hl
  refine lv_iload_n hx hb dX9_cloudsAgain_0 rfl (lv_at hl 1 rfl) ?_
  refine xS_v (As := [.int p1]) (rest := []) hx hb hml hown hw hK hN hA hl.1 hP hD hS hST k_428 k_429 k_21 k_430 (met_X9_demandOwner l hst0 D cy _ en g (cW cy ad en x) p1 (D_X9_demandOwner p1) rfl) ⟨rfl, rfl⟩ (n := 1) (by decide +kernel) rfl ⟨Nat.le_of_ble_eq_true rfl, Nat.le_of_ble_eq_true rfl⟩ ⟨Nat.le_of_ble_eq_true rfl, Nat.le_of_ble_eq_true rfl⟩ (Nat.le_of_ble_eq_true rfl) rfl dX9_cloudsAgain_1 (fun H locs q9 ce9 hne4 hP hD hS hce hcv hcl => ?_) (fun H locs h05 hP hD hS => ?_)
  · replace hF := (if_neg hne4).symm.trans hF
    cases hF
    rw [hQ]
    exact outx hlk htb hP hD hS hce hcv hcl (by decide) rfl (Nat.le_of_ble_eq_true rfl) (Nat.le_of_ble_eq_true rfl)
  · replace hF := (if_pos h05).symm.trans hF
    refine lv_aload_n hx hb dX9_cloudsAgain_4 rfl (lv_at hl 0 rfl) ?_
    refine get' (ci := 11) (fs := [.ref (ad 0 0), .ref (ad 1 0), .ref (ad 2 0), .ref (ad 3 0), .int (((x 12) 0) 4), .ref (ad 12 1), .ref (ad 12 3), .ref (ad 12 4), .int (((x 12) 0) 8), .ref (ad 12 31)]) (v := .ref (ad 0 0)) hx hb hw inWX9 hown hK hP (gY (x := x) (r := 0) (f := ((x 12) 0)) (by decide) ((congrFun rfl _).trans rfl)) rfl 0 (by decide) k_284 rfl rfl dX9_cloudsAgain_5 ?_
    refine lv_iload_n hx hb dX9_cloudsAgain_8 rfl (lv_at hl 1 rfl) ?_
    have hP := cvP hP ((congrArg (cW cy ad en) (up_self x 0)).symm.trans (congrArg (fun z => cW cy ad en (va_up x 0 z)) rfl))
    have hD := cvD hD ((congrArg (cW cy ad en) (up_self x 0)).symm.trans (congrArg (fun z => cW cy ad en (va_up x 0 z)) rfl))
    obtain ⟨r7, hc9, hF⟩ := bind_some hF
    try dsimp only at hF
    refine cV_i (As := [.int p1]) (rest := []) hx hb hml hown hw hK hN hA hl.1 hP hD hS k_476 k_477 k_478 k_22 k_479 (met_X4_cloudsLeftOver l D cy _ ad en x 0 (by decide) (x 0) p1 r7 hc9) (fun _ _ _ => trivial) Xok_T (gX (x := (va_up x 0 (x 0))) (k := 0) (r := 0) (f := ((x 0) 0)) (by decide) (by decide) ((congrFun (va_up_self _ _ _) _).trans rfl)) rfl ⟨rfl, rfl⟩ (n := 1) (by decide +kernel) rfl ⟨Nat.le_of_ble_eq_true rfl, Nat.le_of_ble_eq_true rfl⟩ ⟨Nat.le_of_ble_eq_true rfl, Nat.le_of_ble_eq_true rfl⟩ (Nat.le_of_ble_eq_true rfl) rfl dX9_cloudsAgain_9 (fun H locs hP hD hS => ?_)
    have hP : va_P D vwCl (cW cy ad en x) H := cvP hP ((congrArg (cW cy ad en) (up_self x 0)).symm.trans (congrArg (fun z => cW cy ad en (va_up x 0 z)) rfl)).symm
    have hD : va_D A (cW cy ad en x) := cvD hD ((congrArg (cW cy ad en) (up_self x 0)).symm.trans (congrArg (fun z => cW cy ad en (va_up x 0 z)) rfl)).symm
    cases hF
    rw [hQ]
    exact retx_i hx hb hr hlk (Nat.le_of_ble_eq_true rfl) (Nat.le_of_ble_eq_true rfl) hS hP hD rfl rfl rfl dX9_cloudsAgain_12
def D_X9_windTo (x : Mem) (p1 : Int32) (p2 : Int32) : Option (Int32 × Int32) := if (D_X4_hasCloud (x 0) p1) = 0 then (some (1, 0)) else (if (D_X9_isVineyard p2) = 0 then (some (1, 0)) else (if inb p1 6 then ((D_X1_windByTrying ((x 0) (p1.toNatClampNeg + 7)) p2).bind (fun r11 => some (0, r11))) else none))
abbrev rm_X9_windTo : Room := { frames := 6, cells := 2, slots := 12, locals := 90 }
def exn_X9_windTo : Int32 → String := fun _ => "java/lang/IndexOutOfBoundsException"
set_option maxHeartbeats 4000000 in
set_option maxRecDepth 100000 in
theorem met_X9_windTo (l : Launch) (hst0 : l.stackTraces = false) (D : va_G) (cy : Nat → ClassId) (sz : Nat) (ad : Nat → Nat → Nat) (en g : Nat → Nat) (x : Mem) (p1 : Int32) (p2 : Int32)  (code : Int32) (r : Int32) (hF : D_X9_windTo x p1 p2 = some (code, r)) : MT l yX9_windTo cX9_windTo 3 (some .int) rm_X9_windTo D cy en g (cW cy ad en x) sz [.ref (ad 12 0), .int p1, .int p2] exn_X9_windTo code r (cW cy ad en x) := by
  refine MT.of (by decide +kernel) (Nat.le_of_ble_eq_true rfl) ?_
  intro p e s m args below meth c A ls Q hAt htb hST hP hD hA hS hl hQ
  obtain ⟨hx, hb, hr, hml, hown, hw, hlk, hK, hN⟩ := hAt
  have hown : s.vm.findClass "CloudDeeds" = some m.cls := hown
  have hl : lv_has ls 3 [(0, .ref (ad 12 0)), (1, .int p1), (2, .int p2)] := hl
  refine lv_aload_n hx hb dX9_windTo_0 rfl (lv_at hl 0 rfl) ?_
  refine get' (ci := 11) (fs := [.ref (ad 0 0), .ref (ad 1 0), .ref (ad 2 0), .ref (ad 3 0), .int (((x 12) 0) 4), .ref (ad 12 1), .ref (ad 12 3), .ref (ad 12 4), .int (((x 12) 0) 8), .ref (ad 12 31)]) (v := .ref (ad 0 0)) hx hb hw inWX9 hown hK hP (gY (x := x) (r := 0) (f := ((x 12) 0)) (by decide) ((congrFun rfl _).trans rfl)) rfl 0 (by decide) k_284 rfl rfl dX9_windTo_1 ?_
  refine lv_iload_n hx hb dX9_windTo_4 rfl (lv_at hl 1 rfl) ?_
  have hP := cvP hP ((congrArg (cW cy ad en) (up_self x 0)).symm.trans (congrArg (fun z => cW cy ad en (va_up x 0 z)) rfl))
  have hD := cvD hD ((congrArg (cW cy ad en) (up_self x 0)).symm.trans (congrArg (fun z => cW cy ad en (va_up x 0 z)) rfl))
  refine cV_i (As := [.int p1]) (rest := []) hx hb hml hown hw hK hN hA hl.1 hP hD hS k_319 k_320 k_321 k_22 k_322 (met_X4_hasCloud l D cy _ ad en x 0 (by decide) (x 0) p1 (D_X4_hasCloud (x 0) p1) rfl) (fun _ _ _ => trivial) Xok_T (gX (x := (va_up x 0 (x 0))) (k := 0) (r := 0) (f := ((x 0) 0)) (by decide) (by decide) ((congrFun (va_up_self _ _ _) _).trans rfl)) rfl ⟨rfl, rfl⟩ (n := 1) (by decide +kernel) rfl ⟨Nat.le_of_ble_eq_true rfl, Nat.le_of_ble_eq_true rfl⟩ ⟨Nat.le_of_ble_eq_true rfl, Nat.le_of_ble_eq_true rfl⟩ (Nat.le_of_ble_eq_true rfl) rfl dX9_windTo_5 (fun H locs hP hD hS => ?_)
  have hP : va_P D vwCl (cW cy ad en x) H := cvP hP ((congrArg (cW cy ad en) (up_self x 0)).symm.trans (congrArg (fun z => cW cy ad en (va_up x 0 z)) rfl)).symm
  have hD : va_D A (cW cy ad en x) := cvD hD ((congrArg (cW cy ad en) (up_self x 0)).symm.trans (congrArg (fun z => cW cy ad en (va_up x 0 z)) rfl)).symm
  refine lv_if_eq (tgt := 18) hx hb dX9_windTo_8 (by decide) (fun h4 => ?_) (fun h4 => ?_)
  · replace hF := (if_pos h4).symm.trans hF
    cases hF
    rw [hQ]
    exact thrS (g := g) (en := en) hx hb hst0 hml hown hw hN hlk htb hST hS hP hD hl.1 (text := "there is no such cloud or vineyard") 7 rfl (by decide) k_326 k_44 at_108 (by decide) rfl rfl dX9_windTo_18 dX9_windTo_21 dX9_windTo_22 dX9_windTo_24 dX9_windTo_27 ⟨Nat.le_of_ble_eq_true rfl, Nat.le_of_ble_eq_true rfl, Nat.le_of_ble_eq_true rfl, Nat.le_of_ble_eq_true rfl⟩ (Nat.le_of_ble_eq_true rfl) ⟨Nat.le_of_ble_eq_true rfl, Nat.le_of_ble_eq_true rfl⟩
  · replace hF := (if_neg h4).symm.trans hF
    refine lv_iload_n hx hb dX9_windTo_11 rfl (lv_at hl 2 rfl) ?_
    refine cS_i (As := [.int p2]) (rest := []) hx hb hml hown hw hK hN hA hl.1 hP hD hS k_454 k_455 k_21 k_456 (met_X9_isVineyard l D cy _ (cW cy ad en x) p2 (D_X9_isVineyard p2) rfl) (fun _ _ _ => trivial) Xok_T ⟨rfl, rfl⟩ (n := 1) (by decide +kernel) rfl ⟨Nat.le_of_ble_eq_true rfl, Nat.le_of_ble_eq_true rfl⟩ ⟨Nat.le_of_ble_eq_true rfl, Nat.le_of_ble_eq_true rfl⟩ (Nat.le_of_ble_eq_true rfl) rfl dX9_windTo_12 (fun H locs hP hD hS => ?_)
    refine lv_if_ne (tgt := 28) hx hb dX9_windTo_15 (by decide) (fun h8 => ?_) (fun h8 => ?_)
    · replace hF := (if_neg h8).symm.trans hF
      refine lv_aload_n hx hb dX9_windTo_28 rfl (lv_at hl 0 rfl) ?_
      refine get' (ci := 11) (fs := [.ref (ad 0 0), .ref (ad 1 0), .ref (ad 2 0), .ref (ad 3 0), .int (((x 12) 0) 4), .ref (ad 12 1), .ref (ad 12 3), .ref (ad 12 4), .int (((x 12) 0) 8), .ref (ad 12 31)]) (v := .ref (ad 0 0)) hx hb hw inWX9 hown hK hP (gY (x := x) (r := 0) (f := ((x 12) 0)) (by decide) ((congrFun rfl _).trans rfl)) rfl 0 (by decide) k_284 rfl rfl dX9_windTo_29 ?_
      refine getN' (ci := 6) (fs := oF (ad 0) ((x 0) 0)) (v := .ref (ad 0 1)) hx hb hw hN inWX4 hown hK hP (gX (x := x) (k := 0) (r := 0) (f := ((x 0) 0)) (by decide) (by decide) ((congrFun rfl _).trans rfl)) rfl 0 (by decide) n_118 rfl rfl dX9_windTo_32 ?_
      refine lv_iload_n hx hb dX9_windTo_35 rfl (lv_at hl 1 rfl) ?_
      obtain ⟨h9, hF⟩ := ite_some hF
      have hr10 : (p1.toNatClampNeg + 7) < 13 := Nat.add_lt_add_right (inb_lt h9) 7
      refine aald' (n := 6) (g := (ad 0 (p1.toNatClampNeg + 7))) hx hb hK hP (gX (x := x) (k := 0) (r := 1) (f := ((x 0) 1)) (by decide) (by decide) ((congrFun rfl _).trans rfl)) (t0 := 3) rfl (vp_inb h9) rfl dX9_windTo_36 ?_
      refine lv_iload_n hx hb dX9_windTo_37 rfl (lv_at hl 2 rfl) ?_
      obtain ⟨r11, hc13, hF⟩ := bind_some hF
      try dsimp only at hF
      refine cV_i (As := [.int p2]) (rest := []) hx hb hml hown hw hK hN hA hl.1 hP hD hS k_486 k_487 k_488 k_24 k_489 (met_X1_windByTrying l D cy _ (cW cy ad en x) (13 * 0 + (p1.toNatClampNeg + 7)) (ad 0 (p1.toNatClampNeg + 7)) ((x 0) (p1.toNatClampNeg + 7)) p2 (gX (x := x) (k := 0) (r := (p1.toNatClampNeg + 7)) (f := ((x 0) (p1.toNatClampNeg + 7))) (by decide) hr10 ((congrFun rfl _).trans rfl)) r11 hc13) (fun _ _ _ => trivial) Xok_T (gX (x := x) (k := 0) (r := (p1.toNatClampNeg + 7)) (f := ((x 0) (p1.toNatClampNeg + 7))) (by decide) hr10 ((congrFun rfl _).trans rfl)) rfl ⟨rfl, rfl⟩ (n := 1) (by decide +kernel) rfl ⟨Nat.le_of_ble_eq_true rfl, Nat.le_of_ble_eq_true rfl⟩ ⟨Nat.le_of_ble_eq_true rfl, Nat.le_of_ble_eq_true rfl⟩ (Nat.le_of_ble_eq_true rfl) rfl dX9_windTo_38 (fun H locs hP hD hS => ?_)
      cases hF
      rw [hQ]
      exact retx_i hx hb hr hlk (Nat.le_of_ble_eq_true rfl) (Nat.le_of_ble_eq_true rfl) hS hP hD rfl rfl rfl dX9_windTo_41
    · replace hF := (if_pos h8).symm.trans hF
      cases hF
      rw [hQ]
      exact thrS (g := g) (en := en) hx hb hst0 hml hown hw hN hlk htb hST hS hP hD hl.1 (text := "there is no such cloud or vineyard") 7 rfl (by decide) k_326 k_44 at_108 (by decide) rfl rfl dX9_windTo_18 dX9_windTo_21 dX9_windTo_22 dX9_windTo_24 dX9_windTo_27 ⟨Nat.le_of_ble_eq_true rfl, Nat.le_of_ble_eq_true rfl, Nat.le_of_ble_eq_true rfl, Nat.le_of_ble_eq_true rfl⟩ (Nat.le_of_ble_eq_true rfl) ⟨Nat.le_of_ble_eq_true rfl, Nat.le_of_ble_eq_true rfl⟩
def D_X9_windToAgain (x : Mem) (p1 : Int32) (p2 : Int32) : Option (Int32 × Int32) := if (D_X4_hasCloud (x 0) p1) = 0 then (some (1, 0)) else (if (D_X9_isVineyard p2) = 0 then (some (1, 0)) else (if inb p1 6 then ((D_X1_windByDistance ((x 0) (p1.toNatClampNeg + 7)) p2).bind (fun r11 => some (0, r11))) else none))
abbrev rm_X9_windToAgain : Room := { frames := 6, cells := 2, slots := 12, locals := 90 }
def exn_X9_windToAgain : Int32 → String := fun _ => "java/lang/IndexOutOfBoundsException"
set_option maxHeartbeats 4000000 in
set_option maxRecDepth 100000 in
theorem met_X9_windToAgain (l : Launch) (hst0 : l.stackTraces = false) (D : va_G) (cy : Nat → ClassId) (sz : Nat) (ad : Nat → Nat → Nat) (en g : Nat → Nat) (x : Mem) (p1 : Int32) (p2 : Int32)  (code : Int32) (r : Int32) (hF : D_X9_windToAgain x p1 p2 = some (code, r)) : MT l yX9_windToAgain cX9_windToAgain 3 (some .int) rm_X9_windToAgain D cy en g (cW cy ad en x) sz [.ref (ad 12 0), .int p1, .int p2] exn_X9_windToAgain code r (cW cy ad en x) := by
  refine MT.of (by decide +kernel) (Nat.le_of_ble_eq_true rfl) ?_
  intro p e s m args below meth c A ls Q hAt htb hST hP hD hA hS hl hQ
  obtain ⟨hx, hb, hr, hml, hown, hw, hlk, hK, hN⟩ := hAt
  have hown : s.vm.findClass "CloudDeeds" = some m.cls := hown
  have hl : lv_has ls 3 [(0, .ref (ad 12 0)), (1, .int p1), (2, .int p2)] := hl
  refine lv_aload_n hx hb dX9_windToAgain_0 rfl (lv_at hl 0 rfl) ?_
  refine get' (ci := 11) (fs := [.ref (ad 0 0), .ref (ad 1 0), .ref (ad 2 0), .ref (ad 3 0), .int (((x 12) 0) 4), .ref (ad 12 1), .ref (ad 12 3), .ref (ad 12 4), .int (((x 12) 0) 8), .ref (ad 12 31)]) (v := .ref (ad 0 0)) hx hb hw inWX9 hown hK hP (gY (x := x) (r := 0) (f := ((x 12) 0)) (by decide) ((congrFun rfl _).trans rfl)) rfl 0 (by decide) k_284 rfl rfl dX9_windToAgain_1 ?_
  refine lv_iload_n hx hb dX9_windToAgain_4 rfl (lv_at hl 1 rfl) ?_
  have hP := cvP hP ((congrArg (cW cy ad en) (up_self x 0)).symm.trans (congrArg (fun z => cW cy ad en (va_up x 0 z)) rfl))
  have hD := cvD hD ((congrArg (cW cy ad en) (up_self x 0)).symm.trans (congrArg (fun z => cW cy ad en (va_up x 0 z)) rfl))
  refine cV_i (As := [.int p1]) (rest := []) hx hb hml hown hw hK hN hA hl.1 hP hD hS k_319 k_320 k_321 k_22 k_322 (met_X4_hasCloud l D cy _ ad en x 0 (by decide) (x 0) p1 (D_X4_hasCloud (x 0) p1) rfl) (fun _ _ _ => trivial) Xok_T (gX (x := (va_up x 0 (x 0))) (k := 0) (r := 0) (f := ((x 0) 0)) (by decide) (by decide) ((congrFun (va_up_self _ _ _) _).trans rfl)) rfl ⟨rfl, rfl⟩ (n := 1) (by decide +kernel) rfl ⟨Nat.le_of_ble_eq_true rfl, Nat.le_of_ble_eq_true rfl⟩ ⟨Nat.le_of_ble_eq_true rfl, Nat.le_of_ble_eq_true rfl⟩ (Nat.le_of_ble_eq_true rfl) rfl dX9_windToAgain_5 (fun H locs hP hD hS => ?_)
  have hP : va_P D vwCl (cW cy ad en x) H := cvP hP ((congrArg (cW cy ad en) (up_self x 0)).symm.trans (congrArg (fun z => cW cy ad en (va_up x 0 z)) rfl)).symm
  have hD : va_D A (cW cy ad en x) := cvD hD ((congrArg (cW cy ad en) (up_self x 0)).symm.trans (congrArg (fun z => cW cy ad en (va_up x 0 z)) rfl)).symm
  refine lv_if_eq (tgt := 18) hx hb dX9_windToAgain_8 (by decide) (fun h4 => ?_) (fun h4 => ?_)
  · replace hF := (if_pos h4).symm.trans hF
    cases hF
    rw [hQ]
    exact thrS (g := g) (en := en) hx hb hst0 hml hown hw hN hlk htb hST hS hP hD hl.1 (text := "there is no such cloud or vineyard") 7 rfl (by decide) k_326 k_44 at_108 (by decide) rfl rfl dX9_windToAgain_18 dX9_windToAgain_21 dX9_windToAgain_22 dX9_windToAgain_24 dX9_windToAgain_27 ⟨Nat.le_of_ble_eq_true rfl, Nat.le_of_ble_eq_true rfl, Nat.le_of_ble_eq_true rfl, Nat.le_of_ble_eq_true rfl⟩ (Nat.le_of_ble_eq_true rfl) ⟨Nat.le_of_ble_eq_true rfl, Nat.le_of_ble_eq_true rfl⟩
  · replace hF := (if_neg h4).symm.trans hF
    refine lv_iload_n hx hb dX9_windToAgain_11 rfl (lv_at hl 2 rfl) ?_
    refine cS_i (As := [.int p2]) (rest := []) hx hb hml hown hw hK hN hA hl.1 hP hD hS k_454 k_455 k_21 k_456 (met_X9_isVineyard l D cy _ (cW cy ad en x) p2 (D_X9_isVineyard p2) rfl) (fun _ _ _ => trivial) Xok_T ⟨rfl, rfl⟩ (n := 1) (by decide +kernel) rfl ⟨Nat.le_of_ble_eq_true rfl, Nat.le_of_ble_eq_true rfl⟩ ⟨Nat.le_of_ble_eq_true rfl, Nat.le_of_ble_eq_true rfl⟩ (Nat.le_of_ble_eq_true rfl) rfl dX9_windToAgain_12 (fun H locs hP hD hS => ?_)
    refine lv_if_ne (tgt := 28) hx hb dX9_windToAgain_15 (by decide) (fun h8 => ?_) (fun h8 => ?_)
    · replace hF := (if_neg h8).symm.trans hF
      refine lv_aload_n hx hb dX9_windToAgain_28 rfl (lv_at hl 0 rfl) ?_
      refine get' (ci := 11) (fs := [.ref (ad 0 0), .ref (ad 1 0), .ref (ad 2 0), .ref (ad 3 0), .int (((x 12) 0) 4), .ref (ad 12 1), .ref (ad 12 3), .ref (ad 12 4), .int (((x 12) 0) 8), .ref (ad 12 31)]) (v := .ref (ad 0 0)) hx hb hw inWX9 hown hK hP (gY (x := x) (r := 0) (f := ((x 12) 0)) (by decide) ((congrFun rfl _).trans rfl)) rfl 0 (by decide) k_284 rfl rfl dX9_windToAgain_29 ?_
      refine getN' (ci := 6) (fs := oF (ad 0) ((x 0) 0)) (v := .ref (ad 0 1)) hx hb hw hN inWX4 hown hK hP (gX (x := x) (k := 0) (r := 0) (f := ((x 0) 0)) (by decide) (by decide) ((congrFun rfl _).trans rfl)) rfl 0 (by decide) n_118 rfl rfl dX9_windToAgain_32 ?_
      refine lv_iload_n hx hb dX9_windToAgain_35 rfl (lv_at hl 1 rfl) ?_
      obtain ⟨h9, hF⟩ := ite_some hF
      have hr10 : (p1.toNatClampNeg + 7) < 13 := Nat.add_lt_add_right (inb_lt h9) 7
      refine aald' (n := 6) (g := (ad 0 (p1.toNatClampNeg + 7))) hx hb hK hP (gX (x := x) (k := 0) (r := 1) (f := ((x 0) 1)) (by decide) (by decide) ((congrFun rfl _).trans rfl)) (t0 := 3) rfl (vp_inb h9) rfl dX9_windToAgain_36 ?_
      refine lv_iload_n hx hb dX9_windToAgain_37 rfl (lv_at hl 2 rfl) ?_
      obtain ⟨r11, hc13, hF⟩ := bind_some hF
      try dsimp only at hF
      refine cV_i (As := [.int p2]) (rest := []) hx hb hml hown hw hK hN hA hl.1 hP hD hS k_501 k_502 k_503 k_24 k_504 (met_X1_windByDistance l D cy _ (cW cy ad en x) (13 * 0 + (p1.toNatClampNeg + 7)) (ad 0 (p1.toNatClampNeg + 7)) ((x 0) (p1.toNatClampNeg + 7)) p2 (gX (x := x) (k := 0) (r := (p1.toNatClampNeg + 7)) (f := ((x 0) (p1.toNatClampNeg + 7))) (by decide) hr10 ((congrFun rfl _).trans rfl)) r11 hc13) (fun _ _ _ => trivial) Xok_T (gX (x := x) (k := 0) (r := (p1.toNatClampNeg + 7)) (f := ((x 0) (p1.toNatClampNeg + 7))) (by decide) hr10 ((congrFun rfl _).trans rfl)) rfl ⟨rfl, rfl⟩ (n := 1) (by decide +kernel) rfl ⟨Nat.le_of_ble_eq_true rfl, Nat.le_of_ble_eq_true rfl⟩ ⟨Nat.le_of_ble_eq_true rfl, Nat.le_of_ble_eq_true rfl⟩ (Nat.le_of_ble_eq_true rfl) rfl dX9_windToAgain_38 (fun H locs hP hD hS => ?_)
      cases hF
      rw [hQ]
      exact retx_i hx hb hr hlk (Nat.le_of_ble_eq_true rfl) (Nat.le_of_ble_eq_true rfl) hS hP hD rfl rfl rfl dX9_windToAgain_41
    · replace hF := (if_pos h8).symm.trans hF
      cases hF
      rw [hQ]
      exact thrS (g := g) (en := en) hx hb hst0 hml hown hw hN hlk htb hST hS hP hD hl.1 (text := "there is no such cloud or vineyard") 7 rfl (by decide) k_326 k_44 at_108 (by decide) rfl rfl dX9_windToAgain_18 dX9_windToAgain_21 dX9_windToAgain_22 dX9_windToAgain_24 dX9_windToAgain_27 ⟨Nat.le_of_ble_eq_true rfl, Nat.le_of_ble_eq_true rfl, Nat.le_of_ble_eq_true rfl, Nat.le_of_ble_eq_true rfl⟩ (Nat.le_of_ble_eq_true rfl) ⟨Nat.le_of_ble_eq_true rfl, Nat.le_of_ble_eq_true rfl⟩
def D_X9_recorded (x : Mem) (p1 : Int32) (p2 : Int32) : Option (Int32 × Int32) := if (D_X7_hasDawn (x 0) p1) = 0 then (some (1, 0)) else ((D_X7_cloudsAt (x 0) p1).bind (fun r5 => if (D_X9_isWithin p2 r5) = 0 then (some (1, 0)) else ((D_X7_ownerAt (x 0) p1 p2).bind (fun r12 => some (0, r12)))))
abbrev rm_X9_recorded : Room := { frames := 6, cells := 2, slots := 12, locals := 90 }
def exn_X9_recorded : Int32 → String := fun _ => "java/util/NoSuchElementException"
set_option maxHeartbeats 4000000 in
set_option maxRecDepth 100000 in
theorem met_X9_recorded (l : Launch) (hst0 : l.stackTraces = false) (D : va_G) (cy : Nat → ClassId) (sz : Nat) (ad : Nat → Nat → Nat) (en g : Nat → Nat) (x : Mem) (p1 : Int32) (p2 : Int32)  (code : Int32) (r : Int32) (hF : D_X9_recorded x p1 p2 = some (code, r)) : MT l yX9_recorded cX9_recorded 4 (some .int) rm_X9_recorded D cy en g (cW cy ad en x) sz [.ref (ad 12 0), .int p1, .int p2] exn_X9_recorded code r (cW cy ad en x) := by
  refine MT.of (by decide +kernel) (Nat.le_of_ble_eq_true rfl) ?_
  intro p e s m args below meth c A ls Q hAt htb hST hP hD hA hS hl hQ
  obtain ⟨hx, hb, hr, hml, hown, hw, hlk, hK, hN⟩ := hAt
  have hown : s.vm.findClass "CloudDeeds" = some m.cls := hown
  have hl : lv_has ls 4 [(0, .ref (ad 12 0)), (1, .int p1), (2, .int p2)] := hl
  refine lv_aload_n hx hb dX9_recorded_0 rfl (lv_at hl 0 rfl) ?_
  refine get' (ci := 11) (fs := [.ref (ad 0 0), .ref (ad 1 0), .ref (ad 2 0), .ref (ad 3 0), .int (((x 12) 0) 4), .ref (ad 12 1), .ref (ad 12 3), .ref (ad 12 4), .int (((x 12) 0) 8), .ref (ad 12 31)]) (v := .ref (ad 0 0)) hx hb hw inWX9 hown hK hP (gY (x := x) (r := 0) (f := ((x 12) 0)) (by decide) ((congrFun rfl _).trans rfl)) rfl 0 (by decide) k_284 rfl rfl dX9_recorded_1 ?_
  refine getN' (ci := 6) (fs := oF (ad 0) ((x 0) 0)) (v := .ref (ad 0 4)) hx hb hw hN inWX4 hown hK hP (gX (x := x) (k := 0) (r := 0) (f := ((x 0) 0)) (by decide) (by decide) ((congrFun rfl _).trans rfl)) rfl 4 (by decide) n_124 rfl rfl dX9_recorded_4 ?_
  refine lv_astore_n (lv' := [(3, .ref (ad 0 4)), (0, .ref (ad 12 0)), (1, .int p1), (2, .int p2)]) hx hb dX9_recorded_7 rfl hl (by decide) rfl (fun ls hl => ?_)
  refine lv_aload_n hx hb dX9_recorded_8 rfl (lv_at hl 0 rfl) ?_
  refine lv_iload_n hx hb dX9_recorded_9 rfl (lv_at hl 2 rfl) ?_
  have hP := cvP hP ((congrArg (cW cy ad en) (up_self x 0)).symm.trans (congrArg (fun z => cW cy ad en (va_up x 0 z)) rfl))
  have hD := cvD hD ((congrArg (cW cy ad en) (up_self x 0)).symm.trans (congrArg (fun z => cW cy ad en (va_up x 0 z)) rfl))
  refine cV_i (As := [.int p1]) (rest := []) hx hb hml hown hw hK hN hA hl.1 hP hD hS k_926 k_927 k_928 k_23 k_929 (met_X7_hasDawn l D cy _ ad en x 0 (by decide) (x 0) p1 (D_X7_hasDawn (x 0) p1) rfl) (fun _ _ _ => trivial) Xok_T (gX (x := (va_up x 0 (x 0))) (k := 0) (r := 4) (f := ((x 0) 4)) (by decide) (by decide) ((congrFun (va_up_self _ _ _) _).trans rfl)) rfl ⟨rfl, rfl⟩ (n := 1) (by decide +kernel) rfl ⟨Nat.le_of_ble_eq_true rfl, Nat.le_of_ble_eq_true rfl⟩ ⟨Nat.le_of_ble_eq_true rfl, Nat.le_of_ble_eq_true rfl⟩ (Nat.le_of_ble_eq_true rfl) rfl dX9_recorded_10 (fun H locs hP hD hS => ?_)
  have hP : va_P D vwCl (cW cy ad en x) H := cvP hP ((congrArg (cW cy ad en) (up_self x 0)).symm.trans (congrArg (fun z => cW cy ad en (va_up x 0 z)) rfl)).symm
  have hD : va_D A (cW cy ad en x) := cvD hD ((congrArg (cW cy ad en) (up_self x 0)).symm.trans (congrArg (fun z => cW cy ad en (va_up x 0 z)) rfl)).symm
  refine lv_if_eq (tgt := 28) hx hb dX9_recorded_13 (by decide) (fun h4 => ?_) (fun h4 => ?_)
  · replace hF := (if_pos h4).symm.trans hF
    cases hF
    rw [hQ]
    exact thrN (g := g) (en := en) hx hb hst0 hml hown hw hN hlk htb hST hS hP hD hl.1 (text := "there is no such dawn, or there was no such cloud") 9 rfl k_625 k_42 at_185 (by decide) rfl rfl dX9_recorded_28 dX9_recorded_31 dX9_recorded_32 dX9_recorded_34 dX9_recorded_37 ⟨Nat.le_of_ble_eq_true rfl, Nat.le_of_ble_eq_true rfl, Nat.le_of_ble_eq_true rfl, Nat.le_of_ble_eq_true rfl⟩ (Nat.le_of_ble_eq_true rfl) ⟨Nat.le_of_ble_eq_true rfl, Nat.le_of_ble_eq_true rfl⟩
  · replace hF := (if_neg h4).symm.trans hF
    refine lv_iload_n hx hb dX9_recorded_16 rfl (lv_at hl 3 rfl) ?_
    refine lv_aload_n hx hb dX9_recorded_17 rfl (lv_at hl 0 rfl) ?_
    refine lv_iload_n hx hb dX9_recorded_18 rfl (lv_at hl 2 rfl) ?_
    have hP := cvP hP ((congrArg (cW cy ad en) (up_self x 0)).symm.trans (congrArg (fun z => cW cy ad en (va_up x 0 z)) rfl))
    have hD := cvD hD ((congrArg (cW cy ad en) (up_self x 0)).symm.trans (congrArg (fun z => cW cy ad en (va_up x 0 z)) rfl))
    obtain ⟨r5, hc7, hF⟩ := bind_some hF
    try dsimp only at hF
    refine cV_i (As := [.int p1]) (rest := [.int p2]) hx hb hml hown hw hK hN hA hl.1 hP hD hS k_931 k_932 k_933 k_23 k_934 (met_X7_cloudsAt l D cy _ ad en x 0 (by decide) (x 0) p1 r5 hc7) (fun _ _ _ => trivial) Xok_T (gX (x := (va_up x 0 (x 0))) (k := 0) (r := 4) (f := ((x 0) 4)) (by decide) (by decide) ((congrFun (va_up_self _ _ _) _).trans rfl)) rfl ⟨rfl, rfl⟩ (n := 1) (by decide +kernel) rfl ⟨Nat.le_of_ble_eq_true rfl, Nat.le_of_ble_eq_true rfl⟩ ⟨Nat.le_of_ble_eq_true rfl, Nat.le_of_ble_eq_true rfl⟩ (Nat.le_of_ble_eq_true rfl) rfl dX9_recorded_19 (fun H locs hP hD hS => ?_)
    have hP : va_P D vwCl (cW cy ad en x) H := cvP hP ((congrArg (cW cy ad en) (up_self x 0)).symm.trans (congrArg (fun z => cW cy ad en (va_up x 0 z)) rfl)).symm
    have hD : va_D A (cW cy ad en x) := cvD hD ((congrArg (cW cy ad en) (up_self x 0)).symm.trans (congrArg (fun z => cW cy ad en (va_up x 0 z)) rfl)).symm
    refine cS_i (As := [.int p2, .int r5]) (rest := []) hx hb hml hown hw hK hN hA hl.1 hP hD hS k_395 k_324 k_21 k_325 (met_X9_isWithin l D cy _ (cW cy ad en x) p2 r5 (D_X9_isWithin p2 r5) rfl) (fun _ _ _ => trivial) Xok_T ⟨rfl, rfl⟩ (n := 2) (by decide +kernel) rfl ⟨Nat.le_of_ble_eq_true rfl, Nat.le_of_ble_eq_true rfl⟩ ⟨Nat.le_of_ble_eq_true rfl, Nat.le_of_ble_eq_true rfl⟩ (Nat.le_of_ble_eq_true rfl) rfl dX9_recorded_22 (fun H locs hP hD hS => ?_)
    refine lv_if_ne (tgt := 38) hx hb dX9_recorded_25 (by decide) (fun h11 => ?_) (fun h11 => ?_)
    · replace hF := (if_neg h11).symm.trans hF
      refine lv_aload_n hx hb dX9_recorded_38 rfl (lv_at hl 0 rfl) ?_
      refine lv_iload_n hx hb dX9_recorded_39 rfl (lv_at hl 2 rfl) ?_
      refine lv_iload_n hx hb dX9_recorded_40 rfl (lv_at hl 3 rfl) ?_
      have hP := cvP hP ((congrArg (cW cy ad en) (up_self x 0)).symm.trans (congrArg (fun z => cW cy ad en (va_up x 0 z)) rfl))
      have hD := cvD hD ((congrArg (cW cy ad en) (up_self x 0)).symm.trans (congrArg (fun z => cW cy ad en (va_up x 0 z)) rfl))
      obtain ⟨r12, hc14, hF⟩ := bind_some hF
      try dsimp only at hF
      refine cV_i (As := [.int p1, .int p2]) (rest := []) hx hb hml hown hw hK hN hA hl.1 hP hD hS k_937 k_938 k_939 k_23 k_940 (met_X7_ownerAt l D cy _ ad en x 0 (by decide) (x 0) p1 p2 r12 hc14) (fun _ _ _ => trivial) Xok_T (gX (x := (va_up x 0 (x 0))) (k := 0) (r := 4) (f := ((x 0) 4)) (by decide) (by decide) ((congrFun (va_up_self _ _ _) _).trans rfl)) rfl ⟨rfl, rfl⟩ (n := 2) (by decide +kernel) rfl ⟨Nat.le_of_ble_eq_true rfl, Nat.le_of_ble_eq_true rfl⟩ ⟨Nat.le_of_ble_eq_true rfl, Nat.le_of_ble_eq_true rfl⟩ (Nat.le_of_ble_eq_true rfl) rfl dX9_recorded_41 (fun H locs hP hD hS => ?_)
      have hP : va_P D vwCl (cW cy ad en x) H := cvP hP ((congrArg (cW cy ad en) (up_self x 0)).symm.trans (congrArg (fun z => cW cy ad en (va_up x 0 z)) rfl)).symm
      have hD : va_D A (cW cy ad en x) := cvD hD ((congrArg (cW cy ad en) (up_self x 0)).symm.trans (congrArg (fun z => cW cy ad en (va_up x 0 z)) rfl)).symm
      cases hF
      rw [hQ]
      exact retx_i hx hb hr hlk (Nat.le_of_ble_eq_true rfl) (Nat.le_of_ble_eq_true rfl) hS hP hD rfl rfl rfl dX9_recorded_44
    · replace hF := (if_pos h11).symm.trans hF
      cases hF
      rw [hQ]
      exact thrN (g := g) (en := en) hx hb hst0 hml hown hw hN hlk htb hST hS hP hD hl.1 (text := "there is no such dawn, or there was no such cloud") 9 rfl k_625 k_42 at_185 (by decide) rfl rfl dX9_recorded_28 dX9_recorded_31 dX9_recorded_32 dX9_recorded_34 dX9_recorded_37 ⟨Nat.le_of_ble_eq_true rfl, Nat.le_of_ble_eq_true rfl, Nat.le_of_ble_eq_true rfl, Nat.le_of_ble_eq_true rfl⟩ (Nat.le_of_ble_eq_true rfl) ⟨Nat.le_of_ble_eq_true rfl, Nat.le_of_ble_eq_true rfl⟩
def D_X9_coins (x : Mem) : Option (Int32) := (D_X4_coinsCounted (x 0)).bind (fun r1 => some r1)
abbrev rm_X9_coins : Room := { frames := 1, cells := 0, slots := 0, locals := 22 }
set_option maxHeartbeats 4000000 in
set_option maxRecDepth 100000 in
theorem met_X9_coins (l : Launch) (D : va_G) (cy : Nat → ClassId) (sz : Nat) (ad : Nat → Nat → Nat) (en g : Nat → Nat) (x : Mem)  (r : Int32) (hF : D_X9_coins x = some r) : MI l yX9_coins cX9_coins 1 (some .int) rm_X9_coins D cy (cW cy ad en x) sz (fun _ => True) [.ref (ad 12 0)] r (cW cy ad en x) := by
  refine MI.of (by decide +kernel) (Nat.le_of_ble_eq_true rfl) ?_
  intro p e s m args below meth c A ls Q hAt _ hP hD hA hS hl hret
  obtain ⟨hx, hb, hr, hml, hown, hw, hlk, hK, hN⟩ := hAt
  have hown : s.vm.findClass "CloudDeeds" = some m.cls := hown
  have hl : lv_has ls 1 [(0, .ref (ad 12 0))] := hl
  refine lv_aload_n hx hb dX9_coins_0 rfl (lv_at hl 0 rfl) ?_
  refine get' (ci := 11) (fs := [.ref (ad 0 0), .ref (ad 1 0), .ref (ad 2 0), .ref (ad 3 0), .int (((x 12) 0) 4), .ref (ad 12 1), .ref (ad 12 3), .ref (ad 12 4), .int (((x 12) 0) 8), .ref (ad 12 31)]) (v := .ref (ad 0 0)) hx hb hw inWX9 hown hK hP (gY (x := x) (r := 0) (f := ((x 12) 0)) (by decide) ((congrFun rfl _).trans rfl)) rfl 0 (by decide) k_284 rfl rfl dX9_coins_1 ?_
  have hP := cvP hP ((congrArg (cW cy ad en) (up_self x 0)).symm.trans (congrArg (fun z => cW cy ad en (va_up x 0 z)) rfl))
  have hD := cvD hD ((congrArg (cW cy ad en) (up_self x 0)).symm.trans (congrArg (fun z => cW cy ad en (va_up x 0 z)) rfl))
  obtain ⟨r1, hc3, hF⟩ := bind_some hF
  try dsimp only at hF
  refine cV_i (As := []) (rest := []) hx hb hml hown hw hK hN hA hl.1 hP hD hS k_609 k_610 k_611 k_22 k_612 (met_X4_coinsCounted l D cy _ ad en x 0 (by decide) (x 0) r1 hc3) (fun _ _ _ => trivial) Xok_T (gX (x := (va_up x 0 (x 0))) (k := 0) (r := 0) (f := ((x 0) 0)) (by decide) (by decide) ((congrFun (va_up_self _ _ _) _).trans rfl)) rfl ⟨rfl, rfl⟩ (n := 0) (by decide +kernel) rfl ⟨Nat.le_of_ble_eq_true rfl, Nat.le_of_ble_eq_true rfl⟩ ⟨Nat.le_of_ble_eq_true rfl, Nat.le_of_ble_eq_true rfl⟩ (Nat.le_of_ble_eq_true rfl) rfl dX9_coins_4 (fun H locs hP hD hS => ?_)
  have hP : va_P D vwCl (cW cy ad en x) H := cvP hP ((congrArg (cW cy ad en) (up_self x 0)).symm.trans (congrArg (fun z => cW cy ad en (va_up x 0 z)) rfl)).symm
  have hD : va_D A (cW cy ad en x) := cvD hD ((congrArg (cW cy ad en) (up_self x 0)).symm.trans (congrArg (fun z => cW cy ad en (va_up x 0 z)) rfl)).symm
  cases hF
  exact hret _ _ _ _ _ _ hP hD hS rfl rfl dX9_coins_7
def D_X9_coinsAgain (x : Mem) : Int32 := (D_X4_coinsByPayments (x 0))
abbrev rm_X9_coinsAgain : Room := { frames := 1, cells := 0, slots := 0, locals := 20 }
set_option maxHeartbeats 4000000 in
set_option maxRecDepth 100000 in
theorem met_X9_coinsAgain (l : Launch) (D : va_G) (cy : Nat → ClassId) (sz : Nat) (ad : Nat → Nat → Nat) (en g : Nat → Nat) (x : Mem)  (r : Int32) (hF : D_X9_coinsAgain x = r) : MI l yX9_coinsAgain cX9_coinsAgain 1 (some .int) rm_X9_coinsAgain D cy (cW cy ad en x) sz (fun _ => True) [.ref (ad 12 0)] r (cW cy ad en x) := by
  refine MI.of (by decide +kernel) (Nat.le_of_ble_eq_true rfl) ?_
  intro p e s m args below meth c A ls Q hAt _ hP hD hA hS hl hret
  obtain ⟨hx, hb, hr, hml, hown, hw, hlk, hK, hN⟩ := hAt
  have hown : s.vm.findClass "CloudDeeds" = some m.cls := hown
  have hl : lv_has ls 1 [(0, .ref (ad 12 0))] := hl
  refine lv_aload_n hx hb dX9_coinsAgain_0 rfl (lv_at hl 0 rfl) ?_
  refine get' (ci := 11) (fs := [.ref (ad 0 0), .ref (ad 1 0), .ref (ad 2 0), .ref (ad 3 0), .int (((x 12) 0) 4), .ref (ad 12 1), .ref (ad 12 3), .ref (ad 12 4), .int (((x 12) 0) 8), .ref (ad 12 31)]) (v := .ref (ad 0 0)) hx hb hw inWX9 hown hK hP (gY (x := x) (r := 0) (f := ((x 12) 0)) (by decide) ((congrFun rfl _).trans rfl)) rfl 0 (by decide) k_284 rfl rfl dX9_coinsAgain_1 ?_
  have hP := cvP hP ((congrArg (cW cy ad en) (up_self x 0)).symm.trans (congrArg (fun z => cW cy ad en (va_up x 0 z)) rfl))
  have hD := cvD hD ((congrArg (cW cy ad en) (up_self x 0)).symm.trans (congrArg (fun z => cW cy ad en (va_up x 0 z)) rfl))
  refine cV_i (As := []) (rest := []) hx hb hml hown hw hK hN hA hl.1 hP hD hS k_617 k_618 k_619 k_22 k_620 (met_X4_coinsByPayments l D cy _ ad en x 0 (by decide) (x 0) (D_X4_coinsByPayments (x 0)) rfl) (fun _ _ _ => trivial) Xok_T (gX (x := (va_up x 0 (x 0))) (k := 0) (r := 0) (f := ((x 0) 0)) (by decide) (by decide) ((congrFun (va_up_self _ _ _) _).trans rfl)) rfl ⟨rfl, rfl⟩ (n := 0) (by decide +kernel) rfl ⟨Nat.le_of_ble_eq_true rfl, Nat.le_of_ble_eq_true rfl⟩ ⟨Nat.le_of_ble_eq_true rfl, Nat.le_of_ble_eq_true rfl⟩ (Nat.le_of_ble_eq_true rfl) rfl dX9_coinsAgain_4 (fun H locs hP hD hS => ?_)
  have hP : va_P D vwCl (cW cy ad en x) H := cvP hP ((congrArg (cW cy ad en) (up_self x 0)).symm.trans (congrArg (fun z => cW cy ad en (va_up x 0 z)) rfl)).symm
  have hD : va_D A (cW cy ad en x) := cvD hD ((congrArg (cW cy ad en) (up_self x 0)).symm.trans (congrArg (fun z => cW cy ad en (va_up x 0 z)) rfl)).symm
  cases hF
  exact hret _ _ _ _ _ _ hP hD hS rfl rfl dX9_coinsAgain_7
def D_X9_greatest (x : Mem) (p1 : Int32) : Option (Int32 × Int32) := if (D_X9_isWithin p1 (((x 0) 0) 1)) = 0 then (some (1, 0)) else ((D_X4_cloudAtPlace (x 0) p1).bind (fun r5 => some (0, r5)))
abbrev rm_X9_greatest : Room := { frames := 6, cells := 2, slots := 12, locals := 109 }
def exn_X9_greatest : Int32 → String := fun _ => "java/util/NoSuchElementException"
set_option maxHeartbeats 4000000 in
set_option maxRecDepth 100000 in
theorem met_X9_greatest (l : Launch) (hst0 : l.stackTraces = false) (D : va_G) (cy : Nat → ClassId) (sz : Nat) (ad : Nat → Nat → Nat) (en g : Nat → Nat) (x : Mem) (p1 : Int32)  (code : Int32) (r : Int32) (hF : D_X9_greatest x p1 = some (code, r)) : MT l yX9_greatest cX9_greatest 2 (some .int) rm_X9_greatest D cy en g (cW cy ad en x) sz [.ref (ad 12 0), .int p1] exn_X9_greatest code r (cW cy ad en x) := by
  refine MT.of (by decide +kernel) (Nat.le_of_ble_eq_true rfl) ?_
  intro p e s m args below meth c A ls Q hAt htb hST hP hD hA hS hl hQ
  obtain ⟨hx, hb, hr, hml, hown, hw, hlk, hK, hN⟩ := hAt
  have hown : s.vm.findClass "CloudDeeds" = some m.cls := hown
  have hl : lv_has ls 2 [(0, .ref (ad 12 0)), (1, .int p1)] := hl
  refine lv_iload_n hx hb dX9_greatest_0 rfl (lv_at hl 1 rfl) ?_
  refine lv_aload_n hx hb dX9_greatest_1 rfl (lv_at hl 0 rfl) ?_
  refine get' (ci := 11) (fs := [.ref (ad 0 0), .ref (ad 1 0), .ref (ad 2 0), .ref (ad 3 0), .int (((x 12) 0) 4), .ref (ad 12 1), .ref (ad 12 3), .ref (ad 12 4), .int (((x 12) 0) 8), .ref (ad 12 31)]) (v := .ref (ad 0 0)) hx hb hw inWX9 hown hK hP (gY (x := x) (r := 0) (f := ((x 12) 0)) (by decide) ((congrFun rfl _).trans rfl)) rfl 0 (by decide) k_284 rfl rfl dX9_greatest_2 ?_
  refine getN' (ci := 6) (fs := oF (ad 0) ((x 0) 0)) (v := .int (((x 0) 0) 1)) hx hb hw hN inWX4 hown hK hP (gX (x := x) (k := 0) (r := 0) (f := ((x 0) 0)) (by decide) (by decide) ((congrFun rfl _).trans rfl)) rfl 1 (by decide) n_120 rfl rfl dX9_greatest_5 ?_
  refine cS_i (As := [.int p1, .int (((x 0) 0) 1)]) (rest := []) hx hb hml hown hw hK hN hA hl.1 hP hD hS k_395 k_324 k_21 k_325 (met_X9_isWithin l D cy _ (cW cy ad en x) p1 (((x 0) 0) 1) (D_X9_isWithin p1 (((x 0) 0) 1)) rfl) (fun _ _ _ => trivial) Xok_T ⟨rfl, rfl⟩ (n := 2) (by decide +kernel) rfl ⟨Nat.le_of_ble_eq_true rfl, Nat.le_of_ble_eq_true rfl⟩ ⟨Nat.le_of_ble_eq_true rfl, Nat.le_of_ble_eq_true rfl⟩ (Nat.le_of_ble_eq_true rfl) rfl dX9_greatest_8 (fun H locs hP hD hS => ?_)
  refine lv_if_ne (tgt := 24) hx hb dX9_greatest_11 (by decide) (fun h4 => ?_) (fun h4 => ?_)
  · replace hF := (if_neg h4).symm.trans hF
    refine lv_aload_n hx hb dX9_greatest_24 rfl (lv_at hl 0 rfl) ?_
    refine get' (ci := 11) (fs := [.ref (ad 0 0), .ref (ad 1 0), .ref (ad 2 0), .ref (ad 3 0), .int (((x 12) 0) 4), .ref (ad 12 1), .ref (ad 12 3), .ref (ad 12 4), .int (((x 12) 0) 8), .ref (ad 12 31)]) (v := .ref (ad 0 0)) hx hb hw inWX9 hown hK hP (gY (x := x) (r := 0) (f := ((x 12) 0)) (by decide) ((congrFun rfl _).trans rfl)) rfl 0 (by decide) k_284 rfl rfl dX9_greatest_25 ?_
    refine lv_iload_n hx hb dX9_greatest_28 rfl (lv_at hl 1 rfl) ?_
    have hP := cvP hP ((congrArg (cW cy ad en) (up_self x 0)).symm.trans (congrArg (fun z => cW cy ad en (va_up x 0 z)) rfl))
    have hD := cvD hD ((congrArg (cW cy ad en) (up_self x 0)).symm.trans (congrArg (fun z => cW cy ad en (va_up x 0 z)) rfl))
    obtain ⟨r5, hc7, hF⟩ := bind_some hF
    try dsimp only at hF
    refine cV_i (As := [.int p1]) (rest := []) hx hb hml hown hw hK hN hA hl.1 hP hD hS k_641 k_642 k_643 k_22 k_644 (met_X4_cloudAtPlace l D cy _ ad en x 0 (by decide) (x 0) p1 r5 hc7) (fun _ _ _ => trivial) Xok_T (gX (x := (va_up x 0 (x 0))) (k := 0) (r := 0) (f := ((x 0) 0)) (by decide) (by decide) ((congrFun (va_up_self _ _ _) _).trans rfl)) rfl ⟨rfl, rfl⟩ (n := 1) (by decide +kernel) rfl ⟨Nat.le_of_ble_eq_true rfl, Nat.le_of_ble_eq_true rfl⟩ ⟨Nat.le_of_ble_eq_true rfl, Nat.le_of_ble_eq_true rfl⟩ (Nat.le_of_ble_eq_true rfl) rfl dX9_greatest_29 (fun H locs hP hD hS => ?_)
    have hP : va_P D vwCl (cW cy ad en x) H := cvP hP ((congrArg (cW cy ad en) (up_self x 0)).symm.trans (congrArg (fun z => cW cy ad en (va_up x 0 z)) rfl)).symm
    have hD : va_D A (cW cy ad en x) := cvD hD ((congrArg (cW cy ad en) (up_self x 0)).symm.trans (congrArg (fun z => cW cy ad en (va_up x 0 z)) rfl)).symm
    cases hF
    rw [hQ]
    exact retx_i hx hb hr hlk (Nat.le_of_ble_eq_true rfl) (Nat.le_of_ble_eq_true rfl) hS hP hD rfl rfl rfl dX9_greatest_32
  · replace hF := (if_pos h4).symm.trans hF
    cases hF
    rw [hQ]
    exact thrN (g := g) (en := en) hx hb hst0 hml hown hw hN hlk htb hST hS hP hD hl.1 (text := "there is no such place") 10 rfl k_625 k_42 at_185 (by decide) rfl rfl dX9_greatest_14 dX9_greatest_17 dX9_greatest_18 dX9_greatest_20 dX9_greatest_23 ⟨Nat.le_of_ble_eq_true rfl, Nat.le_of_ble_eq_true rfl, Nat.le_of_ble_eq_true rfl, Nat.le_of_ble_eq_true rfl⟩ (Nat.le_of_ble_eq_true rfl) ⟨Nat.le_of_ble_eq_true rfl, Nat.le_of_ble_eq_true rfl⟩
def D_X9_ranked (x : Mem) (p1 : Int32) : Option (Int32 × Int32) := if (D_X9_isWithin p1 4) = 0 then (some (1, 0)) else ((D_X4_ownerAtPlace (x 0) p1).bind (fun r5 => some (0, r5)))
abbrev rm_X9_ranked : Room := { frames := 6, cells := 2, slots := 12, locals := 109 }
def exn_X9_ranked : Int32 → String := fun _ => "java/util/NoSuchElementException"
set_option maxHeartbeats 4000000 in
set_option maxRecDepth 100000 in
theorem met_X9_ranked (l : Launch) (hst0 : l.stackTraces = false) (D : va_G) (cy : Nat → ClassId) (sz : Nat) (ad : Nat → Nat → Nat) (en g : Nat → Nat) (x : Mem) (p1 : Int32)  (code : Int32) (r : Int32) (hF : D_X9_ranked x p1 = some (code, r)) : MT l yX9_ranked cX9_ranked 2 (some .int) rm_X9_ranked D cy en g (cW cy ad en x) sz [.ref (ad 12 0), .int p1] exn_X9_ranked code r (cW cy ad en x) := by
  refine MT.of (by decide +kernel) (Nat.le_of_ble_eq_true rfl) ?_
  intro p e s m args below meth c A ls Q hAt htb hST hP hD hA hS hl hQ
  obtain ⟨hx, hb, hr, hml, hown, hw, hlk, hK, hN⟩ := hAt
  have hown : s.vm.findClass "CloudDeeds" = some m.cls := hown
  have hl : lv_has ls 2 [(0, .ref (ad 12 0)), (1, .int p1)] := hl
  refine lv_iload_n hx hb dX9_ranked_0 rfl (lv_at hl 1 rfl) ?_
  refine lv_iconst (v := 4) hx hb dX9_ranked_1 (by decide) ?_
  refine cS_i (As := [.int p1, .int 4]) (rest := []) hx hb hml hown hw hK hN hA hl.1 hP hD hS k_395 k_324 k_21 k_325 (met_X9_isWithin l D cy _ (cW cy ad en x) p1 4 (D_X9_isWithin p1 4) rfl) (fun _ _ _ => trivial) Xok_T ⟨rfl, rfl⟩ (n := 2) (by decide +kernel) rfl ⟨Nat.le_of_ble_eq_true rfl, Nat.le_of_ble_eq_true rfl⟩ ⟨Nat.le_of_ble_eq_true rfl, Nat.le_of_ble_eq_true rfl⟩ (Nat.le_of_ble_eq_true rfl) rfl dX9_ranked_2 (fun H locs hP hD hS => ?_)
  refine lv_if_ne (tgt := 18) hx hb dX9_ranked_5 (by decide) (fun h4 => ?_) (fun h4 => ?_)
  · replace hF := (if_neg h4).symm.trans hF
    refine lv_aload_n hx hb dX9_ranked_18 rfl (lv_at hl 0 rfl) ?_
    refine get' (ci := 11) (fs := [.ref (ad 0 0), .ref (ad 1 0), .ref (ad 2 0), .ref (ad 3 0), .int (((x 12) 0) 4), .ref (ad 12 1), .ref (ad 12 3), .ref (ad 12 4), .int (((x 12) 0) 8), .ref (ad 12 31)]) (v := .ref (ad 0 0)) hx hb hw inWX9 hown hK hP (gY (x := x) (r := 0) (f := ((x 12) 0)) (by decide) ((congrFun rfl _).trans rfl)) rfl 0 (by decide) k_284 rfl rfl dX9_ranked_19 ?_
    refine lv_iload_n hx hb dX9_ranked_22 rfl (lv_at hl 1 rfl) ?_
    have hP := cvP hP ((congrArg (cW cy ad en) (up_self x 0)).symm.trans (congrArg (fun z => cW cy ad en (va_up x 0 z)) rfl))
    have hD := cvD hD ((congrArg (cW cy ad en) (up_self x 0)).symm.trans (congrArg (fun z => cW cy ad en (va_up x 0 z)) rfl))
    obtain ⟨r5, hc7, hF⟩ := bind_some hF
    try dsimp only at hF
    refine cV_i (As := [.int p1]) (rest := []) hx hb hml hown hw hK hN hA hl.1 hP hD hS k_662 k_663 k_664 k_22 k_665 (met_X4_ownerAtPlace l D cy _ ad en x 0 (by decide) (x 0) p1 r5 hc7) (fun _ _ _ => trivial) Xok_T (gX (x := (va_up x 0 (x 0))) (k := 0) (r := 0) (f := ((x 0) 0)) (by decide) (by decide) ((congrFun (va_up_self _ _ _) _).trans rfl)) rfl ⟨rfl, rfl⟩ (n := 1) (by decide +kernel) rfl ⟨Nat.le_of_ble_eq_true rfl, Nat.le_of_ble_eq_true rfl⟩ ⟨Nat.le_of_ble_eq_true rfl, Nat.le_of_ble_eq_true rfl⟩ (Nat.le_of_ble_eq_true rfl) rfl dX9_ranked_23 (fun H locs hP hD hS => ?_)
    have hP : va_P D vwCl (cW cy ad en x) H := cvP hP ((congrArg (cW cy ad en) (up_self x 0)).symm.trans (congrArg (fun z => cW cy ad en (va_up x 0 z)) rfl)).symm
    have hD : va_D A (cW cy ad en x) := cvD hD ((congrArg (cW cy ad en) (up_self x 0)).symm.trans (congrArg (fun z => cW cy ad en (va_up x 0 z)) rfl)).symm
    cases hF
    rw [hQ]
    exact retx_i hx hb hr hlk (Nat.le_of_ble_eq_true rfl) (Nat.le_of_ble_eq_true rfl) hS hP hD rfl rfl rfl dX9_ranked_26
  · replace hF := (if_pos h4).symm.trans hF
    cases hF
    rw [hQ]
    exact thrN (g := g) (en := en) hx hb hst0 hml hown hw hN hlk htb hST hS hP hD hl.1 (text := "there is no such place") 10 rfl k_625 k_42 at_185 (by decide) rfl rfl dX9_ranked_8 dX9_ranked_11 dX9_ranked_12 dX9_ranked_14 dX9_ranked_17 ⟨Nat.le_of_ble_eq_true rfl, Nat.le_of_ble_eq_true rfl, Nat.le_of_ble_eq_true rfl, Nat.le_of_ble_eq_true rfl⟩ (Nat.le_of_ble_eq_true rfl) ⟨Nat.le_of_ble_eq_true rfl, Nat.le_of_ble_eq_true rfl⟩
def D_X9_faultPosition (x : Mem) : Int32 × Int32 := if (((x 12) 0) 8) = (-1) then ((1, 0)) else ((0, (((x 12) 0) 8)))
abbrev rm_X9_faultPosition : Room := { frames := 6, cells := 2, slots := 12, locals := 90 }
def exn_X9_faultPosition : Int32 → String := fun _ => "java/util/NoSuchElementException"
def D_X9_reason (x : Mem) (p1 : Int32) (p2 : Int32) : Int32 × Int32 := if p1 = 0 then (if (((x 12) 3) 0) = 0 then ((1, 0)) else (if p2 = 0 then ((0, (((x 12) 3) 0))) else (if p1 = 0 then ((0, (((x 12) 3) 1))) else ((0, (((x 12) 3) 3)))))) else (if (((x 12) 3) 2) = 0 then ((1, 0)) else (if p2 = 0 then ((0, (((x 12) 3) 2))) else (if p1 = 0 then ((0, (((x 12) 3) 1))) else ((0, (((x 12) 3) 3))))))
abbrev rm_X9_reason : Room := { frames := 6, cells := 2, slots := 12, locals := 90 }
def exn_X9_reason : Int32 → String := fun _ => "java/util/NoSuchElementException"
set_option maxHeartbeats 4000000 in
set_option maxRecDepth 100000 in
theorem met_X9_reason (l : Launch) (hst0 : l.stackTraces = false) (D : va_G) (cy : Nat → ClassId) (sz : Nat) (ad : Nat → Nat → Nat) (en g : Nat → Nat) (x : Mem) (p1 : Int32) (p2 : Int32) (hz1 : p1 = 0 ∨ p1 = 1) (hz2 : p2 = 0 ∨ p2 = 1) (code : Int32) (r : Int32) (hF : D_X9_reason x p1 p2 = (code, r)) : MT l yX9_reason cX9_reason 4 (some .int) rm_X9_reason D cy en g (cW cy ad en x) sz [.ref (ad 12 0), .int p1, .int p2] exn_X9_reason code r (cW cy ad en x) := by
  refine MT.of (by decide +kernel) (Nat.le_of_ble_eq_true rfl) ?_
  intro p e s m args below meth c A ls Q hAt htb hST hP hD hA hS hl hQ
  obtain ⟨hx, hb, hr, hml, hown, hw, hlk, hK, hN⟩ := hAt
  have hown : s.vm.findClass "CloudDeeds" = some m.cls := hown
  have hl : lv_has ls 4 [(0, .ref (ad 12 0)), (1, .int p1), (2, .int p2)] := hl
  refine lv_iload_n hx hb dX9_reason_0 rfl (lv_at hl 1 rfl) ?_
  refine lv_if_eq (tgt := 14) hx hb dX9_reason_1 (by decide) (fun h1 => ?_) (fun h1 => ?_)
  · replace hF := (if_pos h1).symm.trans hF
    refine lv_aload_n hx hb dX9_reason_14 rfl (lv_at hl 0 rfl) ?_
    refine get' (ci := 11) (fs := [.ref (ad 0 0), .ref (ad 1 0), .ref (ad 2 0), .ref (ad 3 0), .int (((x 12) 0) 4), .ref (ad 12 1), .ref (ad 12 3), .ref (ad 12 4), .int (((x 12) 0) 8), .ref (ad 12 31)]) (v := .ref (ad 12 3)) hx hb hw inWX9 hown hK hP (gY (x := x) (r := 0) (f := ((x 12) 0)) (by decide) ((congrFun rfl _).trans rfl)) rfl 6 (by decide) k_290 rfl rfl dX9_reason_15 ?_
    refine getN' (ci := 8) (fs := [.int (((x 12) 3) 0), .int (((x 12) 3) 1), .int (((x 12) 3) 2), .int (((x 12) 3) 3)]) (v := .int (((x 12) 3) 0)) hx hb hw hN inWX6 hown hK hP (gY (x := x) (r := 3) (f := ((x 12) 3)) (by decide) ((congrFun rfl _).trans rfl)) rfl 0 (by decide) n_192 rfl rfl dX9_reason_18 ?_
    refine lv_istore_n (lv' := [(3, .int (((x 12) 3) 0)), (0, .ref (ad 12 0)), (1, .int p1), (2, .int p2)]) hx hb dX9_reason_21 rfl hl (by decide) rfl (fun ls hl => ?_)
    refine lv_iload_n hx hb dX9_reason_22 rfl (lv_at hl 0 rfl) ?_
    refine lv_if_ne (tgt := 37) hx hb dX9_reason_23 (by decide) (fun h2 => ?_) (fun h2 => ?_)
    · replace hF := (if_neg h2).symm.trans hF
      refine lv_iload_n hx hb dX9_reason_37 rfl (lv_at hl 3 rfl) ?_
      refine lv_if_ne (tgt := 43) hx hb dX9_reason_38 (by decide) (fun h3 => ?_) (fun h3 => ?_)
      · replace hF := (if_neg h3).symm.trans hF
        refine lv_iload_n hx hb dX9_reason_43 rfl (lv_at hl 2 rfl) ?_
        refine lv_if_eq (tgt := 57) hx hb dX9_reason_44 (by decide) (fun h4 => ?_) (fun h4 => ?_)
        · replace hF := (if_pos h4).symm.trans hF
          refine lv_aload_n hx hb dX9_reason_57 rfl (lv_at hl 1 rfl) ?_
          refine get' (ci := 11) (fs := [.ref (ad 0 0), .ref (ad 1 0), .ref (ad 2 0), .ref (ad 3 0), .int (((x 12) 0) 4), .ref (ad 12 1), .ref (ad 12 3), .ref (ad 12 4), .int (((x 12) 0) 8), .ref (ad 12 31)]) (v := .ref (ad 12 3)) hx hb hw inWX9 hown hK hP (gY (x := x) (r := 0) (f := ((x 12) 0)) (by decide) ((congrFun rfl _).trans rfl)) rfl 6 (by decide) k_290 rfl rfl dX9_reason_58 ?_
          refine getN' (ci := 8) (fs := [.int (((x 12) 3) 0), .int (((x 12) 3) 1), .int (((x 12) 3) 2), .int (((x 12) 3) 3)]) (v := .int (((x 12) 3) 1)) hx hb hw hN inWX6 hown hK hP (gY (x := x) (r := 3) (f := ((x 12) 3)) (by decide) ((congrFun rfl _).trans rfl)) rfl 1 (by decide) n_194 rfl rfl dX9_reason_61 ?_
          cases hF
          rw [hQ]
          exact retx_i hx hb hr hlk (Nat.le_of_ble_eq_true rfl) (Nat.le_of_ble_eq_true rfl) hS hP hD rfl rfl rfl dX9_reason_64
        · replace hF := (if_neg h4).symm.trans hF
          refine lv_aload_n hx hb dX9_reason_47 rfl (lv_at hl 1 rfl) ?_
          refine get' (ci := 11) (fs := [.ref (ad 0 0), .ref (ad 1 0), .ref (ad 2 0), .ref (ad 3 0), .int (((x 12) 0) 4), .ref (ad 12 1), .ref (ad 12 3), .ref (ad 12 4), .int (((x 12) 0) 8), .ref (ad 12 31)]) (v := .ref (ad 12 3)) hx hb hw inWX9 hown hK hP (gY (x := x) (r := 0) (f := ((x 12) 0)) (by decide) ((congrFun rfl _).trans rfl)) rfl 6 (by decide) k_290 rfl rfl dX9_reason_48 ?_
          refine getN' (ci := 8) (fs := [.int (((x 12) 3) 0), .int (((x 12) 3) 1), .int (((x 12) 3) 2), .int (((x 12) 3) 3)]) (v := .int (((x 12) 3) 3)) hx hb hw hN inWX6 hown hK hP (gY (x := x) (r := 3) (f := ((x 12) 3)) (by decide) ((congrFun rfl _).trans rfl)) rfl 3 (by decide) n_198 rfl rfl dX9_reason_51 ?_
          refine lv_goto (tgt := 64) hx hb dX9_reason_54 (by decide) ?_
          cases hF
          rw [hQ]
          exact retx_i hx hb hr hlk (Nat.le_of_ble_eq_true rfl) (Nat.le_of_ble_eq_true rfl) hS hP hD rfl rfl rfl dX9_reason_64
      · replace hF := (if_pos h3).symm.trans hF
        refine lv_iload_n hx hb dX9_reason_41 rfl (lv_at hl 0 rfl) ?_
        cases hF
        rw [hQ]
        exact retx_i hx hb hr hlk (Nat.le_of_ble_eq_true rfl) (Nat.le_of_ble_eq_true rfl) hS hP hD rfl rfl rfl dX9_reason_42
    · replace hF := (if_pos h2).symm.trans hF
      cases hF
      rw [hQ]
      exact thrNW (g := g) (en := en) hx hb hst0 hml hown hw hN hlk htb hST hS hP hD hl.1 (text := "there is no such reason") 15 rfl k_625 k_42 at_185 (by decide) rfl rfl dX9_reason_26 dX9_reason_29 dX9_reason_30 dX9_reason_33 dX9_reason_36 ⟨Nat.le_of_ble_eq_true rfl, Nat.le_of_ble_eq_true rfl, Nat.le_of_ble_eq_true rfl, Nat.le_of_ble_eq_true rfl⟩ (Nat.le_of_ble_eq_true rfl) ⟨Nat.le_of_ble_eq_true rfl, Nat.le_of_ble_eq_true rfl⟩
  · replace hF := (if_neg h1).symm.trans hF
    refine lv_aload_n hx hb dX9_reason_4 rfl (lv_at hl 0 rfl) ?_
    refine get' (ci := 11) (fs := [.ref (ad 0 0), .ref (ad 1 0), .ref (ad 2 0), .ref (ad 3 0), .int (((x 12) 0) 4), .ref (ad 12 1), .ref (ad 12 3), .ref (ad 12 4), .int (((x 12) 0) 8), .ref (ad 12 31)]) (v := .ref (ad 12 3)) hx hb hw inWX9 hown hK hP (gY (x := x) (r := 0) (f := ((x 12) 0)) (by decide) ((congrFun rfl _).trans rfl)) rfl 6 (by decide) k_290 rfl rfl dX9_reason_5 ?_
    refine getN' (ci := 8) (fs := [.int (((x 12) 3) 0), .int (((x 12) 3) 1), .int (((x 12) 3) 2), .int (((x 12) 3) 3)]) (v := .int (((x 12) 3) 2)) hx hb hw hN inWX6 hown hK hP (gY (x := x) (r := 3) (f := ((x 12) 3)) (by decide) ((congrFun rfl _).trans rfl)) rfl 2 (by decide) n_196 rfl rfl dX9_reason_8 ?_
    refine lv_goto (tgt := 21) hx hb dX9_reason_11 (by decide) ?_
    refine lv_istore_n (lv' := [(3, .int (((x 12) 3) 2)), (0, .ref (ad 12 0)), (1, .int p1), (2, .int p2)]) hx hb dX9_reason_21 rfl hl (by decide) rfl (fun ls hl => ?_)
    refine lv_iload_n hx hb dX9_reason_22 rfl (lv_at hl 0 rfl) ?_
    refine lv_if_ne (tgt := 37) hx hb dX9_reason_23 (by decide) (fun h5 => ?_) (fun h5 => ?_)
    · replace hF := (if_neg h5).symm.trans hF
      refine lv_iload_n hx hb dX9_reason_37 rfl (lv_at hl 3 rfl) ?_
      refine lv_if_ne (tgt := 43) hx hb dX9_reason_38 (by decide) (fun h6 => ?_) (fun h6 => ?_)
      · replace hF := (if_neg h6).symm.trans hF
        refine lv_iload_n hx hb dX9_reason_43 rfl (lv_at hl 2 rfl) ?_
        refine lv_if_eq (tgt := 57) hx hb dX9_reason_44 (by decide) (fun h7 => ?_) (fun h7 => ?_)
        · replace hF := (if_pos h7).symm.trans hF
          refine lv_aload_n hx hb dX9_reason_57 rfl (lv_at hl 1 rfl) ?_
          refine get' (ci := 11) (fs := [.ref (ad 0 0), .ref (ad 1 0), .ref (ad 2 0), .ref (ad 3 0), .int (((x 12) 0) 4), .ref (ad 12 1), .ref (ad 12 3), .ref (ad 12 4), .int (((x 12) 0) 8), .ref (ad 12 31)]) (v := .ref (ad 12 3)) hx hb hw inWX9 hown hK hP (gY (x := x) (r := 0) (f := ((x 12) 0)) (by decide) ((congrFun rfl _).trans rfl)) rfl 6 (by decide) k_290 rfl rfl dX9_reason_58 ?_
          refine getN' (ci := 8) (fs := [.int (((x 12) 3) 0), .int (((x 12) 3) 1), .int (((x 12) 3) 2), .int (((x 12) 3) 3)]) (v := .int (((x 12) 3) 1)) hx hb hw hN inWX6 hown hK hP (gY (x := x) (r := 3) (f := ((x 12) 3)) (by decide) ((congrFun rfl _).trans rfl)) rfl 1 (by decide) n_194 rfl rfl dX9_reason_61 ?_
          cases hF
          rw [hQ]
          exact retx_i hx hb hr hlk (Nat.le_of_ble_eq_true rfl) (Nat.le_of_ble_eq_true rfl) hS hP hD rfl rfl rfl dX9_reason_64
        · replace hF := (if_neg h7).symm.trans hF
          refine lv_aload_n hx hb dX9_reason_47 rfl (lv_at hl 1 rfl) ?_
          refine get' (ci := 11) (fs := [.ref (ad 0 0), .ref (ad 1 0), .ref (ad 2 0), .ref (ad 3 0), .int (((x 12) 0) 4), .ref (ad 12 1), .ref (ad 12 3), .ref (ad 12 4), .int (((x 12) 0) 8), .ref (ad 12 31)]) (v := .ref (ad 12 3)) hx hb hw inWX9 hown hK hP (gY (x := x) (r := 0) (f := ((x 12) 0)) (by decide) ((congrFun rfl _).trans rfl)) rfl 6 (by decide) k_290 rfl rfl dX9_reason_48 ?_
          refine getN' (ci := 8) (fs := [.int (((x 12) 3) 0), .int (((x 12) 3) 1), .int (((x 12) 3) 2), .int (((x 12) 3) 3)]) (v := .int (((x 12) 3) 3)) hx hb hw hN inWX6 hown hK hP (gY (x := x) (r := 3) (f := ((x 12) 3)) (by decide) ((congrFun rfl _).trans rfl)) rfl 3 (by decide) n_198 rfl rfl dX9_reason_51 ?_
          refine lv_goto (tgt := 64) hx hb dX9_reason_54 (by decide) ?_
          cases hF
          rw [hQ]
          exact retx_i hx hb hr hlk (Nat.le_of_ble_eq_true rfl) (Nat.le_of_ble_eq_true rfl) hS hP hD rfl rfl rfl dX9_reason_64
      · replace hF := (if_pos h6).symm.trans hF
        refine lv_iload_n hx hb dX9_reason_41 rfl (lv_at hl 0 rfl) ?_
        cases hF
        rw [hQ]
        exact retx_i hx hb hr hlk (Nat.le_of_ble_eq_true rfl) (Nat.le_of_ble_eq_true rfl) hS hP hD rfl rfl rfl dX9_reason_42
    · replace hF := (if_pos h5).symm.trans hF
      cases hF
      rw [hQ]
      exact thrNW (g := g) (en := en) hx hb hst0 hml hown hw hN hlk htb hST hS hP hD hl.1 (text := "there is no such reason") 15 rfl k_625 k_42 at_185 (by decide) rfl rfl dX9_reason_26 dX9_reason_29 dX9_reason_30 dX9_reason_33 dX9_reason_36 ⟨Nat.le_of_ble_eq_true rfl, Nat.le_of_ble_eq_true rfl, Nat.le_of_ble_eq_true rfl, Nat.le_of_ble_eq_true rfl⟩ (Nat.le_of_ble_eq_true rfl) ⟨Nat.le_of_ble_eq_true rfl, Nat.le_of_ble_eq_true rfl⟩
def D_X9_account (x : Mem) (p1 : Int32) : Option (Int32 × Int32) := if (D_X9_isWithin p1 13) = 0 then (some (1, 0)) else (if p1 = 11 then (some (0, (((x 12) 4) 1))) else (if p1 = 12 then (some (0, (((x 12) 1) 2))) else ((D_X4_tellAccount (x 0) p1).bind (fun r7 => some (0, r7)))))
abbrev rm_X9_account : Room := { frames := 6, cells := 2, slots := 12, locals := 90 }
def exn_X9_account : Int32 → String := fun _ => "java/lang/IllegalArgumentException"
set_option maxHeartbeats 4000000 in
set_option maxRecDepth 100000 in
theorem met_X9_account (l : Launch) (hst0 : l.stackTraces = false) (D : va_G) (cy : Nat → ClassId) (sz : Nat) (ad : Nat → Nat → Nat) (en g : Nat → Nat) (x : Mem) (p1 : Int32)  (code : Int32) (r : Int32) (hF : D_X9_account x p1 = some (code, r)) : MT l yX9_account cX9_account 2 (some .int) rm_X9_account D cy en g (cW cy ad en x) sz [.ref (ad 12 0), .int p1] exn_X9_account code r (cW cy ad en x) := by
  refine MT.of (by decide +kernel) (Nat.le_of_ble_eq_true rfl) ?_
  intro p e s m args below meth c A ls Q hAt htb hST hP hD hA hS hl hQ
  obtain ⟨hx, hb, hr, hml, hown, hw, hlk, hK, hN⟩ := hAt
  have hown : s.vm.findClass "CloudDeeds" = some m.cls := hown
  have hl : lv_has ls 2 [(0, .ref (ad 12 0)), (1, .int p1)] := hl
  refine lv_iload_n hx hb dX9_account_0 rfl (lv_at hl 1 rfl) ?_
  refine lv_bipush (v := 13) hx hb dX9_account_1 (by decide) ?_
  refine cS_i (As := [.int p1, .int 13]) (rest := []) hx hb hml hown hw hK hN hA hl.1 hP hD hS k_395 k_324 k_21 k_325 (met_X9_isWithin l D cy _ (cW cy ad en x) p1 13 (D_X9_isWithin p1 13) rfl) (fun _ _ _ => trivial) Xok_T ⟨rfl, rfl⟩ (n := 2) (by decide +kernel) rfl ⟨Nat.le_of_ble_eq_true rfl, Nat.le_of_ble_eq_true rfl⟩ ⟨Nat.le_of_ble_eq_true rfl, Nat.le_of_ble_eq_true rfl⟩ (Nat.le_of_ble_eq_true rfl) rfl dX9_account_3 (fun H locs hP hD hS => ?_)
  refine lv_if_ne (tgt := 20) hx hb dX9_account_6 (by decide) (fun h4 => ?_) (fun h4 => ?_)
  · replace hF := (if_neg h4).symm.trans hF
    refine lv_iload_n hx hb dX9_account_20 rfl (lv_at hl 1 rfl) ?_
    refine lv_bipush (v := 11) hx hb dX9_account_21 (by decide) ?_
    refine lv_icmp_ne (tgt := 34) hx hb dX9_account_23 (by decide) (fun h5 => ?_) (fun h5 => ?_)
    · replace hF := (if_neg h5).symm.trans hF
      refine lv_iload_n hx hb dX9_account_34 rfl (lv_at hl 1 rfl) ?_
      refine lv_bipush (v := 12) hx hb dX9_account_35 (by decide) ?_
      refine lv_icmp_ne (tgt := 50) hx hb dX9_account_37 (by decide) (fun h6 => ?_) (fun h6 => ?_)
      · replace hF := (if_neg h6).symm.trans hF
        refine lv_aload_n hx hb dX9_account_50 rfl (lv_at hl 0 rfl) ?_
        refine get' (ci := 11) (fs := [.ref (ad 0 0), .ref (ad 1 0), .ref (ad 2 0), .ref (ad 3 0), .int (((x 12) 0) 4), .ref (ad 12 1), .ref (ad 12 3), .ref (ad 12 4), .int (((x 12) 0) 8), .ref (ad 12 31)]) (v := .ref (ad 0 0)) hx hb hw inWX9 hown hK hP (gY (x := x) (r := 0) (f := ((x 12) 0)) (by decide) ((congrFun rfl _).trans rfl)) rfl 0 (by decide) k_284 rfl rfl dX9_account_51 ?_
        refine lv_iload_n hx hb dX9_account_54 rfl (lv_at hl 1 rfl) ?_
        have hP := cvP hP ((congrArg (cW cy ad en) (up_self x 0)).symm.trans (congrArg (fun z => cW cy ad en (va_up x 0 z)) rfl))
        have hD := cvD hD ((congrArg (cW cy ad en) (up_self x 0)).symm.trans (congrArg (fun z => cW cy ad en (va_up x 0 z)) rfl))
        obtain ⟨r7, hc9, hF⟩ := bind_some hF
        try dsimp only at hF
        refine cV_i (As := [.int p1]) (rest := []) hx hb hml hown hw hK hN hA hl.1 hP hD hS k_890 k_891 k_892 k_22 k_893 (met_X4_tellAccount l D cy _ ad en x 0 (by decide) (x 0) p1 r7 hc9) (fun _ _ _ => trivial) Xok_T (gX (x := (va_up x 0 (x 0))) (k := 0) (r := 0) (f := ((x 0) 0)) (by decide) (by decide) ((congrFun (va_up_self _ _ _) _).trans rfl)) rfl ⟨rfl, rfl⟩ (n := 1) (by decide +kernel) rfl ⟨Nat.le_of_ble_eq_true rfl, Nat.le_of_ble_eq_true rfl⟩ ⟨Nat.le_of_ble_eq_true rfl, Nat.le_of_ble_eq_true rfl⟩ (Nat.le_of_ble_eq_true rfl) rfl dX9_account_55 (fun H locs hP hD hS => ?_)
        have hP : va_P D vwCl (cW cy ad en x) H := cvP hP ((congrArg (cW cy ad en) (up_self x 0)).symm.trans (congrArg (fun z => cW cy ad en (va_up x 0 z)) rfl)).symm
        have hD : va_D A (cW cy ad en x) := cvD hD ((congrArg (cW cy ad en) (up_self x 0)).symm.trans (congrArg (fun z => cW cy ad en (va_up x 0 z)) rfl)).symm
        cases hF
        rw [hQ]
        exact retx_i hx hb hr hlk (Nat.le_of_ble_eq_true rfl) (Nat.le_of_ble_eq_true rfl) hS hP hD rfl rfl rfl dX9_account_58
      · replace hF := (if_pos h6).symm.trans hF
        refine lv_aload_n hx hb dX9_account_40 rfl (lv_at hl 0 rfl) ?_
        refine get' (ci := 11) (fs := [.ref (ad 0 0), .ref (ad 1 0), .ref (ad 2 0), .ref (ad 3 0), .int (((x 12) 0) 4), .ref (ad 12 1), .ref (ad 12 3), .ref (ad 12 4), .int (((x 12) 0) 8), .ref (ad 12 31)]) (v := .ref (ad 12 1)) hx hb hw inWX9 hown hK hP (gY (x := x) (r := 0) (f := ((x 12) 0)) (by decide) ((congrFun rfl _).trans rfl)) rfl 5 (by decide) k_289 rfl rfl dX9_account_41 ?_
        refine getN' (ci := 5) (fs := [.ref (ad 12 2), .int (((x 12) 1) 1), .int (((x 12) 1) 2)]) (v := .int (((x 12) 1) 2)) hx hb hw hN inWX2 hown hK hP (gY (x := x) (r := 1) (f := ((x 12) 1)) (by decide) ((congrFun rfl _).trans rfl)) rfl 2 (by decide) n_177 rfl rfl dX9_account_44 ?_
        refine lv_goto (tgt := 58) hx hb dX9_account_47 (by decide) ?_
        cases hF
        rw [hQ]
        exact retx_i hx hb hr hlk (Nat.le_of_ble_eq_true rfl) (Nat.le_of_ble_eq_true rfl) hS hP hD rfl rfl rfl dX9_account_58
    · replace hF := (if_pos h5).symm.trans hF
      refine lv_aload_n hx hb dX9_account_26 rfl (lv_at hl 0 rfl) ?_
      refine get' (ci := 11) (fs := [.ref (ad 0 0), .ref (ad 1 0), .ref (ad 2 0), .ref (ad 3 0), .int (((x 12) 0) 4), .ref (ad 12 1), .ref (ad 12 3), .ref (ad 12 4), .int (((x 12) 0) 8), .ref (ad 12 31)]) (v := .ref (ad 12 4)) hx hb hw inWX9 hown hK hP (gY (x := x) (r := 0) (f := ((x 12) 0)) (by decide) ((congrFun rfl _).trans rfl)) rfl 7 (by decide) k_291 rfl rfl dX9_account_27 ?_
      refine getN' (ci := 10) (fs := [.ref (ad 12 5), .int (((x 12) 4) 1), .int (((x 12) 4) 2), .ref (ad 12 6), .int (((x 12) 4) 4)]) (v := .int (((x 12) 4) 1)) hx hb hw hN inWX8 hown hK hP (gY (x := x) (r := 4) (f := ((x 12) 4)) (by decide) ((congrFun rfl _).trans rfl)) rfl 1 (by decide) n_236 rfl rfl dX9_account_30 ?_
      cases hF
      rw [hQ]
      exact retx_i hx hb hr hlk (Nat.le_of_ble_eq_true rfl) (Nat.le_of_ble_eq_true rfl) hS hP hD rfl rfl rfl dX9_account_33
  · replace hF := (if_pos h4).symm.trans hF
    cases hF
    rw [hQ]
    exact thrSW (g := g) (en := en) hx hb hst0 hml hown hw hN hlk htb hST hS hP hD hl.1 (text := "there is no such account") 19 rfl (by decide) k_396 k_43 at_119 (by decide) rfl rfl dX9_account_9 dX9_account_12 dX9_account_13 dX9_account_16 dX9_account_19 ⟨Nat.le_of_ble_eq_true rfl, Nat.le_of_ble_eq_true rfl, Nat.le_of_ble_eq_true rfl, Nat.le_of_ble_eq_true rfl⟩ (Nat.le_of_ble_eq_true rfl) ⟨Nat.le_of_ble_eq_true rfl, Nat.le_of_ble_eq_true rfl⟩
def D_X9_isBalanced (x : Mem) : Option (Int32) := (D_X4_areCloudsAlike (x 0)).bind (fun r1 => if r1 = 0 then (some 0) else ((D_X4_coinsCounted (x 0)).bind (fun r5 => if r5 = (D_X4_coinsByPayments (x 0)) then ((D_X4_areWindsAlike (x 0)).bind (fun r12 => if r12 = 0 then (some 0) else (some 1))) else (some 0))))
abbrev rm_X9_isBalanced : Room := { frames := 4, cells := 0, slots := 0, locals := 87 }
set_option maxHeartbeats 4000000 in
set_option maxRecDepth 100000 in
theorem met_X9_isBalanced (l : Launch) (D : va_G) (cy : Nat → ClassId) (sz : Nat) (ad : Nat → Nat → Nat) (en g : Nat → Nat) (x : Mem)  (r : Int32) (hF : D_X9_isBalanced x = some r) : MI l yX9_isBalanced cX9_isBalanced 1 (some .boolean) rm_X9_isBalanced D cy (cW cy ad en x) sz (fun _ => True) [.ref (ad 12 0)] r (cW cy ad en x) := by
  refine MZ.of (by decide +kernel) (Nat.le_of_ble_eq_true rfl) ?_
  intro p e s m args below meth c A ls Q hAt _ hP hD hA hS hl hret
  obtain ⟨hx, hb, hr, hml, hown, hw, hlk, hK, hN⟩ := hAt
  have hown : s.vm.findClass "CloudDeeds" = some m.cls := hown
  have hl : lv_has ls 1 [(0, .ref (ad 12 0))] := hl
  refine lv_aload_n hx hb dX9_isBalanced_0 rfl (lv_at hl 0 rfl) ?_
  refine get' (ci := 11) (fs := [.ref (ad 0 0), .ref (ad 1 0), .ref (ad 2 0), .ref (ad 3 0), .int (((x 12) 0) 4), .ref (ad 12 1), .ref (ad 12 3), .ref (ad 12 4), .int (((x 12) 0) 8), .ref (ad 12 31)]) (v := .ref (ad 0 0)) hx hb hw inWX9 hown hK hP (gY (x := x) (r := 0) (f := ((x 12) 0)) (by decide) ((congrFun rfl _).trans rfl)) rfl 0 (by decide) k_284 rfl rfl dX9_isBalanced_1 ?_
  have hP := cvP hP ((congrArg (cW cy ad en) (up_self x 0)).symm.trans (congrArg (fun z => cW cy ad en (va_up x 0 z)) rfl))
  have hD := cvD hD ((congrArg (cW cy ad en) (up_self x 0)).symm.trans (congrArg (fun z => cW cy ad en (va_up x 0 z)) rfl))
  obtain ⟨r1, hc3, hF⟩ := bind_some hF
  try dsimp only at hF
  refine cV_i (As := []) (rest := []) hx hb hml hown hw hK hN hA hl.1 hP hD hS k_907 k_908 k_909 k_22 k_910 (met_X4_areCloudsAlike l D cy _ ad en x 0 (by decide) (x 0) r1 hc3) (fun _ _ _ => trivial) Xok_T (gX (x := (va_up x 0 (x 0))) (k := 0) (r := 0) (f := ((x 0) 0)) (by decide) (by decide) ((congrFun (va_up_self _ _ _) _).trans rfl)) rfl ⟨rfl, rfl⟩ (n := 0) (by decide +kernel) rfl ⟨Nat.le_of_ble_eq_true rfl, Nat.le_of_ble_eq_true rfl⟩ ⟨Nat.le_of_ble_eq_true rfl, Nat.le_of_ble_eq_true rfl⟩ (Nat.le_of_ble_eq_true rfl) rfl dX9_isBalanced_4 (fun H locs hP hD hS => ?_)
  have hP : va_P D vwCl (cW cy ad en x) H := cvP hP ((congrArg (cW cy ad en) (up_self x 0)).symm.trans (congrArg (fun z => cW cy ad en (va_up x 0 z)) rfl)).symm
  have hD : va_D A (cW cy ad en x) := cvD hD ((congrArg (cW cy ad en) (up_self x 0)).symm.trans (congrArg (fun z => cW cy ad en (va_up x 0 z)) rfl)).symm
  refine lv_if_eq (tgt := 41) hx hb dX9_isBalanced_7 (by decide) (fun h4 => ?_) (fun h4 => ?_)
  · replace hF := (if_pos h4).symm.trans hF
    refine lv_iconst (v := 0) hx hb dX9_isBalanced_41 (by decide) ?_
    cases hF
    exact hret _ _ _ _ _ _ hP hD hS rfl rfl rfl dX9_isBalanced_42
  · replace hF := (if_neg h4).symm.trans hF
    refine lv_aload_n hx hb dX9_isBalanced_10 rfl (lv_at hl 0 rfl) ?_
    refine get' (ci := 11) (fs := [.ref (ad 0 0), .ref (ad 1 0), .ref (ad 2 0), .ref (ad 3 0), .int (((x 12) 0) 4), .ref (ad 12 1), .ref (ad 12 3), .ref (ad 12 4), .int (((x 12) 0) 8), .ref (ad 12 31)]) (v := .ref (ad 0 0)) hx hb hw inWX9 hown hK hP (gY (x := x) (r := 0) (f := ((x 12) 0)) (by decide) ((congrFun rfl _).trans rfl)) rfl 0 (by decide) k_284 rfl rfl dX9_isBalanced_11 ?_
    have hP := cvP hP ((congrArg (cW cy ad en) (up_self x 0)).symm.trans (congrArg (fun z => cW cy ad en (va_up x 0 z)) rfl))
    have hD := cvD hD ((congrArg (cW cy ad en) (up_self x 0)).symm.trans (congrArg (fun z => cW cy ad en (va_up x 0 z)) rfl))
    obtain ⟨r5, hc7, hF⟩ := bind_some hF
    try dsimp only at hF
    refine cV_i (As := []) (rest := []) hx hb hml hown hw hK hN hA hl.1 hP hD hS k_609 k_610 k_611 k_22 k_612 (met_X4_coinsCounted l D cy _ ad en x 0 (by decide) (x 0) r5 hc7) (fun _ _ _ => trivial) Xok_T (gX (x := (va_up x 0 (x 0))) (k := 0) (r := 0) (f := ((x 0) 0)) (by decide) (by decide) ((congrFun (va_up_self _ _ _) _).trans rfl)) rfl ⟨rfl, rfl⟩ (n := 0) (by decide +kernel) rfl ⟨Nat.le_of_ble_eq_true rfl, Nat.le_of_ble_eq_true rfl⟩ ⟨Nat.le_of_ble_eq_true rfl, Nat.le_of_ble_eq_true rfl⟩ (Nat.le_of_ble_eq_true rfl) rfl dX9_isBalanced_14 (fun H locs hP hD hS => ?_)
    have hP : va_P D vwCl (cW cy ad en x) H := cvP hP ((congrArg (cW cy ad en) (up_self x 0)).symm.trans (congrArg (fun z => cW cy ad en (va_up x 0 z)) rfl)).symm
    have hD : va_D A (cW cy ad en x) := cvD hD ((congrArg (cW cy ad en) (up_self x 0)).symm.trans (congrArg (fun z => cW cy ad en (va_up x 0 z)) rfl)).symm
    refine lv_aload_n hx hb dX9_isBalanced_17 rfl (lv_at hl 0 rfl) ?_
    refine get' (ci := 11) (fs := [.ref (ad 0 0), .ref (ad 1 0), .ref (ad 2 0), .ref (ad 3 0), .int (((x 12) 0) 4), .ref (ad 12 1), .ref (ad 12 3), .ref (ad 12 4), .int (((x 12) 0) 8), .ref (ad 12 31)]) (v := .ref (ad 0 0)) hx hb hw inWX9 hown hK hP (gY (x := x) (r := 0) (f := ((x 12) 0)) (by decide) ((congrFun rfl _).trans rfl)) rfl 0 (by decide) k_284 rfl rfl dX9_isBalanced_18 ?_
    have hP := cvP hP ((congrArg (cW cy ad en) (up_self x 0)).symm.trans (congrArg (fun z => cW cy ad en (va_up x 0 z)) rfl))
    have hD := cvD hD ((congrArg (cW cy ad en) (up_self x 0)).symm.trans (congrArg (fun z => cW cy ad en (va_up x 0 z)) rfl))
    refine cV_i (As := []) (rest := [.int r5]) hx hb hml hown hw hK hN hA hl.1 hP hD hS k_617 k_618 k_619 k_22 k_620 (met_X4_coinsByPayments l D cy _ ad en x 0 (by decide) (x 0) (D_X4_coinsByPayments (x 0)) rfl) (fun _ _ _ => trivial) Xok_T (gX (x := (va_up x 0 (x 0))) (k := 0) (r := 0) (f := ((x 0) 0)) (by decide) (by decide) ((congrFun (va_up_self _ _ _) _).trans rfl)) rfl ⟨rfl, rfl⟩ (n := 0) (by decide +kernel) rfl ⟨Nat.le_of_ble_eq_true rfl, Nat.le_of_ble_eq_true rfl⟩ ⟨Nat.le_of_ble_eq_true rfl, Nat.le_of_ble_eq_true rfl⟩ (Nat.le_of_ble_eq_true rfl) rfl dX9_isBalanced_21 (fun H locs hP hD hS => ?_)
    have hP : va_P D vwCl (cW cy ad en x) H := cvP hP ((congrArg (cW cy ad en) (up_self x 0)).symm.trans (congrArg (fun z => cW cy ad en (va_up x 0 z)) rfl)).symm
    have hD : va_D A (cW cy ad en x) := cvD hD ((congrArg (cW cy ad en) (up_self x 0)).symm.trans (congrArg (fun z => cW cy ad en (va_up x 0 z)) rfl)).symm
    refine lv_icmp_ne (tgt := 41) hx hb dX9_isBalanced_24 (by decide) (fun h11 => ?_) (fun h11 => ?_)
    · replace hF := (if_neg h11).symm.trans hF
      refine lv_iconst (v := 0) hx hb dX9_isBalanced_41 (by decide) ?_
      cases hF
      exact hret _ _ _ _ _ _ hP hD hS rfl rfl rfl dX9_isBalanced_42
    · replace hF := (if_pos h11).symm.trans hF
      refine lv_aload_n hx hb dX9_isBalanced_27 rfl (lv_at hl 0 rfl) ?_
      refine get' (ci := 11) (fs := [.ref (ad 0 0), .ref (ad 1 0), .ref (ad 2 0), .ref (ad 3 0), .int (((x 12) 0) 4), .ref (ad 12 1), .ref (ad 12 3), .ref (ad 12 4), .int (((x 12) 0) 8), .ref (ad 12 31)]) (v := .ref (ad 0 0)) hx hb hw inWX9 hown hK hP (gY (x := x) (r := 0) (f := ((x 12) 0)) (by decide) ((congrFun rfl _).trans rfl)) rfl 0 (by decide) k_284 rfl rfl dX9_isBalanced_28 ?_
      have hP := cvP hP ((congrArg (cW cy ad en) (up_self x 0)).symm.trans (congrArg (fun z => cW cy ad en (va_up x 0 z)) rfl))
      have hD := cvD hD ((congrArg (cW cy ad en) (up_self x 0)).symm.trans (congrArg (fun z => cW cy ad en (va_up x 0 z)) rfl))
      obtain ⟨r12, hc14, hF⟩ := bind_some hF
      try dsimp only at hF
      refine cV_i (As := []) (rest := []) hx hb hml hown hw hK hN hA hl.1 hP hD hS k_912 k_913 k_914 k_22 k_915 (met_X4_areWindsAlike l D cy _ ad en x 0 (by decide) (x 0) r12 hc14) (fun _ _ _ => trivial) Xok_T (gX (x := (va_up x 0 (x 0))) (k := 0) (r := 0) (f := ((x 0) 0)) (by decide) (by decide) ((congrFun (va_up_self _ _ _) _).trans rfl)) rfl ⟨rfl, rfl⟩ (n := 0) (by decide +kernel) rfl ⟨Nat.le_of_ble_eq_true rfl, Nat.le_of_ble_eq_true rfl⟩ ⟨Nat.le_of_ble_eq_true rfl, Nat.le_of_ble_eq_true rfl⟩ (Nat.le_of_ble_eq_true rfl) rfl dX9_isBalanced_31 (fun H locs hP hD hS => ?_)
      have hP : va_P D vwCl (cW cy ad en x) H := cvP hP ((congrArg (cW cy ad en) (up_self x 0)).symm.trans (congrArg (fun z => cW cy ad en (va_up x 0 z)) rfl)).symm
      have hD : va_D A (cW cy ad en x) := cvD hD ((congrArg (cW cy ad en) (up_self x 0)).symm.trans (congrArg (fun z => cW cy ad en (va_up x 0 z)) rfl)).symm
      refine lv_if_eq (tgt := 41) hx hb dX9_isBalanced_34 (by decide) (fun h15 => ?_) (fun h15 => ?_)
      · replace hF := (if_pos h15).symm.trans hF
        refine lv_iconst (v := 0) hx hb dX9_isBalanced_41 (by decide) ?_
        cases hF
        exact hret _ _ _ _ _ _ hP hD hS rfl rfl rfl dX9_isBalanced_42
      · replace hF := (if_neg h15).symm.trans hF
        refine lv_iconst (v := 1) hx hb dX9_isBalanced_37 (by decide) ?_
        refine lv_goto (tgt := 42) hx hb dX9_isBalanced_38 (by decide) ?_
        cases hF
        exact hret _ _ _ _ _ _ hP hD hS rfl rfl rfl dX9_isBalanced_42
def D_X9_save (x : Mem) : Option (Int32 × (Mem)) := (D_X4_copyFrom (x 3) (x 0)).bind (fun o2 => some ((((x 0) 0) 1), (va_up (va_up x 3 o2) 12 (va_up (x 12) 0 (upd ((x 12) 0) 4 1)))))
abbrev rm_X9_save : Room := { frames := 4, cells := 0, slots := 0, locals := 124 }
def D_X9_restore (x : Mem) : Option (Int32 × Int32 × (Mem)) := if (((x 12) 0) 4) = 0 then (some (1, 0, x)) else ((D_X4_copyFrom (x 0) (x 3)).bind (fun o3 => some (0, ((((D_X2_clear (va_up x 0 o3)) 0) 0) 1), (D_X2_clear (va_up x 0 o3)))))
abbrev rm_X9_restore : Room := { frames := 6, cells := 2, slots := 12, locals := 124 }
def exn_X9_restore : Int32 → String := fun _ => "java/lang/IllegalStateException"
def D_X9_cloudsImagined (x : Mem) (p1 : Int32) (p2 : Int32) : Option (Int32 × (Mem)) := (D_X4_copyFrom (x 2) (x 0)).bind (fun o2 => if p2 = 0 then ((D_X4_letDawn o2).bind (fun (r5, o6) => (D_X4_cloudsCounted o6 p1).bind (fun r8 => some (r8, (va_up x 2 o6))))) else ((D_X4_blow o2 p2).bind (fun (r11, o12) => (D_X4_letDawn o12).bind (fun (r14, o15) => (D_X4_cloudsCounted o15 p1).bind (fun r17 => some (r17, (va_up x 2 o15)))))))
abbrev rm_X9_cloudsImagined : Room := { frames := 4, cells := 0, slots := 0, locals := 124 }
set_option maxHeartbeats 4000000 in
set_option maxRecDepth 100000 in
theorem met_X9_cloudsImagined (l : Launch) (D : va_G) (cy : Nat → ClassId) (sz : Nat) (ad : Nat → Nat → Nat) (en g : Nat → Nat) (x : Mem) (p1 : Int32) (p2 : Int32)  (r : Int32) (t' : Mem) (hF : D_X9_cloudsImagined x p1 p2 = some (r, t')) : MI l yX9_cloudsImagined cX9_cloudsImagined 3 (some .int) rm_X9_cloudsImagined D cy (cW cy ad en x) sz (fun _ => True) [.ref (ad 12 0), .int p1, .int p2] r (cW cy ad en t') := by
  refine MI.of (by decide +kernel) (Nat.le_of_ble_eq_true rfl) ?_
  intro p e s m args below meth c A ls Q hAt _ hP hD hA hS hl hret
  obtain ⟨hx, hb, hr, hml, hown, hw, hlk, hK, hN⟩ := hAt
  have hown : s.vm.findClass "CloudDeeds" = some m.cls := hown
  have hl : lv_has ls 3 [(0, .ref (ad 12 0)), (1, .int p1), (2, .int p2)] := hl
  refine lv_aload_n hx hb dX9_cloudsImagined_0 rfl (lv_at hl 0 rfl) ?_
  refine get' (ci := 11) (fs := [.ref (ad 0 0), .ref (ad 1 0), .ref (ad 2 0), .ref (ad 3 0), .int (((x 12) 0) 4), .ref (ad 12 1), .ref (ad 12 3), .ref (ad 12 4), .int (((x 12) 0) 8), .ref (ad 12 31)]) (v := .ref (ad 2 0)) hx hb hw inWX9 hown hK hP (gY (x := x) (r := 0) (f := ((x 12) 0)) (by decide) ((congrFun rfl _).trans rfl)) rfl 2 (by decide) k_286 rfl rfl dX9_cloudsImagined_1 ?_
  refine lv_aload_n hx hb dX9_cloudsImagined_4 rfl (lv_at hl 0 rfl) ?_
  refine get' (ci := 11) (fs := [.ref (ad 0 0), .ref (ad 1 0), .ref (ad 2 0), .ref (ad 3 0), .int (((x 12) 0) 4), .ref (ad 12 1), .ref (ad 12 3), .ref (ad 12 4), .int (((x 12) 0) 8), .ref (ad 12 31)]) (v := .ref (ad 0 0)) hx hb hw inWX9 hown hK hP (gY (x := x) (r := 0) (f := ((x 12) 0)) (by decide) ((congrFun rfl _).trans rfl)) rfl 0 (by decide) k_284 rfl rfl dX9_cloudsImagined_5 ?_
  have hP := cvP hP ((congrArg (cW cy ad en) (up_self x 2)).symm.trans (congrArg (fun z => cW cy ad en (va_up x 2 z)) rfl))
  have hD := cvD hD ((congrArg (cW cy ad en) (up_self x 2)).symm.trans (congrArg (fun z => cW cy ad en (va_up x 2 z)) rfl))
  obtain ⟨o2, hc3, hF⟩ := bind_some hF
  try dsimp only at hF
  refine cV_v (As := [.ref (ad 0 0)]) (rest := []) hx hb hml hown hw hK hN hA hl.1 hP hD hS k_514 k_515 k_516 k_22 k_517 (met_X4_copyFrom l D cy _ ad en x 2 (by decide) (x 2) 0 (by decide) (by decide) (x 0) rfl o2 hc3) (fun _ _ _ => trivial) Xok_T (gX (x := (va_up x 2 (x 2))) (k := 2) (r := 0) (f := ((x 2) 0)) (by decide) (by decide) ((congrFun (va_up_self _ _ _) _).trans rfl)) rfl ⟨rfl, rfl⟩ (n := 1) (by decide +kernel) rfl ⟨Nat.le_of_ble_eq_true rfl, Nat.le_of_ble_eq_true rfl⟩ ⟨Nat.le_of_ble_eq_true rfl, Nat.le_of_ble_eq_true rfl⟩ (Nat.le_of_ble_eq_true rfl) rfl dX9_cloudsImagined_8 (fun H locs hP hD hS => ?_)
  refine lv_iload_n hx hb dX9_cloudsImagined_11 rfl (lv_at hl 2 rfl) ?_
  refine lv_if_eq (tgt := 24) hx hb dX9_cloudsImagined_12 (by decide) (fun h4 => ?_) (fun h4 => ?_)
  · replace hF := (if_pos h4).symm.trans hF
    refine lv_aload_n hx hb dX9_cloudsImagined_24 rfl (lv_at hl 0 rfl) ?_
    refine get' (ci := 11) (fs := [.ref (ad 0 0), .ref (ad 1 0), .ref (ad 2 0), .ref (ad 3 0), .int (((x 12) 0) 4), .ref (ad 12 1), .ref (ad 12 3), .ref (ad 12 4), .int (((x 12) 0) 8), .ref (ad 12 31)]) (v := .ref (ad 2 0)) hx hb hw inWX9 hown hK hP (gY (x := (va_up x 2 o2)) (r := 0) (f := ((x 12) 0)) (by decide) ((congrFun ((va_up_ne _ _ (by decide)).trans rfl) _).trans rfl)) rfl 2 (by decide) k_286 rfl rfl dX9_cloudsImagined_25 ?_
    obtain ⟨⟨r5, o6⟩, hc7, hF⟩ := bind_some hF
    try dsimp only at hF
    refine cV_i (As := []) (rest := []) hx hb hml hown hw hK hN hA hl.1 hP hD hS k_559 k_560 k_561 k_22 k_562 (met_X4_letDawn l D cy _ ad en x 2 (by decide) o2 r5 o6 hc7) (fun _ _ _ => trivial) Xok_T (gX (x := (va_up x 2 o2)) (k := 2) (r := 0) (f := (o2 0)) (by decide) (by decide) ((congrFun (va_up_self _ _ _) _).trans rfl)) rfl ⟨rfl, rfl⟩ (n := 0) (by decide +kernel) rfl ⟨Nat.le_of_ble_eq_true rfl, Nat.le_of_ble_eq_true rfl⟩ ⟨Nat.le_of_ble_eq_true rfl, Nat.le_of_ble_eq_true rfl⟩ (Nat.le_of_ble_eq_true rfl) rfl dX9_cloudsImagined_28 (fun H locs hP hD hS => ?_)
    refine lv_pop hx hb dX9_cloudsImagined_31 rfl ?_
    refine lv_aload_n hx hb dX9_cloudsImagined_32 rfl (lv_at hl 0 rfl) ?_
    refine get' (ci := 11) (fs := [.ref (ad 0 0), .ref (ad 1 0), .ref (ad 2 0), .ref (ad 3 0), .int (((x 12) 0) 4), .ref (ad 12 1), .ref (ad 12 3), .ref (ad 12 4), .int (((x 12) 0) 8), .ref (ad 12 31)]) (v := .ref (ad 2 0)) hx hb hw inWX9 hown hK hP (gY (x := (va_up x 2 o6)) (r := 0) (f := ((x 12) 0)) (by decide) ((congrFun ((va_up_ne _ _ (by decide)).trans rfl) _).trans rfl)) rfl 2 (by decide) k_286 rfl rfl dX9_cloudsImagined_33 ?_
    refine lv_iload_n hx hb dX9_cloudsImagined_36 rfl (lv_at hl 1 rfl) ?_
    obtain ⟨r8, hc10, hF⟩ := bind_some hF
    try dsimp only at hF
    refine cV_i (As := [.int p1]) (rest := []) hx hb hml hown hw hK hN hA hl.1 hP hD hS k_468 k_469 k_470 k_22 k_471 (met_X4_cloudsCounted l D cy _ ad en x 2 (by decide) o6 p1 r8 hc10) (fun _ _ _ => trivial) Xok_T (gX (x := (va_up x 2 o6)) (k := 2) (r := 0) (f := (o6 0)) (by decide) (by decide) ((congrFun (va_up_self _ _ _) _).trans rfl)) rfl ⟨rfl, rfl⟩ (n := 1) (by decide +kernel) rfl ⟨Nat.le_of_ble_eq_true rfl, Nat.le_of_ble_eq_true rfl⟩ ⟨Nat.le_of_ble_eq_true rfl, Nat.le_of_ble_eq_true rfl⟩ (Nat.le_of_ble_eq_true rfl) rfl dX9_cloudsImagined_37 (fun H locs hP hD hS => ?_)
    cases hF
    exact hret _ _ _ _ _ _ hP hD hS rfl rfl dX9_cloudsImagined_40
  · replace hF := (if_neg h4).symm.trans hF
    refine lv_aload_n hx hb dX9_cloudsImagined_15 rfl (lv_at hl 0 rfl) ?_
    refine get' (ci := 11) (fs := [.ref (ad 0 0), .ref (ad 1 0), .ref (ad 2 0), .ref (ad 3 0), .int (((x 12) 0) 4), .ref (ad 12 1), .ref (ad 12 3), .ref (ad 12 4), .int (((x 12) 0) 8), .ref (ad 12 31)]) (v := .ref (ad 2 0)) hx hb hw inWX9 hown hK hP (gY (x := (va_up x 2 o2)) (r := 0) (f := ((x 12) 0)) (by decide) ((congrFun ((va_up_ne _ _ (by decide)).trans rfl) _).trans rfl)) rfl 2 (by decide) k_286 rfl rfl dX9_cloudsImagined_16 ?_
    refine lv_iload_n hx hb dX9_cloudsImagined_19 rfl (lv_at hl 2 rfl) ?_
    obtain ⟨⟨r11, o12⟩, hc13, hF⟩ := bind_some hF
    try dsimp only at hF
    refine cV_i (As := [.int p2]) (rest := []) hx hb hml hown hw hK hN hA hl.1 hP hD hS k_536 k_537 k_538 k_22 k_539 (met_X4_blow l D cy _ ad en x 2 (by decide) o2 p2 r11 o12 hc13) (fun _ _ _ => trivial) Xok_T (gX (x := (va_up x 2 o2)) (k := 2) (r := 0) (f := (o2 0)) (by decide) (by decide) ((congrFun (va_up_self _ _ _) _).trans rfl)) rfl ⟨rfl, rfl⟩ (n := 1) (by decide +kernel) rfl ⟨Nat.le_of_ble_eq_true rfl, Nat.le_of_ble_eq_true rfl⟩ ⟨Nat.le_of_ble_eq_true rfl, Nat.le_of_ble_eq_true rfl⟩ (Nat.le_of_ble_eq_true rfl) rfl dX9_cloudsImagined_20 (fun H locs hP hD hS => ?_)
    refine lv_pop hx hb dX9_cloudsImagined_23 rfl ?_
    refine lv_aload_n hx hb dX9_cloudsImagined_24 rfl (lv_at hl 0 rfl) ?_
    refine get' (ci := 11) (fs := [.ref (ad 0 0), .ref (ad 1 0), .ref (ad 2 0), .ref (ad 3 0), .int (((x 12) 0) 4), .ref (ad 12 1), .ref (ad 12 3), .ref (ad 12 4), .int (((x 12) 0) 8), .ref (ad 12 31)]) (v := .ref (ad 2 0)) hx hb hw inWX9 hown hK hP (gY (x := (va_up x 2 o12)) (r := 0) (f := ((x 12) 0)) (by decide) ((congrFun ((va_up_ne _ _ (by decide)).trans rfl) _).trans rfl)) rfl 2 (by decide) k_286 rfl rfl dX9_cloudsImagined_25 ?_
    obtain ⟨⟨r14, o15⟩, hc16, hF⟩ := bind_some hF
    try dsimp only at hF
    refine cV_i (As := []) (rest := []) hx hb hml hown hw hK hN hA hl.1 hP hD hS k_559 k_560 k_561 k_22 k_562 (met_X4_letDawn l D cy _ ad en x 2 (by decide) o12 r14 o15 hc16) (fun _ _ _ => trivial) Xok_T (gX (x := (va_up x 2 o12)) (k := 2) (r := 0) (f := (o12 0)) (by decide) (by decide) ((congrFun (va_up_self _ _ _) _).trans rfl)) rfl ⟨rfl, rfl⟩ (n := 0) (by decide +kernel) rfl ⟨Nat.le_of_ble_eq_true rfl, Nat.le_of_ble_eq_true rfl⟩ ⟨Nat.le_of_ble_eq_true rfl, Nat.le_of_ble_eq_true rfl⟩ (Nat.le_of_ble_eq_true rfl) rfl dX9_cloudsImagined_28 (fun H locs hP hD hS => ?_)
    refine lv_pop hx hb dX9_cloudsImagined_31 rfl ?_
    refine lv_aload_n hx hb dX9_cloudsImagined_32 rfl (lv_at hl 0 rfl) ?_
    refine get' (ci := 11) (fs := [.ref (ad 0 0), .ref (ad 1 0), .ref (ad 2 0), .ref (ad 3 0), .int (((x 12) 0) 4), .ref (ad 12 1), .ref (ad 12 3), .ref (ad 12 4), .int (((x 12) 0) 8), .ref (ad 12 31)]) (v := .ref (ad 2 0)) hx hb hw inWX9 hown hK hP (gY (x := (va_up x 2 o15)) (r := 0) (f := ((x 12) 0)) (by decide) ((congrFun ((va_up_ne _ _ (by decide)).trans rfl) _).trans rfl)) rfl 2 (by decide) k_286 rfl rfl dX9_cloudsImagined_33 ?_
    refine lv_iload_n hx hb dX9_cloudsImagined_36 rfl (lv_at hl 1 rfl) ?_
    obtain ⟨r17, hc19, hF⟩ := bind_some hF
    try dsimp only at hF
    refine cV_i (As := [.int p1]) (rest := []) hx hb hml hown hw hK hN hA hl.1 hP hD hS k_468 k_469 k_470 k_22 k_471 (met_X4_cloudsCounted l D cy _ ad en x 2 (by decide) o15 p1 r17 hc19) (fun _ _ _ => trivial) Xok_T (gX (x := (va_up x 2 o15)) (k := 2) (r := 0) (f := (o15 0)) (by decide) (by decide) ((congrFun (va_up_self _ _ _) _).trans rfl)) rfl ⟨rfl, rfl⟩ (n := 1) (by decide +kernel) rfl ⟨Nat.le_of_ble_eq_true rfl, Nat.le_of_ble_eq_true rfl⟩ ⟨Nat.le_of_ble_eq_true rfl, Nat.le_of_ble_eq_true rfl⟩ (Nat.le_of_ble_eq_true rfl) rfl dX9_cloudsImagined_37 (fun H locs hP hD hS => ?_)
    cases hF
    exact hret _ _ _ _ _ _ hP hD hS rfl rfl dX9_cloudsImagined_40
def D_X2_push (x : Mem) (p1 : Nat) : Option ((Mem)) := if (D_X9_isWithin (((x 12) 1) 1) 8) = 0 then ((D_J9_floorMod_7cf53 ((((x 12) 1) 1) + 1) 8).bind (fun r5 => some (va_up x 12 (va_up (x 12) 1 (upd (upd ((x 12) 1) 1 r5) 2 (if 8 < ((((x 12) 1) 2) + 1) then 8 else ((((x 12) 1) 2) + 1))))))) else (if inb (((x 12) 1) 1) 8 then ((D_X4_copyFrom (x ((((x 12) 1) 1).toNatClampNeg + 4)) (x p1)).bind (fun o11 => (D_J9_floorMod_7cf53 ((((x 12) 1) 1) + 1) 8).bind (fun r13 => some (va_up (va_up x ((((x 12) 1) 1).toNatClampNeg + 4) o11) 12 (va_up (x 12) 1 (upd (upd ((x 12) 1) 1 r13) 2 (if 8 < ((((x 12) 1) 2) + 1) then 8 else ((((x 12) 1) 2) + 1)))))))) else none)
abbrev rm_X2_push : Room := { frames := 4, cells := 0, slots := 0, locals := 124 }
set_option maxHeartbeats 4000000 in
set_option maxRecDepth 100000 in
theorem met_X2_push (l : Launch) (D : va_G) (cy : Nat → ClassId) (sz : Nat) (ad : Nat → Nat → Nat) (en g : Nat → Nat) (x : Mem) (p1 : Nat) (hp1 : p1 < 12) (gp1 : p1 < 4)  (t' : Mem) (hF : D_X2_push x p1 = some t') : MV l yX2_push cX2_push 2 rm_X2_push D cy (cW cy ad en x) sz (fun _ => True) [.ref (ad 12 1), .ref (ad p1 0)] (cW cy ad en t') := by
  refine MV.of (by decide +kernel) (Nat.le_of_ble_eq_true rfl) ?_
  intro p e s m args below meth c A ls Q hAt _ hP hD hA hS hl hret
  obtain ⟨hx, hb, hr, hml, hown, hw, hlk, hK, hN⟩ := hAt
  have hown : s.vm.findClass "CloudDeeds$History" = some m.cls := hown
  have hl : lv_has ls 2 [(0, .ref (ad 12 1)), (1, .ref (ad p1 0))] := hl
  refine lv_aload_n hx hb dX2_push_0 rfl (lv_at hl 0 rfl) ?_
  refine get' (ci := 5) (fs := [.ref (ad 12 2), .int (((x 12) 1) 1), .int (((x 12) 1) 2)]) (v := .int (((x 12) 1) 1)) hx hb hw inWX2 hown hK hP (gY (x := x) (r := 1) (f := ((x 12) 1)) (by decide) ((congrFun rfl _).trans rfl)) rfl 1 (by decide) k_175 rfl rfl dX2_push_1 ?_
  refine lv_aload_n hx hb dX2_push_4 rfl (lv_at hl 0 rfl) ?_
  refine get' (ci := 5) (fs := [.ref (ad 12 2), .int (((x 12) 1) 1), .int (((x 12) 1) 2)]) (v := .ref (ad 12 2)) hx hb hw inWX2 hown hK hP (gY (x := x) (r := 1) (f := ((x 12) 1)) (by decide) ((congrFun rfl _).trans rfl)) rfl 0 (by decide) k_174 rfl rfl dX2_push_5 ?_
  refine va_alen (v := 8) hx hb hK hP _ 4 (gY (x := x) (r := 2) (f := ((x 12) 2)) (by decide) ((congrFun rfl _).trans rfl)) rfl (show Int32.ofNat 8 = 8 by decide) dX2_push_8 ?_
  refine cSN_i (As := [.int (((x 12) 1) 1), .int 8]) (rest := []) hx hb hml hown hw hK hN hA hl.1 hP hD hS n_1079 k_324 k_21 k_325 (met_X9_isWithin l D cy _ (cW cy ad en x) (((x 12) 1) 1) 8 (D_X9_isWithin (((x 12) 1) 1) 8) rfl) (fun _ _ _ => trivial) Xok_T ⟨rfl, rfl⟩ (n := 2) (by decide +kernel) rfl ⟨Nat.le_of_ble_eq_true rfl, Nat.le_of_ble_eq_true rfl⟩ ⟨Nat.le_of_ble_eq_true rfl, Nat.le_of_ble_eq_true rfl⟩ (Nat.le_of_ble_eq_true rfl) rfl dX2_push_9 (fun H locs hP hD hS => ?_)
  refine lv_if_eq (tgt := 28) hx hb dX2_push_12 (by decide) (fun h4 => ?_) (fun h4 => ?_)
  · replace hF := (if_pos h4).symm.trans hF
    refine lv_aload_n hx hb dX2_push_28 rfl (lv_at hl 0 rfl) ?_
    refine lv_aload_n hx hb dX2_push_29 rfl (lv_at hl 0 rfl) ?_
    refine get' (ci := 5) (fs := [.ref (ad 12 2), .int (((x 12) 1) 1), .int (((x 12) 1) 2)]) (v := .int (((x 12) 1) 1)) hx hb hw inWX2 hown hK hP (gY (x := x) (r := 1) (f := ((x 12) 1)) (by decide) ((congrFun rfl _).trans rfl)) rfl 1 (by decide) k_175 rfl rfl dX2_push_30 ?_
    refine lv_iconst (v := 1) hx hb dX2_push_33 (by decide) ?_
    refine lv_iadd hx hb dX2_push_34 ?_
    refine lv_bipush (v := 8) hx hb dX2_push_35 (by decide) ?_
    obtain ⟨r5, hc7, hF⟩ := bind_some hF
    try dsimp only at hF
    refine cS_i (As := [.int ((((x 12) 1) 1) + 1), .int 8]) (rest := [.ref (ad 12 1)]) hx hb hml hown hw hK hN hA hl.1 hP hD hS k_1081 k_495 k_35 k_496 (met_J9_floorMod_7cf53 l D cy _ (cW cy ad en x) ((((x 12) 1) 1) + 1) 8 r5 hc7) (fun _ _ _ => trivial) Xok_T ⟨rfl, rfl⟩ (n := 2) (by decide +kernel) rfl ⟨Nat.le_of_ble_eq_true rfl, Nat.le_of_ble_eq_true rfl⟩ ⟨Nat.le_of_ble_eq_true rfl, Nat.le_of_ble_eq_true rfl⟩ (Nat.le_of_ble_eq_true rfl) rfl dX2_push_37 (fun H locs hP hD hS => ?_)
    refine put' (ci := 5) (fs := [.ref (ad 12 2), .int (((x 12) 1) 1), .int (((x 12) 1) 2)]) (v := .int r5) (ty := .int) (ws' := (cW cy ad en (va_up x 12 (va_up (x 12) 1 (upd ((x 12) 1) 1 r5))))) hx hb hw inWX2 tyX2 tyX2_ok nmX2 hown hK hP hD hS (gY (x := x) (r := 1) (f := ((x 12) 1)) (by decide) ((congrFun rfl _).trans rfl)) rfl 1 (by decide) k_175 rfl rfl (by decide +kernel) rfl rfl (Nat.le_of_ble_eq_true rfl) dX2_push_40 ((sY (x := x) (r := 1) (g := (upd ((x 12) 1) 1 r5)) (by decide)).trans (congrArg (fun z => cW cy ad en (va_up x 12 (va_up z 1 (upd ((x 12) 1) 1 r5)))) rfl)) (fun H locs hP hD hS => ?_)
    refine lv_aload_n hx hb dX2_push_43 rfl (lv_at hl 0 rfl) ?_
    refine lv_aload_n hx hb dX2_push_44 rfl (lv_at hl 0 rfl) ?_
    refine get' (ci := 5) (fs := [.ref (ad 12 2), .int ((upd ((x 12) 1) 1 r5) 1), .int ((upd ((x 12) 1) 1 r5) 2)]) (v := .int (((x 12) 1) 2)) hx hb hw inWX2 hown hK hP (gY (x := (va_up x 12 (va_up (x 12) 1 (upd ((x 12) 1) 1 r5)))) (r := 1) (f := (upd ((x 12) 1) 1 r5)) (by decide) ((congrFun (va_up_self _ _ _) _).trans (va_up_self _ _ _))) rfl 2 (by decide) k_176 rfl rfl dX2_push_45 ?_
    refine lv_iconst (v := 1) hx hb dX2_push_48 (by decide) ?_
    refine lv_iadd hx hb dX2_push_49 ?_
    refine lv_bipush (v := 8) hx hb dX2_push_50 (by decide) ?_
    refine va_mmin hx hb (hml.trans hl.1.symm) hown (hw _ k_1082) (hw _ k_526) (hw _ k_35) (hw _ k_527) (Nat.le_of_ble_eq_true rfl) (Nat.le_of_ble_eq_true rfl) (Nat.zero_le _) (Nat.zero_le _) dX2_push_52 ?_
    refine put' (ci := 5) (fs := [.ref (ad 12 2), .int ((upd ((x 12) 1) 1 r5) 1), .int ((upd ((x 12) 1) 1 r5) 2)]) (v := .int (if 8 < ((((x 12) 1) 2) + 1) then 8 else ((((x 12) 1) 2) + 1))) (ty := .int) (ws' := (cW cy ad en (va_up x 12 (va_up (x 12) 1 (upd (upd ((x 12) 1) 1 r5) 2 (if 8 < ((((x 12) 1) 2) + 1) then 8 else ((((x 12) 1) 2) + 1))))))) hx hb hw inWX2 tyX2 tyX2_ok nmX2 hown hK hP hD hS (gY (x := (va_up x 12 (va_up (x 12) 1 (upd ((x 12) 1) 1 r5)))) (r := 1) (f := (upd ((x 12) 1) 1 r5)) (by decide) ((congrFun (va_up_self _ _ _) _).trans (va_up_self _ _ _))) rfl 2 (by decide) k_176 rfl rfl (by decide +kernel) rfl rfl (Nat.le_of_ble_eq_true rfl) dX2_push_55 ((sT (x := x) (r := 1) (o := (va_up (x 12) 1 (upd ((x 12) 1) 1 r5))) (g := (upd (upd ((x 12) 1) 1 r5) 2 (if 8 < ((((x 12) 1) 2) + 1) then 8 else ((((x 12) 1) 2) + 1)))) (by decide)).trans (congrArg (fun z => cW cy ad en (va_up x 12 z)) (up_up _ _ _ _))) (fun H locs hP hD hS => ?_)
    cases hF
    exact hret _ _ _ _ _ hP hD hS rfl dX2_push_58
  · replace hF := (if_neg h4).symm.trans hF
    refine lv_aload_n hx hb dX2_push_15 rfl (lv_at hl 0 rfl) ?_
    refine get' (ci := 5) (fs := [.ref (ad 12 2), .int (((x 12) 1) 1), .int (((x 12) 1) 2)]) (v := .ref (ad 12 2)) hx hb hw inWX2 hown hK hP (gY (x := x) (r := 1) (f := ((x 12) 1)) (by decide) ((congrFun rfl _).trans rfl)) rfl 0 (by decide) k_174 rfl rfl dX2_push_16 ?_
    refine lv_aload_n hx hb dX2_push_19 rfl (lv_at hl 0 rfl) ?_
    refine get' (ci := 5) (fs := [.ref (ad 12 2), .int (((x 12) 1) 1), .int (((x 12) 1) 2)]) (v := .int (((x 12) 1) 1)) hx hb hw inWX2 hown hK hP (gY (x := x) (r := 1) (f := ((x 12) 1)) (by decide) ((congrFun rfl _).trans rfl)) rfl 1 (by decide) k_175 rfl rfl dX2_push_20 ?_
    obtain ⟨h8, hF⟩ := ite_some hF
    have hr9 : ((((x 12) 1) 1).toNatClampNeg + 4) < 12 := Nat.add_lt_add_right (inb_lt h8) 4
    refine aald' (n := 8) (g := (ad ((((x 12) 1) 1).toNatClampNeg + 4) 0)) hx hb hK hP (gY (x := x) (r := 2) (f := ((x 12) 2)) (by decide) ((congrFun rfl _).trans rfl)) (t0 := 4) rfl (vp_inb h8) rfl dX2_push_23 ?_
    refine lv_aload_n hx hb dX2_push_24 rfl (lv_at hl 1 rfl) ?_
    have hP := cvP hP ((congrArg (cW cy ad en) (up_self x ((((x 12) 1) 1).toNatClampNeg + 4))).symm.trans (congrArg (fun z => cW cy ad en (va_up x ((((x 12) 1) 1).toNatClampNeg + 4) z)) rfl))
    have hD := cvD hD ((congrArg (cW cy ad en) (up_self x ((((x 12) 1) 1).toNatClampNeg + 4))).symm.trans (congrArg (fun z => cW cy ad en (va_up x ((((x 12) 1) 1).toNatClampNeg + 4) z)) rfl))
    obtain ⟨o11, hc12, hF⟩ := bind_some hF
    try dsimp only at hF
    refine cV_v (As := [.ref (ad p1 0)]) (rest := []) hx hb hml hown hw hK hN hA hl.1 hP hD hS k_1080 k_515 k_516 k_22 k_517 (met_X4_copyFrom l D cy _ ad en x ((((x 12) 1) 1).toNatClampNeg + 4) hr9 (x ((((x 12) 1) 1).toNatClampNeg + 4)) p1 hp1 (by omega) (x p1) rfl o11 hc12) (fun _ _ _ => trivial) Xok_T (gX (x := (va_up x ((((x 12) 1) 1).toNatClampNeg + 4) (x ((((x 12) 1) 1).toNatClampNeg + 4)))) (k := ((((x 12) 1) 1).toNatClampNeg + 4)) (r := 0) (f := ((x ((((x 12) 1) 1).toNatClampNeg + 4)) 0)) hr9 (by decide) ((congrFun (va_up_self _ _ _) _).trans rfl)) rfl ⟨rfl, rfl⟩ (n := 1) (by decide +kernel) rfl ⟨Nat.le_of_ble_eq_true rfl, Nat.le_of_ble_eq_true rfl⟩ ⟨Nat.le_of_ble_eq_true rfl, Nat.le_of_ble_eq_true rfl⟩ (Nat.le_of_ble_eq_true rfl) rfl dX2_push_25 (fun H locs hP hD hS => ?_)
    refine lv_aload_n hx hb dX2_push_28 rfl (lv_at hl 0 rfl) ?_
    refine lv_aload_n hx hb dX2_push_29 rfl (lv_at hl 0 rfl) ?_
    refine get' (ci := 5) (fs := [.ref (ad 12 2), .int (((x 12) 1) 1), .int (((x 12) 1) 2)]) (v := .int (((x 12) 1) 1)) hx hb hw inWX2 hown hK hP (gY (x := (va_up x ((((x 12) 1) 1).toNatClampNeg + 4) o11)) (r := 1) (f := ((x 12) 1)) (by decide) ((congrFun ((va_up_ne _ _ (by omega)).trans rfl) _).trans rfl)) rfl 1 (by decide) k_175 rfl rfl dX2_push_30 ?_
    refine lv_iconst (v := 1) hx hb dX2_push_33 (by decide) ?_
    refine lv_iadd hx hb dX2_push_34 ?_
    refine lv_bipush (v := 8) hx hb dX2_push_35 (by decide) ?_
    obtain ⟨r13, hc15, hF⟩ := bind_some hF
    try dsimp only at hF
    refine cS_i (As := [.int ((((x 12) 1) 1) + 1), .int 8]) (rest := [.ref (ad 12 1)]) hx hb hml hown hw hK hN hA hl.1 hP hD hS k_1081 k_495 k_35 k_496 (met_J9_floorMod_7cf53 l D cy _ (cW cy ad en (va_up x ((((x 12) 1) 1).toNatClampNeg + 4) o11)) ((((x 12) 1) 1) + 1) 8 r13 hc15) (fun _ _ _ => trivial) Xok_T ⟨rfl, rfl⟩ (n := 2) (by decide +kernel) rfl ⟨Nat.le_of_ble_eq_true rfl, Nat.le_of_ble_eq_true rfl⟩ ⟨Nat.le_of_ble_eq_true rfl, Nat.le_of_ble_eq_true rfl⟩ (Nat.le_of_ble_eq_true rfl) rfl dX2_push_37 (fun H locs hP hD hS => ?_)
    refine put' (ci := 5) (fs := [.ref (ad 12 2), .int (((x 12) 1) 1), .int (((x 12) 1) 2)]) (v := .int r13) (ty := .int) (ws' := (cW cy ad en (va_up (va_up x ((((x 12) 1) 1).toNatClampNeg + 4) o11) 12 (va_up (x 12) 1 (upd ((x 12) 1) 1 r13))))) hx hb hw inWX2 tyX2 tyX2_ok nmX2 hown hK hP hD hS (gY (x := (va_up x ((((x 12) 1) 1).toNatClampNeg + 4) o11)) (r := 1) (f := ((x 12) 1)) (by decide) ((congrFun ((va_up_ne _ _ (by omega)).trans rfl) _).trans rfl)) rfl 1 (by decide) k_175 rfl rfl (by decide +kernel) rfl rfl (Nat.le_of_ble_eq_true rfl) dX2_push_40 ((sY (x := (va_up x ((((x 12) 1) 1).toNatClampNeg + 4) o11)) (r := 1) (g := (upd ((x 12) 1) 1 r13)) (by decide)).trans (congrArg (fun z => cW cy ad en (va_up (va_up x ((((x 12) 1) 1).toNatClampNeg + 4) o11) 12 (va_up z 1 (upd ((x 12) 1) 1 r13)))) ((va_up_ne _ _ (by omega)).trans rfl))) (fun H locs hP hD hS => ?_)
    refine lv_aload_n hx hb dX2_push_43 rfl (lv_at hl 0 rfl) ?_
    refine lv_aload_n hx hb dX2_push_44 rfl (lv_at hl 0 rfl) ?_
    refine get' (ci := 5) (fs := [.ref (ad 12 2), .int ((upd ((x 12) 1) 1 r13) 1), .int ((upd ((x 12) 1) 1 r13) 2)]) (v := .int (((x 12) 1) 2)) hx hb hw inWX2 hown hK hP (gY (x := (va_up (va_up x ((((x 12) 1) 1).toNatClampNeg + 4) o11) 12 (va_up (x 12) 1 (upd ((x 12) 1) 1 r13)))) (r := 1) (f := (upd ((x 12) 1) 1 r13)) (by decide) ((congrFun (va_up_self _ _ _) _).trans (va_up_self _ _ _))) rfl 2 (by decide) k_176 rfl rfl dX2_push_45 ?_
    refine lv_iconst (v := 1) hx hb dX2_push_48 (by decide) ?_
    refine lv_iadd hx hb dX2_push_49 ?_
    refine lv_bipush (v := 8) hx hb dX2_push_50 (by decide) ?_
    refine va_mmin hx hb (hml.trans hl.1.symm) hown (hw _ k_1082) (hw _ k_526) (hw _ k_35) (hw _ k_527) (Nat.le_of_ble_eq_true rfl) (Nat.le_of_ble_eq_true rfl) (Nat.zero_le _) (Nat.zero_le _) dX2_push_52 ?_
    refine put' (ci := 5) (fs := [.ref (ad 12 2), .int ((upd ((x 12) 1) 1 r13) 1), .int ((upd ((x 12) 1) 1 r13) 2)]) (v := .int (if 8 < ((((x 12) 1) 2) + 1) then 8 else ((((x 12) 1) 2) + 1))) (ty := .int) (ws' := (cW cy ad en (va_up (va_up x ((((x 12) 1) 1).toNatClampNeg + 4) o11) 12 (va_up (x 12) 1 (upd (upd ((x 12) 1) 1 r13) 2 (if 8 < ((((x 12) 1) 2) + 1) then 8 else ((((x 12) 1) 2) + 1))))))) hx hb hw inWX2 tyX2 tyX2_ok nmX2 hown hK hP hD hS (gY (x := (va_up (va_up x ((((x 12) 1) 1).toNatClampNeg + 4) o11) 12 (va_up (x 12) 1 (upd ((x 12) 1) 1 r13)))) (r := 1) (f := (upd ((x 12) 1) 1 r13)) (by decide) ((congrFun (va_up_self _ _ _) _).trans (va_up_self _ _ _))) rfl 2 (by decide) k_176 rfl rfl (by decide +kernel) rfl rfl (Nat.le_of_ble_eq_true rfl) dX2_push_55 ((sT (x := (va_up x ((((x 12) 1) 1).toNatClampNeg + 4) o11)) (r := 1) (o := (va_up (x 12) 1 (upd ((x 12) 1) 1 r13))) (g := (upd (upd ((x 12) 1) 1 r13) 2 (if 8 < ((((x 12) 1) 2) + 1) then 8 else ((((x 12) 1) 2) + 1)))) (by decide)).trans (congrArg (fun z => cW cy ad en (va_up (va_up x ((((x 12) 1) 1).toNatClampNeg + 4) o11) 12 z)) (up_up _ _ _ _))) (fun H locs hP hD hS => ?_)
    cases hF
    exact hret _ _ _ _ _ hP hD hS rfl dX2_push_58
def D_X2_popInto (x : Mem) (p1 : Nat) : Option ((Mem)) := (D_J9_floorMod_7cf53 ((((x 12) 1) 1) - 1) 8).bind (fun r1 => if (D_X9_isWithin r1 8) = 0 then (some (va_up x 12 (va_up (x 12) 1 (upd (upd ((x 12) 1) 1 r1) 2 ((((x 12) 1) 2) - 1))))) else (if inb r1 8 then ((D_X4_copyFrom (x p1) (x (r1.toNatClampNeg + 4))).bind (fun o11 => some (va_up (va_up x 12 (va_up (x 12) 1 (upd (upd ((x 12) 1) 1 r1) 2 ((((x 12) 1) 2) - 1)))) p1 o11))) else none))
abbrev rm_X2_popInto : Room := { frames := 4, cells := 0, slots := 0, locals := 124 }
def D_X5_carryOutIn (x : Mem) (j : Nat) (p1 : Nat) : Option (Int32 × (Mem)) := if inb (((x 12) (j + 7)) 0) 9 then (if inb 0 3 then (if inb 1 3 then (if inb 2 3 then ((D_X4_carryOut (x p1) (((x 12) (j + 7)) 0).toNatClampNeg (((x 12) (j + 19)) (0 : Int32).toNatClampNeg) (((x 12) (j + 19)) (1 : Int32).toNatClampNeg) (((x 12) (j + 19)) (2 : Int32).toNatClampNeg)).bind (fun (r5, o6) => some (r5, (va_up x p1 o6)))) else none) else none) else none) else none
abbrev rm_X5_carryOutIn : Room := { frames := 5, cells := 0, slots := 0, locals := 114 }
def D_X8_isFull (x : Mem) : Int32 := if (D_X9_isWithin (((x 12) 4) 1) 60) = 0 then (1) else (0)
abbrev rm_X8_isFull : Room := { frames := 1, cells := 0, slots := 0, locals := 21 }
theorem bz_X8_isFull (x : Mem) : (D_X8_isFull x) = 0 ∨ (D_X8_isFull x) = 1 := by
  unfold D_X8_isFull
  repeat' split
  all_goals first | exact Or.inl rfl | exact Or.inr rfl | assumption | exact bz_X9_isWithin ..
def D_X8_append (x : Mem) (p1 : Int32) : Option (Int32 × (Mem)) := if (D_X9_isWithin (((x 12) 4) 1) 60) = 0 then (some ((((x 12) 4) 1), x)) else (if inb (((x 12) 4) 1) 60 then (some (((((x 12) 4) 1) + 1), (va_up x 12 (va_up (va_up (x 12) 5 (upd ((x 12) 5) ((((x 12) 4) 1).toNatClampNeg) (vp_nar .char p1))) 4 (upd ((x 12) 4) 1 ((((x 12) 4) 1) + 1)))))) else none)
abbrev rm_X8_append : Room := { frames := 1, cells := 0, slots := 0, locals := 21 }
def D_X8_empty (x : Mem) : (Mem) := (va_up x 12 (va_up (x 12) 4 (upd ((x 12) 4) 1 0)))
abbrev rm_X8_empty : Room := { frames := 0, cells := 0, slots := 0, locals := 0 }
def D_X8_nextSign (x : Mem) : Option (Int32) := if (((x 12) 4) 2) < 0 then (some (-1)) else (if (((x 12) 4) 1) ≤ (((x 12) 4) 2) then (some (-1)) else (if 60 ≤ (((x 12) 4) 2) then (some (-1)) else (if inb (((x 12) 4) 2) 60 then (some (((x 12) 5) (((x 12) 4) 2).toNatClampNeg)) else none)))
abbrev rm_X8_nextSign : Room := { frames := 0, cells := 0, slots := 0, locals := 0 }
def D_X9_dawn (x : Mem) : Option (Int32 × (Mem)) := (D_X2_push x 0).bind (fun o2 => (D_X4_letDawn (o2 0)).bind (fun (r4, o5) => some (r4, (va_up o2 0 o5))))
abbrev rm_X9_dawn : Room := { frames := 5, cells := 0, slots := 0, locals := 145 }
set_option maxHeartbeats 4000000 in
set_option maxRecDepth 100000 in
theorem met_X9_dawn (l : Launch) (D : va_G) (cy : Nat → ClassId) (sz : Nat) (ad : Nat → Nat → Nat) (en g : Nat → Nat) (x : Mem)  (r : Int32) (t' : Mem) (hF : D_X9_dawn x = some (r, t')) : MI l yX9_dawn cX9_dawn 1 (some .int) rm_X9_dawn D cy (cW cy ad en x) sz (fun _ => True) [.ref (ad 12 0)] r (cW cy ad en t') := by
  refine MI.of (by decide +kernel) (Nat.le_of_ble_eq_true rfl) ?_
  intro p e s m args below meth c A ls Q hAt _ hP hD hA hS hl hret
  obtain ⟨hx, hb, hr, hml, hown, hw, hlk, hK, hN⟩ := hAt
  have hown : s.vm.findClass "CloudDeeds" = some m.cls := hown
  have hl : lv_has ls 1 [(0, .ref (ad 12 0))] := hl
  refine lv_aload_n hx hb dX9_dawn_0 rfl (lv_at hl 0 rfl) ?_
  refine get' (ci := 11) (fs := [.ref (ad 0 0), .ref (ad 1 0), .ref (ad 2 0), .ref (ad 3 0), .int (((x 12) 0) 4), .ref (ad 12 1), .ref (ad 12 3), .ref (ad 12 4), .int (((x 12) 0) 8), .ref (ad 12 31)]) (v := .ref (ad 12 1)) hx hb hw inWX9 hown hK hP (gY (x := x) (r := 0) (f := ((x 12) 0)) (by decide) ((congrFun rfl _).trans rfl)) rfl 5 (by decide) k_289 rfl rfl dX9_dawn_1 ?_
  refine lv_aload_n hx hb dX9_dawn_4 rfl (lv_at hl 0 rfl) ?_
  refine get' (ci := 11) (fs := [.ref (ad 0 0), .ref (ad 1 0), .ref (ad 2 0), .ref (ad 3 0), .int (((x 12) 0) 4), .ref (ad 12 1), .ref (ad 12 3), .ref (ad 12 4), .int (((x 12) 0) 8), .ref (ad 12 31)]) (v := .ref (ad 0 0)) hx hb hw inWX9 hown hK hP (gY (x := x) (r := 0) (f := ((x 12) 0)) (by decide) ((congrFun rfl _).trans rfl)) rfl 0 (by decide) k_284 rfl rfl dX9_dawn_5 ?_
  obtain ⟨o2, hc3, hF⟩ := bind_some hF
  try dsimp only at hF
  refine cV_v (As := [.ref (ad 0 0)]) (rest := []) hx hb hml hown hw hK hN hA hl.1 hP hD hS k_1075 k_1076 k_1077 k_25 k_1078 (met_X2_push l D cy _ ad en g x 0 (by decide) (by decide) o2 hc3) (fun _ _ _ => trivial) Xok_T (gY (x := x) (r := 1) (f := ((x 12) 1)) (by decide) ((congrFun rfl _).trans rfl)) rfl ⟨rfl, rfl⟩ (n := 1) (by decide +kernel) rfl ⟨Nat.le_of_ble_eq_true rfl, Nat.le_of_ble_eq_true rfl⟩ ⟨Nat.le_of_ble_eq_true rfl, Nat.le_of_ble_eq_true rfl⟩ (Nat.le_of_ble_eq_true rfl) rfl dX9_dawn_8 (fun H locs hP hD hS => ?_)
  refine lv_aload_n hx hb dX9_dawn_11 rfl (lv_at hl 0 rfl) ?_
  refine get' (ci := 11) (fs := [.ref (ad 0 0), .ref (ad 1 0), .ref (ad 2 0), .ref (ad 3 0), .int (((o2 12) 0) 4), .ref (ad 12 1), .ref (ad 12 3), .ref (ad 12 4), .int (((o2 12) 0) 8), .ref (ad 12 31)]) (v := .ref (ad 0 0)) hx hb hw inWX9 hown hK hP (gY (x := o2) (r := 0) (f := ((o2 12) 0)) (by decide) ((congrFun rfl _).trans rfl)) rfl 0 (by decide) k_284 rfl rfl dX9_dawn_12 ?_
  have hP := cvP hP ((congrArg (cW cy ad en) (up_self o2 0)).symm.trans (congrArg (fun z => cW cy ad en (va_up o2 0 z)) rfl))
  have hD := cvD hD ((congrArg (cW cy ad en) (up_self o2 0)).symm.trans (congrArg (fun z => cW cy ad en (va_up o2 0 z)) rfl))
  obtain ⟨⟨r4, o5⟩, hc6, hF⟩ := bind_some hF
  try dsimp only at hF
  refine cV_i (As := []) (rest := []) hx hb hml hown hw hK hN hA hl.1 hP hD hS k_559 k_560 k_561 k_22 k_562 (met_X4_letDawn l D cy _ ad en o2 0 (by decide) (o2 0) r4 o5 hc6) (fun _ _ _ => trivial) Xok_T (gX (x := (va_up o2 0 (o2 0))) (k := 0) (r := 0) (f := ((o2 0) 0)) (by decide) (by decide) ((congrFun (va_up_self _ _ _) _).trans rfl)) rfl ⟨rfl, rfl⟩ (n := 0) (by decide +kernel) rfl ⟨Nat.le_of_ble_eq_true rfl, Nat.le_of_ble_eq_true rfl⟩ ⟨Nat.le_of_ble_eq_true rfl, Nat.le_of_ble_eq_true rfl⟩ (Nat.le_of_ble_eq_true rfl) rfl dX9_dawn_15 (fun H locs hP hD hS => ?_)
  cases hF
  exact hret _ _ _ _ _ _ hP hD hS rfl rfl dX9_dawn_18
def D_X9_would (x : Mem) (p1 : Int32) (p2 : Int32) : Option (Int32 × Int32 × (Mem)) := if (D_X9_demandOwner p1) = 0 then (if p2 < (-3) then (some (2, 0, x)) else (if p2 ≤ 3 then ((D_X9_cloudsImagined x p1 p2).bind (fun (r9, o10) => some (0, r9, o10))) else (some (2, 0, x)))) else (some (1, 0, x))
abbrev rm_X9_would : Room := { frames := 7, cells := 2, slots := 12, locals := 146 }
def exn_X9_would : Int32 → String := fun c => if c = 1 then "java/lang/IndexOutOfBoundsException" else "java/lang/IllegalArgumentException"
set_option maxHeartbeats 4000000 in
set_option maxRecDepth 100000 in
theorem met_X9_would (l : Launch) (hst0 : l.stackTraces = false) (D : va_G) (cy : Nat → ClassId) (sz : Nat) (ad : Nat → Nat → Nat) (en g : Nat → Nat) (x : Mem) (p1 : Int32) (p2 : Int32)  (code : Int32) (r : Int32) (t' : Mem) (hF : D_X9_would x p1 p2 = some (code, r, t')) : MT l yX9_would cX9_would 3 (some .int) rm_X9_would D cy en g (cW cy ad en x) sz [.ref (ad 12 0), .int p1, .int p2] exn_X9_would code r (cW cy ad en t') := by
  refine MT.of (by decide +kernel) (Nat.le_of_ble_eq_true rfl) ?_
  intro p e s m args below meth c A ls Q hAt htb hST hP hD hA hS hl hQ
  obtain ⟨hx, hb, hr, hml, hown, hw, hlk, hK, hN⟩ := hAt
  have hown : s.vm.findClass "CloudDeeds" = some m.cls := hown
  have hl : lv_has ls 3 [(0, .ref (ad 12 0)), (1, .int p1), (2, .int p2)] := hl
  refine lv_iload_n hx hb dX9_would_0 rfl (lv_at hl 1 rfl) ?_
  refine xS_v (As := [.int p1]) (rest := []) hx hb hml hown hw hK hN hA hl.1 hP hD hS hST k_428 k_429 k_21 k_430 (met_X9_demandOwner l hst0 D cy _ en g (cW cy ad en x) p1 (D_X9_demandOwner p1) rfl) ⟨rfl, rfl⟩ (n := 1) (by decide +kernel) rfl ⟨Nat.le_of_ble_eq_true rfl, Nat.le_of_ble_eq_true rfl⟩ ⟨Nat.le_of_ble_eq_true rfl, Nat.le_of_ble_eq_true rfl⟩ (Nat.le_of_ble_eq_true rfl) rfl dX9_would_1 (fun H locs q9 ce9 hne4 hP hD hS hce hcv hcl => ?_) (fun H locs h05 hP hD hS => ?_)
  · replace hF := (if_neg hne4).symm.trans hF
    cases hF
    rw [hQ]
    exact outx hlk htb hP hD hS hce hcv hcl (by decide) rfl (Nat.le_of_ble_eq_true rfl) (Nat.le_of_ble_eq_true rfl)
  · replace hF := (if_pos h05).symm.trans hF
    refine lv_iload_n hx hb dX9_would_4 rfl (lv_at hl 2 rfl) ?_
    refine lv_bipush (v := (-3)) hx hb dX9_would_5 (by decide) ?_
    refine lv_icmp_lt (tgt := 15) hx hb dX9_would_7 (by decide) (fun h7 => ?_) (fun h7 => ?_)
    · replace hF := (if_pos h7).symm.trans hF
      cases hF
      rw [hQ]
      exact thrS (g := g) (en := en) hx hb hst0 hml hown hw hN hlk htb hST hS hP hD hl.1 (text := "the wind is out of range") 8 rfl (by decide) k_396 k_43 at_119 (by decide) rfl rfl dX9_would_15 dX9_would_18 dX9_would_19 dX9_would_21 dX9_would_24 ⟨Nat.le_of_ble_eq_true rfl, Nat.le_of_ble_eq_true rfl, Nat.le_of_ble_eq_true rfl, Nat.le_of_ble_eq_true rfl⟩ (Nat.le_of_ble_eq_true rfl) ⟨Nat.le_of_ble_eq_true rfl, Nat.le_of_ble_eq_true rfl⟩
    · replace hF := (if_neg h7).symm.trans hF
      refine lv_iload_n hx hb dX9_would_10 rfl (lv_at hl 2 rfl) ?_
      refine lv_iconst (v := 3) hx hb dX9_would_11 (by decide) ?_
      refine lv_icmp_le (tgt := 25) hx hb dX9_would_12 (by decide) (fun h8 => ?_) (fun h8 => ?_)
      · replace hF := (if_pos h8).symm.trans hF
        refine lv_aload_n hx hb dX9_would_25 rfl (lv_at hl 0 rfl) ?_
        refine lv_iload_n hx hb dX9_would_26 rfl (lv_at hl 1 rfl) ?_
        refine lv_iload_n hx hb dX9_would_27 rfl (lv_at hl 2 rfl) ?_
        obtain ⟨⟨r9, o10⟩, hc11, hF⟩ := bind_some hF
        try dsimp only at hF
        refine cV_i (As := [.int p1, .int p2]) (rest := []) hx hb hml hown hw hK hN hA hl.1 hP hD hS k_510 k_512 k_3 k_21 k_513 (met_X9_cloudsImagined l D cy _ ad en g x p1 p2 r9 o10 hc11) (fun _ _ _ => trivial) Xok_T (gY (x := x) (r := 0) (f := ((x 12) 0)) (by decide) ((congrFun rfl _).trans rfl)) rfl ⟨rfl, rfl⟩ (n := 2) (by decide +kernel) rfl ⟨Nat.le_of_ble_eq_true rfl, Nat.le_of_ble_eq_true rfl⟩ ⟨Nat.le_of_ble_eq_true rfl, Nat.le_of_ble_eq_true rfl⟩ (Nat.le_of_ble_eq_true rfl) rfl dX9_would_28 (fun H locs hP hD hS => ?_)
        cases hF
        rw [hQ]
        exact retx_i hx hb hr hlk (Nat.le_of_ble_eq_true rfl) (Nat.le_of_ble_eq_true rfl) hS hP hD rfl rfl rfl dX9_would_31
      · replace hF := (if_neg h8).symm.trans hF
        cases hF
        rw [hQ]
        exact thrS (g := g) (en := en) hx hb hst0 hml hown hw hN hlk htb hST hS hP hD hl.1 (text := "the wind is out of range") 8 rfl (by decide) k_396 k_43 at_119 (by decide) rfl rfl dX9_would_15 dX9_would_18 dX9_would_19 dX9_would_21 dX9_would_24 ⟨Nat.le_of_ble_eq_true rfl, Nat.le_of_ble_eq_true rfl, Nat.le_of_ble_eq_true rfl, Nat.le_of_ble_eq_true rfl⟩ (Nat.le_of_ble_eq_true rfl) ⟨Nat.le_of_ble_eq_true rfl, Nat.le_of_ble_eq_true rfl⟩
def L_X9_bestWind_12 : Nat → (Mem) → (Int32) → (Int32) → (Int32) → (Int32) → (Mem) → Option (Int32 × Int32 × (Mem))
  | 0, _, _, _, _, _, _ => none
  | n12 + 1, x, p1, i4h12, i3h12, i2h12, s12 => if 3 < i4h12 then (some (0, i2h12, s12)) else ((D_X9_cloudsImagined s12 p1 i4h12).bind (fun (r8, o9) => if r8 ≤ i3h12 then (L_X9_bestWind_12 n12 x p1 (i4h12 + 1) i3h12 i2h12 o9) else (L_X9_bestWind_12 n12 x p1 (i4h12 + 1) r8 i4h12 o9)))
def D_X9_bestWind (x : Mem) (p1 : Int32) : Option (Int32 × Int32 × (Mem)) := if (D_X9_demandOwner p1) = 0 then (L_X9_bestWind_12 200 x p1 (-3) (-1) 0 x) else (some (1, 0, x))
abbrev rm_X9_bestWind : Room := { frames := 7, cells := 2, slots := 12, locals := 146 }
def exn_X9_bestWind : Int32 → String := fun _ => "java/lang/IndexOutOfBoundsException"
set_option maxHeartbeats 4000000 in
set_option maxRecDepth 100000 in
theorem met_X9_bestWind (l : Launch) (hst0 : l.stackTraces = false) (D : va_G) (cy : Nat → ClassId) (sz : Nat) (ad : Nat → Nat → Nat) (en g : Nat → Nat) (x : Mem) (p1 : Int32)  (code : Int32) (r : Int32) (t' : Mem) (hF : D_X9_bestWind x p1 = some (code, r, t')) : MT l yX9_bestWind cX9_bestWind 6 (some .int) rm_X9_bestWind D cy en g (cW cy ad en x) sz [.ref (ad 12 0), .int p1] exn_X9_bestWind code r (cW cy ad en t') := by
  refine MT.of (by decide +kernel) (Nat.le_of_ble_eq_true rfl) ?_
  intro p e s m args below meth c A ls Q hAt htb hST hP hD hA hS hl hQ
  obtain ⟨hx, hb, hr, hml, hown, hw, hlk, hK, hN⟩ := hAt
  have hown : s.vm.findClass "CloudDeeds" = some m.cls := hown
  have hl : lv_has ls 6 [(0, .ref (ad 12 0)), (1, .int p1)] := hl
  refine lv_iload_n hx hb dX9_bestWind_0 rfl (lv_at hl 1 rfl) ?_
  refine xS_v (As := [.int p1]) (rest := []) hx hb hml hown hw hK hN hA hl.1 hP hD hS hST k_428 k_429 k_21 k_430 (met_X9_demandOwner l hst0 D cy _ en g (cW cy ad en x) p1 (D_X9_demandOwner p1) rfl) ⟨rfl, rfl⟩ (n := 1) (by decide +kernel) rfl ⟨Nat.le_of_ble_eq_true rfl, Nat.le_of_ble_eq_true rfl⟩ ⟨Nat.le_of_ble_eq_true rfl, Nat.le_of_ble_eq_true rfl⟩ (Nat.le_of_ble_eq_true rfl) rfl dX9_bestWind_1 (fun H locs q9 ce9 hne4 hP hD hS hce hcv hcl => ?_) (fun H locs h05 hP hD hS => ?_)
  · replace hF := (if_neg hne4).symm.trans hF
    cases hF
    rw [hQ]
    exact outx hlk htb hP hD hS hce hcv hcl (by decide) rfl (Nat.le_of_ble_eq_true rfl) (Nat.le_of_ble_eq_true rfl)
  · replace hF := (if_pos h05).symm.trans hF
    refine lv_iconst (v := 0) hx hb dX9_bestWind_4 (by decide) ?_
    refine lv_istore_n (lv' := [(2, .int 0), (0, .ref (ad 12 0)), (1, .int p1)]) hx hb dX9_bestWind_5 rfl hl (by decide) rfl (fun ls hl => ?_)
    refine lv_iconst (v := (-1)) hx hb dX9_bestWind_6 (by decide) ?_
    refine lv_istore_n (lv' := [(3, .int (-1)), (2, .int 0), (0, .ref (ad 12 0)), (1, .int p1)]) hx hb dX9_bestWind_7 rfl hl (by decide) rfl (fun ls hl => ?_)
    refine lv_bipush (v := (-3)) hx hb dX9_bestWind_8 (by decide) ?_
    refine lv_istore (lv' := [(4, .int (-3)), (3, .int (-1)), (2, .int 0), (0, .ref (ad 12 0)), (1, .int p1)]) hx hb dX9_bestWind_10 hl (by decide) rfl (fun ls hl => ?_)
    have loop12 : ∀ (n : Nat) (i4h12 : Int32) (i3h12 : Int32) (i2h12 : Int32) (s12 : Mem) (H : Heap) (locs : List Loc) (ls : Array Slot), L_X9_bestWind_12 n x p1 i4h12 i3h12 i2h12 s12 = some (code, r, t') → va_P D vwCl (cW cy ad en s12) H → va_D A (cW cy ad en s12) → va_S A s.heap H locs → lv_has ls 6 [(4, .int i4h12), (3, .int i3h12), (2, .int i2h12), (0, .ref (ad 12 0)), (1, .int p1)] → W p l e rm_X9_bestWind s m args below meth c H locs (0 + 1) (0 + 6) Q (F0 m 12 ls []) := by
      intro n
      induction n with
      | zero => intro i4h12 i3h12 i2h12 s12 H locs ls hF _ _ _ _; exact absurd hF (by simp [L_X9_bestWind_12])
      | succ n12 ih12 =>
        intro i4h12 i3h12 i2h12 s12 H locs ls hF hP hD hS hl
        refine lv_iload hx hb dX9_bestWind_12 (lv_at hl 0 rfl) ?_
        refine lv_iconst (v := 3) hx hb dX9_bestWind_14 (by decide) ?_
        refine lv_icmp_gt (tgt := 45) hx hb dX9_bestWind_15 (by decide) (fun h7 => ?_) (fun h7 => ?_)
        · replace hF := (if_pos h7).symm.trans hF
          refine lv_iload_n hx hb dX9_bestWind_45 rfl (lv_at hl 2 rfl) ?_
          cases hF
          rw [hQ]
          exact retx_i hx hb hr hlk (Nat.le_of_ble_eq_true rfl) (Nat.le_of_ble_eq_true rfl) hS hP hD rfl rfl rfl dX9_bestWind_46
        · replace hF := (if_neg h7).symm.trans hF
          refine lv_aload_n hx hb dX9_bestWind_18 rfl (lv_at hl 3 rfl) ?_
          refine lv_iload_n hx hb dX9_bestWind_19 rfl (lv_at hl 4 rfl) ?_
          refine lv_iload hx hb dX9_bestWind_20 (lv_at hl 0 rfl) ?_
          obtain ⟨⟨r8, o9⟩, hc10, hF⟩ := bind_some hF
          try dsimp only at hF
          refine cV_i (As := [.int p1, .int i4h12]) (rest := []) hx hb hml hown hw hK hN hA hl.1 hP hD hS k_510 k_512 k_3 k_21 k_513 (met_X9_cloudsImagined l D cy _ ad en g s12 p1 i4h12 r8 o9 hc10) (fun _ _ _ => trivial) Xok_T (gY (x := s12) (r := 0) (f := ((s12 12) 0)) (by decide) ((congrFun rfl _).trans rfl)) rfl ⟨rfl, rfl⟩ (n := 2) (by decide +kernel) rfl ⟨Nat.le_of_ble_eq_true rfl, Nat.le_of_ble_eq_true rfl⟩ ⟨Nat.le_of_ble_eq_true rfl, Nat.le_of_ble_eq_true rfl⟩ (Nat.le_of_ble_eq_true rfl) rfl dX9_bestWind_22 (fun H locs hP hD hS => ?_)
          refine lv_istore (lv' := [(5, .int r8), (4, .int i4h12), (3, .int i3h12), (2, .int i2h12), (0, .ref (ad 12 0)), (1, .int p1)]) hx hb dX9_bestWind_25 hl (by decide) rfl (fun ls hl => ?_)
          refine lv_iload hx hb dX9_bestWind_27 (lv_at hl 0 rfl) ?_
          refine lv_iload_n hx hb dX9_bestWind_29 rfl (lv_at hl 2 rfl) ?_
          refine lv_icmp_le (tgt := 39) hx hb dX9_bestWind_30 (by decide) (fun h11 => ?_) (fun h11 => ?_)
          · replace hF := (if_pos h11).symm.trans hF
            refine lv_iinc (v := (i4h12 + 1)) (lv' := [(4, .int (i4h12 + 1)), (5, .int r8), (3, .int i3h12), (2, .int i2h12), (0, .ref (ad 12 0)), (1, .int p1)]) hx hb dX9_bestWind_39 hl (k := 1) rfl rfl (by decide) rfl (fun ls hl => ?_)
            refine lv_goto (tgt := 12) hx hb dX9_bestWind_42 (by decide) ?_
            exact ih12 (i4h12 + 1) i3h12 i2h12 o9 _ _ _ hF hP hD hS (lv_sub hl [0, 2, 3, 4, 5] rfl)
          · replace hF := (if_neg h11).symm.trans hF
            refine lv_iload hx hb dX9_bestWind_33 (lv_at hl 0 rfl) ?_
            refine lv_istore_n (lv' := [(3, .int r8), (5, .int r8), (4, .int i4h12), (2, .int i2h12), (0, .ref (ad 12 0)), (1, .int p1)]) hx hb dX9_bestWind_35 rfl hl (by decide) rfl (fun ls hl => ?_)
            refine lv_iload hx hb dX9_bestWind_36 (lv_at hl 2 rfl) ?_
            refine lv_istore_n (lv' := [(2, .int i4h12), (3, .int r8), (5, .int r8), (4, .int i4h12), (0, .ref (ad 12 0)), (1, .int p1)]) hx hb dX9_bestWind_38 rfl hl (by decide) rfl (fun ls hl => ?_)
            refine lv_iinc (v := (i4h12 + 1)) (lv' := [(4, .int (i4h12 + 1)), (2, .int i4h12), (3, .int r8), (5, .int r8), (0, .ref (ad 12 0)), (1, .int p1)]) hx hb dX9_bestWind_39 hl (k := 3) rfl rfl (by decide) rfl (fun ls hl => ?_)
            refine lv_goto (tgt := 12) hx hb dX9_bestWind_42 (by decide) ?_
            exact ih12 (i4h12 + 1) r8 i4h12 o9 _ _ _ hF hP hD hS (lv_sub hl [0, 2, 1, 4, 5] rfl)
    exact loop12 200 (-3) (-1) 0 x _ _ _ hF hP hD hS (lv_sub hl [0, 1, 2, 3, 4] rfl)
def D_X9_feed (x : Mem) (p1 : Int32) : Option (Int32 × Int32 × (Mem)) := if (D_X8_isFull x) = 0 then ((D_X8_append x p1).bind (fun (r5, o6) => some (0, r5, o6))) else (some (1, 0, x))
abbrev rm_X9_feed : Room := { frames := 6, cells := 2, slots := 12, locals := 90 }
def exn_X9_feed : Int32 → String := fun _ => "java/lang/IllegalStateException"
def D_X9_undo (x : Mem) : Option (Int32 × Int32 × (Mem)) := if (((x 12) 1) 2) = 0 then (some (1, 0, x)) else ((D_X2_popInto x 0).bind (fun o3 => some (0, (((o3 12) 1) 2), o3)))
abbrev rm_X9_undo : Room := { frames := 6, cells := 2, slots := 12, locals := 145 }
def exn_X9_undo : Int32 → String := fun _ => "java/lang/IllegalStateException"
def D_X9_change (x : Mem) (p1 : Nat) (p2 : Int32) (p3 : Int32) (p4 : Int32) : Option (Int32 × Int32 × (Mem)) := (D_X4_copyFrom (x 1) (x 0)).bind (fun o2 => (D_X4_carryOut (x 0) p1 p2 p3 p4).bind (fun (r4, o5) => if r4 = (-1) then (some (1, 0, (D_X6_keep (va_up (va_up x 1 o2) 0 o5) 0))) else ((D_X2_push (va_up (va_up x 1 o2) 0 o5) 1).bind (fun o9 => some (0, r4, o9)))))
abbrev rm_X9_change : Room := { frames := 6, cells := 2, slots := 12, locals := 145 }
def exn_X9_change : Int32 → String := fun _ => "java/lang/UnsupportedOperationException"
set_option maxHeartbeats 4000000 in
set_option maxRecDepth 100000 in
theorem met_X9_change (l : Launch) (hst0 : l.stackTraces = false) (D : va_G) (cy : Nat → ClassId) (sz : Nat) (ad : Nat → Nat → Nat) (en g : Nat → Nat) (x : Mem) (p1 : Nat) (hp1 : p1 < 9) (p2 : Int32) (p3 : Int32) (p4 : Int32)  (code : Int32) (r : Int32) (t' : Mem) (hF : D_X9_change x p1 p2 p3 p4 = some (code, r, t')) : MT l yX9_change cX9_change 6 (some .int) rm_X9_change D cy en g (cW cy ad en x) sz [.ref (ad 12 0), .ref (en p1), .int p2, .int p3, .int p4] exn_X9_change code r (cW cy ad en t') := by
  refine MT.of (by decide +kernel) (Nat.le_of_ble_eq_true rfl) ?_
  intro p e s m args below meth c A ls Q hAt htb hST hP hD hA hS hl hQ
  obtain ⟨hx, hb, hr, hml, hown, hw, hlk, hK, hN⟩ := hAt
  have hown : s.vm.findClass "CloudDeeds" = some m.cls := hown
  have hl : lv_has ls 6 [(0, .ref (ad 12 0)), (1, .ref (en p1)), (2, .int p2), (3, .int p3), (4, .int p4)] := hl
  refine lv_aload_n hx hb dX9_change_0 rfl (lv_at hl 0 rfl) ?_
  refine get' (ci := 11) (fs := [.ref (ad 0 0), .ref (ad 1 0), .ref (ad 2 0), .ref (ad 3 0), .int (((x 12) 0) 4), .ref (ad 12 1), .ref (ad 12 3), .ref (ad 12 4), .int (((x 12) 0) 8), .ref (ad 12 31)]) (v := .ref (ad 1 0)) hx hb hw inWX9 hown hK hP (gY (x := x) (r := 0) (f := ((x 12) 0)) (by decide) ((congrFun rfl _).trans rfl)) rfl 1 (by decide) k_285 rfl rfl dX9_change_1 ?_
  refine lv_aload_n hx hb dX9_change_4 rfl (lv_at hl 0 rfl) ?_
  refine get' (ci := 11) (fs := [.ref (ad 0 0), .ref (ad 1 0), .ref (ad 2 0), .ref (ad 3 0), .int (((x 12) 0) 4), .ref (ad 12 1), .ref (ad 12 3), .ref (ad 12 4), .int (((x 12) 0) 8), .ref (ad 12 31)]) (v := .ref (ad 0 0)) hx hb hw inWX9 hown hK hP (gY (x := x) (r := 0) (f := ((x 12) 0)) (by decide) ((congrFun rfl _).trans rfl)) rfl 0 (by decide) k_284 rfl rfl dX9_change_5 ?_
  have hP := cvP hP ((congrArg (cW cy ad en) (up_self x 1)).symm.trans (congrArg (fun z => cW cy ad en (va_up x 1 z)) rfl))
  have hD := cvD hD ((congrArg (cW cy ad en) (up_self x 1)).symm.trans (congrArg (fun z => cW cy ad en (va_up x 1 z)) rfl))
  obtain ⟨o2, hc3, hF⟩ := bind_some hF
  try dsimp only at hF
  refine cV_v (As := [.ref (ad 0 0)]) (rest := []) hx hb hml hown hw hK hN hA hl.1 hP hD hS k_514 k_515 k_516 k_22 k_517 (met_X4_copyFrom l D cy _ ad en x 1 (by decide) (x 1) 0 (by decide) (by decide) (x 0) rfl o2 hc3) (fun _ _ _ => trivial) Xok_T (gX (x := (va_up x 1 (x 1))) (k := 1) (r := 0) (f := ((x 1) 0)) (by decide) (by decide) ((congrFun (va_up_self _ _ _) _).trans rfl)) rfl ⟨rfl, rfl⟩ (n := 1) (by decide +kernel) rfl ⟨Nat.le_of_ble_eq_true rfl, Nat.le_of_ble_eq_true rfl⟩ ⟨Nat.le_of_ble_eq_true rfl, Nat.le_of_ble_eq_true rfl⟩ (Nat.le_of_ble_eq_true rfl) rfl dX9_change_8 (fun H locs hP hD hS => ?_)
  refine lv_aload_n hx hb dX9_change_11 rfl (lv_at hl 0 rfl) ?_
  refine get' (ci := 11) (fs := [.ref (ad 0 0), .ref (ad 1 0), .ref (ad 2 0), .ref (ad 3 0), .int (((x 12) 0) 4), .ref (ad 12 1), .ref (ad 12 3), .ref (ad 12 4), .int (((x 12) 0) 8), .ref (ad 12 31)]) (v := .ref (ad 0 0)) hx hb hw inWX9 hown hK hP (gY (x := (va_up x 1 o2)) (r := 0) (f := ((x 12) 0)) (by decide) ((congrFun ((va_up_ne _ _ (by decide)).trans rfl) _).trans rfl)) rfl 0 (by decide) k_284 rfl rfl dX9_change_12 ?_
  refine lv_aload_n hx hb dX9_change_15 rfl (lv_at hl 1 rfl) ?_
  refine lv_iload_n hx hb dX9_change_16 rfl (lv_at hl 2 rfl) ?_
  refine lv_iload_n hx hb dX9_change_17 rfl (lv_at hl 3 rfl) ?_
  refine lv_iload hx hb dX9_change_18 (lv_at hl 4 rfl) ?_
  have hP := cvP hP ((congrArg (cW cy ad en) (up_self (va_up x 1 o2) 0)).symm.trans (congrArg (fun z => cW cy ad en (va_up (va_up x 1 o2) 0 z)) ((va_up_ne _ _ (by decide)).trans rfl)))
  have hD := cvD hD ((congrArg (cW cy ad en) (up_self (va_up x 1 o2) 0)).symm.trans (congrArg (fun z => cW cy ad en (va_up (va_up x 1 o2) 0 z)) ((va_up_ne _ _ (by decide)).trans rfl)))
  obtain ⟨⟨r4, o5⟩, hc6, hF⟩ := bind_some hF
  try dsimp only at hF
  refine cV_i (As := [.ref (en p1), .int p2, .int p3, .int p4]) (rest := []) hx hb hml hown hw hK hN hA hl.1 hP hD hS k_986 k_987 k_988 k_22 k_989 (met_X4_carryOut l D cy _ ad en g (va_up x 1 o2) 0 (by decide) (x 0) p1 hp1 p2 p3 p4 r4 o5 hc6) (ST_call hST hS (free_all hD hS hA)) Xok_S (gX (x := (va_up (va_up x 1 o2) 0 (x 0))) (k := 0) (r := 0) (f := ((x 0) 0)) (by decide) (by decide) ((congrFun (va_up_self _ _ _) _).trans rfl)) rfl ⟨rfl, rfl⟩ (n := 4) (by decide +kernel) rfl ⟨Nat.le_of_ble_eq_true rfl, Nat.le_of_ble_eq_true rfl⟩ ⟨Nat.le_of_ble_eq_true rfl, Nat.le_of_ble_eq_true rfl⟩ (Nat.le_of_ble_eq_true rfl) rfl dX9_change_20 (fun H locs hP hD hS => ?_)
  refine lv_istore (lv' := [(5, .int r4), (0, .ref (ad 12 0)), (1, .ref (en p1)), (2, .int p2), (3, .int p3), (4, .int p4)]) hx hb dX9_change_23 hl (by decide) rfl (fun ls hl => ?_)
  refine lv_iload hx hb dX9_change_25 (lv_at hl 0 rfl) ?_
  refine lv_iconst (v := (-1)) hx hb dX9_change_27 (by decide) ?_
  refine lv_icmp_ne (tgt := 53) hx hb dX9_change_28 (by decide) (fun h7 => ?_) (fun h7 => ?_)
  · replace hF := (if_neg h7).symm.trans hF
    refine lv_aload_n hx hb dX9_change_53 rfl (lv_at hl 1 rfl) ?_
    refine get' (ci := 11) (fs := [.ref (ad 0 0), .ref (ad 1 0), .ref (ad 2 0), .ref (ad 3 0), .int (((x 12) 0) 4), .ref (ad 12 1), .ref (ad 12 3), .ref (ad 12 4), .int (((x 12) 0) 8), .ref (ad 12 31)]) (v := .ref (ad 12 1)) hx hb hw inWX9 hown hK hP (gY (x := (va_up (va_up x 1 o2) 0 o5)) (r := 0) (f := ((x 12) 0)) (by decide) ((congrFun ((va_up_ne _ _ (by decide)).trans ((va_up_ne _ _ (by decide)).trans rfl)) _).trans rfl)) rfl 5 (by decide) k_289 rfl rfl dX9_change_54 ?_
    refine lv_aload_n hx hb dX9_change_57 rfl (lv_at hl 1 rfl) ?_
    refine get' (ci := 11) (fs := [.ref (ad 0 0), .ref (ad 1 0), .ref (ad 2 0), .ref (ad 3 0), .int (((x 12) 0) 4), .ref (ad 12 1), .ref (ad 12 3), .ref (ad 12 4), .int (((x 12) 0) 8), .ref (ad 12 31)]) (v := .ref (ad 1 0)) hx hb hw inWX9 hown hK hP (gY (x := (va_up (va_up x 1 o2) 0 o5)) (r := 0) (f := ((x 12) 0)) (by decide) ((congrFun ((va_up_ne _ _ (by decide)).trans ((va_up_ne _ _ (by decide)).trans rfl)) _).trans rfl)) rfl 1 (by decide) k_285 rfl rfl dX9_change_58 ?_
    obtain ⟨o9, hc10, hF⟩ := bind_some hF
    try dsimp only at hF
    refine cV_v (As := [.ref (ad 1 0)]) (rest := []) hx hb hml hown hw hK hN hA hl.1 hP hD hS k_1075 k_1076 k_1077 k_25 k_1078 (met_X2_push l D cy _ ad en g (va_up (va_up x 1 o2) 0 o5) 1 (by decide) (by decide) o9 hc10) (fun _ _ _ => trivial) Xok_T (gY (x := (va_up (va_up x 1 o2) 0 o5)) (r := 1) (f := ((x 12) 1)) (by decide) ((congrFun ((va_up_ne _ _ (by decide)).trans ((va_up_ne _ _ (by decide)).trans rfl)) _).trans rfl)) rfl ⟨rfl, rfl⟩ (n := 1) (by decide +kernel) rfl ⟨Nat.le_of_ble_eq_true rfl, Nat.le_of_ble_eq_true rfl⟩ ⟨Nat.le_of_ble_eq_true rfl, Nat.le_of_ble_eq_true rfl⟩ (Nat.le_of_ble_eq_true rfl) rfl dX9_change_61 (fun H locs hP hD hS => ?_)
    refine lv_iload hx hb dX9_change_64 (lv_at hl 0 rfl) ?_
    cases hF
    rw [hQ]
    exact retx_i hx hb hr hlk (Nat.le_of_ble_eq_true rfl) (Nat.le_of_ble_eq_true rfl) hS hP hD rfl rfl rfl dX9_change_66
  · replace hF := (if_pos h7).symm.trans hF
    refine lv_aload_n hx hb dX9_change_31 rfl (lv_at hl 1 rfl) ?_
    refine get' (ci := 11) (fs := [.ref (ad 0 0), .ref (ad 1 0), .ref (ad 2 0), .ref (ad 3 0), .int (((x 12) 0) 4), .ref (ad 12 1), .ref (ad 12 3), .ref (ad 12 4), .int (((x 12) 0) 8), .ref (ad 12 31)]) (v := .ref (ad 12 3)) hx hb hw inWX9 hown hK hP (gY (x := (va_up (va_up x 1 o2) 0 o5)) (r := 0) (f := ((x 12) 0)) (by decide) ((congrFun ((va_up_ne _ _ (by decide)).trans ((va_up_ne _ _ (by decide)).trans rfl)) _).trans rfl)) rfl 6 (by decide) k_290 rfl rfl dX9_change_32 ?_
    refine lv_aload_n hx hb dX9_change_35 rfl (lv_at hl 1 rfl) ?_
    refine get' (ci := 11) (fs := [.ref (ad 0 0), .ref (ad 1 0), .ref (ad 2 0), .ref (ad 3 0), .int (((x 12) 0) 4), .ref (ad 12 1), .ref (ad 12 3), .ref (ad 12 4), .int (((x 12) 0) 8), .ref (ad 12 31)]) (v := .ref (ad 0 0)) hx hb hw inWX9 hown hK hP (gY (x := (va_up (va_up x 1 o2) 0 o5)) (r := 0) (f := ((x 12) 0)) (by decide) ((congrFun ((va_up_ne _ _ (by decide)).trans ((va_up_ne _ _ (by decide)).trans rfl)) _).trans rfl)) rfl 0 (by decide) k_284 rfl rfl dX9_change_36 ?_
    refine cV_v (As := [.ref (ad 0 0)]) (rest := []) hx hb hml hown hw hK hN hA hl.1 hP hD hS k_1055 k_1056 k_1057 k_26 k_1058 (met_X6_keep l D cy _ ad en g (va_up (va_up x 1 o2) 0 o5) 0 (by decide) (D_X6_keep (va_up (va_up x 1 o2) 0 o5) 0) rfl) (fun _ _ _ => trivial) Xok_T (gY (x := (va_up (va_up x 1 o2) 0 o5)) (r := 3) (f := ((x 12) 3)) (by decide) ((congrFun ((va_up_ne _ _ (by decide)).trans ((va_up_ne _ _ (by decide)).trans rfl)) _).trans rfl)) rfl ⟨rfl, rfl⟩ (n := 1) (by decide +kernel) rfl ⟨Nat.le_of_ble_eq_true rfl, Nat.le_of_ble_eq_true rfl⟩ ⟨Nat.le_of_ble_eq_true rfl, Nat.le_of_ble_eq_true rfl⟩ (Nat.le_of_ble_eq_true rfl) rfl dX9_change_39 (fun H locs hP hD hS => ?_)
    cases hF
    rw [hQ]
    exact thrSW (g := g) (en := en) hx hb hst0 hml hown hw hN hlk htb hST hS hP hD hl.1 (text := "this is refused") 0 rfl (by decide) k_1059 k_41 at_251 (by decide) rfl rfl dX9_change_42 dX9_change_45 dX9_change_46 dX9_change_49 dX9_change_52 ⟨Nat.le_of_ble_eq_true rfl, Nat.le_of_ble_eq_true rfl, Nat.le_of_ble_eq_true rfl, Nat.le_of_ble_eq_true rfl⟩ (Nat.le_of_ble_eq_true rfl) ⟨Nat.le_of_ble_eq_true rfl, Nat.le_of_ble_eq_true rfl⟩
def D_X8_readSign (x : Mem) (p1 : Int32) : Option (Int32 × (Mem)) := (D_X8_nextSign x).bind (fun r1 => if r1 = p1 then (some (1, (va_up x 12 (va_up (x 12) 4 (upd ((x 12) 4) 2 ((((x 12) 4) 2) + 1)))))) else (some (0, x)))
abbrev rm_X8_readSign : Room := { frames := 1, cells := 0, slots := 0, locals := 20 }
def D_X8_nextDigit (x : Mem) : Option (Int32) := (D_X8_nextSign x).bind (fun r1 => if r1 < 48 then (some (-1)) else (if 57 < r1 then (some (-1)) else (some (r1 - 48))))
abbrev rm_X8_nextDigit : Room := { frames := 1, cells := 0, slots := 0, locals := 20 }
def D_X9_cloud (x : Mem) (p1 : Int32) (p2 : Int32) (p3 : Int32) : Option (Int32 × Int32 × (Mem)) := (D_X9_change x 0 p1 p2 p3).bind (fun (cd6, r1, o2) => if cd6 = 0 then (some (0, r1, o2)) else (some (1, 0, o2)))
abbrev rm_X9_cloud : Room := { frames := 7, cells := 2, slots := 12, locals := 170 }
def exn_X9_cloud : Int32 → String := fun _ => "java/lang/UnsupportedOperationException"
set_option maxHeartbeats 4000000 in
set_option maxRecDepth 100000 in
theorem met_X9_cloud (l : Launch) (hst0 : l.stackTraces = false) (D : va_G) (cy : Nat → ClassId) (sz : Nat) (ad : Nat → Nat → Nat) (en g : Nat → Nat) (x : Mem) (p1 : Int32) (p2 : Int32) (p3 : Int32)  (code : Int32) (r : Int32) (t' : Mem) (hF : D_X9_cloud x p1 p2 p3 = some (code, r, t')) : MT l yX9_cloud cX9_cloud 4 (some .int) rm_X9_cloud D cy en g (cW cy ad en x) sz [.ref (ad 12 0), .int p1, .int p2, .int p3] exn_X9_cloud code r (cW cy ad en t') := by
  refine MT.of (by decide +kernel) (Nat.le_of_ble_eq_true rfl) ?_
  intro p e s m args below meth c A ls Q hAt htb hST hP hD hA hS hl hQ
  obtain ⟨hx, hb, hr, hml, hown, hw, hlk, hK, hN⟩ := hAt
  have hown : s.vm.findClass "CloudDeeds" = some m.cls := hown
  have hl : lv_has ls 4 [(0, .ref (ad 12 0)), (1, .int p1), (2, .int p2), (3, .int p3)] := hl
  refine lv_aload_n hx hb dX9_cloud_0 rfl (lv_at hl 0 rfl) ?_
  refine va_gets (n := "CLOUD") (v := .ref (en 0)) hx hb (hST.2.2.2.1.1 0 (by decide)).1 hS hown (hw _ k_980) (fun _ h9 => h9) dX9_cloud_1 ?_
  refine lv_iload_n hx hb dX9_cloud_4 rfl (lv_at hl 1 rfl) ?_
  refine lv_iload_n hx hb dX9_cloud_5 rfl (lv_at hl 2 rfl) ?_
  refine lv_iload_n hx hb dX9_cloud_6 rfl (lv_at hl 3 rfl) ?_
  obtain ⟨⟨cd6, r1, o2⟩, hc3, hF⟩ := bind_some hF
  try dsimp only at hF
  refine xV_i (As := [.ref (en 0), .int p1, .int p2, .int p3]) (rest := []) hx hb hml hown hw hK hN hA hl.1 hP hD hS hST k_982 k_984 k_16 k_21 k_985 (met_X9_change l hst0 D cy _ ad en g x 0 (by decide) p1 p2 p3 cd6 r1 o2 hc3) (gY (x := x) (r := 0) (f := ((x 12) 0)) (by decide) ((congrFun rfl _).trans rfl)) rfl ⟨rfl, rfl⟩ (n := 4) (by decide +kernel) rfl ⟨Nat.le_of_ble_eq_true rfl, Nat.le_of_ble_eq_true rfl⟩ ⟨Nat.le_of_ble_eq_true rfl, Nat.le_of_ble_eq_true rfl⟩ (Nat.le_of_ble_eq_true rfl) rfl dX9_cloud_7 (fun H locs q9 ce9 hne4 hP hD hS hce hcv hcl => ?_) (fun H locs h05 hP hD hS => ?_)
  · replace hF := (if_neg hne4).symm.trans hF
    cases hF
    rw [hQ]
    exact outx hlk htb hP hD hS hce hcv hcl (by decide) rfl (Nat.le_of_ble_eq_true rfl) (Nat.le_of_ble_eq_true rfl)
  · replace hF := (if_pos h05).symm.trans hF
    cases hF
    rw [hQ]
    exact retx_i hx hb hr hlk (Nat.le_of_ble_eq_true rfl) (Nat.le_of_ble_eq_true rfl) hS hP hD rfl rfl rfl dX9_cloud_10
def D_X9_vine (x : Mem) (p1 : Int32) (p2 : Int32) : Option (Int32 × Int32 × (Mem)) := (D_X9_change x 1 p1 p2 0).bind (fun (cd6, r1, o2) => if cd6 = 0 then (some (0, r1, o2)) else (some (1, 0, o2)))
abbrev rm_X9_vine : Room := { frames := 7, cells := 2, slots := 12, locals := 170 }
def exn_X9_vine : Int32 → String := fun _ => "java/lang/UnsupportedOperationException"
set_option maxHeartbeats 4000000 in
set_option maxRecDepth 100000 in
theorem met_X9_vine (l : Launch) (hst0 : l.stackTraces = false) (D : va_G) (cy : Nat → ClassId) (sz : Nat) (ad : Nat → Nat → Nat) (en g : Nat → Nat) (x : Mem) (p1 : Int32) (p2 : Int32)  (code : Int32) (r : Int32) (t' : Mem) (hF : D_X9_vine x p1 p2 = some (code, r, t')) : MT l yX9_vine cX9_vine 3 (some .int) rm_X9_vine D cy en g (cW cy ad en x) sz [.ref (ad 12 0), .int p1, .int p2] exn_X9_vine code r (cW cy ad en t') := by
  refine MT.of (by decide +kernel) (Nat.le_of_ble_eq_true rfl) ?_
  intro p e s m args below meth c A ls Q hAt htb hST hP hD hA hS hl hQ
  obtain ⟨hx, hb, hr, hml, hown, hw, hlk, hK, hN⟩ := hAt
  have hown : s.vm.findClass "CloudDeeds" = some m.cls := hown
  have hl : lv_has ls 3 [(0, .ref (ad 12 0)), (1, .int p1), (2, .int p2)] := hl
  refine lv_aload_n hx hb dX9_vine_0 rfl (lv_at hl 0 rfl) ?_
  refine va_gets (n := "VINE") (v := .ref (en 1)) hx hb (hST.2.2.2.1.1 1 (by decide)).1 hS hown (hw _ k_1098) (fun _ h9 => h9) dX9_vine_1 ?_
  refine lv_iload_n hx hb dX9_vine_4 rfl (lv_at hl 1 rfl) ?_
  refine lv_iload_n hx hb dX9_vine_5 rfl (lv_at hl 2 rfl) ?_
  refine lv_iconst (v := 0) hx hb dX9_vine_6 (by decide) ?_
  obtain ⟨⟨cd6, r1, o2⟩, hc3, hF⟩ := bind_some hF
  try dsimp only at hF
  refine xV_i (As := [.ref (en 1), .int p1, .int p2, .int 0]) (rest := []) hx hb hml hown hw hK hN hA hl.1 hP hD hS hST k_982 k_984 k_16 k_21 k_985 (met_X9_change l hst0 D cy _ ad en g x 1 (by decide) p1 p2 0 cd6 r1 o2 hc3) (gY (x := x) (r := 0) (f := ((x 12) 0)) (by decide) ((congrFun rfl _).trans rfl)) rfl ⟨rfl, rfl⟩ (n := 4) (by decide +kernel) rfl ⟨Nat.le_of_ble_eq_true rfl, Nat.le_of_ble_eq_true rfl⟩ ⟨Nat.le_of_ble_eq_true rfl, Nat.le_of_ble_eq_true rfl⟩ (Nat.le_of_ble_eq_true rfl) rfl dX9_vine_7 (fun H locs q9 ce9 hne4 hP hD hS hce hcv hcl => ?_) (fun H locs h05 hP hD hS => ?_)
  · replace hF := (if_neg hne4).symm.trans hF
    cases hF
    rw [hQ]
    exact outx hlk htb hP hD hS hce hcv hcl (by decide) rfl (Nat.le_of_ble_eq_true rfl) (Nat.le_of_ble_eq_true rfl)
  · replace hF := (if_pos h05).symm.trans hF
    cases hF
    rw [hQ]
    exact retx_i hx hb hr hlk (Nat.le_of_ble_eq_true rfl) (Nat.le_of_ble_eq_true rfl) hS hP hD rfl rfl rfl dX9_vine_10
def D_X9_title (x : Mem) (p1 : Int32) (p2 : Int32) : Option (Int32 × Int32 × (Mem)) := (D_X9_change x 2 p1 p2 0).bind (fun (cd6, r1, o2) => if cd6 = 0 then (some (0, r1, o2)) else (some (1, 0, o2)))
abbrev rm_X9_title : Room := { frames := 7, cells := 2, slots := 12, locals := 170 }
def exn_X9_title : Int32 → String := fun _ => "java/lang/UnsupportedOperationException"
set_option maxHeartbeats 4000000 in
set_option maxRecDepth 100000 in
theorem met_X9_title (l : Launch) (hst0 : l.stackTraces = false) (D : va_G) (cy : Nat → ClassId) (sz : Nat) (ad : Nat → Nat → Nat) (en g : Nat → Nat) (x : Mem) (p1 : Int32) (p2 : Int32)  (code : Int32) (r : Int32) (t' : Mem) (hF : D_X9_title x p1 p2 = some (code, r, t')) : MT l yX9_title cX9_title 3 (some .int) rm_X9_title D cy en g (cW cy ad en x) sz [.ref (ad 12 0), .int p1, .int p2] exn_X9_title code r (cW cy ad en t') := by
  refine MT.of (by decide +kernel) (Nat.le_of_ble_eq_true rfl) ?_
  intro p e s m args below meth c A ls Q hAt htb hST hP hD hA hS hl hQ
  obtain ⟨hx, hb, hr, hml, hown, hw, hlk, hK, hN⟩ := hAt
  have hown : s.vm.findClass "CloudDeeds" = some m.cls := hown
  have hl : lv_has ls 3 [(0, .ref (ad 12 0)), (1, .int p1), (2, .int p2)] := hl
  refine lv_aload_n hx hb dX9_title_0 rfl (lv_at hl 0 rfl) ?_
  refine va_gets (n := "TITLE") (v := .ref (en 2)) hx hb (hST.2.2.2.1.1 2 (by decide)).1 hS hown (hw _ k_1110) (fun _ h9 => h9) dX9_title_1 ?_
  refine lv_iload_n hx hb dX9_title_4 rfl (lv_at hl 1 rfl) ?_
  refine lv_iload_n hx hb dX9_title_5 rfl (lv_at hl 2 rfl) ?_
  refine lv_iconst (v := 0) hx hb dX9_title_6 (by decide) ?_
  obtain ⟨⟨cd6, r1, o2⟩, hc3, hF⟩ := bind_some hF
  try dsimp only at hF
  refine xV_i (As := [.ref (en 2), .int p1, .int p2, .int 0]) (rest := []) hx hb hml hown hw hK hN hA hl.1 hP hD hS hST k_982 k_984 k_16 k_21 k_985 (met_X9_change l hst0 D cy _ ad en g x 2 (by decide) p1 p2 0 cd6 r1 o2 hc3) (gY (x := x) (r := 0) (f := ((x 12) 0)) (by decide) ((congrFun rfl _).trans rfl)) rfl ⟨rfl, rfl⟩ (n := 4) (by decide +kernel) rfl ⟨Nat.le_of_ble_eq_true rfl, Nat.le_of_ble_eq_true rfl⟩ ⟨Nat.le_of_ble_eq_true rfl, Nat.le_of_ble_eq_true rfl⟩ (Nat.le_of_ble_eq_true rfl) rfl dX9_title_7 (fun H locs q9 ce9 hne4 hP hD hS hce hcv hcl => ?_) (fun H locs h05 hP hD hS => ?_)
  · replace hF := (if_neg hne4).symm.trans hF
    cases hF
    rw [hQ]
    exact outx hlk htb hP hD hS hce hcv hcl (by decide) rfl (Nat.le_of_ble_eq_true rfl) (Nat.le_of_ble_eq_true rfl)
  · replace hF := (if_pos h05).symm.trans hF
    cases hF
    rw [hQ]
    exact retx_i hx hb hr hlk (Nat.le_of_ble_eq_true rfl) (Nat.le_of_ble_eq_true rfl) hS hP hD rfl rfl rfl dX9_title_10
def D_X9_sell (x : Mem) (p1 : Int32) (p2 : Int32) (p3 : Int32) : Option (Int32 × Int32 × (Mem)) := (D_X9_change x 3 p1 p2 p3).bind (fun (cd6, r1, o2) => if cd6 = 0 then (some (0, r1, o2)) else (some (1, 0, o2)))
abbrev rm_X9_sell : Room := { frames := 7, cells := 2, slots := 12, locals := 170 }
def exn_X9_sell : Int32 → String := fun _ => "java/lang/UnsupportedOperationException"
set_option maxHeartbeats 4000000 in
set_option maxRecDepth 100000 in
theorem met_X9_sell (l : Launch) (hst0 : l.stackTraces = false) (D : va_G) (cy : Nat → ClassId) (sz : Nat) (ad : Nat → Nat → Nat) (en g : Nat → Nat) (x : Mem) (p1 : Int32) (p2 : Int32) (p3 : Int32)  (code : Int32) (r : Int32) (t' : Mem) (hF : D_X9_sell x p1 p2 p3 = some (code, r, t')) : MT l yX9_sell cX9_sell 4 (some .int) rm_X9_sell D cy en g (cW cy ad en x) sz [.ref (ad 12 0), .int p1, .int p2, .int p3] exn_X9_sell code r (cW cy ad en t') := by
  refine MT.of (by decide +kernel) (Nat.le_of_ble_eq_true rfl) ?_
  intro p e s m args below meth c A ls Q hAt htb hST hP hD hA hS hl hQ
  obtain ⟨hx, hb, hr, hml, hown, hw, hlk, hK, hN⟩ := hAt
  have hown : s.vm.findClass "CloudDeeds" = some m.cls := hown
  have hl : lv_has ls 4 [(0, .ref (ad 12 0)), (1, .int p1), (2, .int p2), (3, .int p3)] := hl
  refine lv_aload_n hx hb dX9_sell_0 rfl (lv_at hl 0 rfl) ?_
  refine va_gets (n := "SELL") (v := .ref (en 3)) hx hb (hST.2.2.2.1.1 3 (by decide)).1 hS hown (hw _ k_1119) (fun _ h9 => h9) dX9_sell_1 ?_
  refine lv_iload_n hx hb dX9_sell_4 rfl (lv_at hl 1 rfl) ?_
  refine lv_iload_n hx hb dX9_sell_5 rfl (lv_at hl 2 rfl) ?_
  refine lv_iload_n hx hb dX9_sell_6 rfl (lv_at hl 3 rfl) ?_
  obtain ⟨⟨cd6, r1, o2⟩, hc3, hF⟩ := bind_some hF
  try dsimp only at hF
  refine xV_i (As := [.ref (en 3), .int p1, .int p2, .int p3]) (rest := []) hx hb hml hown hw hK hN hA hl.1 hP hD hS hST k_982 k_984 k_16 k_21 k_985 (met_X9_change l hst0 D cy _ ad en g x 3 (by decide) p1 p2 p3 cd6 r1 o2 hc3) (gY (x := x) (r := 0) (f := ((x 12) 0)) (by decide) ((congrFun rfl _).trans rfl)) rfl ⟨rfl, rfl⟩ (n := 4) (by decide +kernel) rfl ⟨Nat.le_of_ble_eq_true rfl, Nat.le_of_ble_eq_true rfl⟩ ⟨Nat.le_of_ble_eq_true rfl, Nat.le_of_ble_eq_true rfl⟩ (Nat.le_of_ble_eq_true rfl) rfl dX9_sell_7 (fun H locs q9 ce9 hne4 hP hD hS hce hcv hcl => ?_) (fun H locs h05 hP hD hS => ?_)
  · replace hF := (if_neg hne4).symm.trans hF
    cases hF
    rw [hQ]
    exact outx hlk htb hP hD hS hce hcv hcl (by decide) rfl (Nat.le_of_ble_eq_true rfl) (Nat.le_of_ble_eq_true rfl)
  · replace hF := (if_pos h05).symm.trans hF
    cases hF
    rw [hQ]
    exact retx_i hx hb hr hlk (Nat.le_of_ble_eq_true rfl) (Nat.le_of_ble_eq_true rfl) hS hP hD rfl rfl rfl dX9_sell_10
def D_X9_pledge (x : Mem) (p1 : Int32) (p2 : Int32) : Option (Int32 × Int32 × (Mem)) := (D_X9_change x 4 p1 p2 0).bind (fun (cd6, r1, o2) => if cd6 = 0 then (some (0, r1, o2)) else (some (1, 0, o2)))
abbrev rm_X9_pledge : Room := { frames := 7, cells := 2, slots := 12, locals := 170 }
def exn_X9_pledge : Int32 → String := fun _ => "java/lang/UnsupportedOperationException"
set_option maxHeartbeats 4000000 in
set_option maxRecDepth 100000 in
theorem met_X9_pledge (l : Launch) (hst0 : l.stackTraces = false) (D : va_G) (cy : Nat → ClassId) (sz : Nat) (ad : Nat → Nat → Nat) (en g : Nat → Nat) (x : Mem) (p1 : Int32) (p2 : Int32)  (code : Int32) (r : Int32) (t' : Mem) (hF : D_X9_pledge x p1 p2 = some (code, r, t')) : MT l yX9_pledge cX9_pledge 3 (some .int) rm_X9_pledge D cy en g (cW cy ad en x) sz [.ref (ad 12 0), .int p1, .int p2] exn_X9_pledge code r (cW cy ad en t') := by
  refine MT.of (by decide +kernel) (Nat.le_of_ble_eq_true rfl) ?_
  intro p e s m args below meth c A ls Q hAt htb hST hP hD hA hS hl hQ
  obtain ⟨hx, hb, hr, hml, hown, hw, hlk, hK, hN⟩ := hAt
  have hown : s.vm.findClass "CloudDeeds" = some m.cls := hown
  have hl : lv_has ls 3 [(0, .ref (ad 12 0)), (1, .int p1), (2, .int p2)] := hl
  refine lv_aload_n hx hb dX9_pledge_0 rfl (lv_at hl 0 rfl) ?_
  refine va_gets (n := "PLEDGE") (v := .ref (en 4)) hx hb (hST.2.2.2.1.1 4 (by decide)).1 hS hown (hw _ k_1128) (fun _ h9 => h9) dX9_pledge_1 ?_
  refine lv_iload_n hx hb dX9_pledge_4 rfl (lv_at hl 1 rfl) ?_
  refine lv_iload_n hx hb dX9_pledge_5 rfl (lv_at hl 2 rfl) ?_
  refine lv_iconst (v := 0) hx hb dX9_pledge_6 (by decide) ?_
  obtain ⟨⟨cd6, r1, o2⟩, hc3, hF⟩ := bind_some hF
  try dsimp only at hF
  refine xV_i (As := [.ref (en 4), .int p1, .int p2, .int 0]) (rest := []) hx hb hml hown hw hK hN hA hl.1 hP hD hS hST k_982 k_984 k_16 k_21 k_985 (met_X9_change l hst0 D cy _ ad en g x 4 (by decide) p1 p2 0 cd6 r1 o2 hc3) (gY (x := x) (r := 0) (f := ((x 12) 0)) (by decide) ((congrFun rfl _).trans rfl)) rfl ⟨rfl, rfl⟩ (n := 4) (by decide +kernel) rfl ⟨Nat.le_of_ble_eq_true rfl, Nat.le_of_ble_eq_true rfl⟩ ⟨Nat.le_of_ble_eq_true rfl, Nat.le_of_ble_eq_true rfl⟩ (Nat.le_of_ble_eq_true rfl) rfl dX9_pledge_7 (fun H locs q9 ce9 hne4 hP hD hS hce hcv hcl => ?_) (fun H locs h05 hP hD hS => ?_)
  · replace hF := (if_neg hne4).symm.trans hF
    cases hF
    rw [hQ]
    exact outx hlk htb hP hD hS hce hcv hcl (by decide) rfl (Nat.le_of_ble_eq_true rfl) (Nat.le_of_ble_eq_true rfl)
  · replace hF := (if_pos h05).symm.trans hF
    cases hF
    rw [hQ]
    exact retx_i hx hb hr hlk (Nat.le_of_ble_eq_true rfl) (Nat.le_of_ble_eq_true rfl) hS hP hD rfl rfl rfl dX9_pledge_10
def D_X9_redeem (x : Mem) (p1 : Int32) : Option (Int32 × Int32 × (Mem)) := (D_X9_change x 5 p1 0 0).bind (fun (cd6, r1, o2) => if cd6 = 0 then (some (0, r1, o2)) else (some (1, 0, o2)))
abbrev rm_X9_redeem : Room := { frames := 7, cells := 2, slots := 12, locals := 170 }
def exn_X9_redeem : Int32 → String := fun _ => "java/lang/UnsupportedOperationException"
set_option maxHeartbeats 4000000 in
set_option maxRecDepth 100000 in
theorem met_X9_redeem (l : Launch) (hst0 : l.stackTraces = false) (D : va_G) (cy : Nat → ClassId) (sz : Nat) (ad : Nat → Nat → Nat) (en g : Nat → Nat) (x : Mem) (p1 : Int32)  (code : Int32) (r : Int32) (t' : Mem) (hF : D_X9_redeem x p1 = some (code, r, t')) : MT l yX9_redeem cX9_redeem 2 (some .int) rm_X9_redeem D cy en g (cW cy ad en x) sz [.ref (ad 12 0), .int p1] exn_X9_redeem code r (cW cy ad en t') := by
  refine MT.of (by decide +kernel) (Nat.le_of_ble_eq_true rfl) ?_
  intro p e s m args below meth c A ls Q hAt htb hST hP hD hA hS hl hQ
  obtain ⟨hx, hb, hr, hml, hown, hw, hlk, hK, hN⟩ := hAt
  have hown : s.vm.findClass "CloudDeeds" = some m.cls := hown
  have hl : lv_has ls 2 [(0, .ref (ad 12 0)), (1, .int p1)] := hl
  refine lv_aload_n hx hb dX9_redeem_0 rfl (lv_at hl 0 rfl) ?_
  refine va_gets (n := "REDEEM") (v := .ref (en 5)) hx hb (hST.2.2.2.1.1 5 (by decide)).1 hS hown (hw _ k_1137) (fun _ h9 => h9) dX9_redeem_1 ?_
  refine lv_iload_n hx hb dX9_redeem_4 rfl (lv_at hl 1 rfl) ?_
  refine lv_iconst (v := 0) hx hb dX9_redeem_5 (by decide) ?_
  refine lv_iconst (v := 0) hx hb dX9_redeem_6 (by decide) ?_
  obtain ⟨⟨cd6, r1, o2⟩, hc3, hF⟩ := bind_some hF
  try dsimp only at hF
  refine xV_i (As := [.ref (en 5), .int p1, .int 0, .int 0]) (rest := []) hx hb hml hown hw hK hN hA hl.1 hP hD hS hST k_982 k_984 k_16 k_21 k_985 (met_X9_change l hst0 D cy _ ad en g x 5 (by decide) p1 0 0 cd6 r1 o2 hc3) (gY (x := x) (r := 0) (f := ((x 12) 0)) (by decide) ((congrFun rfl _).trans rfl)) rfl ⟨rfl, rfl⟩ (n := 4) (by decide +kernel) rfl ⟨Nat.le_of_ble_eq_true rfl, Nat.le_of_ble_eq_true rfl⟩ ⟨Nat.le_of_ble_eq_true rfl, Nat.le_of_ble_eq_true rfl⟩ (Nat.le_of_ble_eq_true rfl) rfl dX9_redeem_7 (fun H locs q9 ce9 hne4 hP hD hS hce hcv hcl => ?_) (fun H locs h05 hP hD hS => ?_)
  · replace hF := (if_neg hne4).symm.trans hF
    cases hF
    rw [hQ]
    exact outx hlk htb hP hD hS hce hcv hcl (by decide) rfl (Nat.le_of_ble_eq_true rfl) (Nat.le_of_ble_eq_true rfl)
  · replace hF := (if_pos h05).symm.trans hF
    cases hF
    rw [hQ]
    exact retx_i hx hb hr hlk (Nat.le_of_ble_eq_true rfl) (Nat.le_of_ble_eq_true rfl) hS hP hD rfl rfl rfl dX9_redeem_10
def D_X9_wind (x : Mem) (p1 : Int32) : Option (Int32 × Int32 × (Mem)) := (D_X9_change x 6 p1 0 0).bind (fun (cd6, r1, o2) => if cd6 = 0 then (some (0, r1, o2)) else (some (1, 0, o2)))
abbrev rm_X9_wind : Room := { frames := 7, cells := 2, slots := 12, locals := 170 }
def exn_X9_wind : Int32 → String := fun _ => "java/lang/UnsupportedOperationException"
set_option maxHeartbeats 4000000 in
set_option maxRecDepth 100000 in
theorem met_X9_wind (l : Launch) (hst0 : l.stackTraces = false) (D : va_G) (cy : Nat → ClassId) (sz : Nat) (ad : Nat → Nat → Nat) (en g : Nat → Nat) (x : Mem) (p1 : Int32)  (code : Int32) (r : Int32) (t' : Mem) (hF : D_X9_wind x p1 = some (code, r, t')) : MT l yX9_wind cX9_wind 2 (some .int) rm_X9_wind D cy en g (cW cy ad en x) sz [.ref (ad 12 0), .int p1] exn_X9_wind code r (cW cy ad en t') := by
  refine MT.of (by decide +kernel) (Nat.le_of_ble_eq_true rfl) ?_
  intro p e s m args below meth c A ls Q hAt htb hST hP hD hA hS hl hQ
  obtain ⟨hx, hb, hr, hml, hown, hw, hlk, hK, hN⟩ := hAt
  have hown : s.vm.findClass "CloudDeeds" = some m.cls := hown
  have hl : lv_has ls 2 [(0, .ref (ad 12 0)), (1, .int p1)] := hl
  refine lv_aload_n hx hb dX9_wind_0 rfl (lv_at hl 0 rfl) ?_
  refine va_gets (n := "WIND") (v := .ref (en 6)) hx hb (hST.2.2.2.1.1 6 (by decide)).1 hS hown (hw _ k_1146) (fun _ h9 => h9) dX9_wind_1 ?_
  refine lv_iload_n hx hb dX9_wind_4 rfl (lv_at hl 1 rfl) ?_
  refine lv_iconst (v := 0) hx hb dX9_wind_5 (by decide) ?_
  refine lv_iconst (v := 0) hx hb dX9_wind_6 (by decide) ?_
  obtain ⟨⟨cd6, r1, o2⟩, hc3, hF⟩ := bind_some hF
  try dsimp only at hF
  refine xV_i (As := [.ref (en 6), .int p1, .int 0, .int 0]) (rest := []) hx hb hml hown hw hK hN hA hl.1 hP hD hS hST k_982 k_984 k_16 k_21 k_985 (met_X9_change l hst0 D cy _ ad en g x 6 (by decide) p1 0 0 cd6 r1 o2 hc3) (gY (x := x) (r := 0) (f := ((x 12) 0)) (by decide) ((congrFun rfl _).trans rfl)) rfl ⟨rfl, rfl⟩ (n := 4) (by decide +kernel) rfl ⟨Nat.le_of_ble_eq_true rfl, Nat.le_of_ble_eq_true rfl⟩ ⟨Nat.le_of_ble_eq_true rfl, Nat.le_of_ble_eq_true rfl⟩ (Nat.le_of_ble_eq_true rfl) rfl dX9_wind_7 (fun H locs q9 ce9 hne4 hP hD hS hce hcv hcl => ?_) (fun H locs h05 hP hD hS => ?_)
  · replace hF := (if_neg hne4).symm.trans hF
    cases hF
    rw [hQ]
    exact outx hlk htb hP hD hS hce hcv hcl (by decide) rfl (Nat.le_of_ble_eq_true rfl) (Nat.le_of_ble_eq_true rfl)
  · replace hF := (if_pos h05).symm.trans hF
    cases hF
    rw [hQ]
    exact retx_i hx hb hr hlk (Nat.le_of_ble_eq_true rfl) (Nat.le_of_ble_eq_true rfl) hS hP hD rfl rfl rfl dX9_wind_10
def D_X9_hail (x : Mem) (p1 : Int32) : Option (Int32 × Int32 × (Mem)) := (D_X9_change x 7 p1 0 0).bind (fun (cd6, r1, o2) => if cd6 = 0 then (some (0, r1, o2)) else (some (1, 0, o2)))
abbrev rm_X9_hail : Room := { frames := 7, cells := 2, slots := 12, locals := 170 }
def exn_X9_hail : Int32 → String := fun _ => "java/lang/UnsupportedOperationException"
set_option maxHeartbeats 4000000 in
set_option maxRecDepth 100000 in
theorem met_X9_hail (l : Launch) (hst0 : l.stackTraces = false) (D : va_G) (cy : Nat → ClassId) (sz : Nat) (ad : Nat → Nat → Nat) (en g : Nat → Nat) (x : Mem) (p1 : Int32)  (code : Int32) (r : Int32) (t' : Mem) (hF : D_X9_hail x p1 = some (code, r, t')) : MT l yX9_hail cX9_hail 2 (some .int) rm_X9_hail D cy en g (cW cy ad en x) sz [.ref (ad 12 0), .int p1] exn_X9_hail code r (cW cy ad en t') := by
  refine MT.of (by decide +kernel) (Nat.le_of_ble_eq_true rfl) ?_
  intro p e s m args below meth c A ls Q hAt htb hST hP hD hA hS hl hQ
  obtain ⟨hx, hb, hr, hml, hown, hw, hlk, hK, hN⟩ := hAt
  have hown : s.vm.findClass "CloudDeeds" = some m.cls := hown
  have hl : lv_has ls 2 [(0, .ref (ad 12 0)), (1, .int p1)] := hl
  refine lv_aload_n hx hb dX9_hail_0 rfl (lv_at hl 0 rfl) ?_
  refine va_gets (n := "HAIL") (v := .ref (en 7)) hx hb (hST.2.2.2.1.1 7 (by decide)).1 hS hown (hw _ k_1155) (fun _ h9 => h9) dX9_hail_1 ?_
  refine lv_iload_n hx hb dX9_hail_4 rfl (lv_at hl 1 rfl) ?_
  refine lv_iconst (v := 0) hx hb dX9_hail_5 (by decide) ?_
  refine lv_iconst (v := 0) hx hb dX9_hail_6 (by decide) ?_
  obtain ⟨⟨cd6, r1, o2⟩, hc3, hF⟩ := bind_some hF
  try dsimp only at hF
  refine xV_i (As := [.ref (en 7), .int p1, .int 0, .int 0]) (rest := []) hx hb hml hown hw hK hN hA hl.1 hP hD hS hST k_982 k_984 k_16 k_21 k_985 (met_X9_change l hst0 D cy _ ad en g x 7 (by decide) p1 0 0 cd6 r1 o2 hc3) (gY (x := x) (r := 0) (f := ((x 12) 0)) (by decide) ((congrFun rfl _).trans rfl)) rfl ⟨rfl, rfl⟩ (n := 4) (by decide +kernel) rfl ⟨Nat.le_of_ble_eq_true rfl, Nat.le_of_ble_eq_true rfl⟩ ⟨Nat.le_of_ble_eq_true rfl, Nat.le_of_ble_eq_true rfl⟩ (Nat.le_of_ble_eq_true rfl) rfl dX9_hail_7 (fun H locs q9 ce9 hne4 hP hD hS hce hcv hcl => ?_) (fun H locs h05 hP hD hS => ?_)
  · replace hF := (if_neg hne4).symm.trans hF
    cases hF
    rw [hQ]
    exact outx hlk htb hP hD hS hce hcv hcl (by decide) rfl (Nat.le_of_ble_eq_true rfl) (Nat.le_of_ble_eq_true rfl)
  · replace hF := (if_pos h05).symm.trans hF
    cases hF
    rw [hQ]
    exact retx_i hx hb hr hlk (Nat.le_of_ble_eq_true rfl) (Nat.le_of_ble_eq_true rfl) hS hP hD rfl rfl rfl dX9_hail_10
def D_X8_readDigit (x : Mem) (p1 : Nat) (p2 : Int32) : Option (Int32 × (Mem)) := (D_X8_nextDigit x).bind (fun r1 => if r1 = (-1) then (some (0, x)) else ((D_X5_add (va_up x 12 (va_up (x 12) 4 (upd ((x 12) 4) 2 ((((x 12) 4) 2) + 1)))) p1 (p2 * r1)).bind (fun (r5, o6) => if is01 r5 then (some (r5, o6)) else none)))
abbrev rm_X8_readDigit : Room := { frames := 2, cells := 0, slots := 0, locals := 42 }
def D_X8_readNumber (x : Mem) (p1 : Nat) : Option (Int32 × (Mem)) := (D_X8_nextDigit x).bind (fun r1 => if r1 = (-1) then (some (0, x)) else ((D_X8_nextDigit (va_up x 12 (va_up (x 12) 4 (upd ((x 12) 4) 2 ((((x 12) 4) 2) + 1))))).bind (fun r5 => if r5 = (-1) then ((D_X5_add (va_up x 12 (va_up (x 12) 4 (upd ((x 12) 4) 2 ((((x 12) 4) 2) + 1)))) p1 r1).bind (fun (r9, o10) => if is01 r9 then (some (r9, o10)) else none)) else ((D_X5_add (va_up x 12 (va_up (x 12) 4 (upd (upd ((x 12) 4) 2 ((((x 12) 4) 2) + 1)) 2 (((((x 12) 4) 2) + 1) + 1)))) p1 ((10 * r1) + r5)).bind (fun (r13, o14) => if is01 r13 then (some (r13, o14)) else none)))))
abbrev rm_X8_readNumber : Room := { frames := 2, cells := 0, slots := 0, locals := 42 }
def D_X8_readPart (x : Mem) (p1 : Int32) (p2 : Nat) : Option (Int32 × (Mem)) := if p1 = 35 then ((D_X8_readDigit x p2 1).bind (fun (r41, o42) => if is01 r41 then (some (r41, o42)) else none)) else (if p1 = 37 then ((D_X8_readNumber x p2).bind (fun (r37, o38) => if is01 r37 then (some (r37, o38)) else none)) else (if p1 = 126 then ((D_X8_readSign x 45).bind (fun (r25, o26) => if r25 = 0 then ((D_X8_readDigit o26 p2 1).bind (fun (r29, o30) => if is01 r29 then (some (r29, o30)) else none)) else ((D_X8_readDigit o26 p2 (-1)).bind (fun (r33, o34) => if is01 r33 then (some (r33, o34)) else none)))) else (if p1 = 33 then ((D_X8_readSign x 45).bind (fun (r9, o10) => if r9 = 0 then ((D_X8_readSign o10 62).bind (fun (r13, o14) => if r13 = 0 then (some (0, o14)) else ((D_X8_readDigit o14 p2 1).bind (fun (r17, o18) => if r17 = 0 then (some (0, o18)) else (some (1, o18)))))) else ((D_X5_add o10 p2 (-1)).bind (fun (r21, o22) => if is01 r21 then (some (r21, o22)) else none)))) else ((D_X8_readSign x p1).bind (fun (r5, o6) => if is01 r5 then (some (r5, o6)) else none)))))
abbrev rm_X8_readPart : Room := { frames := 3, cells := 0, slots := 0, locals := 65 }
def L_X8_readForm_2 : Nat → (Mem) → (Nat) → (Nat) → (Int32) → (Mem) → Option (Int32 × (Mem))
  | 0, _, _, _, _, _ => none
  | n2 + 1, x, p1, p2, i3h2, s2 => if (D_J0_length_8abf5 p1) ≤ i3h2 then (some (1, s2)) else ((D_J0_charAt_5068e p1 i3h2).bind (fun r5 => (D_X8_readPart s2 r5 p2).bind (fun (r8, o9) => if r8 = 0 then (some (0, o9)) else (L_X8_readForm_2 n2 x p1 p2 (i3h2 + 1) o9))))
def D_X8_readForm (x : Mem) (p1 : Nat) (p2 : Nat) : Option (Int32 × (Mem)) := L_X8_readForm_2 200 x p1 p2 0 x
abbrev rm_X8_readForm : Room := { frames := 6, cells := 0, slots := 0, locals := 136 }
def L_X8_readOrder_2 : Nat → (Mem) → (Nat) → (Int32) → (Mem) → Option (Int32 × (Mem))
  | 0, _, _, _, _ => none
  | n2 + 1, x, p1, i2h2, s2 => if 9 ≤ i2h2 then (some (0, s2)) else (if inb i2h2 9 then ((D_X8_nextSign s2).bind (fun r3 => (D_X3_startsWith i2h2.toNatClampNeg r3).bind (fun r6 => if r6 = 0 then (L_X8_readOrder_2 n2 x p1 (i2h2 + 1) s2) else (if inb i2h2 9 then (if inb i2h2 9 then ((D_X8_readForm (D_X5_start s2 p1 i2h2.toNatClampNeg) i2h2.toNatClampNeg p1).bind (fun (r15, o16) => if is01 r15 then (some (r15, o16)) else none)) else none) else none)))) else none)
def D_X8_readOrder (x : Mem) (p1 : Nat) : Option (Int32 × (Mem)) := L_X8_readOrder_2 200 x p1 0 x
abbrev rm_X8_readOrder : Room := { frames := 7, cells := 0, slots := 0, locals := 159 }
def L_X8_read_12 : Nat → (Mem) → (Int32) → (Mem) → Option (Int32 × (Mem))
  | 0, _, _, _ => none
  | n12 + 1, x, i1h12, s12 => if 12 ≤ i1h12 then (some ((((s12 12) 4) 2), s12)) else (if inb i1h12 12 then ((D_X8_readOrder s12 i1h12.toNatClampNeg).bind (fun (r4, o5) => if r4 = 0 then (some ((((o5 12) 4) 2), o5)) else (if (((o5 12) 4) 2) = (((o5 12) 4) 1) then (some ((-1), (va_up o5 12 (va_up (o5 12) 4 (upd ((o5 12) 4) 4 ((((o5 12) 4) 4) + 1)))))) else ((D_X8_readSign (va_up o5 12 (va_up (o5 12) 4 (upd ((o5 12) 4) 4 ((((o5 12) 4) 4) + 1)))) 59).bind (fun (r9, o10) => if r9 = 0 then (some ((((o10 12) 4) 2), o10)) else (L_X8_read_12 n12 x (i1h12 + 1) o10)))))) else none)
def D_X8_read (x : Mem) : Option (Int32 × (Mem)) := L_X8_read_12 200 x 0 (va_up x 12 (va_up (x 12) 4 (upd (upd ((x 12) 4) 2 0) 4 0)))
abbrev rm_X8_read : Room := { frames := 8, cells := 0, slots := 0, locals := 181 }
def L_X9_run_48 : Nat → (Mem) → (Int32) → (Mem) → (Nat → Nat → Int32) → (Int32) → (Mem) → Option (Int32 × Int32 × (Mem))
  | 0, _, _, _, _, _, _ => none
  | n48 + 1, x, r1, o2, o9, i2h48, s48 => if (((s48 12) 4) 4) ≤ i2h48 then ((D_X2_push s48 1).bind (fun o13 => some (0, (((o13 12) 4) 4), o13))) else (if inb i2h48 12 then ((D_X5_carryOutIn s48 i2h48.toNatClampNeg 0).bind (fun (r17, o18) => if r17 = (-1) then ((D_X4_copyFrom ((D_X6_keepOrder o18 i2h48 0) 0) ((D_X6_keepOrder o18 i2h48 0) 1)).bind (fun o25 => some (2, 0, (va_up (D_X6_keepOrder o18 i2h48 0) 0 o25)))) else (L_X9_run_48 n48 x r1 o2 o9 (i2h48 + 1) o18))) else none)
def D_X9_run (x : Mem) : Option (Int32 × Int32 × (Mem)) := (D_X8_read x).bind (fun (r1, o2) => if r1 = (-1) then ((D_X4_copyFrom ((D_X8_empty o2) 1) ((D_X8_empty o2) 0)).bind (fun o9 => L_X9_run_48 200 x r1 o2 o9 0 (va_up (D_X8_empty o2) 1 o9))) else (some (1, 0, (va_up (D_X8_empty o2) 12 (va_up ((D_X8_empty o2) 12) 0 (upd (((D_X8_empty o2) 12) 0) 8 r1))))))
abbrev rm_X9_run : Room := { frames := 9, cells := 2, slots := 12, locals := 202 }
def exn_X9_run : Int32 → String := fun c => if c = 1 then "java/lang/IllegalArgumentException" else "java/lang/UnsupportedOperationException"
