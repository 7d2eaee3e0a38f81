/-! the law's methods that call the class and catch what it throws -/
abbrev rm_L_told : Room := { frames := 7, cells := 2, slots := 12, locals := 113 }
set_option maxHeartbeats 4000000 in
theorem met_L_told (l : Launch) (hst0 : l.stackTraces = false) (D : va_G) (cy : Nat → ClassId) (sz : Nat) (ad : Nat → Nat → Nat) (en g : Nat → Nat) (x : Mem) (hz : ¬ x 12 3 0 = 0) : MJ l yL_told cL_told 1 (some .int) rm_L_told D cy (cW cy ad en x) sz (XS en g (cW cy ad en x) sz) [.ref (ad 12 0)] 2 12 (fun _ w => w = cW cy ad en x) := by
  refine MJ.of (by decide +kernel) (Nat.le_of_ble_eq_true rfl) ?_
  intro p e s m args below meth c A ls Q hAt hX hsz hAe hP hD hA hS hl hret
  have hST : ST en g A s s.heap := by rw [hAe]; exact hX
  obtain ⟨hx, hb, hr, hml, hown, hw, hlk, hK, hN⟩ := hAt
  have hown : s.vm.findClass "CloudDeedsLaw" = some m.cls := hown
  have hl : lv_has ls 1 [(0, .ref (ad 12 0))] := hl
  have hF : D_X9_reason x 0 0 = (0, x 12 3 0) := by unfold D_X9_reason; rw [if_pos rfl, if_neg hz, if_pos rfl]
  refine lv_sipush (v := (-20000)) hx hb dL_told_0 (by decide) ?_
  refine lv_aload_n hx hb dL_told_3 rfl (lv_at hl 0 rfl) ?_
  refine lv_iconst (v := 0) hx hb dL_told_4 (by decide) ?_
  refine lv_iconst (v := 0) hx hb dL_told_5 (by decide) ?_
  refine xV_i (As := [.int 0, .int 0]) (rest := [.int (-20000)]) hx hb hml hown hw hK hN hA hl.1 hP hD hS hST k_1086 k_1087 k_1088 k_21 k_1089 (met_X9_reason l hst0 D cy _ ad en g x 0 0 (Or.inl rfl) (Or.inl rfl) 0 (x 12 3 0) hF) (gY (x := x) (r := 0) (f := x 12 0) (by decide) rfl) rfl ⟨rfl, rfl⟩ (n := 2) (by decide +kernel) rfl ⟨Nat.le_of_ble_eq_true rfl, Nat.le_of_ble_eq_true rfl⟩ ⟨Nat.le_of_ble_eq_true rfl, Nat.le_of_ble_eq_true rfl⟩ (Nat.le_of_ble_eq_true rfl) rfl dL_told_6 (fun H locs q9 ce9 hne hP hD hS hce hcv hcl => absurd rfl hne) (fun H locs h0 hP hD hS => ?_)
  refine lv_isub hx hb dL_told_9 ?_
  exact hret _ _ _ _ _ _ _ _ hP hD hS rfl rfl (Nat.le_of_ble_eq_true rfl) (Nat.le_of_ble_eq_true rfl) dL_told_10
abbrev rm_L_cloud : Room := { frames := 8, cells := 4, slots := 24, locals := 193 }
set_option maxHeartbeats 4000000 in
theorem met_L_cloud (l : Launch) (hst0 : l.stackTraces = false) (D : va_G) (cy : Nat → ClassId) (sz : Nat) (ad : Nat → Nat → Nat) (en g : Nat → Nat) (x : Mem) (p1 : Int32) (p2 : Int32) (p3 : Int32) (code r : Int32) (x' : Mem) (hcd : code = 0 ∨ code = 1) (hF : D_X9_cloud x p1 p2 p3 = some (code, r, x')) (hre : code = 1 → ¬ x' 12 3 0 = 0) : MH l yL_cloud cL_cloud 5 [(0, 7, 8, 23)] rm_L_cloud D cy (cW cy ad en x) sz (XS en g (cW cy ad en x) sz) [.ref (ad 12 0), .int p1, .int p2, .int p3] 4 24 (fun _ w => w = cW cy ad en x') := by
  refine MH.of (by decide +kernel) (Nat.le_of_ble_eq_true rfl) ?_
  intro p e s m args below meth c A ls Q hAt htb hX hsz hAe hP hD hA hS hl hret
  have hST : ST en g A s s.heap := by rw [hAe]; exact hX
  obtain ⟨hx, hb, hr, hml, hown, hw, hlk, hK, hN⟩ := hAt
  have hown : s.vm.findClass "CloudDeedsLaw" = some m.cls := hown
  have hl : lv_has ls 5 [(0, .ref (ad 12 0)), (1, .int p1), (2, .int p2), (3, .int p3)] := hl
  refine lv_aload_n hx hb dL_cloud_0 rfl (lv_at hl 0 rfl) ?_
  refine lv_iload_n hx hb dL_cloud_1 rfl (lv_at hl 1 rfl) ?_
  refine lv_iload_n hx hb dL_cloud_2 rfl (lv_at hl 2 rfl) ?_
  refine lv_iload_n hx hb dL_cloud_3 rfl (lv_at hl 3 rfl) ?_
  refine xV_i (As := [.int p1, .int p2, .int p3]) (rest := []) hx hb hml hown hw hK hN hA hl.1 hP hD hS hST k_976 k_977 k_978 k_21 k_979 (met_X9_cloud l hst0 D cy _ ad en g x p1 p2 p3 code r x' hF) (gY (x := x) (r := 0) (f := x 12 0) (by decide) rfl) rfl ⟨rfl, rfl⟩ (n := 3) (by decide +kernel) rfl ⟨Nat.le_of_ble_eq_true rfl, Nat.le_of_ble_eq_true rfl⟩ ⟨Nat.le_of_ble_eq_true rfl, Nat.le_of_ble_eq_true rfl⟩ (Nat.le_of_ble_eq_true rfl) rfl dL_cloud_4 (fun H locs q9 ce9 hne hP hD hS hce hcv hcl => ?_) (fun H locs h0 hP hD hS => ?_)
  · rcases hcd with hc9 | hc9
    · exact absurd hc9 hne
    · have hcl : s.vm.findClass "java/lang/UnsupportedOperationException" = some ce9.cls := hcl
      refine vx_catch (E := "java/lang/UnsupportedOperationException") (name := "java/lang/UnsupportedOperationException") hown [] ⟨0, 7, 8, 23⟩ [] (htb.trans rfl) (fun z hz => nomatch hz) (by decide) (by decide) (hw _ k_975) (va_Nw.use rfl (hN _ n_1061)) hce hcv hcl ?_
      refine lv_astore (lv' := [(4, .ref q9), (0, .ref (ad 12 0)), (1, .int p1), (2, .int p2), (3, .int p3)]) hx hb dL_cloud_8 hl (by decide) rfl (fun ls hl => ?_)
      refine lv_aload_n hx hb dL_cloud_10 rfl (lv_at hl 1 rfl) ?_
      have hP := cvP hP (List.append_nil _).symm
      have hD := cvD hD (List.append_nil _).symm
      refine fSj (w1 := cW cy ad en x') (w2 := []) (As := [.ref (ad 12 0)]) (rest := []) hx hb hml hown hw hK hN hA hl.1 hP hD hS k_1083 k_1084 k_20 k_1085 (met_L_told l hst0 D cy _ ad en g x' (hre hc9)) (ST_call hST hS (fr_F hS hD hA)) Xok_S ⟨rfl, rfl⟩ (n := 1) (by decide +kernel) rfl ⟨Nat.le_of_ble_eq_true rfl, Nat.le_of_ble_eq_true rfl⟩ ⟨Nat.le_of_ble_eq_true rfl, Nat.le_of_ble_eq_true rfl⟩ (Nat.le_of_ble_eq_true rfl) rfl dL_cloud_11 (fun r9 w9 H locs hw9 hP hD hS => ?_)
      exact hret _ _ _ _ _ _ _ _ (cvP hP ((List.append_nil _).trans hw9)) (cvD hD ((List.append_nil _).trans hw9)) hS rfl rfl (Nat.le_of_ble_eq_true rfl) (Nat.le_of_ble_eq_true rfl) dL_cloud_14
  · exact hret _ _ _ _ _ _ _ _ hP hD hS rfl rfl (Nat.le_of_ble_eq_true rfl) (Nat.le_of_ble_eq_true rfl) dL_cloud_7
abbrev rm_L_vine : Room := { frames := 8, cells := 4, slots := 24, locals := 192 }
set_option maxHeartbeats 4000000 in
theorem met_L_vine (l : Launch) (hst0 : l.stackTraces = false) (D : va_G) (cy : Nat → ClassId) (sz : Nat) (ad : Nat → Nat → Nat) (en g : Nat → Nat) (x : Mem) (p1 : Int32) (p2 : Int32) (code r : Int32) (x' : Mem) (hcd : code = 0 ∨ code = 1) (hF : D_X9_vine x p1 p2 = some (code, r, x')) (hre : code = 1 → ¬ x' 12 3 0 = 0) : MH l yL_vine cL_vine 4 [(0, 6, 7, 23)] rm_L_vine D cy (cW cy ad en x) sz (XS en g (cW cy ad en x) sz) [.ref (ad 12 0), .int p1, .int p2] 4 24 (fun _ w => w = cW cy ad en x') := by
  refine MH.of (by decide +kernel) (Nat.le_of_ble_eq_true rfl) ?_
  intro p e s m args below meth c A ls Q hAt htb hX hsz hAe hP hD hA hS hl hret
  have hST : ST en g A s s.heap := by rw [hAe]; exact hX
  obtain ⟨hx, hb, hr, hml, hown, hw, hlk, hK, hN⟩ := hAt
  have hown : s.vm.findClass "CloudDeedsLaw" = some m.cls := hown
  have hl : lv_has ls 4 [(0, .ref (ad 12 0)), (1, .int p1), (2, .int p2)] := hl
  refine lv_aload_n hx hb dL_vine_0 rfl (lv_at hl 0 rfl) ?_
  refine lv_iload_n hx hb dL_vine_1 rfl (lv_at hl 1 rfl) ?_
  refine lv_iload_n hx hb dL_vine_2 rfl (lv_at hl 2 rfl) ?_
  refine xV_i (As := [.int p1, .int p2]) (rest := []) hx hb hml hown hw hK hN hA hl.1 hP hD hS hST k_1094 k_1095 k_1096 k_21 k_1097 (met_X9_vine l hst0 D cy _ ad en g x p1 p2 code r x' hF) (gY (x := x) (r := 0) (f := x 12 0) (by decide) rfl) rfl ⟨rfl, rfl⟩ (n := 2) (by decide +kernel) rfl ⟨Nat.le_of_ble_eq_true rfl, Nat.le_of_ble_eq_true rfl⟩ ⟨Nat.le_of_ble_eq_true rfl, Nat.le_of_ble_eq_true rfl⟩ (Nat.le_of_ble_eq_true rfl) rfl dL_vine_3 (fun H locs q9 ce9 hne hP hD hS hce hcv hcl => ?_) (fun H locs h0 hP hD hS => ?_)
  · rcases hcd with hc9 | hc9
    · exact absurd hc9 hne
    · have hcl : s.vm.findClass "java/lang/UnsupportedOperationException" = some ce9.cls := hcl
      refine vx_catch (E := "java/lang/UnsupportedOperationException") (name := "java/lang/UnsupportedOperationException") hown [] ⟨0, 6, 7, 23⟩ [] (htb.trans rfl) (fun z hz => nomatch hz) (by decide) (by decide) (hw _ k_975) (va_Nw.use rfl (hN _ n_1061)) hce hcv hcl ?_
      refine lv_astore_n (lv' := [(3, .ref q9), (0, .ref (ad 12 0)), (1, .int p1), (2, .int p2)]) hx hb dL_vine_7 rfl hl (by decide) rfl (fun ls hl => ?_)
      refine lv_aload_n hx hb dL_vine_8 rfl (lv_at hl 1 rfl) ?_
      have hP := cvP hP (List.append_nil _).symm
      have hD := cvD hD (List.append_nil _).symm
      refine fSj (w1 := cW cy ad en x') (w2 := []) (As := [.ref (ad 12 0)]) (rest := []) hx hb hml hown hw hK hN hA hl.1 hP hD hS k_1083 k_1084 k_20 k_1085 (met_L_told l hst0 D cy _ ad en g x' (hre hc9)) (ST_call hST hS (fr_F hS hD hA)) Xok_S ⟨rfl, rfl⟩ (n := 1) (by decide +kernel) rfl ⟨Nat.le_of_ble_eq_true rfl, Nat.le_of_ble_eq_true rfl⟩ ⟨Nat.le_of_ble_eq_true rfl, Nat.le_of_ble_eq_true rfl⟩ (Nat.le_of_ble_eq_true rfl) rfl dL_vine_9 (fun r9 w9 H locs hw9 hP hD hS => ?_)
      exact hret _ _ _ _ _ _ _ _ (cvP hP ((List.append_nil _).trans hw9)) (cvD hD ((List.append_nil _).trans hw9)) hS rfl rfl (Nat.le_of_ble_eq_true rfl) (Nat.le_of_ble_eq_true rfl) dL_vine_12
  · exact hret _ _ _ _ _ _ _ _ hP hD hS rfl rfl (Nat.le_of_ble_eq_true rfl) (Nat.le_of_ble_eq_true rfl) dL_vine_6
abbrev rm_L_title : Room := { frames := 8, cells := 4, slots := 24, locals := 192 }
set_option maxHeartbeats 4000000 in
theorem met_L_title (l : Launch) (hst0 : l.stackTraces = false) (D : va_G) (cy : Nat → ClassId) (sz : Nat) (ad : Nat → Nat → Nat) (en g : Nat → Nat) (x : Mem) (p1 : Int32) (p2 : Int32) (code r : Int32) (x' : Mem) (hcd : code = 0 ∨ code = 1) (hF : D_X9_title x p1 p2 = some (code, r, x')) (hre : code = 1 → ¬ x' 12 3 0 = 0) : MH l yL_title cL_title 4 [(0, 6, 7, 23)] rm_L_title D cy (cW cy ad en x) sz (XS en g (cW cy ad en x) sz) [.ref (ad 12 0), .int p1, .int p2] 4 24 (fun _ w => w = cW cy ad en x') := by
  refine MH.of (by decide +kernel) (Nat.le_of_ble_eq_true rfl) ?_
  intro p e s m args below meth c A ls Q hAt htb hX hsz hAe hP hD hA hS hl hret
  have hST : ST en g A s s.heap := by rw [hAe]; exact hX
  obtain ⟨hx, hb, hr, hml, hown, hw, hlk, hK, hN⟩ := hAt
  have hown : s.vm.findClass "CloudDeedsLaw" = some m.cls := hown
  have hl : lv_has ls 4 [(0, .ref (ad 12 0)), (1, .int p1), (2, .int p2)] := hl
  refine lv_aload_n hx hb dL_title_0 rfl (lv_at hl 0 rfl) ?_
  refine lv_iload_n hx hb dL_title_1 rfl (lv_at hl 1 rfl) ?_
  refine lv_iload_n hx hb dL_title_2 rfl (lv_at hl 2 rfl) ?_
  refine xV_i (As := [.int p1, .int p2]) (rest := []) hx hb hml hown hw hK hN hA hl.1 hP hD hS hST k_1106 k_1107 k_1108 k_21 k_1109 (met_X9_title l hst0 D cy _ ad en g x p1 p2 code r x' hF) (gY (x := x) (r := 0) (f := x 12 0) (by decide) rfl) rfl ⟨rfl, rfl⟩ (n := 2) (by decide +kernel) rfl ⟨Nat.le_of_ble_eq_true rfl, Nat.le_of_ble_eq_true rfl⟩ ⟨Nat.le_of_ble_eq_true rfl, Nat.le_of_ble_eq_true rfl⟩ (Nat.le_of_ble_eq_true rfl) rfl dL_title_3 (fun H locs q9 ce9 hne hP hD hS hce hcv hcl => ?_) (fun H locs h0 hP hD hS => ?_)
  · rcases hcd with hc9 | hc9
    · exact absurd hc9 hne
    · have hcl : s.vm.findClass "java/lang/UnsupportedOperationException" = some ce9.cls := hcl
      refine vx_catch (E := "java/lang/UnsupportedOperationException") (name := "java/lang/UnsupportedOperationException") hown [] ⟨0, 6, 7, 23⟩ [] (htb.trans rfl) (fun z hz => nomatch hz) (by decide) (by decide) (hw _ k_975) (va_Nw.use rfl (hN _ n_1061)) hce hcv hcl ?_
      refine lv_astore_n (lv' := [(3, .ref q9), (0, .ref (ad 12 0)), (1, .int p1), (2, .int p2)]) hx hb dL_title_7 rfl hl (by decide) rfl (fun ls hl => ?_)
      refine lv_aload_n hx hb dL_title_8 rfl (lv_at hl 1 rfl) ?_
      have hP := cvP hP (List.append_nil _).symm
      have hD := cvD hD (List.append_nil _).symm
      refine fSj (w1 := cW cy ad en x') (w2 := []) (As := [.ref (ad 12 0)]) (rest := []) hx hb hml hown hw hK hN hA hl.1 hP hD hS k_1083 k_1084 k_20 k_1085 (met_L_told l hst0 D cy _ ad en g x' (hre hc9)) (ST_call hST hS (fr_F hS hD hA)) Xok_S ⟨rfl, rfl⟩ (n := 1) (by decide +kernel) rfl ⟨Nat.le_of_ble_eq_true rfl, Nat.le_of_ble_eq_true rfl⟩ ⟨Nat.le_of_ble_eq_true rfl, Nat.le_of_ble_eq_true rfl⟩ (Nat.le_of_ble_eq_true rfl) rfl dL_title_9 (fun r9 w9 H locs hw9 hP hD hS => ?_)
      exact hret _ _ _ _ _ _ _ _ (cvP hP ((List.append_nil _).trans hw9)) (cvD hD ((List.append_nil _).trans hw9)) hS rfl rfl (Nat.le_of_ble_eq_true rfl) (Nat.le_of_ble_eq_true rfl) dL_title_12
  · exact hret _ _ _ _ _ _ _ _ hP hD hS rfl rfl (Nat.le_of_ble_eq_true rfl) (Nat.le_of_ble_eq_true rfl) dL_title_6
abbrev rm_L_sell : Room := { frames := 8, cells := 4, slots := 24, locals := 193 }
set_option maxHeartbeats 4000000 in
theorem met_L_sell (l : Launch) (hst0 : l.stackTraces = false) (D : va_G) (cy : Nat → ClassId) (sz : Nat) (ad : Nat → Nat → Nat) (en g : Nat → Nat) (x : Mem) (p1 : Int32) (p2 : Int32) (p3 : Int32) (code r : Int32) (x' : Mem) (hcd : code = 0 ∨ code = 1) (hF : D_X9_sell x p1 p2 p3 = some (code, r, x')) (hre : code = 1 → ¬ x' 12 3 0 = 0) : MH l yL_sell cL_sell 5 [(0, 7, 8, 23)] rm_L_sell D cy (cW cy ad en x) sz (XS en g (cW cy ad en x) sz) [.ref (ad 12 0), .int p1, .int p2, .int p3] 4 24 (fun _ w => w = cW cy ad en x') := by
  refine MH.of (by decide +kernel) (Nat.le_of_ble_eq_true rfl) ?_
  intro p e s m args below meth c A ls Q hAt htb hX hsz hAe hP hD hA hS hl hret
  have hST : ST en g A s s.heap := by rw [hAe]; exact hX
  obtain ⟨hx, hb, hr, hml, hown, hw, hlk, hK, hN⟩ := hAt
  have hown : s.vm.findClass "CloudDeedsLaw" = some m.cls := hown
  have hl : lv_has ls 5 [(0, .ref (ad 12 0)), (1, .int p1), (2, .int p2), (3, .int p3)] := hl
  refine lv_aload_n hx hb dL_sell_0 rfl (lv_at hl 0 rfl) ?_
  refine lv_iload_n hx hb dL_sell_1 rfl (lv_at hl 1 rfl) ?_
  refine lv_iload_n hx hb dL_sell_2 rfl (lv_at hl 2 rfl) ?_
  refine lv_iload_n hx hb dL_sell_3 rfl (lv_at hl 3 rfl) ?_
  refine xV_i (As := [.int p1, .int p2, .int p3]) (rest := []) hx hb hml hown hw hK hN hA hl.1 hP hD hS hST k_1115 k_1116 k_1117 k_21 k_1118 (met_X9_sell l hst0 D cy _ ad en g x p1 p2 p3 code r x' hF) (gY (x := x) (r := 0) (f := x 12 0) (by decide) rfl) rfl ⟨rfl, rfl⟩ (n := 3) (by decide +kernel) rfl ⟨Nat.le_of_ble_eq_true rfl, Nat.le_of_ble_eq_true rfl⟩ ⟨Nat.le_of_ble_eq_true rfl, Nat.le_of_ble_eq_true rfl⟩ (Nat.le_of_ble_eq_true rfl) rfl dL_sell_4 (fun H locs q9 ce9 hne hP hD hS hce hcv hcl => ?_) (fun H locs h0 hP hD hS => ?_)
  · rcases hcd with hc9 | hc9
    · exact absurd hc9 hne
    · have hcl : s.vm.findClass "java/lang/UnsupportedOperationException" = some ce9.cls := hcl
      refine vx_catch (E := "java/lang/UnsupportedOperationException") (name := "java/lang/UnsupportedOperationException") hown [] ⟨0, 7, 8, 23⟩ [] (htb.trans rfl) (fun z hz => nomatch hz) (by decide) (by decide) (hw _ k_975) (va_Nw.use rfl (hN _ n_1061)) hce hcv hcl ?_
      refine lv_astore (lv' := [(4, .ref q9), (0, .ref (ad 12 0)), (1, .int p1), (2, .int p2), (3, .int p3)]) hx hb dL_sell_8 hl (by decide) rfl (fun ls hl => ?_)
      refine lv_aload_n hx hb dL_sell_10 rfl (lv_at hl 1 rfl) ?_
      have hP := cvP hP (List.append_nil _).symm
      have hD := cvD hD (List.append_nil _).symm
      refine fSj (w1 := cW cy ad en x') (w2 := []) (As := [.ref (ad 12 0)]) (rest := []) hx hb hml hown hw hK hN hA hl.1 hP hD hS k_1083 k_1084 k_20 k_1085 (met_L_told l hst0 D cy _ ad en g x' (hre hc9)) (ST_call hST hS (fr_F hS hD hA)) Xok_S ⟨rfl, rfl⟩ (n := 1) (by decide +kernel) rfl ⟨Nat.le_of_ble_eq_true rfl, Nat.le_of_ble_eq_true rfl⟩ ⟨Nat.le_of_ble_eq_true rfl, Nat.le_of_ble_eq_true rfl⟩ (Nat.le_of_ble_eq_true rfl) rfl dL_sell_11 (fun r9 w9 H locs hw9 hP hD hS => ?_)
      exact hret _ _ _ _ _ _ _ _ (cvP hP ((List.append_nil _).trans hw9)) (cvD hD ((List.append_nil _).trans hw9)) hS rfl rfl (Nat.le_of_ble_eq_true rfl) (Nat.le_of_ble_eq_true rfl) dL_sell_14
  · exact hret _ _ _ _ _ _ _ _ hP hD hS rfl rfl (Nat.le_of_ble_eq_true rfl) (Nat.le_of_ble_eq_true rfl) dL_sell_7
abbrev rm_L_pledge : Room := { frames := 8, cells := 4, slots := 24, locals := 192 }
set_option maxHeartbeats 4000000 in
theorem met_L_pledge (l : Launch) (hst0 : l.stackTraces = false) (D : va_G) (cy : Nat → ClassId) (sz : Nat) (ad : Nat → Nat → Nat) (en g : Nat → Nat) (x : Mem) (p1 : Int32) (p2 : Int32) (code r : Int32) (x' : Mem) (hcd : code = 0 ∨ code = 1) (hF : D_X9_pledge x p1 p2 = some (code, r, x')) (hre : code = 1 → ¬ x' 12 3 0 = 0) : MH l yL_pledge cL_pledge 4 [(0, 6, 7, 23)] rm_L_pledge D cy (cW cy ad en x) sz (XS en g (cW cy ad en x) sz) [.ref (ad 12 0), .int p1, .int p2] 4 24 (fun _ w => w = cW cy ad en x') := by
  refine MH.of (by decide +kernel) (Nat.le_of_ble_eq_true rfl) ?_
  intro p e s m args below meth c A ls Q hAt htb hX hsz hAe hP hD hA hS hl hret
  have hST : ST en g A s s.heap := by rw [hAe]; exact hX
  obtain ⟨hx, hb, hr, hml, hown, hw, hlk, hK, hN⟩ := hAt
  have hown : s.vm.findClass "CloudDeedsLaw" = some m.cls := hown
  have hl : lv_has ls 4 [(0, .ref (ad 12 0)), (1, .int p1), (2, .int p2)] := hl
  refine lv_aload_n hx hb dL_pledge_0 rfl (lv_at hl 0 rfl) ?_
  refine lv_iload_n hx hb dL_pledge_1 rfl (lv_at hl 1 rfl) ?_
  refine lv_iload_n hx hb dL_pledge_2 rfl (lv_at hl 2 rfl) ?_
  refine xV_i (As := [.int p1, .int p2]) (rest := []) hx hb hml hown hw hK hN hA hl.1 hP hD hS hST k_1124 k_1125 k_1126 k_21 k_1127 (met_X9_pledge l hst0 D cy _ ad en g x p1 p2 code r x' hF) (gY (x := x) (r := 0) (f := x 12 0) (by decide) rfl) rfl ⟨rfl, rfl⟩ (n := 2) (by decide +kernel) rfl ⟨Nat.le_of_ble_eq_true rfl, Nat.le_of_ble_eq_true rfl⟩ ⟨Nat.le_of_ble_eq_true rfl, Nat.le_of_ble_eq_true rfl⟩ (Nat.le_of_ble_eq_true rfl) rfl dL_pledge_3 (fun H locs q9 ce9 hne hP hD hS hce hcv hcl => ?_) (fun H locs h0 hP hD hS => ?_)
  · rcases hcd with hc9 | hc9
    · exact absurd hc9 hne
    · have hcl : s.vm.findClass "java/lang/UnsupportedOperationException" = some ce9.cls := hcl
      refine vx_catch (E := "java/lang/UnsupportedOperationException") (name := "java/lang/UnsupportedOperationException") hown [] ⟨0, 6, 7, 23⟩ [] (htb.trans rfl) (fun z hz => nomatch hz) (by decide) (by decide) (hw _ k_975) (va_Nw.use rfl (hN _ n_1061)) hce hcv hcl ?_
      refine lv_astore_n (lv' := [(3, .ref q9), (0, .ref (ad 12 0)), (1, .int p1), (2, .int p2)]) hx hb dL_pledge_7 rfl hl (by decide) rfl (fun ls hl => ?_)
      refine lv_aload_n hx hb dL_pledge_8 rfl (lv_at hl 1 rfl) ?_
      have hP := cvP hP (List.append_nil _).symm
      have hD := cvD hD (List.append_nil _).symm
      refine fSj (w1 := cW cy ad en x') (w2 := []) (As := [.ref (ad 12 0)]) (rest := []) hx hb hml hown hw hK hN hA hl.1 hP hD hS k_1083 k_1084 k_20 k_1085 (met_L_told l hst0 D cy _ ad en g x' (hre hc9)) (ST_call hST hS (fr_F hS hD hA)) Xok_S ⟨rfl, rfl⟩ (n := 1) (by decide +kernel) rfl ⟨Nat.le_of_ble_eq_true rfl, Nat.le_of_ble_eq_true rfl⟩ ⟨Nat.le_of_ble_eq_true rfl, Nat.le_of_ble_eq_true rfl⟩ (Nat.le_of_ble_eq_true rfl) rfl dL_pledge_9 (fun r9 w9 H locs hw9 hP hD hS => ?_)
      exact hret _ _ _ _ _ _ _ _ (cvP hP ((List.append_nil _).trans hw9)) (cvD hD ((List.append_nil _).trans hw9)) hS rfl rfl (Nat.le_of_ble_eq_true rfl) (Nat.le_of_ble_eq_true rfl) dL_pledge_12
  · exact hret _ _ _ _ _ _ _ _ hP hD hS rfl rfl (Nat.le_of_ble_eq_true rfl) (Nat.le_of_ble_eq_true rfl) dL_pledge_6
abbrev rm_L_redeem : Room := { frames := 8, cells := 4, slots := 24, locals := 191 }
set_option maxHeartbeats 4000000 in
theorem met_L_redeem (l : Launch) (hst0 : l.stackTraces = false) (D : va_G) (cy : Nat → ClassId) (sz : Nat) (ad : Nat → Nat → Nat) (en g : Nat → Nat) (x : Mem) (p1 : Int32) (code r : Int32) (x' : Mem) (hcd : code = 0 ∨ code = 1) (hF : D_X9_redeem x p1 = some (code, r, x')) (hre : code = 1 → ¬ x' 12 3 0 = 0) : MH l yL_redeem cL_redeem 3 [(0, 5, 6, 23)] rm_L_redeem D cy (cW cy ad en x) sz (XS en g (cW cy ad en x) sz) [.ref (ad 12 0), .int p1] 4 24 (fun _ w => w = cW cy ad en x') := by
  refine MH.of (by decide +kernel) (Nat.le_of_ble_eq_true rfl) ?_
  intro p e s m args below meth c A ls Q hAt htb hX hsz hAe hP hD hA hS hl hret
  have hST : ST en g A s s.heap := by rw [hAe]; exact hX
  obtain ⟨hx, hb, hr, hml, hown, hw, hlk, hK, hN⟩ := hAt
  have hown : s.vm.findClass "CloudDeedsLaw" = some m.cls := hown
  have hl : lv_has ls 3 [(0, .ref (ad 12 0)), (1, .int p1)] := hl
  refine lv_aload_n hx hb dL_redeem_0 rfl (lv_at hl 0 rfl) ?_
  refine lv_iload_n hx hb dL_redeem_1 rfl (lv_at hl 1 rfl) ?_
  refine xV_i (As := [.int p1]) (rest := []) hx hb hml hown hw hK hN hA hl.1 hP hD hS hST k_1133 k_1134 k_1135 k_21 k_1136 (met_X9_redeem l hst0 D cy _ ad en g x p1 code r x' hF) (gY (x := x) (r := 0) (f := x 12 0) (by decide) rfl) rfl ⟨rfl, rfl⟩ (n := 1) (by decide +kernel) rfl ⟨Nat.le_of_ble_eq_true rfl, Nat.le_of_ble_eq_true rfl⟩ ⟨Nat.le_of_ble_eq_true rfl, Nat.le_of_ble_eq_true rfl⟩ (Nat.le_of_ble_eq_true rfl) rfl dL_redeem_2 (fun H locs q9 ce9 hne hP hD hS hce hcv hcl => ?_) (fun H locs h0 hP hD hS => ?_)
  · rcases hcd with hc9 | hc9
    · exact absurd hc9 hne
    · have hcl : s.vm.findClass "java/lang/UnsupportedOperationException" = some ce9.cls := hcl
      refine vx_catch (E := "java/lang/UnsupportedOperationException") (name := "java/lang/UnsupportedOperationException") hown [] ⟨0, 5, 6, 23⟩ [] (htb.trans rfl) (fun z hz => nomatch hz) (by decide) (by decide) (hw _ k_975) (va_Nw.use rfl (hN _ n_1061)) hce hcv hcl ?_
      refine lv_astore_n (lv' := [(2, .ref q9), (0, .ref (ad 12 0)), (1, .int p1)]) hx hb dL_redeem_6 rfl hl (by decide) rfl (fun ls hl => ?_)
      refine lv_aload_n hx hb dL_redeem_7 rfl (lv_at hl 1 rfl) ?_
      have hP := cvP hP (List.append_nil _).symm
      have hD := cvD hD (List.append_nil _).symm
      refine fSj (w1 := cW cy ad en x') (w2 := []) (As := [.ref (ad 12 0)]) (rest := []) hx hb hml hown hw hK hN hA hl.1 hP hD hS k_1083 k_1084 k_20 k_1085 (met_L_told l hst0 D cy _ ad en g x' (hre hc9)) (ST_call hST hS (fr_F hS hD hA)) Xok_S ⟨rfl, rfl⟩ (n := 1) (by decide +kernel) rfl ⟨Nat.le_of_ble_eq_true rfl, Nat.le_of_ble_eq_true rfl⟩ ⟨Nat.le_of_ble_eq_true rfl, Nat.le_of_ble_eq_true rfl⟩ (Nat.le_of_ble_eq_true rfl) rfl dL_redeem_8 (fun r9 w9 H locs hw9 hP hD hS => ?_)
      exact hret _ _ _ _ _ _ _ _ (cvP hP ((List.append_nil _).trans hw9)) (cvD hD ((List.append_nil _).trans hw9)) hS rfl rfl (Nat.le_of_ble_eq_true rfl) (Nat.le_of_ble_eq_true rfl) dL_redeem_11
  · exact hret _ _ _ _ _ _ _ _ hP hD hS rfl rfl (Nat.le_of_ble_eq_true rfl) (Nat.le_of_ble_eq_true rfl) dL_redeem_5
abbrev rm_L_wind : Room := { frames := 8, cells := 4, slots := 24, locals := 191 }
set_option maxHeartbeats 4000000 in
theorem met_L_wind (l : Launch) (hst0 : l.stackTraces = false) (D : va_G) (cy : Nat → ClassId) (sz : Nat) (ad : Nat → Nat → Nat) (en g : Nat → Nat) (x : Mem) (p1 : Int32) (code r : Int32) (x' : Mem) (hcd : code = 0 ∨ code = 1) (hF : D_X9_wind x p1 = some (code, r, x')) (hre : code = 1 → ¬ x' 12 3 0 = 0) : MH l yL_wind cL_wind 3 [(0, 5, 6, 23)] rm_L_wind D cy (cW cy ad en x) sz (XS en g (cW cy ad en x) sz) [.ref (ad 12 0), .int p1] 4 24 (fun _ w => w = cW cy ad en x') := by
  refine MH.of (by decide +kernel) (Nat.le_of_ble_eq_true rfl) ?_
  intro p e s m args below meth c A ls Q hAt htb hX hsz hAe hP hD hA hS hl hret
  have hST : ST en g A s s.heap := by rw [hAe]; exact hX
  obtain ⟨hx, hb, hr, hml, hown, hw, hlk, hK, hN⟩ := hAt
  have hown : s.vm.findClass "CloudDeedsLaw" = some m.cls := hown
  have hl : lv_has ls 3 [(0, .ref (ad 12 0)), (1, .int p1)] := hl
  refine lv_aload_n hx hb dL_wind_0 rfl (lv_at hl 0 rfl) ?_
  refine lv_iload_n hx hb dL_wind_1 rfl (lv_at hl 1 rfl) ?_
  refine xV_i (As := [.int p1]) (rest := []) hx hb hml hown hw hK hN hA hl.1 hP hD hS hST k_1142 k_1143 k_1144 k_21 k_1145 (met_X9_wind l hst0 D cy _ ad en g x p1 code r x' hF) (gY (x := x) (r := 0) (f := x 12 0) (by decide) rfl) rfl ⟨rfl, rfl⟩ (n := 1) (by decide +kernel) rfl ⟨Nat.le_of_ble_eq_true rfl, Nat.le_of_ble_eq_true rfl⟩ ⟨Nat.le_of_ble_eq_true rfl, Nat.le_of_ble_eq_true rfl⟩ (Nat.le_of_ble_eq_true rfl) rfl dL_wind_2 (fun H locs q9 ce9 hne hP hD hS hce hcv hcl => ?_) (fun H locs h0 hP hD hS => ?_)
  · rcases hcd with hc9 | hc9
    · exact absurd hc9 hne
    · have hcl : s.vm.findClass "java/lang/UnsupportedOperationException" = some ce9.cls := hcl
      refine vx_catch (E := "java/lang/UnsupportedOperationException") (name := "java/lang/UnsupportedOperationException") hown [] ⟨0, 5, 6, 23⟩ [] (htb.trans rfl) (fun z hz => nomatch hz) (by decide) (by decide) (hw _ k_975) (va_Nw.use rfl (hN _ n_1061)) hce hcv hcl ?_
      refine lv_astore_n (lv' := [(2, .ref q9), (0, .ref (ad 12 0)), (1, .int p1)]) hx hb dL_wind_6 rfl hl (by decide) rfl (fun ls hl => ?_)
      refine lv_aload_n hx hb dL_wind_7 rfl (lv_at hl 1 rfl) ?_
      have hP := cvP hP (List.append_nil _).symm
      have hD := cvD hD (List.append_nil _).symm
      refine fSj (w1 := cW cy ad en x') (w2 := []) (As := [.ref (ad 12 0)]) (rest := []) hx hb hml hown hw hK hN hA hl.1 hP hD hS k_1083 k_1084 k_20 k_1085 (met_L_told l hst0 D cy _ ad en g x' (hre hc9)) (ST_call hST hS (fr_F hS hD hA)) Xok_S ⟨rfl, rfl⟩ (n := 1) (by decide +kernel) rfl ⟨Nat.le_of_ble_eq_true rfl, Nat.le_of_ble_eq_true rfl⟩ ⟨Nat.le_of_ble_eq_true rfl, Nat.le_of_ble_eq_true rfl⟩ (Nat.le_of_ble_eq_true rfl) rfl dL_wind_8 (fun r9 w9 H locs hw9 hP hD hS => ?_)
      exact hret _ _ _ _ _ _ _ _ (cvP hP ((List.append_nil _).trans hw9)) (cvD hD ((List.append_nil _).trans hw9)) hS rfl rfl (Nat.le_of_ble_eq_true rfl) (Nat.le_of_ble_eq_true rfl) dL_wind_11
  · exact hret _ _ _ _ _ _ _ _ hP hD hS rfl rfl (Nat.le_of_ble_eq_true rfl) (Nat.le_of_ble_eq_true rfl) dL_wind_5
abbrev rm_L_hail : Room := { frames := 8, cells := 4, slots := 24, locals := 191 }
set_option maxHeartbeats 4000000 in
theorem met_L_hail (l : Launch) (hst0 : l.stackTraces = false) (D : va_G) (cy : Nat → ClassId) (sz : Nat) (ad : Nat → Nat → Nat) (en g : Nat → Nat) (x : Mem) (p1 : Int32) (code r : Int32) (x' : Mem) (hcd : code = 0 ∨ code = 1) (hF : D_X9_hail x p1 = some (code, r, x')) (hre : code = 1 → ¬ x' 12 3 0 = 0) : MH l yL_hail cL_hail 3 [(0, 5, 6, 23)] rm_L_hail D cy (cW cy ad en x) sz (XS en g (cW cy ad en x) sz) [.ref (ad 12 0), .int p1] 4 24 (fun _ w => w = cW cy ad en x') := by
  refine MH.of (by decide +kernel) (Nat.le_of_ble_eq_true rfl) ?_
  intro p e s m args below meth c A ls Q hAt htb hX hsz hAe hP hD hA hS hl hret
  have hST : ST en g A s s.heap := by rw [hAe]; exact hX
  obtain ⟨hx, hb, hr, hml, hown, hw, hlk, hK, hN⟩ := hAt
  have hown : s.vm.findClass "CloudDeedsLaw" = some m.cls := hown
  have hl : lv_has ls 3 [(0, .ref (ad 12 0)), (1, .int p1)] := hl
  refine lv_aload_n hx hb dL_hail_0 rfl (lv_at hl 0 rfl) ?_
  refine lv_iload_n hx hb dL_hail_1 rfl (lv_at hl 1 rfl) ?_
  refine xV_i (As := [.int p1]) (rest := []) hx hb hml hown hw hK hN hA hl.1 hP hD hS hST k_1151 k_1152 k_1153 k_21 k_1154 (met_X9_hail l hst0 D cy _ ad en g x p1 code r x' hF) (gY (x := x) (r := 0) (f := x 12 0) (by decide) rfl) rfl ⟨rfl, rfl⟩ (n := 1) (by decide +kernel) rfl ⟨Nat.le_of_ble_eq_true rfl, Nat.le_of_ble_eq_true rfl⟩ ⟨Nat.le_of_ble_eq_true rfl, Nat.le_of_ble_eq_true rfl⟩ (Nat.le_of_ble_eq_true rfl) rfl dL_hail_2 (fun H locs q9 ce9 hne hP hD hS hce hcv hcl => ?_) (fun H locs h0 hP hD hS => ?_)
  · rcases hcd with hc9 | hc9
    · exact absurd hc9 hne
    · have hcl : s.vm.findClass "java/lang/UnsupportedOperationException" = some ce9.cls := hcl
      refine vx_catch (E := "java/lang/UnsupportedOperationException") (name := "java/lang/UnsupportedOperationException") hown [] ⟨0, 5, 6, 23⟩ [] (htb.trans rfl) (fun z hz => nomatch hz) (by decide) (by decide) (hw _ k_975) (va_Nw.use rfl (hN _ n_1061)) hce hcv hcl ?_
      refine lv_astore_n (lv' := [(2, .ref q9), (0, .ref (ad 12 0)), (1, .int p1)]) hx hb dL_hail_6 rfl hl (by decide) rfl (fun ls hl => ?_)
      refine lv_aload_n hx hb dL_hail_7 rfl (lv_at hl 1 rfl) ?_
      have hP := cvP hP (List.append_nil _).symm
      have hD := cvD hD (List.append_nil _).symm
      refine fSj (w1 := cW cy ad en x') (w2 := []) (As := [.ref (ad 12 0)]) (rest := []) hx hb hml hown hw hK hN hA hl.1 hP hD hS k_1083 k_1084 k_20 k_1085 (met_L_told l hst0 D cy _ ad en g x' (hre hc9)) (ST_call hST hS (fr_F hS hD hA)) Xok_S ⟨rfl, rfl⟩ (n := 1) (by decide +kernel) rfl ⟨Nat.le_of_ble_eq_true rfl, Nat.le_of_ble_eq_true rfl⟩ ⟨Nat.le_of_ble_eq_true rfl, Nat.le_of_ble_eq_true rfl⟩ (Nat.le_of_ble_eq_true rfl) rfl dL_hail_8 (fun r9 w9 H locs hw9 hP hD hS => ?_)
      exact hret _ _ _ _ _ _ _ _ (cvP hP ((List.append_nil _).trans hw9)) (cvD hD ((List.append_nil _).trans hw9)) hS rfl rfl (Nat.le_of_ble_eq_true rfl) (Nat.le_of_ble_eq_true rfl) dL_hail_11
  · exact hret _ _ _ _ _ _ _ _ hP hD hS rfl rfl (Nat.le_of_ble_eq_true rfl) (Nat.le_of_ble_eq_true rfl) dL_hail_5
abbrev rm_L_recorded : Room := { frames := 7, cells := 4, slots := 24, locals := 113 }
set_option maxHeartbeats 4000000 in
theorem met_L_recorded (l : Launch) (hst0 : l.stackTraces = false) (D : va_G) (cy : Nat → ClassId) (sz : Nat) (ad : Nat → Nat → Nat) (en g : Nat → Nat) (x : Mem) (p1 : Int32) (p2 : Int32) (code r : Int32) (hcd : code = 0 ∨ code = 1) (hF : D_X9_recorded x p1 p2 = some (code, r)) : MH l yL_recorded cL_recorded 4 [(0, 6, 7, 55)] rm_L_recorded D cy (cW cy ad en x) sz (XS en g (cW cy ad en x) sz) [.ref (ad 12 0), .int p1, .int p2] 4 24 (fun v w => v = (if code = 0 then r else -30000) ∧ w = cW cy ad en x) := by
  refine MH.of (by decide +kernel) (Nat.le_of_ble_eq_true rfl) ?_
  intro p e s m args below meth c A ls Q hAt htb hX hsz hAe hP hD hA hS hl hret
  have hST : ST en g A s s.heap := by rw [hAe]; exact hX
  obtain ⟨hx, hb, hr, hml, hown, hw, hlk, hK, hN⟩ := hAt
  have hown : s.vm.findClass "CloudDeedsLaw" = some m.cls := hown
  have hl : lv_has ls 4 [(0, .ref (ad 12 0)), (1, .int p1), (2, .int p2)] := hl
  refine lv_aload_n hx hb dL_recorded_0 rfl (lv_at hl 0 rfl) ?_
  refine lv_iload_n hx hb dL_recorded_1 rfl (lv_at hl 1 rfl) ?_
  refine lv_iload_n hx hb dL_recorded_2 rfl (lv_at hl 2 rfl) ?_
  refine xV_i (As := [.int p1, .int p2]) (rest := []) hx hb hml hown hw hK hN hA hl.1 hP hD hS hST k_922 k_923 k_924 k_21 k_925 (met_X9_recorded l hst0 D cy _ ad en g x p1 p2 code r hF) (gY (x := x) (r := 0) (f := x 12 0) (by decide) rfl) rfl ⟨rfl, rfl⟩ (n := 2) (by decide +kernel) rfl ⟨Nat.le_of_ble_eq_true rfl, Nat.le_of_ble_eq_true rfl⟩ ⟨Nat.le_of_ble_eq_true rfl, Nat.le_of_ble_eq_true rfl⟩ (Nat.le_of_ble_eq_true rfl) rfl dL_recorded_3 (fun H locs q9 ce9 hne hP hD hS hce hcv hcl => ?_) (fun H locs h0 hP hD hS => ?_)
  · rcases hcd with hc9 | hc9
    · exact absurd hc9 hne
    · have hcl : s.vm.findClass "java/util/NoSuchElementException" = some ce9.cls := hcl
      refine vx_catch (E := "java/util/NoSuchElementException") (name := "java/util/NoSuchElementException") hown [] ⟨0, 6, 7, 55⟩ [] (htb.trans rfl) (fun z hz => nomatch hz) (by decide) (by decide) (hw _ k_921) (va_Nw.use rfl (hN _ n_627)) hce hcv hcl ?_
      refine lv_astore_n (lv' := [(3, .ref q9), (0, .ref (ad 12 0)), (1, .int p1), (2, .int p2)]) hx hb dL_recorded_7 rfl hl (by decide) rfl (fun ls hl => ?_)
      refine lv_sipush (v := (-30000)) hx hb dL_recorded_8 (by decide) ?_
      exact hret _ _ _ _ _ _ _ _ hP hD hS ⟨(if_neg (by rw [hc9]; decide)).symm, rfl⟩ rfl (Nat.le_of_ble_eq_true rfl) (Nat.le_of_ble_eq_true rfl) dL_recorded_11
  · exact hret _ _ _ _ _ _ _ _ hP hD hS ⟨(if_pos h0).symm, rfl⟩ rfl (Nat.le_of_ble_eq_true rfl) (Nat.le_of_ble_eq_true rfl) dL_recorded_6
abbrev rm_L_dawnLine : Room := { frames := 7, cells := 4, slots := 24, locals := 130 }
set_option maxHeartbeats 4000000 in
theorem met_L_dawnLine (l : Launch) (hst0 : l.stackTraces = false) (D : va_G) (cy : Nat → ClassId) (sz : Nat) (ad : Nat → Nat → Nat) (en g : Nat → Nat) (x : Mem) (p1 : Int32) (code r : Int32) (x' : Mem) (hcd : code = 0 ∨ code = 1) (hF : D_X9_dawnLine x p1 = some (code, r, x')) : MH l yL_dawnLine cL_dawnLine 3 [(0, 5, 6, 55)] rm_L_dawnLine D cy (cW cy ad en x) sz (XS en g (cW cy ad en x) sz) [.ref (ad 12 0), .int p1] 4 24 (fun v w => v = (if code = 0 then r else -30000) ∧ w = cW cy ad en x') := by
  refine MH.of (by decide +kernel) (Nat.le_of_ble_eq_true rfl) ?_
  intro p e s m args below meth c A ls Q hAt htb hX hsz hAe hP hD hA hS hl hret
  have hST : ST en g A s s.heap := by rw [hAe]; exact hX
  obtain ⟨hx, hb, hr, hml, hown, hw, hlk, hK, hN⟩ := hAt
  have hown : s.vm.findClass "CloudDeedsLaw" = some m.cls := hown
  have hl : lv_has ls 3 [(0, .ref (ad 12 0)), (1, .int p1)] := hl
  refine lv_aload_n hx hb dL_dawnLine_0 rfl (lv_at hl 0 rfl) ?_
  refine lv_iload_n hx hb dL_dawnLine_1 rfl (lv_at hl 1 rfl) ?_
  refine xV_i (As := [.int p1]) (rest := []) hx hb hml hown hw hK hN hA hl.1 hP hD hS hST k_945 k_946 k_947 k_21 k_948 (met_X9_dawnLine l hst0 D cy _ ad en g x p1 code r x' hF) (gY (x := x) (r := 0) (f := x 12 0) (by decide) rfl) rfl ⟨rfl, rfl⟩ (n := 1) (by decide +kernel) rfl ⟨Nat.le_of_ble_eq_true rfl, Nat.le_of_ble_eq_true rfl⟩ ⟨Nat.le_of_ble_eq_true rfl, Nat.le_of_ble_eq_true rfl⟩ (Nat.le_of_ble_eq_true rfl) rfl dL_dawnLine_2 (fun H locs q9 ce9 hne hP hD hS hce hcv hcl => ?_) (fun H locs h0 hP hD hS => ?_)
  · rcases hcd with hc9 | hc9
    · exact absurd hc9 hne
    · have hcl : s.vm.findClass "java/util/NoSuchElementException" = some ce9.cls := hcl
      refine vx_catch (E := "java/util/NoSuchElementException") (name := "java/util/NoSuchElementException") hown [] ⟨0, 5, 6, 55⟩ [] (htb.trans rfl) (fun z hz => nomatch hz) (by decide) (by decide) (hw _ k_921) (va_Nw.use rfl (hN _ n_627)) hce hcv hcl ?_
      refine lv_astore_n (lv' := [(2, .ref q9), (0, .ref (ad 12 0)), (1, .int p1)]) hx hb dL_dawnLine_6 rfl hl (by decide) rfl (fun ls hl => ?_)
      refine lv_sipush (v := (-30000)) hx hb dL_dawnLine_7 (by decide) ?_
      exact hret _ _ _ _ _ _ _ _ hP hD hS ⟨(if_neg (by rw [hc9]; decide)).symm, rfl⟩ rfl (Nat.le_of_ble_eq_true rfl) (Nat.le_of_ble_eq_true rfl) dL_dawnLine_10
  · exact hret _ _ _ _ _ _ _ _ hP hD hS ⟨(if_pos h0).symm, rfl⟩ rfl (Nat.le_of_ble_eq_true rfl) (Nat.le_of_ble_eq_true rfl) dL_dawnLine_5
abbrev rm_L_greatest : Room := { frames := 7, cells := 4, slots := 24, locals := 130 }
set_option maxHeartbeats 4000000 in
theorem met_L_greatest (l : Launch) (hst0 : l.stackTraces = false) (D : va_G) (cy : Nat → ClassId) (sz : Nat) (ad : Nat → Nat → Nat) (en g : Nat → Nat) (x : Mem) (p1 : Int32) (code r : Int32) (hcd : code = 0 ∨ code = 1) (hF : D_X9_greatest x p1 = some (code, r)) : MH l yL_greatest cL_greatest 3 [(0, 5, 6, 55)] rm_L_greatest D cy (cW cy ad en x) sz (XS en g (cW cy ad en x) sz) [.ref (ad 12 0), .int p1] 4 24 (fun v w => v = (if code = 0 then r else -30000) ∧ w = cW cy ad en x) := by
  refine MH.of (by decide +kernel) (Nat.le_of_ble_eq_true rfl) ?_
  intro p e s m args below meth c A ls Q hAt htb hX hsz hAe hP hD hA hS hl hret
  have hST : ST en g A s s.heap := by rw [hAe]; exact hX
  obtain ⟨hx, hb, hr, hml, hown, hw, hlk, hK, hN⟩ := hAt
  have hown : s.vm.findClass "CloudDeedsLaw" = some m.cls := hown
  have hl : lv_has ls 3 [(0, .ref (ad 12 0)), (1, .int p1)] := hl
  refine lv_aload_n hx hb dL_greatest_0 rfl (lv_at hl 0 rfl) ?_
  refine lv_iload_n hx hb dL_greatest_1 rfl (lv_at hl 1 rfl) ?_
  refine xV_i (As := [.int p1]) (rest := []) hx hb hml hown hw hK hN hA hl.1 hP hD hS hST k_621 k_622 k_623 k_21 k_624 (met_X9_greatest l hst0 D cy _ ad en g x p1 code r hF) (gY (x := x) (r := 0) (f := x 12 0) (by decide) rfl) rfl ⟨rfl, rfl⟩ (n := 1) (by decide +kernel) rfl ⟨Nat.le_of_ble_eq_true rfl, Nat.le_of_ble_eq_true rfl⟩ ⟨Nat.le_of_ble_eq_true rfl, Nat.le_of_ble_eq_true rfl⟩ (Nat.le_of_ble_eq_true rfl) rfl dL_greatest_2 (fun H locs q9 ce9 hne hP hD hS hce hcv hcl => ?_) (fun H locs h0 hP hD hS => ?_)
  · rcases hcd with hc9 | hc9
    · exact absurd hc9 hne
    · have hcl : s.vm.findClass "java/util/NoSuchElementException" = some ce9.cls := hcl
      refine vx_catch (E := "java/util/NoSuchElementException") (name := "java/util/NoSuchElementException") hown [] ⟨0, 5, 6, 55⟩ [] (htb.trans rfl) (fun z hz => nomatch hz) (by decide) (by decide) (hw _ k_921) (va_Nw.use rfl (hN _ n_627)) hce hcv hcl ?_
      refine lv_astore_n (lv' := [(2, .ref q9), (0, .ref (ad 12 0)), (1, .int p1)]) hx hb dL_greatest_6 rfl hl (by decide) rfl (fun ls hl => ?_)
      refine lv_sipush (v := (-30000)) hx hb dL_greatest_7 (by decide) ?_
      exact hret _ _ _ _ _ _ _ _ hP hD hS ⟨(if_neg (by rw [hc9]; decide)).symm, rfl⟩ rfl (Nat.le_of_ble_eq_true rfl) (Nat.le_of_ble_eq_true rfl) dL_greatest_10
  · exact hret _ _ _ _ _ _ _ _ hP hD hS ⟨(if_pos h0).symm, rfl⟩ rfl (Nat.le_of_ble_eq_true rfl) (Nat.le_of_ble_eq_true rfl) dL_greatest_5
abbrev rm_L_ranked : Room := { frames := 7, cells := 4, slots := 24, locals := 130 }
set_option maxHeartbeats 4000000 in
theorem met_L_ranked (l : Launch) (hst0 : l.stackTraces = false) (D : va_G) (cy : Nat → ClassId) (sz : Nat) (ad : Nat → Nat → Nat) (en g : Nat → Nat) (x : Mem) (p1 : Int32) (code r : Int32) (hcd : code = 0 ∨ code = 1) (hF : D_X9_ranked x p1 = some (code, r)) : MH l yL_ranked cL_ranked 3 [(0, 5, 6, 55)] rm_L_ranked D cy (cW cy ad en x) sz (XS en g (cW cy ad en x) sz) [.ref (ad 12 0), .int p1] 4 24 (fun v w => v = (if code = 0 then r else -30000) ∧ w = cW cy ad en x) := by
  refine MH.of (by decide +kernel) (Nat.le_of_ble_eq_true rfl) ?_
  intro p e s m args below meth c A ls Q hAt htb hX hsz hAe hP hD hA hS hl hret
  have hST : ST en g A s s.heap := by rw [hAe]; exact hX
  obtain ⟨hx, hb, hr, hml, hown, hw, hlk, hK, hN⟩ := hAt
  have hown : s.vm.findClass "CloudDeedsLaw" = some m.cls := hown
  have hl : lv_has ls 3 [(0, .ref (ad 12 0)), (1, .int p1)] := hl
  refine lv_aload_n hx hb dL_ranked_0 rfl (lv_at hl 0 rfl) ?_
  refine lv_iload_n hx hb dL_ranked_1 rfl (lv_at hl 1 rfl) ?_
  refine xV_i (As := [.int p1]) (rest := []) hx hb hml hown hw hK hN hA hl.1 hP hD hS hST k_658 k_659 k_660 k_21 k_661 (met_X9_ranked l hst0 D cy _ ad en g x p1 code r hF) (gY (x := x) (r := 0) (f := x 12 0) (by decide) rfl) rfl ⟨rfl, rfl⟩ (n := 1) (by decide +kernel) rfl ⟨Nat.le_of_ble_eq_true rfl, Nat.le_of_ble_eq_true rfl⟩ ⟨Nat.le_of_ble_eq_true rfl, Nat.le_of_ble_eq_true rfl⟩ (Nat.le_of_ble_eq_true rfl) rfl dL_ranked_2 (fun H locs q9 ce9 hne hP hD hS hce hcv hcl => ?_) (fun H locs h0 hP hD hS => ?_)
  · rcases hcd with hc9 | hc9
    · exact absurd hc9 hne
    · have hcl : s.vm.findClass "java/util/NoSuchElementException" = some ce9.cls := hcl
      refine vx_catch (E := "java/util/NoSuchElementException") (name := "java/util/NoSuchElementException") hown [] ⟨0, 5, 6, 55⟩ [] (htb.trans rfl) (fun z hz => nomatch hz) (by decide) (by decide) (hw _ k_921) (va_Nw.use rfl (hN _ n_627)) hce hcv hcl ?_
      refine lv_astore_n (lv' := [(2, .ref q9), (0, .ref (ad 12 0)), (1, .int p1)]) hx hb dL_ranked_6 rfl hl (by decide) rfl (fun ls hl => ?_)
      refine lv_sipush (v := (-30000)) hx hb dL_ranked_7 (by decide) ?_
      exact hret _ _ _ _ _ _ _ _ hP hD hS ⟨(if_neg (by rw [hc9]; decide)).symm, rfl⟩ rfl (Nat.le_of_ble_eq_true rfl) (Nat.le_of_ble_eq_true rfl) dL_ranked_10
  · exact hret _ _ _ _ _ _ _ _ hP hD hS ⟨(if_pos h0).symm, rfl⟩ rfl (Nat.le_of_ble_eq_true rfl) (Nat.le_of_ble_eq_true rfl) dL_ranked_5
