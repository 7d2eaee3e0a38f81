abbrev rm_L_cloud : Room := { frames := 8, cells := 2, slots := 12, locals := 193 }
set_option maxHeartbeats 4000000 in
theorem met_L_cloud (l : Launch) (hst0 : l.stackTraces = false) (D : va_G) (cy : Nat → ClassId) (sz : Nat) (ad : Nat → Nat → Nat) (en g : Nat → Nat) (x : Mem) (p1 : Int32) (p2 : Int32) (p3 : Int32) (ob : Nat) (fo : Nat → Int64) (code : Int32) (r : Int32) (x' : Mem) (hcd : code = 0 ∨ code = 1) (hF : D_X9_cloud x p1 p2 p3 = some (code, r, x')) : MW l yL_cloud cL_cloud 6 [(0, 12, 15, 13)] rm_L_cloud D cy en g (cW cy ad en x ++ [((ob, .inl (cy 6, 1, .inr (.inl fo))) : Nat × va_E)]) sz [.ref (ad 12 0), .int p1, .int p2, .int p3, .ref ob] code (cW cy ad en x' ++ [((ob, .inl (cy 6, 1, .inr (.inl (if code = 0 then (vp_updL fo (0 : Int32).toNatClampNeg r.toInt64) else fo)))) : Nat × va_E)]) := by
  refine MW.of (by decide +kernel) (Nat.le_of_ble_eq_true rfl) ?_
  intro p e s m args below meth c A ls Q hx hb hml hown hw hK8 hN htb hST hP hD hA hS hl hret
  have hK := hKL hK8
  have hown : s.vm.findClass "CloudDeedsLaw" = some m.cls := hown
  have hl : lv_has ls 6 [(0, .ref (ad 12 0)), (1, .int p1), (2, .int p2), (3, .int p3), (4, .ref ob)] := hl
  refine lv_aload hx hb dL_cloud_0 (lv_at hl 4 rfl) ?_
  refine lv_iconst (v := 0) hx hb dL_cloud_2 (by decide) ?_
  refine lv_aload_n hx hb dL_cloud_3 rfl (lv_at hl 0 rfl) ?_
  refine lv_iload_n hx hb dL_cloud_4 rfl (lv_at hl 1 rfl) ?_
  refine lv_iload_n hx hb dL_cloud_5 rfl (lv_at hl 2 rfl) ?_
  refine lv_iload_n hx hb dL_cloud_6 rfl (lv_at hl 3 rfl) ?_
  refine xfT (w1 := cW cy ad en x) (w2 := [((ob, .inl (cy 6, 1, .inr (.inl fo))) : Nat × va_E)]) (As := [.int p1, .int p2, .int p3]) (rest := [.int 0, .ref ob]) hx hb hml hown hw hK hN hA hl.1 hP hD hS hST k_527 k_528 k_529 k_76 k_530 (met_X9_cloud l hst0 D cy _ ad en g x p1 p2 p3 code r x' hF) (gY (x := x) (r := 0) (f := x 12 0) (by decide) rfl) rfl ⟨rfl, rfl⟩ (n := 3) (by decide +kernel) rfl ⟨Nat.le_of_ble_eq_true rfl, Nat.le_of_ble_eq_true rfl⟩ ⟨Nat.le_of_ble_eq_true rfl, Nat.le_of_ble_eq_true rfl⟩ (Nat.le_of_ble_eq_true rfl) rfl dL_cloud_7 (fun H locs q9 ce9 hne hP hD hS hce hcv hcl => ?_) (fun H locs h0 hP hD hS => ?_)
  · rw [show (if code = 0 then (vp_updL fo (0 : Int32).toNatClampNeg r.toInt64) else fo) = fo from if_neg hne] at hret
    rcases hcd with hc9 | hc9
    · exact absurd hc9 hne
    · rw [hc9] at hcl
      have hcl : s.vm.findClass "java/lang/UnsupportedOperationException" = some ce9.cls := hcl
      refine vx_catch (E := "java/lang/UnsupportedOperationException") (name := "java/lang/UnsupportedOperationException") hown [] ⟨0, 12, 15, 13⟩ [] (htb.trans rfl) (fun z hz => nomatch hz) (by decide) (by decide) (hw _ k_526) (va_Nw.use rfl (hN _ n_651)) hce hcv hcl ?_
      refine lv_astore (lv' := [(5, .ref q9), (0, .ref (ad 12 0)), (1, .int p1), (2, .int p2), (3, .int p3), (4, .ref ob)]) hx hb dL_cloud_15 hl (by decide) rfl (fun ls hl => ?_)
      refine lv_iconst (v := 1) hx hb dL_cloud_17 (by decide) ?_
      exact hret _ _ _ _ _ _ _ _ hP hD hS rfl hc9.symm (Nat.le_of_ble_eq_true rfl) (Nat.le_of_ble_eq_true rfl) dL_cloud_18
  · rw [show (if code = 0 then (vp_updL fo (0 : Int32).toNatClampNeg r.toInt64) else fo) = (vp_updL fo (0 : Int32).toNatClampNeg r.toInt64) from if_pos h0] at hret
    refine lv_i2l hx hb dL_cloud_10 rfl ?_
    have hg9 : (cW cy ad en x' ++ [((ob, .inl (cy 6, 1, .inr (.inl fo))) : Nat × va_E)])[(cW cy ad en x').length]? = some ((ob, .inl (cy 6, 1, .inr (.inl fo))) : Nat × va_E) := gL
    refine va_last hx hb hK8 hP hD hS _ 6 hg9 rfl (vp_in_iff.mpr (by decide)) dL_cloud_11 (fun H locs hP hD hS => ?_)
    have e9 : (cW cy ad en x' ++ [((ob, .inl (cy 6, 1, .inr (.inl fo))) : Nat × va_E)]).set (cW cy ad en x').length ((ob, .inl (cy 6, 1, .inr (.inl (vp_updL fo (0 : Int32).toNatClampNeg r.toInt64)))) : Nat × va_E) = cW cy ad en x' ++ [((ob, .inl (cy 6, 1, .inr (.inl (vp_updL fo (0 : Int32).toNatClampNeg r.toInt64)))) : Nat × va_E)] := sL
    have hP := cvP hP e9
    have hD := cvD hD e9
    refine lv_goto (tgt := 19) hx hb dL_cloud_12 (by decide) ?_
    refine lv_iconst (v := 0) hx hb dL_cloud_19 (by decide) ?_
    exact hret _ _ _ _ _ _ _ _ hP hD hS rfl h0.symm (Nat.le_of_ble_eq_true rfl) (Nat.le_of_ble_eq_true rfl) dL_cloud_20
abbrev rm_L_vine : Room := { frames := 8, cells := 2, slots := 12, locals := 192 }
set_option maxHeartbeats 4000000 in
theorem met_L_vine (l : Launch) (hst0 : l.stackTraces = false) (D : va_G) (cy : Nat → ClassId) (sz : Nat) (ad : Nat → Nat → Nat) (en g : Nat → Nat) (x : Mem) (p1 : Int32) (p2 : Int32) (ob : Nat) (fo : Nat → Int64) (code : Int32) (r : Int32) (x' : Mem) (hcd : code = 0 ∨ code = 1) (hF : D_X9_vine x p1 p2 = some (code, r, x')) : MW l yL_vine cL_vine 5 [(0, 10, 13, 13)] rm_L_vine D cy en g (cW cy ad en x ++ [((ob, .inl (cy 6, 1, .inr (.inl fo))) : Nat × va_E)]) sz [.ref (ad 12 0), .int p1, .int p2, .ref ob] code (cW cy ad en x' ++ [((ob, .inl (cy 6, 1, .inr (.inl (if code = 0 then (vp_updL fo (0 : Int32).toNatClampNeg r.toInt64) else fo)))) : Nat × va_E)]) := by
  refine MW.of (by decide +kernel) (Nat.le_of_ble_eq_true rfl) ?_
  intro p e s m args below meth c A ls Q hx hb hml hown hw hK8 hN htb hST hP hD hA hS hl hret
  have hK := hKL hK8
  have hown : s.vm.findClass "CloudDeedsLaw" = some m.cls := hown
  have hl : lv_has ls 5 [(0, .ref (ad 12 0)), (1, .int p1), (2, .int p2), (3, .ref ob)] := hl
  refine lv_aload_n hx hb dL_vine_0 rfl (lv_at hl 3 rfl) ?_
  refine lv_iconst (v := 0) hx hb dL_vine_1 (by decide) ?_
  refine lv_aload_n hx hb dL_vine_2 rfl (lv_at hl 0 rfl) ?_
  refine lv_iload_n hx hb dL_vine_3 rfl (lv_at hl 1 rfl) ?_
  refine lv_iload_n hx hb dL_vine_4 rfl (lv_at hl 2 rfl) ?_
  refine xfT (w1 := cW cy ad en x) (w2 := [((ob, .inl (cy 6, 1, .inr (.inl fo))) : Nat × va_E)]) (As := [.int p1, .int p2]) (rest := [.int 0, .ref ob]) hx hb hml hown hw hK hN hA hl.1 hP hD hS hST k_724 k_725 k_726 k_76 k_727 (met_X9_vine l hst0 D cy _ ad en g x p1 p2 code r x' hF) (gY (x := x) (r := 0) (f := x 12 0) (by decide) rfl) rfl ⟨rfl, rfl⟩ (n := 2) (by decide +kernel) rfl ⟨Nat.le_of_ble_eq_true rfl, Nat.le_of_ble_eq_true rfl⟩ ⟨Nat.le_of_ble_eq_true rfl, Nat.le_of_ble_eq_true rfl⟩ (Nat.le_of_ble_eq_true rfl) rfl dL_vine_5 (fun H locs q9 ce9 hne hP hD hS hce hcv hcl => ?_) (fun H locs h0 hP hD hS => ?_)
  · rw [show (if code = 0 then (vp_updL fo (0 : Int32).toNatClampNeg r.toInt64) else fo) = fo from if_neg hne] at hret
    rcases hcd with hc9 | hc9
    · exact absurd hc9 hne
    · rw [hc9] at hcl
      have hcl : s.vm.findClass "java/lang/UnsupportedOperationException" = some ce9.cls := hcl
      refine vx_catch (E := "java/lang/UnsupportedOperationException") (name := "java/lang/UnsupportedOperationException") hown [] ⟨0, 10, 13, 13⟩ [] (htb.trans rfl) (fun z hz => nomatch hz) (by decide) (by decide) (hw _ k_526) (va_Nw.use rfl (hN _ n_651)) hce hcv hcl ?_
      refine lv_astore (lv' := [(4, .ref q9), (0, .ref (ad 12 0)), (1, .int p1), (2, .int p2), (3, .ref ob)]) hx hb dL_vine_13 hl (by decide) rfl (fun ls hl => ?_)
      refine lv_iconst (v := 1) hx hb dL_vine_15 (by decide) ?_
      exact hret _ _ _ _ _ _ _ _ hP hD hS rfl hc9.symm (Nat.le_of_ble_eq_true rfl) (Nat.le_of_ble_eq_true rfl) dL_vine_16
  · rw [show (if code = 0 then (vp_updL fo (0 : Int32).toNatClampNeg r.toInt64) else fo) = (vp_updL fo (0 : Int32).toNatClampNeg r.toInt64) from if_pos h0] at hret
    refine lv_i2l hx hb dL_vine_8 rfl ?_
    have hg9 : (cW cy ad en x' ++ [((ob, .inl (cy 6, 1, .inr (.inl fo))) : Nat × va_E)])[(cW cy ad en x').length]? = some ((ob, .inl (cy 6, 1, .inr (.inl fo))) : Nat × va_E) := gL
    refine va_last hx hb hK8 hP hD hS _ 6 hg9 rfl (vp_in_iff.mpr (by decide)) dL_vine_9 (fun H locs hP hD hS => ?_)
    have e9 : (cW cy ad en x' ++ [((ob, .inl (cy 6, 1, .inr (.inl fo))) : Nat × va_E)]).set (cW cy ad en x').length ((ob, .inl (cy 6, 1, .inr (.inl (vp_updL fo (0 : Int32).toNatClampNeg r.toInt64)))) : Nat × va_E) = cW cy ad en x' ++ [((ob, .inl (cy 6, 1, .inr (.inl (vp_updL fo (0 : Int32).toNatClampNeg r.toInt64)))) : Nat × va_E)] := sL
    have hP := cvP hP e9
    have hD := cvD hD e9
    refine lv_goto (tgt := 17) hx hb dL_vine_10 (by decide) ?_
    refine lv_iconst (v := 0) hx hb dL_vine_17 (by decide) ?_
    exact hret _ _ _ _ _ _ _ _ hP hD hS rfl h0.symm (Nat.le_of_ble_eq_true rfl) (Nat.le_of_ble_eq_true rfl) dL_vine_18
abbrev rm_L_title : Room := { frames := 8, cells := 2, slots := 12, locals := 192 }
set_option maxHeartbeats 4000000 in
theorem met_L_title (l : Launch) (hst0 : l.stackTraces = false) (D : va_G) (cy : Nat → ClassId) (sz : Nat) (ad : Nat → Nat → Nat) (en g : Nat → Nat) (x : Mem) (p1 : Int32) (p2 : Int32) (ob : Nat) (fo : Nat → Int64) (code : Int32) (r : Int32) (x' : Mem) (hcd : code = 0 ∨ code = 1) (hF : D_X9_title x p1 p2 = some (code, r, x')) : MW l yL_title cL_title 5 [(0, 10, 13, 13)] rm_L_title D cy en g (cW cy ad en x ++ [((ob, .inl (cy 6, 1, .inr (.inl fo))) : Nat × va_E)]) sz [.ref (ad 12 0), .int p1, .int p2, .ref ob] code (cW cy ad en x' ++ [((ob, .inl (cy 6, 1, .inr (.inl (if code = 0 then (vp_updL fo (0 : Int32).toNatClampNeg r.toInt64) else fo)))) : Nat × va_E)]) := by
  refine MW.of (by decide +kernel) (Nat.le_of_ble_eq_true rfl) ?_
  intro p e s m args below meth c A ls Q hx hb hml hown hw hK8 hN htb hST hP hD hA hS hl hret
  have hK := hKL hK8
  have hown : s.vm.findClass "CloudDeedsLaw" = some m.cls := hown
  have hl : lv_has ls 5 [(0, .ref (ad 12 0)), (1, .int p1), (2, .int p2), (3, .ref ob)] := hl
  refine lv_aload_n hx hb dL_title_0 rfl (lv_at hl 3 rfl) ?_
  refine lv_iconst (v := 0) hx hb dL_title_1 (by decide) ?_
  refine lv_aload_n hx hb dL_title_2 rfl (lv_at hl 0 rfl) ?_
  refine lv_iload_n hx hb dL_title_3 rfl (lv_at hl 1 rfl) ?_
  refine lv_iload_n hx hb dL_title_4 rfl (lv_at hl 2 rfl) ?_
  refine xfT (w1 := cW cy ad en x) (w2 := [((ob, .inl (cy 6, 1, .inr (.inl fo))) : Nat × va_E)]) (As := [.int p1, .int p2]) (rest := [.int 0, .ref ob]) hx hb hml hown hw hK hN hA hl.1 hP hD hS hST k_733 k_734 k_735 k_76 k_736 (met_X9_title l hst0 D cy _ ad en g x p1 p2 code r x' hF) (gY (x := x) (r := 0) (f := x 12 0) (by decide) rfl) rfl ⟨rfl, rfl⟩ (n := 2) (by decide +kernel) rfl ⟨Nat.le_of_ble_eq_true rfl, Nat.le_of_ble_eq_true rfl⟩ ⟨Nat.le_of_ble_eq_true rfl, Nat.le_of_ble_eq_true rfl⟩ (Nat.le_of_ble_eq_true rfl) rfl dL_title_5 (fun H locs q9 ce9 hne hP hD hS hce hcv hcl => ?_) (fun H locs h0 hP hD hS => ?_)
  · rw [show (if code = 0 then (vp_updL fo (0 : Int32).toNatClampNeg r.toInt64) else fo) = fo from if_neg hne] at hret
    rcases hcd with hc9 | hc9
    · exact absurd hc9 hne
    · rw [hc9] at hcl
      have hcl : s.vm.findClass "java/lang/UnsupportedOperationException" = some ce9.cls := hcl
      refine vx_catch (E := "java/lang/UnsupportedOperationException") (name := "java/lang/UnsupportedOperationException") hown [] ⟨0, 10, 13, 13⟩ [] (htb.trans rfl) (fun z hz => nomatch hz) (by decide) (by decide) (hw _ k_526) (va_Nw.use rfl (hN _ n_651)) hce hcv hcl ?_
      refine lv_astore (lv' := [(4, .ref q9), (0, .ref (ad 12 0)), (1, .int p1), (2, .int p2), (3, .ref ob)]) hx hb dL_title_13 hl (by decide) rfl (fun ls hl => ?_)
      refine lv_iconst (v := 1) hx hb dL_title_15 (by decide) ?_
      exact hret _ _ _ _ _ _ _ _ hP hD hS rfl hc9.symm (Nat.le_of_ble_eq_true rfl) (Nat.le_of_ble_eq_true rfl) dL_title_16
  · rw [show (if code = 0 then (vp_updL fo (0 : Int32).toNatClampNeg r.toInt64) else fo) = (vp_updL fo (0 : Int32).toNatClampNeg r.toInt64) from if_pos h0] at hret
    refine lv_i2l hx hb dL_title_8 rfl ?_
    have hg9 : (cW cy ad en x' ++ [((ob, .inl (cy 6, 1, .inr (.inl fo))) : Nat × va_E)])[(cW cy ad en x').length]? = some ((ob, .inl (cy 6, 1, .inr (.inl fo))) : Nat × va_E) := gL
    refine va_last hx hb hK8 hP hD hS _ 6 hg9 rfl (vp_in_iff.mpr (by decide)) dL_title_9 (fun H locs hP hD hS => ?_)
    have e9 : (cW cy ad en x' ++ [((ob, .inl (cy 6, 1, .inr (.inl fo))) : Nat × va_E)]).set (cW cy ad en x').length ((ob, .inl (cy 6, 1, .inr (.inl (vp_updL fo (0 : Int32).toNatClampNeg r.toInt64)))) : Nat × va_E) = cW cy ad en x' ++ [((ob, .inl (cy 6, 1, .inr (.inl (vp_updL fo (0 : Int32).toNatClampNeg r.toInt64)))) : Nat × va_E)] := sL
    have hP := cvP hP e9
    have hD := cvD hD e9
    refine lv_goto (tgt := 17) hx hb dL_title_10 (by decide) ?_
    refine lv_iconst (v := 0) hx hb dL_title_17 (by decide) ?_
    exact hret _ _ _ _ _ _ _ _ hP hD hS rfl h0.symm (Nat.le_of_ble_eq_true rfl) (Nat.le_of_ble_eq_true rfl) dL_title_18
abbrev rm_L_sell : Room := { frames := 8, cells := 2, slots := 12, locals := 193 }
set_option maxHeartbeats 4000000 in
theorem met_L_sell (l : Launch) (hst0 : l.stackTraces = false) (D : va_G) (cy : Nat → ClassId) (sz : Nat) (ad : Nat → Nat → Nat) (en g : Nat → Nat) (x : Mem) (p1 : Int32) (p2 : Int32) (p3 : Int32) (ob : Nat) (fo : Nat → Int64) (code : Int32) (r : Int32) (x' : Mem) (hcd : code = 0 ∨ code = 1) (hF : D_X9_sell x p1 p2 p3 = some (code, r, x')) : MW l yL_sell cL_sell 6 [(0, 12, 15, 13)] rm_L_sell D cy en g (cW cy ad en x ++ [((ob, .inl (cy 6, 1, .inr (.inl fo))) : Nat × va_E)]) sz [.ref (ad 12 0), .int p1, .int p2, .int p3, .ref ob] code (cW cy ad en x' ++ [((ob, .inl (cy 6, 1, .inr (.inl (if code = 0 then (vp_updL fo (0 : Int32).toNatClampNeg r.toInt64) else fo)))) : Nat × va_E)]) := by
  refine MW.of (by decide +kernel) (Nat.le_of_ble_eq_true rfl) ?_
  intro p e s m args below meth c A ls Q hx hb hml hown hw hK8 hN htb hST hP hD hA hS hl hret
  have hK := hKL hK8
  have hown : s.vm.findClass "CloudDeedsLaw" = some m.cls := hown
  have hl : lv_has ls 6 [(0, .ref (ad 12 0)), (1, .int p1), (2, .int p2), (3, .int p3), (4, .ref ob)] := hl
  refine lv_aload hx hb dL_sell_0 (lv_at hl 4 rfl) ?_
  refine lv_iconst (v := 0) hx hb dL_sell_2 (by decide) ?_
  refine lv_aload_n hx hb dL_sell_3 rfl (lv_at hl 0 rfl) ?_
  refine lv_iload_n hx hb dL_sell_4 rfl (lv_at hl 1 rfl) ?_
  refine lv_iload_n hx hb dL_sell_5 rfl (lv_at hl 2 rfl) ?_
  refine lv_iload_n hx hb dL_sell_6 rfl (lv_at hl 3 rfl) ?_
  refine xfT (w1 := cW cy ad en x) (w2 := [((ob, .inl (cy 6, 1, .inr (.inl fo))) : Nat × va_E)]) (As := [.int p1, .int p2, .int p3]) (rest := [.int 0, .ref ob]) hx hb hml hown hw hK hN hA hl.1 hP hD hS hST k_742 k_743 k_744 k_76 k_745 (met_X9_sell l hst0 D cy _ ad en g x p1 p2 p3 code r x' hF) (gY (x := x) (r := 0) (f := x 12 0) (by decide) rfl) rfl ⟨rfl, rfl⟩ (n := 3) (by decide +kernel) rfl ⟨Nat.le_of_ble_eq_true rfl, Nat.le_of_ble_eq_true rfl⟩ ⟨Nat.le_of_ble_eq_true rfl, Nat.le_of_ble_eq_true rfl⟩ (Nat.le_of_ble_eq_true rfl) rfl dL_sell_7 (fun H locs q9 ce9 hne hP hD hS hce hcv hcl => ?_) (fun H locs h0 hP hD hS => ?_)
  · rw [show (if code = 0 then (vp_updL fo (0 : Int32).toNatClampNeg r.toInt64) else fo) = fo from if_neg hne] at hret
    rcases hcd with hc9 | hc9
    · exact absurd hc9 hne
    · rw [hc9] at hcl
      have hcl : s.vm.findClass "java/lang/UnsupportedOperationException" = some ce9.cls := hcl
      refine vx_catch (E := "java/lang/UnsupportedOperationException") (name := "java/lang/UnsupportedOperationException") hown [] ⟨0, 12, 15, 13⟩ [] (htb.trans rfl) (fun z hz => nomatch hz) (by decide) (by decide) (hw _ k_526) (va_Nw.use rfl (hN _ n_651)) hce hcv hcl ?_
      refine lv_astore (lv' := [(5, .ref q9), (0, .ref (ad 12 0)), (1, .int p1), (2, .int p2), (3, .int p3), (4, .ref ob)]) hx hb dL_sell_15 hl (by decide) rfl (fun ls hl => ?_)
      refine lv_iconst (v := 1) hx hb dL_sell_17 (by decide) ?_
      exact hret _ _ _ _ _ _ _ _ hP hD hS rfl hc9.symm (Nat.le_of_ble_eq_true rfl) (Nat.le_of_ble_eq_true rfl) dL_sell_18
  · rw [show (if code = 0 then (vp_updL fo (0 : Int32).toNatClampNeg r.toInt64) else fo) = (vp_updL fo (0 : Int32).toNatClampNeg r.toInt64) from if_pos h0] at hret
    refine lv_i2l hx hb dL_sell_10 rfl ?_
    have hg9 : (cW cy ad en x' ++ [((ob, .inl (cy 6, 1, .inr (.inl fo))) : Nat × va_E)])[(cW cy ad en x').length]? = some ((ob, .inl (cy 6, 1, .inr (.inl fo))) : Nat × va_E) := gL
    refine va_last hx hb hK8 hP hD hS _ 6 hg9 rfl (vp_in_iff.mpr (by decide)) dL_sell_11 (fun H locs hP hD hS => ?_)
    have e9 : (cW cy ad en x' ++ [((ob, .inl (cy 6, 1, .inr (.inl fo))) : Nat × va_E)]).set (cW cy ad en x').length ((ob, .inl (cy 6, 1, .inr (.inl (vp_updL fo (0 : Int32).toNatClampNeg r.toInt64)))) : Nat × va_E) = cW cy ad en x' ++ [((ob, .inl (cy 6, 1, .inr (.inl (vp_updL fo (0 : Int32).toNatClampNeg r.toInt64)))) : Nat × va_E)] := sL
    have hP := cvP hP e9
    have hD := cvD hD e9
    refine lv_goto (tgt := 19) hx hb dL_sell_12 (by decide) ?_
    refine lv_iconst (v := 0) hx hb dL_sell_19 (by decide) ?_
    exact hret _ _ _ _ _ _ _ _ hP hD hS rfl h0.symm (Nat.le_of_ble_eq_true rfl) (Nat.le_of_ble_eq_true rfl) dL_sell_20
abbrev rm_L_pledge : Room := { frames := 8, cells := 2, slots := 12, locals := 192 }
set_option maxHeartbeats 4000000 in
theorem met_L_pledge (l : Launch) (hst0 : l.stackTraces = false) (D : va_G) (cy : Nat → ClassId) (sz : Nat) (ad : Nat → Nat → Nat) (en g : Nat → Nat) (x : Mem) (p1 : Int32) (p2 : Int32) (ob : Nat) (fo : Nat → Int64) (code : Int32) (r : Int32) (x' : Mem) (hcd : code = 0 ∨ code = 1) (hF : D_X9_pledge x p1 p2 = some (code, r, x')) : MW l yL_pledge cL_pledge 5 [(0, 10, 13, 13)] rm_L_pledge D cy en g (cW cy ad en x ++ [((ob, .inl (cy 6, 1, .inr (.inl fo))) : Nat × va_E)]) sz [.ref (ad 12 0), .int p1, .int p2, .ref ob] code (cW cy ad en x' ++ [((ob, .inl (cy 6, 1, .inr (.inl (if code = 0 then (vp_updL fo (0 : Int32).toNatClampNeg r.toInt64) else fo)))) : Nat × va_E)]) := by
  refine MW.of (by decide +kernel) (Nat.le_of_ble_eq_true rfl) ?_
  intro p e s m args below meth c A ls Q hx hb hml hown hw hK8 hN htb hST hP hD hA hS hl hret
  have hK := hKL hK8
  have hown : s.vm.findClass "CloudDeedsLaw" = some m.cls := hown
  have hl : lv_has ls 5 [(0, .ref (ad 12 0)), (1, .int p1), (2, .int p2), (3, .ref ob)] := hl
  refine lv_aload_n hx hb dL_pledge_0 rfl (lv_at hl 3 rfl) ?_
  refine lv_iconst (v := 0) hx hb dL_pledge_1 (by decide) ?_
  refine lv_aload_n hx hb dL_pledge_2 rfl (lv_at hl 0 rfl) ?_
  refine lv_iload_n hx hb dL_pledge_3 rfl (lv_at hl 1 rfl) ?_
  refine lv_iload_n hx hb dL_pledge_4 rfl (lv_at hl 2 rfl) ?_
  refine xfT (w1 := cW cy ad en x) (w2 := [((ob, .inl (cy 6, 1, .inr (.inl fo))) : Nat × va_E)]) (As := [.int p1, .int p2]) (rest := [.int 0, .ref ob]) hx hb hml hown hw hK hN hA hl.1 hP hD hS hST k_751 k_752 k_753 k_76 k_754 (met_X9_pledge l hst0 D cy _ ad en g x p1 p2 code r x' hF) (gY (x := x) (r := 0) (f := x 12 0) (by decide) rfl) rfl ⟨rfl, rfl⟩ (n := 2) (by decide +kernel) rfl ⟨Nat.le_of_ble_eq_true rfl, Nat.le_of_ble_eq_true rfl⟩ ⟨Nat.le_of_ble_eq_true rfl, Nat.le_of_ble_eq_true rfl⟩ (Nat.le_of_ble_eq_true rfl) rfl dL_pledge_5 (fun H locs q9 ce9 hne hP hD hS hce hcv hcl => ?_) (fun H locs h0 hP hD hS => ?_)
  · rw [show (if code = 0 then (vp_updL fo (0 : Int32).toNatClampNeg r.toInt64) else fo) = fo from if_neg hne] at hret
    rcases hcd with hc9 | hc9
    · exact absurd hc9 hne
    · rw [hc9] at hcl
      have hcl : s.vm.findClass "java/lang/UnsupportedOperationException" = some ce9.cls := hcl
      refine vx_catch (E := "java/lang/UnsupportedOperationException") (name := "java/lang/UnsupportedOperationException") hown [] ⟨0, 10, 13, 13⟩ [] (htb.trans rfl) (fun z hz => nomatch hz) (by decide) (by decide) (hw _ k_526) (va_Nw.use rfl (hN _ n_651)) hce hcv hcl ?_
      refine lv_astore (lv' := [(4, .ref q9), (0, .ref (ad 12 0)), (1, .int p1), (2, .int p2), (3, .ref ob)]) hx hb dL_pledge_13 hl (by decide) rfl (fun ls hl => ?_)
      refine lv_iconst (v := 1) hx hb dL_pledge_15 (by decide) ?_
      exact hret _ _ _ _ _ _ _ _ hP hD hS rfl hc9.symm (Nat.le_of_ble_eq_true rfl) (Nat.le_of_ble_eq_true rfl) dL_pledge_16
  · rw [show (if code = 0 then (vp_updL fo (0 : Int32).toNatClampNeg r.toInt64) else fo) = (vp_updL fo (0 : Int32).toNatClampNeg r.toInt64) from if_pos h0] at hret
    refine lv_i2l hx hb dL_pledge_8 rfl ?_
    have hg9 : (cW cy ad en x' ++ [((ob, .inl (cy 6, 1, .inr (.inl fo))) : Nat × va_E)])[(cW cy ad en x').length]? = some ((ob, .inl (cy 6, 1, .inr (.inl fo))) : Nat × va_E) := gL
    refine va_last hx hb hK8 hP hD hS _ 6 hg9 rfl (vp_in_iff.mpr (by decide)) dL_pledge_9 (fun H locs hP hD hS => ?_)
    have e9 : (cW cy ad en x' ++ [((ob, .inl (cy 6, 1, .inr (.inl fo))) : Nat × va_E)]).set (cW cy ad en x').length ((ob, .inl (cy 6, 1, .inr (.inl (vp_updL fo (0 : Int32).toNatClampNeg r.toInt64)))) : Nat × va_E) = cW cy ad en x' ++ [((ob, .inl (cy 6, 1, .inr (.inl (vp_updL fo (0 : Int32).toNatClampNeg r.toInt64)))) : Nat × va_E)] := sL
    have hP := cvP hP e9
    have hD := cvD hD e9
    refine lv_goto (tgt := 17) hx hb dL_pledge_10 (by decide) ?_
    refine lv_iconst (v := 0) hx hb dL_pledge_17 (by decide) ?_
    exact hret _ _ _ _ _ _ _ _ hP hD hS rfl h0.symm (Nat.le_of_ble_eq_true rfl) (Nat.le_of_ble_eq_true rfl) dL_pledge_18
abbrev rm_L_redeem : Room := { frames := 8, cells := 2, slots := 12, locals := 191 }
set_option maxHeartbeats 4000000 in
theorem met_L_redeem (l : Launch) (hst0 : l.stackTraces = false) (D : va_G) (cy : Nat → ClassId) (sz : Nat) (ad : Nat → Nat → Nat) (en g : Nat → Nat) (x : Mem) (p1 : Int32) (ob : Nat) (fo : Nat → Int64) (code : Int32) (r : Int32) (x' : Mem) (hcd : code = 0 ∨ code = 1) (hF : D_X9_redeem x p1 = some (code, r, x')) : MW l yL_redeem cL_redeem 4 [(0, 9, 12, 13)] rm_L_redeem D cy en g (cW cy ad en x ++ [((ob, .inl (cy 6, 1, .inr (.inl fo))) : Nat × va_E)]) sz [.ref (ad 12 0), .int p1, .ref ob] code (cW cy ad en x' ++ [((ob, .inl (cy 6, 1, .inr (.inl (if code = 0 then (vp_updL fo (0 : Int32).toNatClampNeg r.toInt64) else fo)))) : Nat × va_E)]) := by
  refine MW.of (by decide +kernel) (Nat.le_of_ble_eq_true rfl) ?_
  intro p e s m args below meth c A ls Q hx hb hml hown hw hK8 hN htb hST hP hD hA hS hl hret
  have hK := hKL hK8
  have hown : s.vm.findClass "CloudDeedsLaw" = some m.cls := hown
  have hl : lv_has ls 4 [(0, .ref (ad 12 0)), (1, .int p1), (2, .ref ob)] := hl
  refine lv_aload_n hx hb dL_redeem_0 rfl (lv_at hl 2 rfl) ?_
  refine lv_iconst (v := 0) hx hb dL_redeem_1 (by decide) ?_
  refine lv_aload_n hx hb dL_redeem_2 rfl (lv_at hl 0 rfl) ?_
  refine lv_iload_n hx hb dL_redeem_3 rfl (lv_at hl 1 rfl) ?_
  refine xfT (w1 := cW cy ad en x) (w2 := [((ob, .inl (cy 6, 1, .inr (.inl fo))) : Nat × va_E)]) (As := [.int p1]) (rest := [.int 0, .ref ob]) hx hb hml hown hw hK hN hA hl.1 hP hD hS hST k_760 k_761 k_762 k_76 k_763 (met_X9_redeem l hst0 D cy _ ad en g x p1 code r x' hF) (gY (x := x) (r := 0) (f := x 12 0) (by decide) rfl) rfl ⟨rfl, rfl⟩ (n := 1) (by decide +kernel) rfl ⟨Nat.le_of_ble_eq_true rfl, Nat.le_of_ble_eq_true rfl⟩ ⟨Nat.le_of_ble_eq_true rfl, Nat.le_of_ble_eq_true rfl⟩ (Nat.le_of_ble_eq_true rfl) rfl dL_redeem_4 (fun H locs q9 ce9 hne hP hD hS hce hcv hcl => ?_) (fun H locs h0 hP hD hS => ?_)
  · rw [show (if code = 0 then (vp_updL fo (0 : Int32).toNatClampNeg r.toInt64) else fo) = fo from if_neg hne] at hret
    rcases hcd with hc9 | hc9
    · exact absurd hc9 hne
    · rw [hc9] at hcl
      have hcl : s.vm.findClass "java/lang/UnsupportedOperationException" = some ce9.cls := hcl
      refine vx_catch (E := "java/lang/UnsupportedOperationException") (name := "java/lang/UnsupportedOperationException") hown [] ⟨0, 9, 12, 13⟩ [] (htb.trans rfl) (fun z hz => nomatch hz) (by decide) (by decide) (hw _ k_526) (va_Nw.use rfl (hN _ n_651)) hce hcv hcl ?_
      refine lv_astore_n (lv' := [(3, .ref q9), (0, .ref (ad 12 0)), (1, .int p1), (2, .ref ob)]) hx hb dL_redeem_12 rfl hl (by decide) rfl (fun ls hl => ?_)
      refine lv_iconst (v := 1) hx hb dL_redeem_13 (by decide) ?_
      exact hret _ _ _ _ _ _ _ _ hP hD hS rfl hc9.symm (Nat.le_of_ble_eq_true rfl) (Nat.le_of_ble_eq_true rfl) dL_redeem_14
  · rw [show (if code = 0 then (vp_updL fo (0 : Int32).toNatClampNeg r.toInt64) else fo) = (vp_updL fo (0 : Int32).toNatClampNeg r.toInt64) from if_pos h0] at hret
    refine lv_i2l hx hb dL_redeem_7 rfl ?_
    have hg9 : (cW cy ad en x' ++ [((ob, .inl (cy 6, 1, .inr (.inl fo))) : Nat × va_E)])[(cW cy ad en x').length]? = some ((ob, .inl (cy 6, 1, .inr (.inl fo))) : Nat × va_E) := gL
    refine va_last hx hb hK8 hP hD hS _ 6 hg9 rfl (vp_in_iff.mpr (by decide)) dL_redeem_8 (fun H locs hP hD hS => ?_)
    have e9 : (cW cy ad en x' ++ [((ob, .inl (cy 6, 1, .inr (.inl fo))) : Nat × va_E)]).set (cW cy ad en x').length ((ob, .inl (cy 6, 1, .inr (.inl (vp_updL fo (0 : Int32).toNatClampNeg r.toInt64)))) : Nat × va_E) = cW cy ad en x' ++ [((ob, .inl (cy 6, 1, .inr (.inl (vp_updL fo (0 : Int32).toNatClampNeg r.toInt64)))) : Nat × va_E)] := sL
    have hP := cvP hP e9
    have hD := cvD hD e9
    refine lv_goto (tgt := 15) hx hb dL_redeem_9 (by decide) ?_
    refine lv_iconst (v := 0) hx hb dL_redeem_15 (by decide) ?_
    exact hret _ _ _ _ _ _ _ _ hP hD hS rfl h0.symm (Nat.le_of_ble_eq_true rfl) (Nat.le_of_ble_eq_true rfl) dL_redeem_16
abbrev rm_L_wind : Room := { frames := 8, cells := 2, slots := 12, locals := 191 }
set_option maxHeartbeats 4000000 in
theorem met_L_wind (l : Launch) (hst0 : l.stackTraces = false) (D : va_G) (cy : Nat → ClassId) (sz : Nat) (ad : Nat → Nat → Nat) (en g : Nat → Nat) (x : Mem) (p1 : Int32) (ob : Nat) (fo : Nat → Int64) (code : Int32) (r : Int32) (x' : Mem) (hcd : code = 0 ∨ code = 1) (hF : D_X9_wind x p1 = some (code, r, x')) : MW l yL_wind cL_wind 4 [(0, 9, 12, 13)] rm_L_wind D cy en g (cW cy ad en x ++ [((ob, .inl (cy 6, 1, .inr (.inl fo))) : Nat × va_E)]) sz [.ref (ad 12 0), .int p1, .ref ob] code (cW cy ad en x' ++ [((ob, .inl (cy 6, 1, .inr (.inl (if code = 0 then (vp_updL fo (0 : Int32).toNatClampNeg r.toInt64) else fo)))) : Nat × va_E)]) := by
  refine MW.of (by decide +kernel) (Nat.le_of_ble_eq_true rfl) ?_
  intro p e s m args below meth c A ls Q hx hb hml hown hw hK8 hN htb hST hP hD hA hS hl hret
  have hK := hKL hK8
  have hown : s.vm.findClass "CloudDeedsLaw" = some m.cls := hown
  have hl : lv_has ls 4 [(0, .ref (ad 12 0)), (1, .int p1), (2, .ref ob)] := hl
  refine lv_aload_n hx hb dL_wind_0 rfl (lv_at hl 2 rfl) ?_
  refine lv_iconst (v := 0) hx hb dL_wind_1 (by decide) ?_
  refine lv_aload_n hx hb dL_wind_2 rfl (lv_at hl 0 rfl) ?_
  refine lv_iload_n hx hb dL_wind_3 rfl (lv_at hl 1 rfl) ?_
  refine xfT (w1 := cW cy ad en x) (w2 := [((ob, .inl (cy 6, 1, .inr (.inl fo))) : Nat × va_E)]) (As := [.int p1]) (rest := [.int 0, .ref ob]) hx hb hml hown hw hK hN hA hl.1 hP hD hS hST k_769 k_770 k_771 k_76 k_772 (met_X9_wind l hst0 D cy _ ad en g x p1 code r x' hF) (gY (x := x) (r := 0) (f := x 12 0) (by decide) rfl) rfl ⟨rfl, rfl⟩ (n := 1) (by decide +kernel) rfl ⟨Nat.le_of_ble_eq_true rfl, Nat.le_of_ble_eq_true rfl⟩ ⟨Nat.le_of_ble_eq_true rfl, Nat.le_of_ble_eq_true rfl⟩ (Nat.le_of_ble_eq_true rfl) rfl dL_wind_4 (fun H locs q9 ce9 hne hP hD hS hce hcv hcl => ?_) (fun H locs h0 hP hD hS => ?_)
  · rw [show (if code = 0 then (vp_updL fo (0 : Int32).toNatClampNeg r.toInt64) else fo) = fo from if_neg hne] at hret
    rcases hcd with hc9 | hc9
    · exact absurd hc9 hne
    · rw [hc9] at hcl
      have hcl : s.vm.findClass "java/lang/UnsupportedOperationException" = some ce9.cls := hcl
      refine vx_catch (E := "java/lang/UnsupportedOperationException") (name := "java/lang/UnsupportedOperationException") hown [] ⟨0, 9, 12, 13⟩ [] (htb.trans rfl) (fun z hz => nomatch hz) (by decide) (by decide) (hw _ k_526) (va_Nw.use rfl (hN _ n_651)) hce hcv hcl ?_
      refine lv_astore_n (lv' := [(3, .ref q9), (0, .ref (ad 12 0)), (1, .int p1), (2, .ref ob)]) hx hb dL_wind_12 rfl hl (by decide) rfl (fun ls hl => ?_)
      refine lv_iconst (v := 1) hx hb dL_wind_13 (by decide) ?_
      exact hret _ _ _ _ _ _ _ _ hP hD hS rfl hc9.symm (Nat.le_of_ble_eq_true rfl) (Nat.le_of_ble_eq_true rfl) dL_wind_14
  · rw [show (if code = 0 then (vp_updL fo (0 : Int32).toNatClampNeg r.toInt64) else fo) = (vp_updL fo (0 : Int32).toNatClampNeg r.toInt64) from if_pos h0] at hret
    refine lv_i2l hx hb dL_wind_7 rfl ?_
    have hg9 : (cW cy ad en x' ++ [((ob, .inl (cy 6, 1, .inr (.inl fo))) : Nat × va_E)])[(cW cy ad en x').length]? = some ((ob, .inl (cy 6, 1, .inr (.inl fo))) : Nat × va_E) := gL
    refine va_last hx hb hK8 hP hD hS _ 6 hg9 rfl (vp_in_iff.mpr (by decide)) dL_wind_8 (fun H locs hP hD hS => ?_)
    have e9 : (cW cy ad en x' ++ [((ob, .inl (cy 6, 1, .inr (.inl fo))) : Nat × va_E)]).set (cW cy ad en x').length ((ob, .inl (cy 6, 1, .inr (.inl (vp_updL fo (0 : Int32).toNatClampNeg r.toInt64)))) : Nat × va_E) = cW cy ad en x' ++ [((ob, .inl (cy 6, 1, .inr (.inl (vp_updL fo (0 : Int32).toNatClampNeg r.toInt64)))) : Nat × va_E)] := sL
    have hP := cvP hP e9
    have hD := cvD hD e9
    refine lv_goto (tgt := 15) hx hb dL_wind_9 (by decide) ?_
    refine lv_iconst (v := 0) hx hb dL_wind_15 (by decide) ?_
    exact hret _ _ _ _ _ _ _ _ hP hD hS rfl h0.symm (Nat.le_of_ble_eq_true rfl) (Nat.le_of_ble_eq_true rfl) dL_wind_16
abbrev rm_L_hail : Room := { frames := 8, cells := 2, slots := 12, locals := 191 }
set_option maxHeartbeats 4000000 in
theorem met_L_hail (l : Launch) (hst0 : l.stackTraces = false) (D : va_G) (cy : Nat → ClassId) (sz : Nat) (ad : Nat → Nat → Nat) (en g : Nat → Nat) (x : Mem) (p1 : Int32) (ob : Nat) (fo : Nat → Int64) (code : Int32) (r : Int32) (x' : Mem) (hcd : code = 0 ∨ code = 1) (hF : D_X9_hail x p1 = some (code, r, x')) : MW l yL_hail cL_hail 4 [(0, 9, 12, 13)] rm_L_hail D cy en g (cW cy ad en x ++ [((ob, .inl (cy 6, 1, .inr (.inl fo))) : Nat × va_E)]) sz [.ref (ad 12 0), .int p1, .ref ob] code (cW cy ad en x' ++ [((ob, .inl (cy 6, 1, .inr (.inl (if code = 0 then (vp_updL fo (0 : Int32).toNatClampNeg r.toInt64) else fo)))) : Nat × va_E)]) := by
  refine MW.of (by decide +kernel) (Nat.le_of_ble_eq_true rfl) ?_
  intro p e s m args below meth c A ls Q hx hb hml hown hw hK8 hN htb hST hP hD hA hS hl hret
  have hK := hKL hK8
  have hown : s.vm.findClass "CloudDeedsLaw" = some m.cls := hown
  have hl : lv_has ls 4 [(0, .ref (ad 12 0)), (1, .int p1), (2, .ref ob)] := hl
  refine lv_aload_n hx hb dL_hail_0 rfl (lv_at hl 2 rfl) ?_
  refine lv_iconst (v := 0) hx hb dL_hail_1 (by decide) ?_
  refine lv_aload_n hx hb dL_hail_2 rfl (lv_at hl 0 rfl) ?_
  refine lv_iload_n hx hb dL_hail_3 rfl (lv_at hl 1 rfl) ?_
  refine xfT (w1 := cW cy ad en x) (w2 := [((ob, .inl (cy 6, 1, .inr (.inl fo))) : Nat × va_E)]) (As := [.int p1]) (rest := [.int 0, .ref ob]) hx hb hml hown hw hK hN hA hl.1 hP hD hS hST k_778 k_779 k_780 k_76 k_781 (met_X9_hail l hst0 D cy _ ad en g x p1 code r x' hF) (gY (x := x) (r := 0) (f := x 12 0) (by decide) rfl) rfl ⟨rfl, rfl⟩ (n := 1) (by decide +kernel) rfl ⟨Nat.le_of_ble_eq_true rfl, Nat.le_of_ble_eq_true rfl⟩ ⟨Nat.le_of_ble_eq_true rfl, Nat.le_of_ble_eq_true rfl⟩ (Nat.le_of_ble_eq_true rfl) rfl dL_hail_4 (fun H locs q9 ce9 hne hP hD hS hce hcv hcl => ?_) (fun H locs h0 hP hD hS => ?_)
  · rw [show (if code = 0 then (vp_updL fo (0 : Int32).toNatClampNeg r.toInt64) else fo) = fo from if_neg hne] at hret
    rcases hcd with hc9 | hc9
    · exact absurd hc9 hne
    · rw [hc9] at hcl
      have hcl : s.vm.findClass "java/lang/UnsupportedOperationException" = some ce9.cls := hcl
      refine vx_catch (E := "java/lang/UnsupportedOperationException") (name := "java/lang/UnsupportedOperationException") hown [] ⟨0, 9, 12, 13⟩ [] (htb.trans rfl) (fun z hz => nomatch hz) (by decide) (by decide) (hw _ k_526) (va_Nw.use rfl (hN _ n_651)) hce hcv hcl ?_
      refine lv_astore_n (lv' := [(3, .ref q9), (0, .ref (ad 12 0)), (1, .int p1), (2, .ref ob)]) hx hb dL_hail_12 rfl hl (by decide) rfl (fun ls hl => ?_)
      refine lv_iconst (v := 1) hx hb dL_hail_13 (by decide) ?_
      exact hret _ _ _ _ _ _ _ _ hP hD hS rfl hc9.symm (Nat.le_of_ble_eq_true rfl) (Nat.le_of_ble_eq_true rfl) dL_hail_14
  · rw [show (if code = 0 then (vp_updL fo (0 : Int32).toNatClampNeg r.toInt64) else fo) = (vp_updL fo (0 : Int32).toNatClampNeg r.toInt64) from if_pos h0] at hret
    refine lv_i2l hx hb dL_hail_7 rfl ?_
    have hg9 : (cW cy ad en x' ++ [((ob, .inl (cy 6, 1, .inr (.inl fo))) : Nat × va_E)])[(cW cy ad en x').length]? = some ((ob, .inl (cy 6, 1, .inr (.inl fo))) : Nat × va_E) := gL
    refine va_last hx hb hK8 hP hD hS _ 6 hg9 rfl (vp_in_iff.mpr (by decide)) dL_hail_8 (fun H locs hP hD hS => ?_)
    have e9 : (cW cy ad en x' ++ [((ob, .inl (cy 6, 1, .inr (.inl fo))) : Nat × va_E)]).set (cW cy ad en x').length ((ob, .inl (cy 6, 1, .inr (.inl (vp_updL fo (0 : Int32).toNatClampNeg r.toInt64)))) : Nat × va_E) = cW cy ad en x' ++ [((ob, .inl (cy 6, 1, .inr (.inl (vp_updL fo (0 : Int32).toNatClampNeg r.toInt64)))) : Nat × va_E)] := sL
    have hP := cvP hP e9
    have hD := cvD hD e9
    refine lv_goto (tgt := 15) hx hb dL_hail_9 (by decide) ?_
    refine lv_iconst (v := 0) hx hb dL_hail_15 (by decide) ?_
    exact hret _ _ _ _ _ _ _ _ hP hD hS rfl h0.symm (Nat.le_of_ble_eq_true rfl) (Nat.le_of_ble_eq_true rfl) dL_hail_16
abbrev rm_L_cloudOf : Room := { frames := 7, cells := 2, slots := 12, locals := 112 }
set_option maxHeartbeats 4000000 in
theorem met_L_cloudOf (l : Launch) (hst0 : l.stackTraces = false) (D : va_G) (cy : Nat → ClassId) (sz : Nat) (ad : Nat → Nat → Nat) (en g : Nat → Nat) (x : Mem) (p1 : Int32) (p2 : Int32) (ob : Nat) (fo : Nat → Int64) (code : Int32) (r : Int32) (hcd : code = 0 ∨ code = 1 ∨ code = 2) (hF : D_X9_cloudOf x p1 p2 = some (code, r)) : MW l yL_cloudOf cL_cloudOf 5 [(0, 10, 13, 41), (0, 10, 17, 43)] rm_L_cloudOf D cy en g (cW cy ad en x ++ [((ob, .inl (cy 6, 1, .inr (.inl fo))) : Nat × va_E)]) sz [.ref (ad 12 0), .int p1, .int p2, .ref ob] code (cW cy ad en x ++ [((ob, .inl (cy 6, 1, .inr (.inl (if code = 0 then (vp_updL fo (0 : Int32).toNatClampNeg r.toInt64) else fo)))) : Nat × va_E)]) := by
  refine MW.of (by decide +kernel) (Nat.le_of_ble_eq_true rfl) ?_
  intro p e s m args below meth c A ls Q hx hb hml hown hw hK8 hN htb hST hP hD hA hS hl hret
  have hK := hKL hK8
  have hown : s.vm.findClass "CloudDeedsLaw" = some m.cls := hown
  have hl : lv_has ls 5 [(0, .ref (ad 12 0)), (1, .int p1), (2, .int p2), (3, .ref ob)] := hl
  refine lv_aload_n hx hb dL_cloudOf_0 rfl (lv_at hl 3 rfl) ?_
  refine lv_iconst (v := 0) hx hb dL_cloudOf_1 (by decide) ?_
  refine lv_aload_n hx hb dL_cloudOf_2 rfl (lv_at hl 0 rfl) ?_
  refine lv_iload_n hx hb dL_cloudOf_3 rfl (lv_at hl 1 rfl) ?_
  refine lv_iload_n hx hb dL_cloudOf_4 rfl (lv_at hl 2 rfl) ?_
  refine xfT (w1 := cW cy ad en x) (w2 := [((ob, .inl (cy 6, 1, .inr (.inl fo))) : Nat × va_E)]) (As := [.int p1, .int p2]) (rest := [.int 0, .ref ob]) hx hb hml hown hw hK hN hA hl.1 hP hD hS hST k_812 k_813 k_814 k_76 k_815 (met_X9_cloudOf l hst0 D cy _ ad en g x p1 p2 code r hF) (gY (x := x) (r := 0) (f := x 12 0) (by decide) rfl) rfl ⟨rfl, rfl⟩ (n := 2) (by decide +kernel) rfl ⟨Nat.le_of_ble_eq_true rfl, Nat.le_of_ble_eq_true rfl⟩ ⟨Nat.le_of_ble_eq_true rfl, Nat.le_of_ble_eq_true rfl⟩ (Nat.le_of_ble_eq_true rfl) rfl dL_cloudOf_5 (fun H locs q9 ce9 hne hP hD hS hce hcv hcl => ?_) (fun H locs h0 hP hD hS => ?_)
  · rw [show (if code = 0 then (vp_updL fo (0 : Int32).toNatClampNeg r.toInt64) else fo) = fo from if_neg hne] at hret
    rcases hcd with hc9 | hc9 | hc9
    · exact absurd hc9 hne
    · rw [hc9] at hcl
      have hcl : s.vm.findClass "java/lang/IndexOutOfBoundsException" = some ce9.cls := hcl
      refine vx_catch (E := "java/lang/IndexOutOfBoundsException") (name := "java/lang/IndexOutOfBoundsException") hown [] ⟨0, 10, 13, 41⟩ [⟨0, 10, 17, 43⟩] (htb.trans rfl) (fun z hz => nomatch hz) (by decide) (by decide) (hw _ k_787) (va_Nw.use rfl (hN _ n_819)) hce hcv hcl ?_
      refine lv_astore (lv' := [(4, .ref q9), (0, .ref (ad 12 0)), (1, .int p1), (2, .int p2), (3, .ref ob)]) hx hb dL_cloudOf_13 hl (by decide) rfl (fun ls hl => ?_)
      refine lv_iconst (v := 1) hx hb dL_cloudOf_15 (by decide) ?_
      exact hret _ _ _ _ _ _ _ _ hP hD hS rfl hc9.symm (Nat.le_of_ble_eq_true rfl) (Nat.le_of_ble_eq_true rfl) dL_cloudOf_16
    · rw [hc9] at hcl
      have hcl : s.vm.findClass "java/lang/IllegalArgumentException" = some ce9.cls := hcl
      refine vx_catch (E := "java/lang/IllegalArgumentException") (name := "java/lang/IllegalArgumentException") hown [⟨0, 10, 13, 41⟩] ⟨0, 10, 17, 43⟩ [] (htb.trans rfl) (fun z hz => by
          cases List.mem_singleton.mp hz
          exact Or.inr ⟨by decide, "java/lang/IndexOutOfBoundsException", hw _ k_787, hST.2.2.2.2.2.2.2.2.2.2.2.1⟩) (by decide) (by decide) (hw _ k_811) (va_Nw.use rfl (hN _ n_833)) hce hcv hcl ?_
      refine lv_astore (lv' := [(4, .ref q9), (0, .ref (ad 12 0)), (1, .int p1), (2, .int p2), (3, .ref ob)]) hx hb dL_cloudOf_17 hl (by decide) rfl (fun ls hl => ?_)
      refine lv_iconst (v := 2) hx hb dL_cloudOf_19 (by decide) ?_
      exact hret _ _ _ _ _ _ _ _ hP hD hS rfl hc9.symm (Nat.le_of_ble_eq_true rfl) (Nat.le_of_ble_eq_true rfl) dL_cloudOf_20
  · rw [show (if code = 0 then (vp_updL fo (0 : Int32).toNatClampNeg r.toInt64) else fo) = (vp_updL fo (0 : Int32).toNatClampNeg r.toInt64) from if_pos h0] at hret
    refine lv_i2l hx hb dL_cloudOf_8 rfl ?_
    have hg9 : (cW cy ad en x ++ [((ob, .inl (cy 6, 1, .inr (.inl fo))) : Nat × va_E)])[(cW cy ad en x).length]? = some ((ob, .inl (cy 6, 1, .inr (.inl fo))) : Nat × va_E) := gL
    refine va_last hx hb hK8 hP hD hS _ 6 hg9 rfl (vp_in_iff.mpr (by decide)) dL_cloudOf_9 (fun H locs hP hD hS => ?_)
    have e9 : (cW cy ad en x ++ [((ob, .inl (cy 6, 1, .inr (.inl fo))) : Nat × va_E)]).set (cW cy ad en x).length ((ob, .inl (cy 6, 1, .inr (.inl (vp_updL fo (0 : Int32).toNatClampNeg r.toInt64)))) : Nat × va_E) = cW cy ad en x ++ [((ob, .inl (cy 6, 1, .inr (.inl (vp_updL fo (0 : Int32).toNatClampNeg r.toInt64)))) : Nat × va_E)] := sL
    have hP := cvP hP e9
    have hD := cvD hD e9
    refine lv_goto (tgt := 21) hx hb dL_cloudOf_10 (by decide) ?_
    refine lv_iconst (v := 0) hx hb dL_cloudOf_21 (by decide) ?_
    exact hret _ _ _ _ _ _ _ _ hP hD hS rfl h0.symm (Nat.le_of_ble_eq_true rfl) (Nat.le_of_ble_eq_true rfl) dL_cloudOf_22
abbrev rm_L_ownerOf : Room := { frames := 8, cells := 2, slots := 12, locals := 132 }
set_option maxHeartbeats 4000000 in
theorem met_L_ownerOf (l : Launch) (hst0 : l.stackTraces = false) (D : va_G) (cy : Nat → ClassId) (sz : Nat) (ad : Nat → Nat → Nat) (en g : Nat → Nat) (x : Mem) (p1 : Int32) (p2 : Int32) (ob : Nat) (fo : Nat → Int64) (code : Int32) (r : Int32) (hcd : code = 0 ∨ code = 1 ∨ code = 2) (hF : D_X9_ownerOf x p1 p2 = some (code, r)) : MW l yL_ownerOf cL_ownerOf 5 [(0, 10, 13, 41), (0, 10, 17, 43)] rm_L_ownerOf D cy en g (cW cy ad en x ++ [((ob, .inl (cy 6, 1, .inr (.inl fo))) : Nat × va_E)]) sz [.ref (ad 12 0), .int p1, .int p2, .ref ob] code (cW cy ad en x ++ [((ob, .inl (cy 6, 1, .inr (.inl (if code = 0 then (vp_updL fo (0 : Int32).toNatClampNeg r.toInt64) else fo)))) : Nat × va_E)]) := by
  refine MW.of (by decide +kernel) (Nat.le_of_ble_eq_true rfl) ?_
  intro p e s m args below meth c A ls Q hx hb hml hown hw hK8 hN htb hST hP hD hA hS hl hret
  have hK := hKL hK8
  have hown : s.vm.findClass "CloudDeedsLaw" = some m.cls := hown
  have hl : lv_has ls 5 [(0, .ref (ad 12 0)), (1, .int p1), (2, .int p2), (3, .ref ob)] := hl
  refine lv_aload_n hx hb dL_ownerOf_0 rfl (lv_at hl 3 rfl) ?_
  refine lv_iconst (v := 0) hx hb dL_ownerOf_1 (by decide) ?_
  refine lv_aload_n hx hb dL_ownerOf_2 rfl (lv_at hl 0 rfl) ?_
  refine lv_iload_n hx hb dL_ownerOf_3 rfl (lv_at hl 1 rfl) ?_
  refine lv_iload_n hx hb dL_ownerOf_4 rfl (lv_at hl 2 rfl) ?_
  refine xfT (w1 := cW cy ad en x) (w2 := [((ob, .inl (cy 6, 1, .inr (.inl fo))) : Nat × va_E)]) (As := [.int p1, .int p2]) (rest := [.int 0, .ref ob]) hx hb hml hown hw hK hN hA hl.1 hP hD hS hST k_855 k_856 k_857 k_76 k_858 (met_X9_ownerOf l hst0 D cy _ ad en g x p1 p2 code r hF) (gY (x := x) (r := 0) (f := x 12 0) (by decide) rfl) rfl ⟨rfl, rfl⟩ (n := 2) (by decide +kernel) rfl ⟨Nat.le_of_ble_eq_true rfl, Nat.le_of_ble_eq_true rfl⟩ ⟨Nat.le_of_ble_eq_true rfl, Nat.le_of_ble_eq_true rfl⟩ (Nat.le_of_ble_eq_true rfl) rfl dL_ownerOf_5 (fun H locs q9 ce9 hne hP hD hS hce hcv hcl => ?_) (fun H locs h0 hP hD hS => ?_)
  · rw [show (if code = 0 then (vp_updL fo (0 : Int32).toNatClampNeg r.toInt64) else fo) = fo from if_neg hne] at hret
    rcases hcd with hc9 | hc9 | hc9
    · exact absurd hc9 hne
    · rw [hc9] at hcl
      have hcl : s.vm.findClass "java/lang/IndexOutOfBoundsException" = some ce9.cls := hcl
      refine vx_catch (E := "java/lang/IndexOutOfBoundsException") (name := "java/lang/IndexOutOfBoundsException") hown [] ⟨0, 10, 13, 41⟩ [⟨0, 10, 17, 43⟩] (htb.trans rfl) (fun z hz => nomatch hz) (by decide) (by decide) (hw _ k_787) (va_Nw.use rfl (hN _ n_819)) hce hcv hcl ?_
      refine lv_astore (lv' := [(4, .ref q9), (0, .ref (ad 12 0)), (1, .int p1), (2, .int p2), (3, .ref ob)]) hx hb dL_ownerOf_13 hl (by decide) rfl (fun ls hl => ?_)
      refine lv_iconst (v := 1) hx hb dL_ownerOf_15 (by decide) ?_
      exact hret _ _ _ _ _ _ _ _ hP hD hS rfl hc9.symm (Nat.le_of_ble_eq_true rfl) (Nat.le_of_ble_eq_true rfl) dL_ownerOf_16
    · rw [hc9] at hcl
      have hcl : s.vm.findClass "java/lang/IllegalArgumentException" = some ce9.cls := hcl
      refine vx_catch (E := "java/lang/IllegalArgumentException") (name := "java/lang/IllegalArgumentException") hown [⟨0, 10, 13, 41⟩] ⟨0, 10, 17, 43⟩ [] (htb.trans rfl) (fun z hz => by
          cases List.mem_singleton.mp hz
          exact Or.inr ⟨by decide, "java/lang/IndexOutOfBoundsException", hw _ k_787, hST.2.2.2.2.2.2.2.2.2.2.2.1⟩) (by decide) (by decide) (hw _ k_811) (va_Nw.use rfl (hN _ n_833)) hce hcv hcl ?_
      refine lv_astore (lv' := [(4, .ref q9), (0, .ref (ad 12 0)), (1, .int p1), (2, .int p2), (3, .ref ob)]) hx hb dL_ownerOf_17 hl (by decide) rfl (fun ls hl => ?_)
      refine lv_iconst (v := 2) hx hb dL_ownerOf_19 (by decide) ?_
      exact hret _ _ _ _ _ _ _ _ hP hD hS rfl hc9.symm (Nat.le_of_ble_eq_true rfl) (Nat.le_of_ble_eq_true rfl) dL_ownerOf_20
  · rw [show (if code = 0 then (vp_updL fo (0 : Int32).toNatClampNeg r.toInt64) else fo) = (vp_updL fo (0 : Int32).toNatClampNeg r.toInt64) from if_pos h0] at hret
    refine lv_i2l hx hb dL_ownerOf_8 rfl ?_
    have hg9 : (cW cy ad en x ++ [((ob, .inl (cy 6, 1, .inr (.inl fo))) : Nat × va_E)])[(cW cy ad en x).length]? = some ((ob, .inl (cy 6, 1, .inr (.inl fo))) : Nat × va_E) := gL
    refine va_last hx hb hK8 hP hD hS _ 6 hg9 rfl (vp_in_iff.mpr (by decide)) dL_ownerOf_9 (fun H locs hP hD hS => ?_)
    have e9 : (cW cy ad en x ++ [((ob, .inl (cy 6, 1, .inr (.inl fo))) : Nat × va_E)]).set (cW cy ad en x).length ((ob, .inl (cy 6, 1, .inr (.inl (vp_updL fo (0 : Int32).toNatClampNeg r.toInt64)))) : Nat × va_E) = cW cy ad en x ++ [((ob, .inl (cy 6, 1, .inr (.inl (vp_updL fo (0 : Int32).toNatClampNeg r.toInt64)))) : Nat × va_E)] := sL
    have hP := cvP hP e9
    have hD := cvD hD e9
    refine lv_goto (tgt := 21) hx hb dL_ownerOf_10 (by decide) ?_
    refine lv_iconst (v := 0) hx hb dL_ownerOf_21 (by decide) ?_
    exact hret _ _ _ _ _ _ _ _ hP hD hS rfl h0.symm (Nat.le_of_ble_eq_true rfl) (Nat.le_of_ble_eq_true rfl) dL_ownerOf_22
abbrev rm_L_vineyardOf : Room := { frames := 7, cells := 2, slots := 12, locals := 112 }
set_option maxHeartbeats 4000000 in
theorem met_L_vineyardOf (l : Launch) (hst0 : l.stackTraces = false) (D : va_G) (cy : Nat → ClassId) (sz : Nat) (ad : Nat → Nat → Nat) (en g : Nat → Nat) (x : Mem) (p1 : Int32) (p2 : Int32) (ob : Nat) (fo : Nat → Int64) (code : Int32) (r : Int32) (hcd : code = 0 ∨ code = 1 ∨ code = 2) (hF : D_X9_vineyardOf x p1 p2 = some (code, r)) : MW l yL_vineyardOf cL_vineyardOf 5 [(0, 10, 13, 41), (0, 10, 17, 43)] rm_L_vineyardOf D cy en g (cW cy ad en x ++ [((ob, .inl (cy 6, 1, .inr (.inl fo))) : Nat × va_E)]) sz [.ref (ad 12 0), .int p1, .int p2, .ref ob] code (cW cy ad en x ++ [((ob, .inl (cy 6, 1, .inr (.inl (if code = 0 then (vp_updL fo (0 : Int32).toNatClampNeg r.toInt64) else fo)))) : Nat × va_E)]) := by
  refine MW.of (by decide +kernel) (Nat.le_of_ble_eq_true rfl) ?_
  intro p e s m args below meth c A ls Q hx hb hml hown hw hK8 hN htb hST hP hD hA hS hl hret
  have hK := hKL hK8
  have hown : s.vm.findClass "CloudDeedsLaw" = some m.cls := hown
  have hl : lv_has ls 5 [(0, .ref (ad 12 0)), (1, .int p1), (2, .int p2), (3, .ref ob)] := hl
  refine lv_aload_n hx hb dL_vineyardOf_0 rfl (lv_at hl 3 rfl) ?_
  refine lv_iconst (v := 0) hx hb dL_vineyardOf_1 (by decide) ?_
  refine lv_aload_n hx hb dL_vineyardOf_2 rfl (lv_at hl 0 rfl) ?_
  refine lv_iload_n hx hb dL_vineyardOf_3 rfl (lv_at hl 1 rfl) ?_
  refine lv_iload_n hx hb dL_vineyardOf_4 rfl (lv_at hl 2 rfl) ?_
  refine xfT (w1 := cW cy ad en x) (w2 := [((ob, .inl (cy 6, 1, .inr (.inl fo))) : Nat × va_E)]) (As := [.int p1, .int p2]) (rest := [.int 0, .ref ob]) hx hb hml hown hw hK hN hA hl.1 hP hD hS hST k_872 k_873 k_874 k_76 k_875 (met_X9_vineyardOf l hst0 D cy _ ad en g x p1 p2 code r hF) (gY (x := x) (r := 0) (f := x 12 0) (by decide) rfl) rfl ⟨rfl, rfl⟩ (n := 2) (by decide +kernel) rfl ⟨Nat.le_of_ble_eq_true rfl, Nat.le_of_ble_eq_true rfl⟩ ⟨Nat.le_of_ble_eq_true rfl, Nat.le_of_ble_eq_true rfl⟩ (Nat.le_of_ble_eq_true rfl) rfl dL_vineyardOf_5 (fun H locs q9 ce9 hne hP hD hS hce hcv hcl => ?_) (fun H locs h0 hP hD hS => ?_)
  · rw [show (if code = 0 then (vp_updL fo (0 : Int32).toNatClampNeg r.toInt64) else fo) = fo from if_neg hne] at hret
    rcases hcd with hc9 | hc9 | hc9
    · exact absurd hc9 hne
    · rw [hc9] at hcl
      have hcl : s.vm.findClass "java/lang/IndexOutOfBoundsException" = some ce9.cls := hcl
      refine vx_catch (E := "java/lang/IndexOutOfBoundsException") (name := "java/lang/IndexOutOfBoundsException") hown [] ⟨0, 10, 13, 41⟩ [⟨0, 10, 17, 43⟩] (htb.trans rfl) (fun z hz => nomatch hz) (by decide) (by decide) (hw _ k_787) (va_Nw.use rfl (hN _ n_819)) hce hcv hcl ?_
      refine lv_astore (lv' := [(4, .ref q9), (0, .ref (ad 12 0)), (1, .int p1), (2, .int p2), (3, .ref ob)]) hx hb dL_vineyardOf_13 hl (by decide) rfl (fun ls hl => ?_)
      refine lv_iconst (v := 1) hx hb dL_vineyardOf_15 (by decide) ?_
      exact hret _ _ _ _ _ _ _ _ hP hD hS rfl hc9.symm (Nat.le_of_ble_eq_true rfl) (Nat.le_of_ble_eq_true rfl) dL_vineyardOf_16
    · rw [hc9] at hcl
      have hcl : s.vm.findClass "java/lang/IllegalArgumentException" = some ce9.cls := hcl
      refine vx_catch (E := "java/lang/IllegalArgumentException") (name := "java/lang/IllegalArgumentException") hown [⟨0, 10, 13, 41⟩] ⟨0, 10, 17, 43⟩ [] (htb.trans rfl) (fun z hz => by
          cases List.mem_singleton.mp hz
          exact Or.inr ⟨by decide, "java/lang/IndexOutOfBoundsException", hw _ k_787, hST.2.2.2.2.2.2.2.2.2.2.2.1⟩) (by decide) (by decide) (hw _ k_811) (va_Nw.use rfl (hN _ n_833)) hce hcv hcl ?_
      refine lv_astore (lv' := [(4, .ref q9), (0, .ref (ad 12 0)), (1, .int p1), (2, .int p2), (3, .ref ob)]) hx hb dL_vineyardOf_17 hl (by decide) rfl (fun ls hl => ?_)
      refine lv_iconst (v := 2) hx hb dL_vineyardOf_19 (by decide) ?_
      exact hret _ _ _ _ _ _ _ _ hP hD hS rfl hc9.symm (Nat.le_of_ble_eq_true rfl) (Nat.le_of_ble_eq_true rfl) dL_vineyardOf_20
  · rw [show (if code = 0 then (vp_updL fo (0 : Int32).toNatClampNeg r.toInt64) else fo) = (vp_updL fo (0 : Int32).toNatClampNeg r.toInt64) from if_pos h0] at hret
    refine lv_i2l hx hb dL_vineyardOf_8 rfl ?_
    have hg9 : (cW cy ad en x ++ [((ob, .inl (cy 6, 1, .inr (.inl fo))) : Nat × va_E)])[(cW cy ad en x).length]? = some ((ob, .inl (cy 6, 1, .inr (.inl fo))) : Nat × va_E) := gL
    refine va_last hx hb hK8 hP hD hS _ 6 hg9 rfl (vp_in_iff.mpr (by decide)) dL_vineyardOf_9 (fun H locs hP hD hS => ?_)
    have e9 : (cW cy ad en x ++ [((ob, .inl (cy 6, 1, .inr (.inl fo))) : Nat × va_E)]).set (cW cy ad en x).length ((ob, .inl (cy 6, 1, .inr (.inl (vp_updL fo (0 : Int32).toNatClampNeg r.toInt64)))) : Nat × va_E) = cW cy ad en x ++ [((ob, .inl (cy 6, 1, .inr (.inl (vp_updL fo (0 : Int32).toNatClampNeg r.toInt64)))) : Nat × va_E)] := sL
    have hP := cvP hP e9
    have hD := cvD hD e9
    refine lv_goto (tgt := 21) hx hb dL_vineyardOf_10 (by decide) ?_
    refine lv_iconst (v := 0) hx hb dL_vineyardOf_21 (by decide) ?_
    exact hret _ _ _ _ _ _ _ _ hP hD hS rfl h0.symm (Nat.le_of_ble_eq_true rfl) (Nat.le_of_ble_eq_true rfl) dL_vineyardOf_22
abbrev rm_L_clouds : Room := { frames := 8, cells := 2, slots := 12, locals := 131 }
set_option maxHeartbeats 4000000 in
theorem met_L_clouds (l : Launch) (hst0 : l.stackTraces = false) (D : va_G) (cy : Nat → ClassId) (sz : Nat) (ad : Nat → Nat → Nat) (en g : Nat → Nat) (x : Mem) (p1 : Int32) (ob : Nat) (fo : Nat → Int64) (code : Int32) (r : Int32) (hcd : code = 0 ∨ code = 1) (hF : D_X9_clouds x p1 = some (code, r)) : MW l yL_clouds cL_clouds 4 [(0, 9, 12, 41)] rm_L_clouds D cy en g (cW cy ad en x ++ [((ob, .inl (cy 6, 1, .inr (.inl fo))) : Nat × va_E)]) sz [.ref (ad 12 0), .int p1, .ref ob] code (cW cy ad en x ++ [((ob, .inl (cy 6, 1, .inr (.inl (if code = 0 then (vp_updL fo (0 : Int32).toNatClampNeg r.toInt64) else fo)))) : Nat × va_E)]) := by
  refine MW.of (by decide +kernel) (Nat.le_of_ble_eq_true rfl) ?_
  intro p e s m args below meth c A ls Q hx hb hml hown hw hK8 hN htb hST hP hD hA hS hl hret
  have hK := hKL hK8
  have hown : s.vm.findClass "CloudDeedsLaw" = some m.cls := hown
  have hl : lv_has ls 4 [(0, .ref (ad 12 0)), (1, .int p1), (2, .ref ob)] := hl
  refine lv_aload_n hx hb dL_clouds_0 rfl (lv_at hl 2 rfl) ?_
  refine lv_iconst (v := 0) hx hb dL_clouds_1 (by decide) ?_
  refine lv_aload_n hx hb dL_clouds_2 rfl (lv_at hl 0 rfl) ?_
  refine lv_iload_n hx hb dL_clouds_3 rfl (lv_at hl 1 rfl) ?_
  refine xfT (w1 := cW cy ad en x) (w2 := [((ob, .inl (cy 6, 1, .inr (.inl fo))) : Nat × va_E)]) (As := [.int p1]) (rest := [.int 0, .ref ob]) hx hb hml hown hw hK hN hA hl.1 hP hD hS hST k_886 k_887 k_888 k_76 k_889 (met_X9_clouds l hst0 D cy _ ad en g x p1 code r hF) (gY (x := x) (r := 0) (f := x 12 0) (by decide) rfl) rfl ⟨rfl, rfl⟩ (n := 1) (by decide +kernel) rfl ⟨Nat.le_of_ble_eq_true rfl, Nat.le_of_ble_eq_true rfl⟩ ⟨Nat.le_of_ble_eq_true rfl, Nat.le_of_ble_eq_true rfl⟩ (Nat.le_of_ble_eq_true rfl) rfl dL_clouds_4 (fun H locs q9 ce9 hne hP hD hS hce hcv hcl => ?_) (fun H locs h0 hP hD hS => ?_)
  · rw [show (if code = 0 then (vp_updL fo (0 : Int32).toNatClampNeg r.toInt64) else fo) = fo from if_neg hne] at hret
    rcases hcd with hc9 | hc9
    · exact absurd hc9 hne
    · rw [hc9] at hcl
      have hcl : s.vm.findClass "java/lang/IndexOutOfBoundsException" = some ce9.cls := hcl
      refine vx_catch (E := "java/lang/IndexOutOfBoundsException") (name := "java/lang/IndexOutOfBoundsException") hown [] ⟨0, 9, 12, 41⟩ [] (htb.trans rfl) (fun z hz => nomatch hz) (by decide) (by decide) (hw _ k_787) (va_Nw.use rfl (hN _ n_819)) hce hcv hcl ?_
      refine lv_astore_n (lv' := [(3, .ref q9), (0, .ref (ad 12 0)), (1, .int p1), (2, .ref ob)]) hx hb dL_clouds_12 rfl hl (by decide) rfl (fun ls hl => ?_)
      refine lv_iconst (v := 1) hx hb dL_clouds_13 (by decide) ?_
      exact hret _ _ _ _ _ _ _ _ hP hD hS rfl hc9.symm (Nat.le_of_ble_eq_true rfl) (Nat.le_of_ble_eq_true rfl) dL_clouds_14
  · rw [show (if code = 0 then (vp_updL fo (0 : Int32).toNatClampNeg r.toInt64) else fo) = (vp_updL fo (0 : Int32).toNatClampNeg r.toInt64) from if_pos h0] at hret
    refine lv_i2l hx hb dL_clouds_7 rfl ?_
    have hg9 : (cW cy ad en x ++ [((ob, .inl (cy 6, 1, .inr (.inl fo))) : Nat × va_E)])[(cW cy ad en x).length]? = some ((ob, .inl (cy 6, 1, .inr (.inl fo))) : Nat × va_E) := gL
    refine va_last hx hb hK8 hP hD hS _ 6 hg9 rfl (vp_in_iff.mpr (by decide)) dL_clouds_8 (fun H locs hP hD hS => ?_)
    have e9 : (cW cy ad en x ++ [((ob, .inl (cy 6, 1, .inr (.inl fo))) : Nat × va_E)]).set (cW cy ad en x).length ((ob, .inl (cy 6, 1, .inr (.inl (vp_updL fo (0 : Int32).toNatClampNeg r.toInt64)))) : Nat × va_E) = cW cy ad en x ++ [((ob, .inl (cy 6, 1, .inr (.inl (vp_updL fo (0 : Int32).toNatClampNeg r.toInt64)))) : Nat × va_E)] := sL
    have hP := cvP hP e9
    have hD := cvD hD e9
    refine lv_goto (tgt := 15) hx hb dL_clouds_9 (by decide) ?_
    refine lv_iconst (v := 0) hx hb dL_clouds_15 (by decide) ?_
    exact hret _ _ _ _ _ _ _ _ hP hD hS rfl h0.symm (Nat.le_of_ble_eq_true rfl) (Nat.le_of_ble_eq_true rfl) dL_clouds_16
abbrev rm_L_cloudsAgain : Room := { frames := 8, cells := 2, slots := 12, locals := 131 }
set_option maxHeartbeats 4000000 in
theorem met_L_cloudsAgain (l : Launch) (hst0 : l.stackTraces = false) (D : va_G) (cy : Nat → ClassId) (sz : Nat) (ad : Nat → Nat → Nat) (en g : Nat → Nat) (x : Mem) (p1 : Int32) (ob : Nat) (fo : Nat → Int64) (code : Int32) (r : Int32) (hcd : code = 0 ∨ code = 1) (hF : D_X9_cloudsAgain x p1 = some (code, r)) : MW l yL_cloudsAgain cL_cloudsAgain 4 [(0, 9, 12, 41)] rm_L_cloudsAgain D cy en g (cW cy ad en x ++ [((ob, .inl (cy 6, 1, .inr (.inl fo))) : Nat × va_E)]) sz [.ref (ad 12 0), .int p1, .ref ob] code (cW cy ad en x ++ [((ob, .inl (cy 6, 1, .inr (.inl (if code = 0 then (vp_updL fo (0 : Int32).toNatClampNeg r.toInt64) else fo)))) : Nat × va_E)]) := by
  refine MW.of (by decide +kernel) (Nat.le_of_ble_eq_true rfl) ?_
  intro p e s m args below meth c A ls Q hx hb hml hown hw hK8 hN htb hST hP hD hA hS hl hret
  have hK := hKL hK8
  have hown : s.vm.findClass "CloudDeedsLaw" = some m.cls := hown
  have hl : lv_has ls 4 [(0, .ref (ad 12 0)), (1, .int p1), (2, .ref ob)] := hl
  refine lv_aload_n hx hb dL_cloudsAgain_0 rfl (lv_at hl 2 rfl) ?_
  refine lv_iconst (v := 0) hx hb dL_cloudsAgain_1 (by decide) ?_
  refine lv_aload_n hx hb dL_cloudsAgain_2 rfl (lv_at hl 0 rfl) ?_
  refine lv_iload_n hx hb dL_cloudsAgain_3 rfl (lv_at hl 1 rfl) ?_
  refine xfT (w1 := cW cy ad en x) (w2 := [((ob, .inl (cy 6, 1, .inr (.inl fo))) : Nat × va_E)]) (As := [.int p1]) (rest := [.int 0, .ref ob]) hx hb hml hown hw hK hN hA hl.1 hP hD hS hST k_894 k_895 k_896 k_76 k_897 (met_X9_cloudsAgain l hst0 D cy _ ad en g x p1 code r hF) (gY (x := x) (r := 0) (f := x 12 0) (by decide) rfl) rfl ⟨rfl, rfl⟩ (n := 1) (by decide +kernel) rfl ⟨Nat.le_of_ble_eq_true rfl, Nat.le_of_ble_eq_true rfl⟩ ⟨Nat.le_of_ble_eq_true rfl, Nat.le_of_ble_eq_true rfl⟩ (Nat.le_of_ble_eq_true rfl) rfl dL_cloudsAgain_4 (fun H locs q9 ce9 hne hP hD hS hce hcv hcl => ?_) (fun H locs h0 hP hD hS => ?_)
  · rw [show (if code = 0 then (vp_updL fo (0 : Int32).toNatClampNeg r.toInt64) else fo) = fo from if_neg hne] at hret
    rcases hcd with hc9 | hc9
    · exact absurd hc9 hne
    · rw [hc9] at hcl
      have hcl : s.vm.findClass "java/lang/IndexOutOfBoundsException" = some ce9.cls := hcl
      refine vx_catch (E := "java/lang/IndexOutOfBoundsException") (name := "java/lang/IndexOutOfBoundsException") hown [] ⟨0, 9, 12, 41⟩ [] (htb.trans rfl) (fun z hz => nomatch hz) (by decide) (by decide) (hw _ k_787) (va_Nw.use rfl (hN _ n_819)) hce hcv hcl ?_
      refine lv_astore_n (lv' := [(3, .ref q9), (0, .ref (ad 12 0)), (1, .int p1), (2, .ref ob)]) hx hb dL_cloudsAgain_12 rfl hl (by decide) rfl (fun ls hl => ?_)
      refine lv_iconst (v := 1) hx hb dL_cloudsAgain_13 (by decide) ?_
      exact hret _ _ _ _ _ _ _ _ hP hD hS rfl hc9.symm (Nat.le_of_ble_eq_true rfl) (Nat.le_of_ble_eq_true rfl) dL_cloudsAgain_14
  · rw [show (if code = 0 then (vp_updL fo (0 : Int32).toNatClampNeg r.toInt64) else fo) = (vp_updL fo (0 : Int32).toNatClampNeg r.toInt64) from if_pos h0] at hret
    refine lv_i2l hx hb dL_cloudsAgain_7 rfl ?_
    have hg9 : (cW cy ad en x ++ [((ob, .inl (cy 6, 1, .inr (.inl fo))) : Nat × va_E)])[(cW cy ad en x).length]? = some ((ob, .inl (cy 6, 1, .inr (.inl fo))) : Nat × va_E) := gL
    refine va_last hx hb hK8 hP hD hS _ 6 hg9 rfl (vp_in_iff.mpr (by decide)) dL_cloudsAgain_8 (fun H locs hP hD hS => ?_)
    have e9 : (cW cy ad en x ++ [((ob, .inl (cy 6, 1, .inr (.inl fo))) : Nat × va_E)]).set (cW cy ad en x).length ((ob, .inl (cy 6, 1, .inr (.inl (vp_updL fo (0 : Int32).toNatClampNeg r.toInt64)))) : Nat × va_E) = cW cy ad en x ++ [((ob, .inl (cy 6, 1, .inr (.inl (vp_updL fo (0 : Int32).toNatClampNeg r.toInt64)))) : Nat × va_E)] := sL
    have hP := cvP hP e9
    have hD := cvD hD e9
    refine lv_goto (tgt := 15) hx hb dL_cloudsAgain_9 (by decide) ?_
    refine lv_iconst (v := 0) hx hb dL_cloudsAgain_15 (by decide) ?_
    exact hret _ _ _ _ _ _ _ _ hP hD hS rfl h0.symm (Nat.le_of_ble_eq_true rfl) (Nat.le_of_ble_eq_true rfl) dL_cloudsAgain_16
abbrev rm_L_windTo : Room := { frames := 7, cells := 2, slots := 12, locals := 112 }
set_option maxHeartbeats 4000000 in
theorem met_L_windTo (l : Launch) (hst0 : l.stackTraces = false) (D : va_G) (cy : Nat → ClassId) (sz : Nat) (ad : Nat → Nat → Nat) (en g : Nat → Nat) (x : Mem) (p1 : Int32) (p2 : Int32) (ob : Nat) (fo : Nat → Int64) (code : Int32) (r : Int32) (hcd : code = 0 ∨ code = 1) (hF : D_X9_windTo x p1 p2 = some (code, r)) : MW l yL_windTo cL_windTo 5 [(0, 10, 13, 41)] rm_L_windTo D cy en g (cW cy ad en x ++ [((ob, .inl (cy 6, 1, .inr (.inl fo))) : Nat × va_E)]) sz [.ref (ad 12 0), .int p1, .int p2, .ref ob] code (cW cy ad en x ++ [((ob, .inl (cy 6, 1, .inr (.inl (if code = 0 then (vp_updL fo (0 : Int32).toNatClampNeg r.toInt64) else fo)))) : Nat × va_E)]) := by
  refine MW.of (by decide +kernel) (Nat.le_of_ble_eq_true rfl) ?_
  intro p e s m args below meth c A ls Q hx hb hml hown hw hK8 hN htb hST hP hD hA hS hl hret
  have hK := hKL hK8
  have hown : s.vm.findClass "CloudDeedsLaw" = some m.cls := hown
  have hl : lv_has ls 5 [(0, .ref (ad 12 0)), (1, .int p1), (2, .int p2), (3, .ref ob)] := hl
  refine lv_aload_n hx hb dL_windTo_0 rfl (lv_at hl 3 rfl) ?_
  refine lv_iconst (v := 0) hx hb dL_windTo_1 (by decide) ?_
  refine lv_aload_n hx hb dL_windTo_2 rfl (lv_at hl 0 rfl) ?_
  refine lv_iload_n hx hb dL_windTo_3 rfl (lv_at hl 1 rfl) ?_
  refine lv_iload_n hx hb dL_windTo_4 rfl (lv_at hl 2 rfl) ?_
  refine xfT (w1 := cW cy ad en x) (w2 := [((ob, .inl (cy 6, 1, .inr (.inl fo))) : Nat × va_E)]) (As := [.int p1, .int p2]) (rest := [.int 0, .ref ob]) hx hb hml hown hw hK hN hA hl.1 hP hD hS hST k_902 k_903 k_904 k_76 k_905 (met_X9_windTo l hst0 D cy _ ad en g x p1 p2 code r hF) (gY (x := x) (r := 0) (f := x 12 0) (by decide) rfl) rfl ⟨rfl, rfl⟩ (n := 2) (by decide +kernel) rfl ⟨Nat.le_of_ble_eq_true rfl, Nat.le_of_ble_eq_true rfl⟩ ⟨Nat.le_of_ble_eq_true rfl, Nat.le_of_ble_eq_true rfl⟩ (Nat.le_of_ble_eq_true rfl) rfl dL_windTo_5 (fun H locs q9 ce9 hne hP hD hS hce hcv hcl => ?_) (fun H locs h0 hP hD hS => ?_)
  · rw [show (if code = 0 then (vp_updL fo (0 : Int32).toNatClampNeg r.toInt64) else fo) = fo from if_neg hne] at hret
    rcases hcd with hc9 | hc9
    · exact absurd hc9 hne
    · rw [hc9] at hcl
      have hcl : s.vm.findClass "java/lang/IndexOutOfBoundsException" = some ce9.cls := hcl
      refine vx_catch (E := "java/lang/IndexOutOfBoundsException") (name := "java/lang/IndexOutOfBoundsException") hown [] ⟨0, 10, 13, 41⟩ [] (htb.trans rfl) (fun z hz => nomatch hz) (by decide) (by decide) (hw _ k_787) (va_Nw.use rfl (hN _ n_819)) hce hcv hcl ?_
      refine lv_astore (lv' := [(4, .ref q9), (0, .ref (ad 12 0)), (1, .int p1), (2, .int p2), (3, .ref ob)]) hx hb dL_windTo_13 hl (by decide) rfl (fun ls hl => ?_)
      refine lv_iconst (v := 1) hx hb dL_windTo_15 (by decide) ?_
      exact hret _ _ _ _ _ _ _ _ hP hD hS rfl hc9.symm (Nat.le_of_ble_eq_true rfl) (Nat.le_of_ble_eq_true rfl) dL_windTo_16
  · rw [show (if code = 0 then (vp_updL fo (0 : Int32).toNatClampNeg r.toInt64) else fo) = (vp_updL fo (0 : Int32).toNatClampNeg r.toInt64) from if_pos h0] at hret
    refine lv_i2l hx hb dL_windTo_8 rfl ?_
    have hg9 : (cW cy ad en x ++ [((ob, .inl (cy 6, 1, .inr (.inl fo))) : Nat × va_E)])[(cW cy ad en x).length]? = some ((ob, .inl (cy 6, 1, .inr (.inl fo))) : Nat × va_E) := gL
    refine va_last hx hb hK8 hP hD hS _ 6 hg9 rfl (vp_in_iff.mpr (by decide)) dL_windTo_9 (fun H locs hP hD hS => ?_)
    have e9 : (cW cy ad en x ++ [((ob, .inl (cy 6, 1, .inr (.inl fo))) : Nat × va_E)]).set (cW cy ad en x).length ((ob, .inl (cy 6, 1, .inr (.inl (vp_updL fo (0 : Int32).toNatClampNeg r.toInt64)))) : Nat × va_E) = cW cy ad en x ++ [((ob, .inl (cy 6, 1, .inr (.inl (vp_updL fo (0 : Int32).toNatClampNeg r.toInt64)))) : Nat × va_E)] := sL
    have hP := cvP hP e9
    have hD := cvD hD e9
    refine lv_goto (tgt := 17) hx hb dL_windTo_10 (by decide) ?_
    refine lv_iconst (v := 0) hx hb dL_windTo_17 (by decide) ?_
    exact hret _ _ _ _ _ _ _ _ hP hD hS rfl h0.symm (Nat.le_of_ble_eq_true rfl) (Nat.le_of_ble_eq_true rfl) dL_windTo_18
abbrev rm_L_windToAgain : Room := { frames := 7, cells := 2, slots := 12, locals := 112 }
set_option maxHeartbeats 4000000 in
theorem met_L_windToAgain (l : Launch) (hst0 : l.stackTraces = false) (D : va_G) (cy : Nat → ClassId) (sz : Nat) (ad : Nat → Nat → Nat) (en g : Nat → Nat) (x : Mem) (p1 : Int32) (p2 : Int32) (ob : Nat) (fo : Nat → Int64) (code : Int32) (r : Int32) (hcd : code = 0 ∨ code = 1) (hF : D_X9_windToAgain x p1 p2 = some (code, r)) : MW l yL_windToAgain cL_windToAgain 5 [(0, 10, 13, 41)] rm_L_windToAgain D cy en g (cW cy ad en x ++ [((ob, .inl (cy 6, 1, .inr (.inl fo))) : Nat × va_E)]) sz [.ref (ad 12 0), .int p1, .int p2, .ref ob] code (cW cy ad en x ++ [((ob, .inl (cy 6, 1, .inr (.inl (if code = 0 then (vp_updL fo (0 : Int32).toNatClampNeg r.toInt64) else fo)))) : Nat × va_E)]) := by
  refine MW.of (by decide +kernel) (Nat.le_of_ble_eq_true rfl) ?_
  intro p e s m args below meth c A ls Q hx hb hml hown hw hK8 hN htb hST hP hD hA hS hl hret
  have hK := hKL hK8
  have hown : s.vm.findClass "CloudDeedsLaw" = some m.cls := hown
  have hl : lv_has ls 5 [(0, .ref (ad 12 0)), (1, .int p1), (2, .int p2), (3, .ref ob)] := hl
  refine lv_aload_n hx hb dL_windToAgain_0 rfl (lv_at hl 3 rfl) ?_
  refine lv_iconst (v := 0) hx hb dL_windToAgain_1 (by decide) ?_
  refine lv_aload_n hx hb dL_windToAgain_2 rfl (lv_at hl 0 rfl) ?_
  refine lv_iload_n hx hb dL_windToAgain_3 rfl (lv_at hl 1 rfl) ?_
  refine lv_iload_n hx hb dL_windToAgain_4 rfl (lv_at hl 2 rfl) ?_
  refine xfT (w1 := cW cy ad en x) (w2 := [((ob, .inl (cy 6, 1, .inr (.inl fo))) : Nat × va_E)]) (As := [.int p1, .int p2]) (rest := [.int 0, .ref ob]) hx hb hml hown hw hK hN hA hl.1 hP hD hS hST k_911 k_912 k_913 k_76 k_914 (met_X9_windToAgain l hst0 D cy _ ad en g x p1 p2 code r hF) (gY (x := x) (r := 0) (f := x 12 0) (by decide) rfl) rfl ⟨rfl, rfl⟩ (n := 2) (by decide +kernel) rfl ⟨Nat.le_of_ble_eq_true rfl, Nat.le_of_ble_eq_true rfl⟩ ⟨Nat.le_of_ble_eq_true rfl, Nat.le_of_ble_eq_true rfl⟩ (Nat.le_of_ble_eq_true rfl) rfl dL_windToAgain_5 (fun H locs q9 ce9 hne hP hD hS hce hcv hcl => ?_) (fun H locs h0 hP hD hS => ?_)
  · rw [show (if code = 0 then (vp_updL fo (0 : Int32).toNatClampNeg r.toInt64) else fo) = fo from if_neg hne] at hret
    rcases hcd with hc9 | hc9
    · exact absurd hc9 hne
    · rw [hc9] at hcl
      have hcl : s.vm.findClass "java/lang/IndexOutOfBoundsException" = some ce9.cls := hcl
      refine vx_catch (E := "java/lang/IndexOutOfBoundsException") (name := "java/lang/IndexOutOfBoundsException") hown [] ⟨0, 10, 13, 41⟩ [] (htb.trans rfl) (fun z hz => nomatch hz) (by decide) (by decide) (hw _ k_787) (va_Nw.use rfl (hN _ n_819)) hce hcv hcl ?_
      refine lv_astore (lv' := [(4, .ref q9), (0, .ref (ad 12 0)), (1, .int p1), (2, .int p2), (3, .ref ob)]) hx hb dL_windToAgain_13 hl (by decide) rfl (fun ls hl => ?_)
      refine lv_iconst (v := 1) hx hb dL_windToAgain_15 (by decide) ?_
      exact hret _ _ _ _ _ _ _ _ hP hD hS rfl hc9.symm (Nat.le_of_ble_eq_true rfl) (Nat.le_of_ble_eq_true rfl) dL_windToAgain_16
  · rw [show (if code = 0 then (vp_updL fo (0 : Int32).toNatClampNeg r.toInt64) else fo) = (vp_updL fo (0 : Int32).toNatClampNeg r.toInt64) from if_pos h0] at hret
    refine lv_i2l hx hb dL_windToAgain_8 rfl ?_
    have hg9 : (cW cy ad en x ++ [((ob, .inl (cy 6, 1, .inr (.inl fo))) : Nat × va_E)])[(cW cy ad en x).length]? = some ((ob, .inl (cy 6, 1, .inr (.inl fo))) : Nat × va_E) := gL
    refine va_last hx hb hK8 hP hD hS _ 6 hg9 rfl (vp_in_iff.mpr (by decide)) dL_windToAgain_9 (fun H locs hP hD hS => ?_)
    have e9 : (cW cy ad en x ++ [((ob, .inl (cy 6, 1, .inr (.inl fo))) : Nat × va_E)]).set (cW cy ad en x).length ((ob, .inl (cy 6, 1, .inr (.inl (vp_updL fo (0 : Int32).toNatClampNeg r.toInt64)))) : Nat × va_E) = cW cy ad en x ++ [((ob, .inl (cy 6, 1, .inr (.inl (vp_updL fo (0 : Int32).toNatClampNeg r.toInt64)))) : Nat × va_E)] := sL
    have hP := cvP hP e9
    have hD := cvD hD e9
    refine lv_goto (tgt := 17) hx hb dL_windToAgain_10 (by decide) ?_
    refine lv_iconst (v := 0) hx hb dL_windToAgain_17 (by decide) ?_
    exact hret _ _ _ _ _ _ _ _ hP hD hS rfl h0.symm (Nat.le_of_ble_eq_true rfl) (Nat.le_of_ble_eq_true rfl) dL_windToAgain_18
abbrev rm_L_would : Room := { frames := 8, cells := 2, slots := 12, locals := 168 }
set_option maxHeartbeats 4000000 in
theorem met_L_would (l : Launch) (hst0 : l.stackTraces = false) (D : va_G) (cy : Nat → ClassId) (sz : Nat) (ad : Nat → Nat → Nat) (en g : Nat → Nat) (x : Mem) (p1 : Int32) (p2 : Int32) (ob : Nat) (fo : Nat → Int64) (code : Int32) (r : Int32) (x' : Mem) (hcd : code = 0 ∨ code = 1 ∨ code = 2) (hF : D_X9_would x p1 p2 = some (code, r, x')) : MW l yL_would cL_would 5 [(0, 10, 13, 41), (0, 10, 17, 43)] rm_L_would D cy en g (cW cy ad en x ++ [((ob, .inl (cy 6, 1, .inr (.inl fo))) : Nat × va_E)]) sz [.ref (ad 12 0), .int p1, .int p2, .ref ob] code (cW cy ad en x' ++ [((ob, .inl (cy 6, 1, .inr (.inl (if code = 0 then (vp_updL fo (0 : Int32).toNatClampNeg r.toInt64) else fo)))) : Nat × va_E)]) := by
  refine MW.of (by decide +kernel) (Nat.le_of_ble_eq_true rfl) ?_
  intro p e s m args below meth c A ls Q hx hb hml hown hw hK8 hN htb hST hP hD hA hS hl hret
  have hK := hKL hK8
  have hown : s.vm.findClass "CloudDeedsLaw" = some m.cls := hown
  have hl : lv_has ls 5 [(0, .ref (ad 12 0)), (1, .int p1), (2, .int p2), (3, .ref ob)] := hl
  refine lv_aload_n hx hb dL_would_0 rfl (lv_at hl 3 rfl) ?_
  refine lv_iconst (v := 0) hx hb dL_would_1 (by decide) ?_
  refine lv_aload_n hx hb dL_would_2 rfl (lv_at hl 0 rfl) ?_
  refine lv_iload_n hx hb dL_would_3 rfl (lv_at hl 1 rfl) ?_
  refine lv_iload_n hx hb dL_would_4 rfl (lv_at hl 2 rfl) ?_
  refine xfT (w1 := cW cy ad en x) (w2 := [((ob, .inl (cy 6, 1, .inr (.inl fo))) : Nat × va_E)]) (As := [.int p1, .int p2]) (rest := [.int 0, .ref ob]) hx hb hml hown hw hK hN hA hl.1 hP hD hS hST k_919 k_920 k_921 k_76 k_922 (met_X9_would l hst0 D cy _ ad en g x p1 p2 code r x' hF) (gY (x := x) (r := 0) (f := x 12 0) (by decide) rfl) rfl ⟨rfl, rfl⟩ (n := 2) (by decide +kernel) rfl ⟨Nat.le_of_ble_eq_true rfl, Nat.le_of_ble_eq_true rfl⟩ ⟨Nat.le_of_ble_eq_true rfl, Nat.le_of_ble_eq_true rfl⟩ (Nat.le_of_ble_eq_true rfl) rfl dL_would_5 (fun H locs q9 ce9 hne hP hD hS hce hcv hcl => ?_) (fun H locs h0 hP hD hS => ?_)
  · rw [show (if code = 0 then (vp_updL fo (0 : Int32).toNatClampNeg r.toInt64) else fo) = fo from if_neg hne] at hret
    rcases hcd with hc9 | hc9 | hc9
    · exact absurd hc9 hne
    · rw [hc9] at hcl
      have hcl : s.vm.findClass "java/lang/IndexOutOfBoundsException" = some ce9.cls := hcl
      refine vx_catch (E := "java/lang/IndexOutOfBoundsException") (name := "java/lang/IndexOutOfBoundsException") hown [] ⟨0, 10, 13, 41⟩ [⟨0, 10, 17, 43⟩] (htb.trans rfl) (fun z hz => nomatch hz) (by decide) (by decide) (hw _ k_787) (va_Nw.use rfl (hN _ n_819)) hce hcv hcl ?_
      refine lv_astore (lv' := [(4, .ref q9), (0, .ref (ad 12 0)), (1, .int p1), (2, .int p2), (3, .ref ob)]) hx hb dL_would_13 hl (by decide) rfl (fun ls hl => ?_)
      refine lv_iconst (v := 1) hx hb dL_would_15 (by decide) ?_
      exact hret _ _ _ _ _ _ _ _ hP hD hS rfl hc9.symm (Nat.le_of_ble_eq_true rfl) (Nat.le_of_ble_eq_true rfl) dL_would_16
    · rw [hc9] at hcl
      have hcl : s.vm.findClass "java/lang/IllegalArgumentException" = some ce9.cls := hcl
      refine vx_catch (E := "java/lang/IllegalArgumentException") (name := "java/lang/IllegalArgumentException") hown [⟨0, 10, 13, 41⟩] ⟨0, 10, 17, 43⟩ [] (htb.trans rfl) (fun z hz => by
          cases List.mem_singleton.mp hz
          exact Or.inr ⟨by decide, "java/lang/IndexOutOfBoundsException", hw _ k_787, hST.2.2.2.2.2.2.2.2.2.2.2.1⟩) (by decide) (by decide) (hw _ k_811) (va_Nw.use rfl (hN _ n_833)) hce hcv hcl ?_
      refine lv_astore (lv' := [(4, .ref q9), (0, .ref (ad 12 0)), (1, .int p1), (2, .int p2), (3, .ref ob)]) hx hb dL_would_17 hl (by decide) rfl (fun ls hl => ?_)
      refine lv_iconst (v := 2) hx hb dL_would_19 (by decide) ?_
      exact hret _ _ _ _ _ _ _ _ hP hD hS rfl hc9.symm (Nat.le_of_ble_eq_true rfl) (Nat.le_of_ble_eq_true rfl) dL_would_20
  · rw [show (if code = 0 then (vp_updL fo (0 : Int32).toNatClampNeg r.toInt64) else fo) = (vp_updL fo (0 : Int32).toNatClampNeg r.toInt64) from if_pos h0] at hret
    refine lv_i2l hx hb dL_would_8 rfl ?_
    have hg9 : (cW cy ad en x' ++ [((ob, .inl (cy 6, 1, .inr (.inl fo))) : Nat × va_E)])[(cW cy ad en x').length]? = some ((ob, .inl (cy 6, 1, .inr (.inl fo))) : Nat × va_E) := gL
    refine va_last hx hb hK8 hP hD hS _ 6 hg9 rfl (vp_in_iff.mpr (by decide)) dL_would_9 (fun H locs hP hD hS => ?_)
    have e9 : (cW cy ad en x' ++ [((ob, .inl (cy 6, 1, .inr (.inl fo))) : Nat × va_E)]).set (cW cy ad en x').length ((ob, .inl (cy 6, 1, .inr (.inl (vp_updL fo (0 : Int32).toNatClampNeg r.toInt64)))) : Nat × va_E) = cW cy ad en x' ++ [((ob, .inl (cy 6, 1, .inr (.inl (vp_updL fo (0 : Int32).toNatClampNeg r.toInt64)))) : Nat × va_E)] := sL
    have hP := cvP hP e9
    have hD := cvD hD e9
    refine lv_goto (tgt := 21) hx hb dL_would_10 (by decide) ?_
    refine lv_iconst (v := 0) hx hb dL_would_21 (by decide) ?_
    exact hret _ _ _ _ _ _ _ _ hP hD hS rfl h0.symm (Nat.le_of_ble_eq_true rfl) (Nat.le_of_ble_eq_true rfl) dL_would_22
abbrev rm_L_bestWind : Room := { frames := 8, cells := 2, slots := 12, locals := 171 }
set_option maxHeartbeats 4000000 in
theorem met_L_bestWind (l : Launch) (hst0 : l.stackTraces = false) (D : va_G) (cy : Nat → ClassId) (sz : Nat) (ad : Nat → Nat → Nat) (en g : Nat → Nat) (x : Mem) (p1 : Int32) (ob : Nat) (fo : Nat → Int64) (code : Int32) (r : Int32) (x' : Mem) (hcd : code = 0 ∨ code = 1) (hF : D_X9_bestWind x p1 = some (code, r, x')) : MW l yL_bestWind cL_bestWind 4 [(0, 9, 12, 41)] rm_L_bestWind D cy en g (cW cy ad en x ++ [((ob, .inl (cy 6, 1, .inr (.inl fo))) : Nat × va_E)]) sz [.ref (ad 12 0), .int p1, .ref ob] code (cW cy ad en x' ++ [((ob, .inl (cy 6, 1, .inr (.inl (if code = 0 then (vp_updL fo (0 : Int32).toNatClampNeg r.toInt64) else fo)))) : Nat × va_E)]) := by
  refine MW.of (by decide +kernel) (Nat.le_of_ble_eq_true rfl) ?_
  intro p e s m args below meth c A ls Q hx hb hml hown hw hK8 hN htb hST hP hD hA hS hl hret
  have hK := hKL hK8
  have hown : s.vm.findClass "CloudDeedsLaw" = some m.cls := hown
  have hl : lv_has ls 4 [(0, .ref (ad 12 0)), (1, .int p1), (2, .ref ob)] := hl
  refine lv_aload_n hx hb dL_bestWind_0 rfl (lv_at hl 2 rfl) ?_
  refine lv_iconst (v := 0) hx hb dL_bestWind_1 (by decide) ?_
  refine lv_aload_n hx hb dL_bestWind_2 rfl (lv_at hl 0 rfl) ?_
  refine lv_iload_n hx hb dL_bestWind_3 rfl (lv_at hl 1 rfl) ?_
  refine xfT (w1 := cW cy ad en x) (w2 := [((ob, .inl (cy 6, 1, .inr (.inl fo))) : Nat × va_E)]) (As := [.int p1]) (rest := [.int 0, .ref ob]) hx hb hml hown hw hK hN hA hl.1 hP hD hS hST k_932 k_933 k_934 k_76 k_935 (met_X9_bestWind l hst0 D cy _ ad en g x p1 code r x' hF) (gY (x := x) (r := 0) (f := x 12 0) (by decide) rfl) rfl ⟨rfl, rfl⟩ (n := 1) (by decide +kernel) rfl ⟨Nat.le_of_ble_eq_true rfl, Nat.le_of_ble_eq_true rfl⟩ ⟨Nat.le_of_ble_eq_true rfl, Nat.le_of_ble_eq_true rfl⟩ (Nat.le_of_ble_eq_true rfl) rfl dL_bestWind_4 (fun H locs q9 ce9 hne hP hD hS hce hcv hcl => ?_) (fun H locs h0 hP hD hS => ?_)
  · rw [show (if code = 0 then (vp_updL fo (0 : Int32).toNatClampNeg r.toInt64) else fo) = fo from if_neg hne] at hret
    rcases hcd with hc9 | hc9
    · exact absurd hc9 hne
    · rw [hc9] at hcl
      have hcl : s.vm.findClass "java/lang/IndexOutOfBoundsException" = some ce9.cls := hcl
      refine vx_catch (E := "java/lang/IndexOutOfBoundsException") (name := "java/lang/IndexOutOfBoundsException") hown [] ⟨0, 9, 12, 41⟩ [] (htb.trans rfl) (fun z hz => nomatch hz) (by decide) (by decide) (hw _ k_787) (va_Nw.use rfl (hN _ n_819)) hce hcv hcl ?_
      refine lv_astore_n (lv' := [(3, .ref q9), (0, .ref (ad 12 0)), (1, .int p1), (2, .ref ob)]) hx hb dL_bestWind_12 rfl hl (by decide) rfl (fun ls hl => ?_)
      refine lv_iconst (v := 1) hx hb dL_bestWind_13 (by decide) ?_
      exact hret _ _ _ _ _ _ _ _ hP hD hS rfl hc9.symm (Nat.le_of_ble_eq_true rfl) (Nat.le_of_ble_eq_true rfl) dL_bestWind_14
  · rw [show (if code = 0 then (vp_updL fo (0 : Int32).toNatClampNeg r.toInt64) else fo) = (vp_updL fo (0 : Int32).toNatClampNeg r.toInt64) from if_pos h0] at hret
    refine lv_i2l hx hb dL_bestWind_7 rfl ?_
    have hg9 : (cW cy ad en x' ++ [((ob, .inl (cy 6, 1, .inr (.inl fo))) : Nat × va_E)])[(cW cy ad en x').length]? = some ((ob, .inl (cy 6, 1, .inr (.inl fo))) : Nat × va_E) := gL
    refine va_last hx hb hK8 hP hD hS _ 6 hg9 rfl (vp_in_iff.mpr (by decide)) dL_bestWind_8 (fun H locs hP hD hS => ?_)
    have e9 : (cW cy ad en x' ++ [((ob, .inl (cy 6, 1, .inr (.inl fo))) : Nat × va_E)]).set (cW cy ad en x').length ((ob, .inl (cy 6, 1, .inr (.inl (vp_updL fo (0 : Int32).toNatClampNeg r.toInt64)))) : Nat × va_E) = cW cy ad en x' ++ [((ob, .inl (cy 6, 1, .inr (.inl (vp_updL fo (0 : Int32).toNatClampNeg r.toInt64)))) : Nat × va_E)] := sL
    have hP := cvP hP e9
    have hD := cvD hD e9
    refine lv_goto (tgt := 15) hx hb dL_bestWind_9 (by decide) ?_
    refine lv_iconst (v := 0) hx hb dL_bestWind_15 (by decide) ?_
    exact hret _ _ _ _ _ _ _ _ hP hD hS rfl h0.symm (Nat.le_of_ble_eq_true rfl) (Nat.le_of_ble_eq_true rfl) dL_bestWind_16
abbrev rm_L_recorded : Room := { frames := 7, cells := 2, slots := 12, locals := 113 }
set_option maxHeartbeats 4000000 in
theorem met_L_recorded (l : Launch) (hst0 : l.stackTraces = false) (D : va_G) (cy : Nat → ClassId) (sz : Nat) (ad : Nat → Nat → Nat) (en g : Nat → Nat) (x : Mem) (p1 : Int32) (p2 : Int32) (ob : Nat) (fo : Nat → Int64) (code : Int32) (r : Int32) (hcd : code = 0 ∨ code = 1) (hF : D_X9_recorded x p1 p2 = some (code, r)) : MW l yL_recorded cL_recorded 5 [(0, 10, 13, 72)] rm_L_recorded D cy en g (cW cy ad en x ++ [((ob, .inl (cy 6, 1, .inr (.inl fo))) : Nat × va_E)]) sz [.ref (ad 12 0), .int p1, .int p2, .ref ob] code (cW cy ad en x ++ [((ob, .inl (cy 6, 1, .inr (.inl (if code = 0 then (vp_updL fo (0 : Int32).toNatClampNeg r.toInt64) else fo)))) : Nat × va_E)]) := by
  refine MW.of (by decide +kernel) (Nat.le_of_ble_eq_true rfl) ?_
  intro p e s m args below meth c A ls Q hx hb hml hown hw hK8 hN htb hST hP hD hA hS hl hret
  have hK := hKL hK8
  have hown : s.vm.findClass "CloudDeedsLaw" = some m.cls := hown
  have hl : lv_has ls 5 [(0, .ref (ad 12 0)), (1, .int p1), (2, .int p2), (3, .ref ob)] := hl
  refine lv_aload_n hx hb dL_recorded_0 rfl (lv_at hl 3 rfl) ?_
  refine lv_iconst (v := 0) hx hb dL_recorded_1 (by decide) ?_
  refine lv_aload_n hx hb dL_recorded_2 rfl (lv_at hl 0 rfl) ?_
  refine lv_iload_n hx hb dL_recorded_3 rfl (lv_at hl 1 rfl) ?_
  refine lv_iload_n hx hb dL_recorded_4 rfl (lv_at hl 2 rfl) ?_
  refine xfT (w1 := cW cy ad en x) (w2 := [((ob, .inl (cy 6, 1, .inr (.inl fo))) : Nat × va_E)]) (As := [.int p1, .int p2]) (rest := [.int 0, .ref ob]) hx hb hml hown hw hK hN hA hl.1 hP hD hS hST k_940 k_941 k_942 k_76 k_943 (met_X9_recorded l hst0 D cy _ ad en g x p1 p2 code r hF) (gY (x := x) (r := 0) (f := x 12 0) (by decide) rfl) rfl ⟨rfl, rfl⟩ (n := 2) (by decide +kernel) rfl ⟨Nat.le_of_ble_eq_true rfl, Nat.le_of_ble_eq_true rfl⟩ ⟨Nat.le_of_ble_eq_true rfl, Nat.le_of_ble_eq_true rfl⟩ (Nat.le_of_ble_eq_true rfl) rfl dL_recorded_5 (fun H locs q9 ce9 hne hP hD hS hce hcv hcl => ?_) (fun H locs h0 hP hD hS => ?_)
  · rw [show (if code = 0 then (vp_updL fo (0 : Int32).toNatClampNeg r.toInt64) else fo) = fo from if_neg hne] at hret
    rcases hcd with hc9 | hc9
    · exact absurd hc9 hne
    · rw [hc9] at hcl
      have hcl : s.vm.findClass "java/util/NoSuchElementException" = some ce9.cls := hcl
      refine vx_catch (E := "java/util/NoSuchElementException") (name := "java/util/NoSuchElementException") hown [] ⟨0, 10, 13, 72⟩ [] (htb.trans rfl) (fun z hz => nomatch hz) (by decide) (by decide) (hw _ k_939) (va_Nw.use rfl (hN _ n_956)) hce hcv hcl ?_
      refine lv_astore (lv' := [(4, .ref q9), (0, .ref (ad 12 0)), (1, .int p1), (2, .int p2), (3, .ref ob)]) hx hb dL_recorded_13 hl (by decide) rfl (fun ls hl => ?_)
      refine lv_iconst (v := 1) hx hb dL_recorded_15 (by decide) ?_
      exact hret _ _ _ _ _ _ _ _ hP hD hS rfl hc9.symm (Nat.le_of_ble_eq_true rfl) (Nat.le_of_ble_eq_true rfl) dL_recorded_16
  · rw [show (if code = 0 then (vp_updL fo (0 : Int32).toNatClampNeg r.toInt64) else fo) = (vp_updL fo (0 : Int32).toNatClampNeg r.toInt64) from if_pos h0] at hret
    refine lv_i2l hx hb dL_recorded_8 rfl ?_
    have hg9 : (cW cy ad en x ++ [((ob, .inl (cy 6, 1, .inr (.inl fo))) : Nat × va_E)])[(cW cy ad en x).length]? = some ((ob, .inl (cy 6, 1, .inr (.inl fo))) : Nat × va_E) := gL
    refine va_last hx hb hK8 hP hD hS _ 6 hg9 rfl (vp_in_iff.mpr (by decide)) dL_recorded_9 (fun H locs hP hD hS => ?_)
    have e9 : (cW cy ad en x ++ [((ob, .inl (cy 6, 1, .inr (.inl fo))) : Nat × va_E)]).set (cW cy ad en x).length ((ob, .inl (cy 6, 1, .inr (.inl (vp_updL fo (0 : Int32).toNatClampNeg r.toInt64)))) : Nat × va_E) = cW cy ad en x ++ [((ob, .inl (cy 6, 1, .inr (.inl (vp_updL fo (0 : Int32).toNatClampNeg r.toInt64)))) : Nat × va_E)] := sL
    have hP := cvP hP e9
    have hD := cvD hD e9
    refine lv_goto (tgt := 17) hx hb dL_recorded_10 (by decide) ?_
    refine lv_iconst (v := 0) hx hb dL_recorded_17 (by decide) ?_
    exact hret _ _ _ _ _ _ _ _ hP hD hS rfl h0.symm (Nat.le_of_ble_eq_true rfl) (Nat.le_of_ble_eq_true rfl) dL_recorded_18
abbrev rm_L_greatest : Room := { frames := 7, cells := 2, slots := 12, locals := 130 }
set_option maxHeartbeats 4000000 in
theorem met_L_greatest (l : Launch) (hst0 : l.stackTraces = false) (D : va_G) (cy : Nat → ClassId) (sz : Nat) (ad : Nat → Nat → Nat) (en g : Nat → Nat) (x : Mem) (p1 : Int32) (ob : Nat) (fo : Nat → Int64) (code : Int32) (r : Int32) (hcd : code = 0 ∨ code = 1) (hF : D_X9_greatest x p1 = some (code, r)) : MW l yL_greatest cL_greatest 4 [(0, 9, 12, 72)] rm_L_greatest D cy en g (cW cy ad en x ++ [((ob, .inl (cy 6, 1, .inr (.inl fo))) : Nat × va_E)]) sz [.ref (ad 12 0), .int p1, .ref ob] code (cW cy ad en x ++ [((ob, .inl (cy 6, 1, .inr (.inl (if code = 0 then (vp_updL fo (0 : Int32).toNatClampNeg r.toInt64) else fo)))) : Nat × va_E)]) := by
  refine MW.of (by decide +kernel) (Nat.le_of_ble_eq_true rfl) ?_
  intro p e s m args below meth c A ls Q hx hb hml hown hw hK8 hN htb hST hP hD hA hS hl hret
  have hK := hKL hK8
  have hown : s.vm.findClass "CloudDeedsLaw" = some m.cls := hown
  have hl : lv_has ls 4 [(0, .ref (ad 12 0)), (1, .int p1), (2, .ref ob)] := hl
  refine lv_aload_n hx hb dL_greatest_0 rfl (lv_at hl 2 rfl) ?_
  refine lv_iconst (v := 0) hx hb dL_greatest_1 (by decide) ?_
  refine lv_aload_n hx hb dL_greatest_2 rfl (lv_at hl 0 rfl) ?_
  refine lv_iload_n hx hb dL_greatest_3 rfl (lv_at hl 1 rfl) ?_
  refine xfT (w1 := cW cy ad en x) (w2 := [((ob, .inl (cy 6, 1, .inr (.inl fo))) : Nat × va_E)]) (As := [.int p1]) (rest := [.int 0, .ref ob]) hx hb hml hown hw hK hN hA hl.1 hP hD hS hST k_978 k_979 k_980 k_76 k_981 (met_X9_greatest l hst0 D cy _ ad en g x p1 code r hF) (gY (x := x) (r := 0) (f := x 12 0) (by decide) rfl) rfl ⟨rfl, rfl⟩ (n := 1) (by decide +kernel) rfl ⟨Nat.le_of_ble_eq_true rfl, Nat.le_of_ble_eq_true rfl⟩ ⟨Nat.le_of_ble_eq_true rfl, Nat.le_of_ble_eq_true rfl⟩ (Nat.le_of_ble_eq_true rfl) rfl dL_greatest_4 (fun H locs q9 ce9 hne hP hD hS hce hcv hcl => ?_) (fun H locs h0 hP hD hS => ?_)
  · rw [show (if code = 0 then (vp_updL fo (0 : Int32).toNatClampNeg r.toInt64) else fo) = fo from if_neg hne] at hret
    rcases hcd with hc9 | hc9
    · exact absurd hc9 hne
    · rw [hc9] at hcl
      have hcl : s.vm.findClass "java/util/NoSuchElementException" = some ce9.cls := hcl
      refine vx_catch (E := "java/util/NoSuchElementException") (name := "java/util/NoSuchElementException") hown [] ⟨0, 9, 12, 72⟩ [] (htb.trans rfl) (fun z hz => nomatch hz) (by decide) (by decide) (hw _ k_939) (va_Nw.use rfl (hN _ n_956)) hce hcv hcl ?_
      refine lv_astore_n (lv' := [(3, .ref q9), (0, .ref (ad 12 0)), (1, .int p1), (2, .ref ob)]) hx hb dL_greatest_12 rfl hl (by decide) rfl (fun ls hl => ?_)
      refine lv_iconst (v := 1) hx hb dL_greatest_13 (by decide) ?_
      exact hret _ _ _ _ _ _ _ _ hP hD hS rfl hc9.symm (Nat.le_of_ble_eq_true rfl) (Nat.le_of_ble_eq_true rfl) dL_greatest_14
  · rw [show (if code = 0 then (vp_updL fo (0 : Int32).toNatClampNeg r.toInt64) else fo) = (vp_updL fo (0 : Int32).toNatClampNeg r.toInt64) from if_pos h0] at hret
    refine lv_i2l hx hb dL_greatest_7 rfl ?_
    have hg9 : (cW cy ad en x ++ [((ob, .inl (cy 6, 1, .inr (.inl fo))) : Nat × va_E)])[(cW cy ad en x).length]? = some ((ob, .inl (cy 6, 1, .inr (.inl fo))) : Nat × va_E) := gL
    refine va_last hx hb hK8 hP hD hS _ 6 hg9 rfl (vp_in_iff.mpr (by decide)) dL_greatest_8 (fun H locs hP hD hS => ?_)
    have e9 : (cW cy ad en x ++ [((ob, .inl (cy 6, 1, .inr (.inl fo))) : Nat × va_E)]).set (cW cy ad en x).length ((ob, .inl (cy 6, 1, .inr (.inl (vp_updL fo (0 : Int32).toNatClampNeg r.toInt64)))) : Nat × va_E) = cW cy ad en x ++ [((ob, .inl (cy 6, 1, .inr (.inl (vp_updL fo (0 : Int32).toNatClampNeg r.toInt64)))) : Nat × va_E)] := sL
    have hP := cvP hP e9
    have hD := cvD hD e9
    refine lv_goto (tgt := 15) hx hb dL_greatest_9 (by decide) ?_
    refine lv_iconst (v := 0) hx hb dL_greatest_15 (by decide) ?_
    exact hret _ _ _ _ _ _ _ _ hP hD hS rfl h0.symm (Nat.le_of_ble_eq_true rfl) (Nat.le_of_ble_eq_true rfl) dL_greatest_16
abbrev rm_L_ranked : Room := { frames := 7, cells := 2, slots := 12, locals := 130 }
set_option maxHeartbeats 4000000 in
theorem met_L_ranked (l : Launch) (hst0 : l.stackTraces = false) (D : va_G) (cy : Nat → ClassId) (sz : Nat) (ad : Nat → Nat → Nat) (en g : Nat → Nat) (x : Mem) (p1 : Int32) (ob : Nat) (fo : Nat → Int64) (code : Int32) (r : Int32) (hcd : code = 0 ∨ code = 1) (hF : D_X9_ranked x p1 = some (code, r)) : MW l yL_ranked cL_ranked 4 [(0, 9, 12, 72)] rm_L_ranked D cy en g (cW cy ad en x ++ [((ob, .inl (cy 6, 1, .inr (.inl fo))) : Nat × va_E)]) sz [.ref (ad 12 0), .int p1, .ref ob] code (cW cy ad en x ++ [((ob, .inl (cy 6, 1, .inr (.inl (if code = 0 then (vp_updL fo (0 : Int32).toNatClampNeg r.toInt64) else fo)))) : Nat × va_E)]) := by
  refine MW.of (by decide +kernel) (Nat.le_of_ble_eq_true rfl) ?_
  intro p e s m args below meth c A ls Q hx hb hml hown hw hK8 hN htb hST hP hD hA hS hl hret
  have hK := hKL hK8
  have hown : s.vm.findClass "CloudDeedsLaw" = some m.cls := hown
  have hl : lv_has ls 4 [(0, .ref (ad 12 0)), (1, .int p1), (2, .ref ob)] := hl
  refine lv_aload_n hx hb dL_ranked_0 rfl (lv_at hl 2 rfl) ?_
  refine lv_iconst (v := 0) hx hb dL_ranked_1 (by decide) ?_
  refine lv_aload_n hx hb dL_ranked_2 rfl (lv_at hl 0 rfl) ?_
  refine lv_iload_n hx hb dL_ranked_3 rfl (lv_at hl 1 rfl) ?_
  refine xfT (w1 := cW cy ad en x) (w2 := [((ob, .inl (cy 6, 1, .inr (.inl fo))) : Nat × va_E)]) (As := [.int p1]) (rest := [.int 0, .ref ob]) hx hb hml hown hw hK hN hA hl.1 hP hD hS hST k_1002 k_1003 k_1004 k_76 k_1005 (met_X9_ranked l hst0 D cy _ ad en g x p1 code r hF) (gY (x := x) (r := 0) (f := x 12 0) (by decide) rfl) rfl ⟨rfl, rfl⟩ (n := 1) (by decide +kernel) rfl ⟨Nat.le_of_ble_eq_true rfl, Nat.le_of_ble_eq_true rfl⟩ ⟨Nat.le_of_ble_eq_true rfl, Nat.le_of_ble_eq_true rfl⟩ (Nat.le_of_ble_eq_true rfl) rfl dL_ranked_4 (fun H locs q9 ce9 hne hP hD hS hce hcv hcl => ?_) (fun H locs h0 hP hD hS => ?_)
  · rw [show (if code = 0 then (vp_updL fo (0 : Int32).toNatClampNeg r.toInt64) else fo) = fo from if_neg hne] at hret
    rcases hcd with hc9 | hc9
    · exact absurd hc9 hne
    · rw [hc9] at hcl
      have hcl : s.vm.findClass "java/util/NoSuchElementException" = some ce9.cls := hcl
      refine vx_catch (E := "java/util/NoSuchElementException") (name := "java/util/NoSuchElementException") hown [] ⟨0, 9, 12, 72⟩ [] (htb.trans rfl) (fun z hz => nomatch hz) (by decide) (by decide) (hw _ k_939) (va_Nw.use rfl (hN _ n_956)) hce hcv hcl ?_
      refine lv_astore_n (lv' := [(3, .ref q9), (0, .ref (ad 12 0)), (1, .int p1), (2, .ref ob)]) hx hb dL_ranked_12 rfl hl (by decide) rfl (fun ls hl => ?_)
      refine lv_iconst (v := 1) hx hb dL_ranked_13 (by decide) ?_
      exact hret _ _ _ _ _ _ _ _ hP hD hS rfl hc9.symm (Nat.le_of_ble_eq_true rfl) (Nat.le_of_ble_eq_true rfl) dL_ranked_14
  · rw [show (if code = 0 then (vp_updL fo (0 : Int32).toNatClampNeg r.toInt64) else fo) = (vp_updL fo (0 : Int32).toNatClampNeg r.toInt64) from if_pos h0] at hret
    refine lv_i2l hx hb dL_ranked_7 rfl ?_
    have hg9 : (cW cy ad en x ++ [((ob, .inl (cy 6, 1, .inr (.inl fo))) : Nat × va_E)])[(cW cy ad en x).length]? = some ((ob, .inl (cy 6, 1, .inr (.inl fo))) : Nat × va_E) := gL
    refine va_last hx hb hK8 hP hD hS _ 6 hg9 rfl (vp_in_iff.mpr (by decide)) dL_ranked_8 (fun H locs hP hD hS => ?_)
    have e9 : (cW cy ad en x ++ [((ob, .inl (cy 6, 1, .inr (.inl fo))) : Nat × va_E)]).set (cW cy ad en x).length ((ob, .inl (cy 6, 1, .inr (.inl (vp_updL fo (0 : Int32).toNatClampNeg r.toInt64)))) : Nat × va_E) = cW cy ad en x ++ [((ob, .inl (cy 6, 1, .inr (.inl (vp_updL fo (0 : Int32).toNatClampNeg r.toInt64)))) : Nat × va_E)] := sL
    have hP := cvP hP e9
    have hD := cvD hD e9
    refine lv_goto (tgt := 15) hx hb dL_ranked_9 (by decide) ?_
    refine lv_iconst (v := 0) hx hb dL_ranked_15 (by decide) ?_
    exact hret _ _ _ _ _ _ _ _ hP hD hS rfl h0.symm (Nat.le_of_ble_eq_true rfl) (Nat.le_of_ble_eq_true rfl) dL_ranked_16
abbrev rm_L_feed : Room := { frames := 7, cells := 2, slots := 12, locals := 111 }
set_option maxHeartbeats 4000000 in
theorem met_L_feed (l : Launch) (hst0 : l.stackTraces = false) (D : va_G) (cy : Nat → ClassId) (sz : Nat) (ad : Nat → Nat → Nat) (en g : Nat → Nat) (x : Mem) (p1 : Int32) (ob : Nat) (fo : Nat → Int64) (code : Int32) (r : Int32) (x' : Mem) (hcd : code = 0 ∨ code = 1) (hF : D_X9_feed x p1 = some (code, r, x')) : MW l yL_feed cL_feed 4 [(0, 9, 12, 84)] rm_L_feed D cy en g (cW cy ad en x ++ [((ob, .inl (cy 6, 1, .inr (.inl fo))) : Nat × va_E)]) sz [.ref (ad 12 0), .int p1, .ref ob] code (cW cy ad en x' ++ [((ob, .inl (cy 6, 1, .inr (.inl (if code = 0 then (vp_updL fo (0 : Int32).toNatClampNeg r.toInt64) else fo)))) : Nat × va_E)]) := by
  refine MW.of (by decide +kernel) (Nat.le_of_ble_eq_true rfl) ?_
  intro p e s m args below meth c A ls Q hx hb hml hown hw hK8 hN htb hST hP hD hA hS hl hret
  have hK := hKL hK8
  have hown : s.vm.findClass "CloudDeedsLaw" = some m.cls := hown
  have hl : lv_has ls 4 [(0, .ref (ad 12 0)), (1, .int p1), (2, .ref ob)] := hl
  refine lv_aload_n hx hb dL_feed_0 rfl (lv_at hl 2 rfl) ?_
  refine lv_iconst (v := 0) hx hb dL_feed_1 (by decide) ?_
  refine lv_aload_n hx hb dL_feed_2 rfl (lv_at hl 0 rfl) ?_
  refine lv_iload_n hx hb dL_feed_3 rfl (lv_at hl 1 rfl) ?_
  refine xfT (w1 := cW cy ad en x) (w2 := [((ob, .inl (cy 6, 1, .inr (.inl fo))) : Nat × va_E)]) (As := [.int p1]) (rest := [.int 0, .ref ob]) hx hb hml hown hw hK hN hA hl.1 hP hD hS hST k_1022 k_1023 k_1024 k_76 k_1025 (met_X9_feed l hst0 D cy _ ad en g x p1 code r x' hF) (gY (x := x) (r := 0) (f := x 12 0) (by decide) rfl) rfl ⟨rfl, rfl⟩ (n := 1) (by decide +kernel) rfl ⟨Nat.le_of_ble_eq_true rfl, Nat.le_of_ble_eq_true rfl⟩ ⟨Nat.le_of_ble_eq_true rfl, Nat.le_of_ble_eq_true rfl⟩ (Nat.le_of_ble_eq_true rfl) rfl dL_feed_4 (fun H locs q9 ce9 hne hP hD hS hce hcv hcl => ?_) (fun H locs h0 hP hD hS => ?_)
  · rw [show (if code = 0 then (vp_updL fo (0 : Int32).toNatClampNeg r.toInt64) else fo) = fo from if_neg hne] at hret
    rcases hcd with hc9 | hc9
    · exact absurd hc9 hne
    · rw [hc9] at hcl
      have hcl : s.vm.findClass "java/lang/IllegalStateException" = some ce9.cls := hcl
      refine vx_catch (E := "java/lang/IllegalStateException") (name := "java/lang/IllegalStateException") hown [] ⟨0, 9, 12, 84⟩ [] (htb.trans rfl) (fun z hz => nomatch hz) (by decide) (by decide) (hw _ k_1021) (va_Nw.use rfl (hN _ n_1033)) hce hcv hcl ?_
      refine lv_astore_n (lv' := [(3, .ref q9), (0, .ref (ad 12 0)), (1, .int p1), (2, .ref ob)]) hx hb dL_feed_12 rfl hl (by decide) rfl (fun ls hl => ?_)
      refine lv_iconst (v := 1) hx hb dL_feed_13 (by decide) ?_
      exact hret _ _ _ _ _ _ _ _ hP hD hS rfl hc9.symm (Nat.le_of_ble_eq_true rfl) (Nat.le_of_ble_eq_true rfl) dL_feed_14
  · rw [show (if code = 0 then (vp_updL fo (0 : Int32).toNatClampNeg r.toInt64) else fo) = (vp_updL fo (0 : Int32).toNatClampNeg r.toInt64) from if_pos h0] at hret
    refine lv_i2l hx hb dL_feed_7 rfl ?_
    have hg9 : (cW cy ad en x' ++ [((ob, .inl (cy 6, 1, .inr (.inl fo))) : Nat × va_E)])[(cW cy ad en x').length]? = some ((ob, .inl (cy 6, 1, .inr (.inl fo))) : Nat × va_E) := gL
    refine va_last hx hb hK8 hP hD hS _ 6 hg9 rfl (vp_in_iff.mpr (by decide)) dL_feed_8 (fun H locs hP hD hS => ?_)
    have e9 : (cW cy ad en x' ++ [((ob, .inl (cy 6, 1, .inr (.inl fo))) : Nat × va_E)]).set (cW cy ad en x').length ((ob, .inl (cy 6, 1, .inr (.inl (vp_updL fo (0 : Int32).toNatClampNeg r.toInt64)))) : Nat × va_E) = cW cy ad en x' ++ [((ob, .inl (cy 6, 1, .inr (.inl (vp_updL fo (0 : Int32).toNatClampNeg r.toInt64)))) : Nat × va_E)] := sL
    have hP := cvP hP e9
    have hD := cvD hD e9
    refine lv_goto (tgt := 15) hx hb dL_feed_9 (by decide) ?_
    refine lv_iconst (v := 0) hx hb dL_feed_15 (by decide) ?_
    exact hret _ _ _ _ _ _ _ _ hP hD hS rfl h0.symm (Nat.le_of_ble_eq_true rfl) (Nat.le_of_ble_eq_true rfl) dL_feed_16
abbrev rm_L_run : Room := { frames := 10, cells := 2, slots := 12, locals := 224 }
set_option maxHeartbeats 4000000 in
theorem met_L_run (l : Launch) (hst0 : l.stackTraces = false) (D : va_G) (cy : Nat → ClassId) (sz : Nat) (ad : Nat → Nat → Nat) (en g : Nat → Nat) (x : Mem) (ob : Nat) (fo : Nat → Int64) (code : Int32) (r : Int32) (x' : Mem) (hcd : code = 0 ∨ code = 1 ∨ code = 2) (hF : D_X9_run x = some (code, r, x')) : MW l yL_run cL_run 3 [(0, 8, 11, 43), (0, 8, 14, 13)] rm_L_run D cy en g (cW cy ad en x ++ [((ob, .inl (cy 6, 1, .inr (.inl fo))) : Nat × va_E)]) sz [.ref (ad 12 0), .ref ob] code (cW cy ad en x' ++ [((ob, .inl (cy 6, 1, .inr (.inl (if code = 0 then (vp_updL fo (0 : Int32).toNatClampNeg r.toInt64) else fo)))) : Nat × va_E)]) := by
  refine MW.of (by decide +kernel) (Nat.le_of_ble_eq_true rfl) ?_
  intro p e s m args below meth c A ls Q hx hb hml hown hw hK8 hN htb hST hP hD hA hS hl hret
  have hK := hKL hK8
  have hown : s.vm.findClass "CloudDeedsLaw" = some m.cls := hown
  have hl : lv_has ls 3 [(0, .ref (ad 12 0)), (1, .ref ob)] := hl
  refine lv_aload_n hx hb dL_run_0 rfl (lv_at hl 1 rfl) ?_
  refine lv_iconst (v := 0) hx hb dL_run_1 (by decide) ?_
  refine lv_aload_n hx hb dL_run_2 rfl (lv_at hl 0 rfl) ?_
  refine xfT (w1 := cW cy ad en x) (w2 := [((ob, .inl (cy 6, 1, .inr (.inl fo))) : Nat × va_E)]) (As := []) (rest := [.int 0, .ref ob]) hx hb hml hown hw hK hN hA hl.1 hP hD hS hST k_1054 k_1055 k_1056 k_76 k_1057 (met_X9_run l hst0 D cy _ ad en g x code r x' hF) (gY (x := x) (r := 0) (f := x 12 0) (by decide) rfl) rfl ⟨rfl, rfl⟩ (n := 0) (by decide +kernel) rfl ⟨Nat.le_of_ble_eq_true rfl, Nat.le_of_ble_eq_true rfl⟩ ⟨Nat.le_of_ble_eq_true rfl, Nat.le_of_ble_eq_true rfl⟩ (Nat.le_of_ble_eq_true rfl) rfl dL_run_3 (fun H locs q9 ce9 hne hP hD hS hce hcv hcl => ?_) (fun H locs h0 hP hD hS => ?_)
  · rw [show (if code = 0 then (vp_updL fo (0 : Int32).toNatClampNeg r.toInt64) else fo) = fo from if_neg hne] at hret
    rcases hcd with hc9 | hc9 | hc9
    · exact absurd hc9 hne
    · rw [hc9] at hcl
      have hcl : s.vm.findClass "java/lang/IllegalArgumentException" = some ce9.cls := hcl
      refine vx_catch (E := "java/lang/IllegalArgumentException") (name := "java/lang/IllegalArgumentException") hown [] ⟨0, 8, 11, 43⟩ [⟨0, 8, 14, 13⟩] (htb.trans rfl) (fun z hz => nomatch hz) (by decide) (by decide) (hw _ k_811) (va_Nw.use rfl (hN _ n_833)) hce hcv hcl ?_
      refine lv_astore_n (lv' := [(2, .ref q9), (0, .ref (ad 12 0)), (1, .ref ob)]) hx hb dL_run_11 rfl hl (by decide) rfl (fun ls hl => ?_)
      refine lv_iconst (v := 1) hx hb dL_run_12 (by decide) ?_
      exact hret _ _ _ _ _ _ _ _ hP hD hS rfl hc9.symm (Nat.le_of_ble_eq_true rfl) (Nat.le_of_ble_eq_true rfl) dL_run_13
    · rw [hc9] at hcl
      have hcl : s.vm.findClass "java/lang/UnsupportedOperationException" = some ce9.cls := hcl
      refine vx_catch (E := "java/lang/UnsupportedOperationException") (name := "java/lang/UnsupportedOperationException") hown [⟨0, 8, 11, 43⟩] ⟨0, 8, 14, 13⟩ [] (htb.trans rfl) (fun z hz => by
          cases List.mem_singleton.mp hz
          exact Or.inr ⟨by decide, "java/lang/IllegalArgumentException", hw _ k_811, hST.2.2.2.2.2.2.2.2.2.2.2.2.1⟩) (by decide) (by decide) (hw _ k_526) (va_Nw.use rfl (hN _ n_651)) hce hcv hcl ?_
      refine lv_astore_n (lv' := [(2, .ref q9), (0, .ref (ad 12 0)), (1, .ref ob)]) hx hb dL_run_14 rfl hl (by decide) rfl (fun ls hl => ?_)
      refine lv_iconst (v := 2) hx hb dL_run_15 (by decide) ?_
      exact hret _ _ _ _ _ _ _ _ hP hD hS rfl hc9.symm (Nat.le_of_ble_eq_true rfl) (Nat.le_of_ble_eq_true rfl) dL_run_16
  · rw [show (if code = 0 then (vp_updL fo (0 : Int32).toNatClampNeg r.toInt64) else fo) = (vp_updL fo (0 : Int32).toNatClampNeg r.toInt64) from if_pos h0] at hret
    refine lv_i2l hx hb dL_run_6 rfl ?_
    have hg9 : (cW cy ad en x' ++ [((ob, .inl (cy 6, 1, .inr (.inl fo))) : Nat × va_E)])[(cW cy ad en x').length]? = some ((ob, .inl (cy 6, 1, .inr (.inl fo))) : Nat × va_E) := gL
    refine va_last hx hb hK8 hP hD hS _ 6 hg9 rfl (vp_in_iff.mpr (by decide)) dL_run_7 (fun H locs hP hD hS => ?_)
    have e9 : (cW cy ad en x' ++ [((ob, .inl (cy 6, 1, .inr (.inl fo))) : Nat × va_E)]).set (cW cy ad en x').length ((ob, .inl (cy 6, 1, .inr (.inl (vp_updL fo (0 : Int32).toNatClampNeg r.toInt64)))) : Nat × va_E) = cW cy ad en x' ++ [((ob, .inl (cy 6, 1, .inr (.inl (vp_updL fo (0 : Int32).toNatClampNeg r.toInt64)))) : Nat × va_E)] := sL
    have hP := cvP hP e9
    have hD := cvD hD e9
    refine lv_goto (tgt := 17) hx hb dL_run_8 (by decide) ?_
    refine lv_iconst (v := 0) hx hb dL_run_17 (by decide) ?_
    exact hret _ _ _ _ _ _ _ _ hP hD hS rfl h0.symm (Nat.le_of_ble_eq_true rfl) (Nat.le_of_ble_eq_true rfl) dL_run_18
abbrev rm_L_faultPosition : Room := { frames := 7, cells := 2, slots := 12, locals := 110 }
set_option maxHeartbeats 4000000 in
theorem met_L_faultPosition (l : Launch) (hst0 : l.stackTraces = false) (D : va_G) (cy : Nat → ClassId) (sz : Nat) (ad : Nat → Nat → Nat) (en g : Nat → Nat) (x : Mem) (ob : Nat) (fo : Nat → Int64) (code : Int32) (r : Int32) (hcd : code = 0 ∨ code = 1) (hF : D_X9_faultPosition x = some (code, r)) : MW l yL_faultPosition cL_faultPosition 3 [(0, 8, 11, 72)] rm_L_faultPosition D cy en g (cW cy ad en x ++ [((ob, .inl (cy 6, 1, .inr (.inl fo))) : Nat × va_E)]) sz [.ref (ad 12 0), .ref ob] code (cW cy ad en x ++ [((ob, .inl (cy 6, 1, .inr (.inl (if code = 0 then (vp_updL fo (0 : Int32).toNatClampNeg r.toInt64) else fo)))) : Nat × va_E)]) := by
  refine MW.of (by decide +kernel) (Nat.le_of_ble_eq_true rfl) ?_
  intro p e s m args below meth c A ls Q hx hb hml hown hw hK8 hN htb hST hP hD hA hS hl hret
  have hK := hKL hK8
  have hown : s.vm.findClass "CloudDeedsLaw" = some m.cls := hown
  have hl : lv_has ls 3 [(0, .ref (ad 12 0)), (1, .ref ob)] := hl
  refine lv_aload_n hx hb dL_faultPosition_0 rfl (lv_at hl 1 rfl) ?_
  refine lv_iconst (v := 0) hx hb dL_faultPosition_1 (by decide) ?_
  refine lv_aload_n hx hb dL_faultPosition_2 rfl (lv_at hl 0 rfl) ?_
  refine xfT (w1 := cW cy ad en x) (w2 := [((ob, .inl (cy 6, 1, .inr (.inl fo))) : Nat × va_E)]) (As := []) (rest := [.int 0, .ref ob]) hx hb hml hown hw hK hN hA hl.1 hP hD hS hST k_1179 k_1180 k_1181 k_76 k_1182 (met_X9_faultPosition l hst0 D cy _ ad en g x code r (Option.some.inj hF)) (gY (x := x) (r := 0) (f := x 12 0) (by decide) rfl) rfl ⟨rfl, rfl⟩ (n := 0) (by decide +kernel) rfl ⟨Nat.le_of_ble_eq_true rfl, Nat.le_of_ble_eq_true rfl⟩ ⟨Nat.le_of_ble_eq_true rfl, Nat.le_of_ble_eq_true rfl⟩ (Nat.le_of_ble_eq_true rfl) rfl dL_faultPosition_3 (fun H locs q9 ce9 hne hP hD hS hce hcv hcl => ?_) (fun H locs h0 hP hD hS => ?_)
  · rw [show (if code = 0 then (vp_updL fo (0 : Int32).toNatClampNeg r.toInt64) else fo) = fo from if_neg hne] at hret
    rcases hcd with hc9 | hc9
    · exact absurd hc9 hne
    · rw [hc9] at hcl
      have hcl : s.vm.findClass "java/util/NoSuchElementException" = some ce9.cls := hcl
      refine vx_catch (E := "java/util/NoSuchElementException") (name := "java/util/NoSuchElementException") hown [] ⟨0, 8, 11, 72⟩ [] (htb.trans rfl) (fun z hz => nomatch hz) (by decide) (by decide) (hw _ k_939) (va_Nw.use rfl (hN _ n_956)) hce hcv hcl ?_
      refine lv_astore_n (lv' := [(2, .ref q9), (0, .ref (ad 12 0)), (1, .ref ob)]) hx hb dL_faultPosition_11 rfl hl (by decide) rfl (fun ls hl => ?_)
      refine lv_iconst (v := 1) hx hb dL_faultPosition_12 (by decide) ?_
      exact hret _ _ _ _ _ _ _ _ hP hD hS rfl hc9.symm (Nat.le_of_ble_eq_true rfl) (Nat.le_of_ble_eq_true rfl) dL_faultPosition_13
  · rw [show (if code = 0 then (vp_updL fo (0 : Int32).toNatClampNeg r.toInt64) else fo) = (vp_updL fo (0 : Int32).toNatClampNeg r.toInt64) from if_pos h0] at hret
    refine lv_i2l hx hb dL_faultPosition_6 rfl ?_
    have hg9 : (cW cy ad en x ++ [((ob, .inl (cy 6, 1, .inr (.inl fo))) : Nat × va_E)])[(cW cy ad en x).length]? = some ((ob, .inl (cy 6, 1, .inr (.inl fo))) : Nat × va_E) := gL
    refine va_last hx hb hK8 hP hD hS _ 6 hg9 rfl (vp_in_iff.mpr (by decide)) dL_faultPosition_7 (fun H locs hP hD hS => ?_)
    have e9 : (cW cy ad en x ++ [((ob, .inl (cy 6, 1, .inr (.inl fo))) : Nat × va_E)]).set (cW cy ad en x).length ((ob, .inl (cy 6, 1, .inr (.inl (vp_updL fo (0 : Int32).toNatClampNeg r.toInt64)))) : Nat × va_E) = cW cy ad en x ++ [((ob, .inl (cy 6, 1, .inr (.inl (vp_updL fo (0 : Int32).toNatClampNeg r.toInt64)))) : Nat × va_E)] := sL
    have hP := cvP hP e9
    have hD := cvD hD e9
    refine lv_goto (tgt := 14) hx hb dL_faultPosition_8 (by decide) ?_
    refine lv_iconst (v := 0) hx hb dL_faultPosition_14 (by decide) ?_
    exact hret _ _ _ _ _ _ _ _ hP hD hS rfl h0.symm (Nat.le_of_ble_eq_true rfl) (Nat.le_of_ble_eq_true rfl) dL_faultPosition_15
abbrev rm_L_reason : Room := { frames := 7, cells := 2, slots := 12, locals := 113 }
set_option maxHeartbeats 4000000 in
theorem met_L_reason (l : Launch) (hst0 : l.stackTraces = false) (D : va_G) (cy : Nat → ClassId) (sz : Nat) (ad : Nat → Nat → Nat) (en g : Nat → Nat) (x : Mem) (p1 : Int32) (p2 : Int32) (ob : Nat) (fo : Nat → Int64) (hz1 : p1 = 0 ∨ p1 = 1) (hz2 : p2 = 0 ∨ p2 = 1) (code : Int32) (r : Int32) (hcd : code = 0 ∨ code = 1) (hF : D_X9_reason x p1 p2 = some (code, r)) : MW l yL_reason cL_reason 5 [(0, 10, 13, 72)] rm_L_reason D cy en g (cW cy ad en x ++ [((ob, .inl (cy 6, 1, .inr (.inl fo))) : Nat × va_E)]) sz [.ref (ad 12 0), .int p1, .int p2, .ref ob] code (cW cy ad en x ++ [((ob, .inl (cy 6, 1, .inr (.inl (if code = 0 then (vp_updL fo (0 : Int32).toNatClampNeg r.toInt64) else fo)))) : Nat × va_E)]) := by
  refine MW.of (by decide +kernel) (Nat.le_of_ble_eq_true rfl) ?_
  intro p e s m args below meth c A ls Q hx hb hml hown hw hK8 hN htb hST hP hD hA hS hl hret
  have hK := hKL hK8
  have hown : s.vm.findClass "CloudDeedsLaw" = some m.cls := hown
  have hl : lv_has ls 5 [(0, .ref (ad 12 0)), (1, .int p1), (2, .int p2), (3, .ref ob)] := hl
  refine lv_aload_n hx hb dL_reason_0 rfl (lv_at hl 3 rfl) ?_
  refine lv_iconst (v := 0) hx hb dL_reason_1 (by decide) ?_
  refine lv_aload_n hx hb dL_reason_2 rfl (lv_at hl 0 rfl) ?_
  refine lv_iload_n hx hb dL_reason_3 rfl (lv_at hl 1 rfl) ?_
  refine lv_iload_n hx hb dL_reason_4 rfl (lv_at hl 2 rfl) ?_
  refine xfT (w1 := cW cy ad en x) (w2 := [((ob, .inl (cy 6, 1, .inr (.inl fo))) : Nat × va_E)]) (As := [.int p1, .int p2]) (rest := [.int 0, .ref ob]) hx hb hml hown hw hK hN hA hl.1 hP hD hS hST k_1187 k_1188 k_1189 k_76 k_1190 (met_X9_reason l hst0 D cy _ ad en g x p1 p2 hz1 hz2 code r (Option.some.inj hF)) (gY (x := x) (r := 0) (f := x 12 0) (by decide) rfl) rfl ⟨rfl, rfl⟩ (n := 2) (by decide +kernel) rfl ⟨Nat.le_of_ble_eq_true rfl, Nat.le_of_ble_eq_true rfl⟩ ⟨Nat.le_of_ble_eq_true rfl, Nat.le_of_ble_eq_true rfl⟩ (Nat.le_of_ble_eq_true rfl) rfl dL_reason_5 (fun H locs q9 ce9 hne hP hD hS hce hcv hcl => ?_) (fun H locs h0 hP hD hS => ?_)
  · rw [show (if code = 0 then (vp_updL fo (0 : Int32).toNatClampNeg r.toInt64) else fo) = fo from if_neg hne] at hret
    rcases hcd with hc9 | hc9
    · exact absurd hc9 hne
    · rw [hc9] at hcl
      have hcl : s.vm.findClass "java/util/NoSuchElementException" = some ce9.cls := hcl
      refine vx_catch (E := "java/util/NoSuchElementException") (name := "java/util/NoSuchElementException") hown [] ⟨0, 10, 13, 72⟩ [] (htb.trans rfl) (fun z hz => nomatch hz) (by decide) (by decide) (hw _ k_939) (va_Nw.use rfl (hN _ n_956)) hce hcv hcl ?_
      refine lv_astore (lv' := [(4, .ref q9), (0, .ref (ad 12 0)), (1, .int p1), (2, .int p2), (3, .ref ob)]) hx hb dL_reason_13 hl (by decide) rfl (fun ls hl => ?_)
      refine lv_iconst (v := 1) hx hb dL_reason_15 (by decide) ?_
      exact hret _ _ _ _ _ _ _ _ hP hD hS rfl hc9.symm (Nat.le_of_ble_eq_true rfl) (Nat.le_of_ble_eq_true rfl) dL_reason_16
  · rw [show (if code = 0 then (vp_updL fo (0 : Int32).toNatClampNeg r.toInt64) else fo) = (vp_updL fo (0 : Int32).toNatClampNeg r.toInt64) from if_pos h0] at hret
    refine lv_i2l hx hb dL_reason_8 rfl ?_
    have hg9 : (cW cy ad en x ++ [((ob, .inl (cy 6, 1, .inr (.inl fo))) : Nat × va_E)])[(cW cy ad en x).length]? = some ((ob, .inl (cy 6, 1, .inr (.inl fo))) : Nat × va_E) := gL
    refine va_last hx hb hK8 hP hD hS _ 6 hg9 rfl (vp_in_iff.mpr (by decide)) dL_reason_9 (fun H locs hP hD hS => ?_)
    have e9 : (cW cy ad en x ++ [((ob, .inl (cy 6, 1, .inr (.inl fo))) : Nat × va_E)]).set (cW cy ad en x).length ((ob, .inl (cy 6, 1, .inr (.inl (vp_updL fo (0 : Int32).toNatClampNeg r.toInt64)))) : Nat × va_E) = cW cy ad en x ++ [((ob, .inl (cy 6, 1, .inr (.inl (vp_updL fo (0 : Int32).toNatClampNeg r.toInt64)))) : Nat × va_E)] := sL
    have hP := cvP hP e9
    have hD := cvD hD e9
    refine lv_goto (tgt := 17) hx hb dL_reason_10 (by decide) ?_
    refine lv_iconst (v := 0) hx hb dL_reason_17 (by decide) ?_
    exact hret _ _ _ _ _ _ _ _ hP hD hS rfl h0.symm (Nat.le_of_ble_eq_true rfl) (Nat.le_of_ble_eq_true rfl) dL_reason_18
abbrev rm_L_line : Room := { frames := 7, cells := 2, slots := 12, locals := 112 }
set_option maxHeartbeats 4000000 in
theorem met_L_line (l : Launch) (hst0 : l.stackTraces = false) (D : va_G) (cy : Nat → ClassId) (sz : Nat) (ad : Nat → Nat → Nat) (en g : Nat → Nat) (x : Mem) (p1 : Int32) (ob : Nat) (fo : Nat → Int64) (code : Int32) (r : Int32) (x' : Mem) (hcd : code = 0 ∨ code = 1) (hF : D_X9_line x p1 = some (code, r, x')) : MW l yL_line cL_line 4 [(0, 9, 12, 41)] rm_L_line D cy en g (cW cy ad en x ++ [((ob, .inl (cy 6, 1, .inr (.inl fo))) : Nat × va_E)]) sz [.ref (ad 12 0), .int p1, .ref ob] code (cW cy ad en x' ++ [((ob, .inl (cy 6, 1, .inr (.inl (if code = 0 then (vp_updL fo (0 : Int32).toNatClampNeg r.toInt64) else fo)))) : Nat × va_E)]) := by
  refine MW.of (by decide +kernel) (Nat.le_of_ble_eq_true rfl) ?_
  intro p e s m args below meth c A ls Q hx hb hml hown hw hK8 hN htb hST hP hD hA hS hl hret
  have hK := hKL hK8
  have hown : s.vm.findClass "CloudDeedsLaw" = some m.cls := hown
  have hl : lv_has ls 4 [(0, .ref (ad 12 0)), (1, .int p1), (2, .ref ob)] := hl
  refine lv_aload_n hx hb dL_line_0 rfl (lv_at hl 2 rfl) ?_
  refine lv_iconst (v := 0) hx hb dL_line_1 (by decide) ?_
  refine lv_aload_n hx hb dL_line_2 rfl (lv_at hl 0 rfl) ?_
  refine lv_iload_n hx hb dL_line_3 rfl (lv_at hl 1 rfl) ?_
  refine xfT (w1 := cW cy ad en x) (w2 := [((ob, .inl (cy 6, 1, .inr (.inl fo))) : Nat × va_E)]) (As := [.int p1]) (rest := [.int 0, .ref ob]) hx hb hml hown hw hK hN hA hl.1 hP hD hS hST k_1195 k_1196 k_1197 k_76 k_1198 (met_X9_line l hst0 D cy _ ad en g x p1 code r x' hF) (gY (x := x) (r := 0) (f := x 12 0) (by decide) rfl) rfl ⟨rfl, rfl⟩ (n := 1) (by decide +kernel) rfl ⟨Nat.le_of_ble_eq_true rfl, Nat.le_of_ble_eq_true rfl⟩ ⟨Nat.le_of_ble_eq_true rfl, Nat.le_of_ble_eq_true rfl⟩ (Nat.le_of_ble_eq_true rfl) rfl dL_line_4 (fun H locs q9 ce9 hne hP hD hS hce hcv hcl => ?_) (fun H locs h0 hP hD hS => ?_)
  · rw [show (if code = 0 then (vp_updL fo (0 : Int32).toNatClampNeg r.toInt64) else fo) = fo from if_neg hne] at hret
    rcases hcd with hc9 | hc9
    · exact absurd hc9 hne
    · rw [hc9] at hcl
      have hcl : s.vm.findClass "java/lang/IndexOutOfBoundsException" = some ce9.cls := hcl
      refine vx_catch (E := "java/lang/IndexOutOfBoundsException") (name := "java/lang/IndexOutOfBoundsException") hown [] ⟨0, 9, 12, 41⟩ [] (htb.trans rfl) (fun z hz => nomatch hz) (by decide) (by decide) (hw _ k_787) (va_Nw.use rfl (hN _ n_819)) hce hcv hcl ?_
      refine lv_astore_n (lv' := [(3, .ref q9), (0, .ref (ad 12 0)), (1, .int p1), (2, .ref ob)]) hx hb dL_line_12 rfl hl (by decide) rfl (fun ls hl => ?_)
      refine lv_iconst (v := 1) hx hb dL_line_13 (by decide) ?_
      exact hret _ _ _ _ _ _ _ _ hP hD hS rfl hc9.symm (Nat.le_of_ble_eq_true rfl) (Nat.le_of_ble_eq_true rfl) dL_line_14
  · rw [show (if code = 0 then (vp_updL fo (0 : Int32).toNatClampNeg r.toInt64) else fo) = (vp_updL fo (0 : Int32).toNatClampNeg r.toInt64) from if_pos h0] at hret
    refine lv_i2l hx hb dL_line_7 rfl ?_
    have hg9 : (cW cy ad en x' ++ [((ob, .inl (cy 6, 1, .inr (.inl fo))) : Nat × va_E)])[(cW cy ad en x').length]? = some ((ob, .inl (cy 6, 1, .inr (.inl fo))) : Nat × va_E) := gL
    refine va_last hx hb hK8 hP hD hS _ 6 hg9 rfl (vp_in_iff.mpr (by decide)) dL_line_8 (fun H locs hP hD hS => ?_)
    have e9 : (cW cy ad en x' ++ [((ob, .inl (cy 6, 1, .inr (.inl fo))) : Nat × va_E)]).set (cW cy ad en x').length ((ob, .inl (cy 6, 1, .inr (.inl (vp_updL fo (0 : Int32).toNatClampNeg r.toInt64)))) : Nat × va_E) = cW cy ad en x' ++ [((ob, .inl (cy 6, 1, .inr (.inl (vp_updL fo (0 : Int32).toNatClampNeg r.toInt64)))) : Nat × va_E)] := sL
    have hP := cvP hP e9
    have hD := cvD hD e9
    refine lv_goto (tgt := 15) hx hb dL_line_9 (by decide) ?_
    refine lv_iconst (v := 0) hx hb dL_line_15 (by decide) ?_
    exact hret _ _ _ _ _ _ _ _ hP hD hS rfl h0.symm (Nat.le_of_ble_eq_true rfl) (Nat.le_of_ble_eq_true rfl) dL_line_16
abbrev rm_L_dawnLine : Room := { frames := 7, cells := 2, slots := 12, locals := 130 }
set_option maxHeartbeats 4000000 in
theorem met_L_dawnLine (l : Launch) (hst0 : l.stackTraces = false) (D : va_G) (cy : Nat → ClassId) (sz : Nat) (ad : Nat → Nat → Nat) (en g : Nat → Nat) (x : Mem) (p1 : Int32) (ob : Nat) (fo : Nat → Int64) (code : Int32) (r : Int32) (x' : Mem) (hcd : code = 0 ∨ code = 1) (hF : D_X9_dawnLine x p1 = some (code, r, x')) : MW l yL_dawnLine cL_dawnLine 4 [(0, 9, 12, 72)] rm_L_dawnLine D cy en g (cW cy ad en x ++ [((ob, .inl (cy 6, 1, .inr (.inl fo))) : Nat × va_E)]) sz [.ref (ad 12 0), .int p1, .ref ob] code (cW cy ad en x' ++ [((ob, .inl (cy 6, 1, .inr (.inl (if code = 0 then (vp_updL fo (0 : Int32).toNatClampNeg r.toInt64) else fo)))) : Nat × va_E)]) := by
  refine MW.of (by decide +kernel) (Nat.le_of_ble_eq_true rfl) ?_
  intro p e s m args below meth c A ls Q hx hb hml hown hw hK8 hN htb hST hP hD hA hS hl hret
  have hK := hKL hK8
  have hown : s.vm.findClass "CloudDeedsLaw" = some m.cls := hown
  have hl : lv_has ls 4 [(0, .ref (ad 12 0)), (1, .int p1), (2, .ref ob)] := hl
  refine lv_aload_n hx hb dL_dawnLine_0 rfl (lv_at hl 2 rfl) ?_
  refine lv_iconst (v := 0) hx hb dL_dawnLine_1 (by decide) ?_
  refine lv_aload_n hx hb dL_dawnLine_2 rfl (lv_at hl 0 rfl) ?_
  refine lv_iload_n hx hb dL_dawnLine_3 rfl (lv_at hl 1 rfl) ?_
  refine xfT (w1 := cW cy ad en x) (w2 := [((ob, .inl (cy 6, 1, .inr (.inl fo))) : Nat × va_E)]) (As := [.int p1]) (rest := [.int 0, .ref ob]) hx hb hml hown hw hK hN hA hl.1 hP hD hS hST k_1454 k_1455 k_1456 k_76 k_1457 (met_X9_dawnLine l hst0 D cy _ ad en g x p1 code r x' hF) (gY (x := x) (r := 0) (f := x 12 0) (by decide) rfl) rfl ⟨rfl, rfl⟩ (n := 1) (by decide +kernel) rfl ⟨Nat.le_of_ble_eq_true rfl, Nat.le_of_ble_eq_true rfl⟩ ⟨Nat.le_of_ble_eq_true rfl, Nat.le_of_ble_eq_true rfl⟩ (Nat.le_of_ble_eq_true rfl) rfl dL_dawnLine_4 (fun H locs q9 ce9 hne hP hD hS hce hcv hcl => ?_) (fun H locs h0 hP hD hS => ?_)
  · rw [show (if code = 0 then (vp_updL fo (0 : Int32).toNatClampNeg r.toInt64) else fo) = fo from if_neg hne] at hret
    rcases hcd with hc9 | hc9
    · exact absurd hc9 hne
    · rw [hc9] at hcl
      have hcl : s.vm.findClass "java/util/NoSuchElementException" = some ce9.cls := hcl
      refine vx_catch (E := "java/util/NoSuchElementException") (name := "java/util/NoSuchElementException") hown [] ⟨0, 9, 12, 72⟩ [] (htb.trans rfl) (fun z hz => nomatch hz) (by decide) (by decide) (hw _ k_939) (va_Nw.use rfl (hN _ n_956)) hce hcv hcl ?_
      refine lv_astore_n (lv' := [(3, .ref q9), (0, .ref (ad 12 0)), (1, .int p1), (2, .ref ob)]) hx hb dL_dawnLine_12 rfl hl (by decide) rfl (fun ls hl => ?_)
      refine lv_iconst (v := 1) hx hb dL_dawnLine_13 (by decide) ?_
      exact hret _ _ _ _ _ _ _ _ hP hD hS rfl hc9.symm (Nat.le_of_ble_eq_true rfl) (Nat.le_of_ble_eq_true rfl) dL_dawnLine_14
  · rw [show (if code = 0 then (vp_updL fo (0 : Int32).toNatClampNeg r.toInt64) else fo) = (vp_updL fo (0 : Int32).toNatClampNeg r.toInt64) from if_pos h0] at hret
    refine lv_i2l hx hb dL_dawnLine_7 rfl ?_
    have hg9 : (cW cy ad en x' ++ [((ob, .inl (cy 6, 1, .inr (.inl fo))) : Nat × va_E)])[(cW cy ad en x').length]? = some ((ob, .inl (cy 6, 1, .inr (.inl fo))) : Nat × va_E) := gL
    refine va_last hx hb hK8 hP hD hS _ 6 hg9 rfl (vp_in_iff.mpr (by decide)) dL_dawnLine_8 (fun H locs hP hD hS => ?_)
    have e9 : (cW cy ad en x' ++ [((ob, .inl (cy 6, 1, .inr (.inl fo))) : Nat × va_E)]).set (cW cy ad en x').length ((ob, .inl (cy 6, 1, .inr (.inl (vp_updL fo (0 : Int32).toNatClampNeg r.toInt64)))) : Nat × va_E) = cW cy ad en x' ++ [((ob, .inl (cy 6, 1, .inr (.inl (vp_updL fo (0 : Int32).toNatClampNeg r.toInt64)))) : Nat × va_E)] := sL
    have hP := cvP hP e9
    have hD := cvD hD e9
    refine lv_goto (tgt := 15) hx hb dL_dawnLine_9 (by decide) ?_
    refine lv_iconst (v := 0) hx hb dL_dawnLine_15 (by decide) ?_
    exact hret _ _ _ _ _ _ _ _ hP hD hS rfl h0.symm (Nat.le_of_ble_eq_true rfl) (Nat.le_of_ble_eq_true rfl) dL_dawnLine_16
abbrev rm_L_character : Room := { frames := 7, cells := 2, slots := 12, locals := 139 }
set_option maxHeartbeats 4000000 in
theorem met_L_character (l : Launch) (hst0 : l.stackTraces = false) (D : va_G) (cy : Nat → ClassId) (sz : Nat) (ad : Nat → Nat → Nat) (en g : Nat → Nat) (x : Mem) (p1 : Int32) (ob : Nat) (fo : Nat → Int64) (code : Int32) (r : Int32) (hcd : code = 0 ∨ code = 1) (hF : D_X9_character x p1 = some (code, r)) : MW l yL_character cL_character 4 [(0, 9, 12, 41)] rm_L_character D cy en g (cW cy ad en x ++ [((ob, .inl (cy 6, 1, .inr (.inl fo))) : Nat × va_E)]) sz [.ref (ad 12 0), .int p1, .ref ob] code (cW cy ad en x ++ [((ob, .inl (cy 6, 1, .inr (.inl (if code = 0 then (vp_updL fo (0 : Int32).toNatClampNeg r.toInt64) else fo)))) : Nat × va_E)]) := by
  refine MW.of (by decide +kernel) (Nat.le_of_ble_eq_true rfl) ?_
  intro p e s m args below meth c A ls Q hx hb hml hown hw hK8 hN htb hST hP hD hA hS hl hret
  have hK := hKL hK8
  have hown : s.vm.findClass "CloudDeedsLaw" = some m.cls := hown
  have hl : lv_has ls 4 [(0, .ref (ad 12 0)), (1, .int p1), (2, .ref ob)] := hl
  refine lv_aload_n hx hb dL_character_0 rfl (lv_at hl 2 rfl) ?_
  refine lv_iconst (v := 0) hx hb dL_character_1 (by decide) ?_
  refine lv_aload_n hx hb dL_character_2 rfl (lv_at hl 0 rfl) ?_
  refine lv_iload_n hx hb dL_character_3 rfl (lv_at hl 1 rfl) ?_
  refine xfT (w1 := cW cy ad en x) (w2 := [((ob, .inl (cy 6, 1, .inr (.inl fo))) : Nat × va_E)]) (As := [.int p1]) (rest := [.int 0, .ref ob]) hx hb hml hown hw hK hN hA hl.1 hP hD hS hST k_1469 k_1470 k_1471 k_76 k_1472 (met_X9_character l hst0 D cy _ ad en g x p1 code r hF) (gY (x := x) (r := 0) (f := x 12 0) (by decide) rfl) rfl ⟨rfl, rfl⟩ (n := 1) (by decide +kernel) rfl ⟨Nat.le_of_ble_eq_true rfl, Nat.le_of_ble_eq_true rfl⟩ ⟨Nat.le_of_ble_eq_true rfl, Nat.le_of_ble_eq_true rfl⟩ (Nat.le_of_ble_eq_true rfl) rfl dL_character_4 (fun H locs q9 ce9 hne hP hD hS hce hcv hcl => ?_) (fun H locs h0 hP hD hS => ?_)
  · rw [show (if code = 0 then (vp_updL fo (0 : Int32).toNatClampNeg r.toInt64) else fo) = fo from if_neg hne] at hret
    rcases hcd with hc9 | hc9
    · exact absurd hc9 hne
    · rw [hc9] at hcl
      have hcl : s.vm.findClass "java/lang/IndexOutOfBoundsException" = some ce9.cls := hcl
      refine vx_catch (E := "java/lang/IndexOutOfBoundsException") (name := "java/lang/IndexOutOfBoundsException") hown [] ⟨0, 9, 12, 41⟩ [] (htb.trans rfl) (fun z hz => nomatch hz) (by decide) (by decide) (hw _ k_787) (va_Nw.use rfl (hN _ n_819)) hce hcv hcl ?_
      refine lv_astore_n (lv' := [(3, .ref q9), (0, .ref (ad 12 0)), (1, .int p1), (2, .ref ob)]) hx hb dL_character_12 rfl hl (by decide) rfl (fun ls hl => ?_)
      refine lv_iconst (v := 1) hx hb dL_character_13 (by decide) ?_
      exact hret _ _ _ _ _ _ _ _ hP hD hS rfl hc9.symm (Nat.le_of_ble_eq_true rfl) (Nat.le_of_ble_eq_true rfl) dL_character_14
  · rw [show (if code = 0 then (vp_updL fo (0 : Int32).toNatClampNeg r.toInt64) else fo) = (vp_updL fo (0 : Int32).toNatClampNeg r.toInt64) from if_pos h0] at hret
    refine lv_i2l hx hb dL_character_7 rfl ?_
    have hg9 : (cW cy ad en x ++ [((ob, .inl (cy 6, 1, .inr (.inl fo))) : Nat × va_E)])[(cW cy ad en x).length]? = some ((ob, .inl (cy 6, 1, .inr (.inl fo))) : Nat × va_E) := gL
    refine va_last hx hb hK8 hP hD hS _ 6 hg9 rfl (vp_in_iff.mpr (by decide)) dL_character_8 (fun H locs hP hD hS => ?_)
    have e9 : (cW cy ad en x ++ [((ob, .inl (cy 6, 1, .inr (.inl fo))) : Nat × va_E)]).set (cW cy ad en x).length ((ob, .inl (cy 6, 1, .inr (.inl (vp_updL fo (0 : Int32).toNatClampNeg r.toInt64)))) : Nat × va_E) = cW cy ad en x ++ [((ob, .inl (cy 6, 1, .inr (.inl (vp_updL fo (0 : Int32).toNatClampNeg r.toInt64)))) : Nat × va_E)] := sL
    have hP := cvP hP e9
    have hD := cvD hD e9
    refine lv_goto (tgt := 15) hx hb dL_character_9 (by decide) ?_
    refine lv_iconst (v := 0) hx hb dL_character_15 (by decide) ?_
    exact hret _ _ _ _ _ _ _ _ hP hD hS rfl h0.symm (Nat.le_of_ble_eq_true rfl) (Nat.le_of_ble_eq_true rfl) dL_character_16
abbrev rm_L_meanSize : Room := { frames := 7, cells := 2, slots := 12, locals := 110 }
set_option maxHeartbeats 4000000 in
theorem met_L_meanSize (l : Launch) (hst0 : l.stackTraces = false) (D : va_G) (cy : Nat → ClassId) (sz : Nat) (ad : Nat → Nat → Nat) (en g : Nat → Nat) (x : Mem) (ob : Nat) (fo : Nat → UInt64) (code : Int32) (r : UInt64) (hcd : code = 0 ∨ code = 1) (hF : D_X9_meanSize x = some (code, r)) : MW l yL_meanSize cL_meanSize 3 [(0, 7, 10, 111)] rm_L_meanSize D cy en g (cW cy ad en x ++ [((ob, .inl (cy 7, 1, .inr (.inr (.inr (.inl fo))))) : Nat × va_E)]) sz [.ref (ad 12 0), .ref ob] code (cW cy ad en x ++ [((ob, .inl (cy 7, 1, .inr (.inr (.inr (.inl (if code = 0 then (vf_upd fo (0 : Int32).toNatClampNeg r) else fo)))))) : Nat × va_E)]) := by
  refine MW.of (by decide +kernel) (Nat.le_of_ble_eq_true rfl) ?_
  intro p e s m args below meth c A ls Q hx hb hml hown hw hK8 hN htb hST hP hD hA hS hl hret
  have hK := hKL hK8
  have hown : s.vm.findClass "CloudDeedsLaw" = some m.cls := hown
  have hl : lv_has ls 3 [(0, .ref (ad 12 0)), (1, .ref ob)] := hl
  refine lv_aload_n hx hb dL_meanSize_0 rfl (lv_at hl 1 rfl) ?_
  refine lv_iconst (v := 0) hx hb dL_meanSize_1 (by decide) ?_
  refine lv_aload_n hx hb dL_meanSize_2 rfl (lv_at hl 0 rfl) ?_
  refine xfTD (w1 := cW cy ad en x) (w2 := [((ob, .inl (cy 7, 1, .inr (.inr (.inr (.inl fo))))) : Nat × va_E)]) (As := []) (rest := [.int 0, .ref ob]) hx hb hml hown hw hK hN hA hl.1 hP hD hS hST k_1501 k_1502 k_1503 k_76 k_1504 (met_X9_meanSize l hst0 D cy _ ad en g x code r hF) (gY (x := x) (r := 0) (f := x 12 0) (by decide) rfl) rfl ⟨rfl, rfl⟩ (n := 0) (by decide +kernel) rfl ⟨Nat.le_of_ble_eq_true rfl, Nat.le_of_ble_eq_true rfl⟩ ⟨Nat.le_of_ble_eq_true rfl, Nat.le_of_ble_eq_true rfl⟩ (Nat.le_of_ble_eq_true rfl) rfl dL_meanSize_3 (fun H locs q9 ce9 hne hP hD hS hce hcv hcl => ?_) (fun H locs h0 hP hD hS => ?_)
  · rw [show (if code = 0 then (vf_upd fo (0 : Int32).toNatClampNeg r) else fo) = fo from if_neg hne] at hret
    rcases hcd with hc9 | hc9
    · exact absurd hc9 hne
    · rw [hc9] at hcl
      have hcl : s.vm.findClass "java/lang/ArithmeticException" = some ce9.cls := hcl
      refine vx_catch (E := "java/lang/ArithmeticException") (name := "java/lang/ArithmeticException") hown [] ⟨0, 7, 10, 111⟩ [] (htb.trans rfl) (fun z hz => nomatch hz) (by decide) (by decide) (hw _ k_1487) (va_Nw.use rfl (hN _ n_1499)) hce hcv hcl ?_
      refine lv_astore_n (lv' := [(2, .ref q9), (0, .ref (ad 12 0)), (1, .ref ob)]) hx hb dL_meanSize_10 rfl hl (by decide) rfl (fun ls hl => ?_)
      refine lv_iconst (v := 1) hx hb dL_meanSize_11 (by decide) ?_
      exact hret _ _ _ _ _ _ _ _ hP hD hS rfl hc9.symm (Nat.le_of_ble_eq_true rfl) (Nat.le_of_ble_eq_true rfl) dL_meanSize_12
  · rw [show (if code = 0 then (vf_upd fo (0 : Int32).toNatClampNeg r) else fo) = (vf_upd fo (0 : Int32).toNatClampNeg r) from if_pos h0] at hret
    have hg9 : (cW cy ad en x ++ [((ob, .inl (cy 7, 1, .inr (.inr (.inr (.inl fo))))) : Nat × va_E)])[(cW cy ad en x).length]? = some ((ob, .inl (cy 7, 1, .inr (.inr (.inr (.inl fo))))) : Nat × va_E) := gL
    refine va_dast hx hb hK8 hP hD hS _ 7 hg9 rfl (vp_in_iff.mpr (by decide)) dL_meanSize_6 (fun H locs hP hD hS => ?_)
    have e9 : (cW cy ad en x ++ [((ob, .inl (cy 7, 1, .inr (.inr (.inr (.inl fo))))) : Nat × va_E)]).set (cW cy ad en x).length ((ob, .inl (cy 7, 1, .inr (.inr (.inr (.inl (vf_upd fo (0 : Int32).toNatClampNeg r)))))) : Nat × va_E) = cW cy ad en x ++ [((ob, .inl (cy 7, 1, .inr (.inr (.inr (.inl (vf_upd fo (0 : Int32).toNatClampNeg r)))))) : Nat × va_E)] := sL
    have hP := cvP hP e9
    have hD := cvD hD e9
    refine lv_goto (tgt := 13) hx hb dL_meanSize_7 (by decide) ?_
    refine lv_iconst (v := 0) hx hb dL_meanSize_13 (by decide) ?_
    exact hret _ _ _ _ _ _ _ _ hP hD hS rfl h0.symm (Nat.le_of_ble_eq_true rfl) (Nat.le_of_ble_eq_true rfl) dL_meanSize_14
abbrev rm_L_titledShare : Room := { frames := 7, cells := 2, slots := 12, locals := 110 }
set_option maxHeartbeats 4000000 in
theorem met_L_titledShare (l : Launch) (hst0 : l.stackTraces = false) (D : va_G) (cy : Nat → ClassId) (sz : Nat) (ad : Nat → Nat → Nat) (en g : Nat → Nat) (x : Mem) (ob : Nat) (fo : Nat → UInt64) (code : Int32) (r : UInt32) (hcd : code = 0 ∨ code = 1) (hF : D_X9_titledShare x = some (code, r)) (hn : code = 0 → vf_n64 (FP.f2d r)) : MW l yL_titledShare cL_titledShare 3 [(0, 8, 11, 111)] rm_L_titledShare D cy en g (cW cy ad en x ++ [((ob, .inl (cy 7, 1, .inr (.inr (.inr (.inl fo))))) : Nat × va_E)]) sz [.ref (ad 12 0), .ref ob] code (cW cy ad en x ++ [((ob, .inl (cy 7, 1, .inr (.inr (.inr (.inl (if code = 0 then (vf_upd fo (0 : Int32).toNatClampNeg (FP.f2d r)) else fo)))))) : Nat × va_E)]) := by
  refine MW.of (by decide +kernel) (Nat.le_of_ble_eq_true rfl) ?_
  intro p e s m args below meth c A ls Q hx hb hml hown hw hK8 hN htb hST hP hD hA hS hl hret
  have hK := hKL hK8
  have hown : s.vm.findClass "CloudDeedsLaw" = some m.cls := hown
  have hl : lv_has ls 3 [(0, .ref (ad 12 0)), (1, .ref ob)] := hl
  refine lv_aload_n hx hb dL_titledShare_0 rfl (lv_at hl 1 rfl) ?_
  refine lv_iconst (v := 0) hx hb dL_titledShare_1 (by decide) ?_
  refine lv_aload_n hx hb dL_titledShare_2 rfl (lv_at hl 0 rfl) ?_
  refine xfTF (w1 := cW cy ad en x) (w2 := [((ob, .inl (cy 7, 1, .inr (.inr (.inr (.inl fo))))) : Nat × va_E)]) (As := []) (rest := [.int 0, .ref ob]) hx hb hml hown hw hK hN hA hl.1 hP hD hS hST k_1515 k_1516 k_1517 k_76 k_1518 (met_X9_titledShare l hst0 D cy _ ad en g x code r hF) (gY (x := x) (r := 0) (f := x 12 0) (by decide) rfl) rfl ⟨rfl, rfl⟩ (n := 0) (by decide +kernel) rfl ⟨Nat.le_of_ble_eq_true rfl, Nat.le_of_ble_eq_true rfl⟩ ⟨Nat.le_of_ble_eq_true rfl, Nat.le_of_ble_eq_true rfl⟩ (Nat.le_of_ble_eq_true rfl) rfl dL_titledShare_3 (fun H locs q9 ce9 hne hP hD hS hce hcv hcl => ?_) (fun H locs h0 hP hD hS => ?_)
  · rw [show (if code = 0 then (vf_upd fo (0 : Int32).toNatClampNeg (FP.f2d r)) else fo) = fo from if_neg hne] at hret
    rcases hcd with hc9 | hc9
    · exact absurd hc9 hne
    · rw [hc9] at hcl
      have hcl : s.vm.findClass "java/lang/ArithmeticException" = some ce9.cls := hcl
      refine vx_catch (E := "java/lang/ArithmeticException") (name := "java/lang/ArithmeticException") hown [] ⟨0, 8, 11, 111⟩ [] (htb.trans rfl) (fun z hz => nomatch hz) (by decide) (by decide) (hw _ k_1487) (va_Nw.use rfl (hN _ n_1499)) hce hcv hcl ?_
      refine lv_astore_n (lv' := [(2, .ref q9), (0, .ref (ad 12 0)), (1, .ref ob)]) hx hb dL_titledShare_11 rfl hl (by decide) rfl (fun ls hl => ?_)
      refine lv_iconst (v := 1) hx hb dL_titledShare_12 (by decide) ?_
      exact hret _ _ _ _ _ _ _ _ hP hD hS rfl hc9.symm (Nat.le_of_ble_eq_true rfl) (Nat.le_of_ble_eq_true rfl) dL_titledShare_13
  · rw [show (if code = 0 then (vf_upd fo (0 : Int32).toNatClampNeg (FP.f2d r)) else fo) = (vf_upd fo (0 : Int32).toNatClampNeg (FP.f2d r)) from if_pos h0] at hret
    refine lv_f2d hx hb dL_titledShare_6 (hn h0) ?_
    have hg9 : (cW cy ad en x ++ [((ob, .inl (cy 7, 1, .inr (.inr (.inr (.inl fo))))) : Nat × va_E)])[(cW cy ad en x).length]? = some ((ob, .inl (cy 7, 1, .inr (.inr (.inr (.inl fo))))) : Nat × va_E) := gL
    refine va_dast hx hb hK8 hP hD hS _ 7 hg9 rfl (vp_in_iff.mpr (by decide)) dL_titledShare_7 (fun H locs hP hD hS => ?_)
    have e9 : (cW cy ad en x ++ [((ob, .inl (cy 7, 1, .inr (.inr (.inr (.inl fo))))) : Nat × va_E)]).set (cW cy ad en x).length ((ob, .inl (cy 7, 1, .inr (.inr (.inr (.inl (vf_upd fo (0 : Int32).toNatClampNeg (FP.f2d r))))))) : Nat × va_E) = cW cy ad en x ++ [((ob, .inl (cy 7, 1, .inr (.inr (.inr (.inl (vf_upd fo (0 : Int32).toNatClampNeg (FP.f2d r))))))) : Nat × va_E)] := sL
    have hP := cvP hP e9
    have hD := cvD hD e9
    refine lv_goto (tgt := 14) hx hb dL_titledShare_8 (by decide) ?_
    refine lv_iconst (v := 0) hx hb dL_titledShare_14 (by decide) ?_
    exact hret _ _ _ _ _ _ _ _ hP hD hS rfl h0.symm (Nat.le_of_ble_eq_true rfl) (Nat.le_of_ble_eq_true rfl) dL_titledShare_15
abbrev rm_L_account : Room := { frames := 7, cells := 2, slots := 12, locals := 111 }
set_option maxHeartbeats 4000000 in
theorem met_L_account (l : Launch) (hst0 : l.stackTraces = false) (D : va_G) (cy : Nat → ClassId) (sz : Nat) (ad : Nat → Nat → Nat) (en g : Nat → Nat) (x : Mem) (p1 : Int32) (ob : Nat) (fo : Nat → Int64) (code : Int32) (r : Int32) (hcd : code = 0 ∨ code = 1) (hF : D_X9_account x p1 = some (code, r)) : MW l yL_account cL_account 4 [(0, 9, 12, 43)] rm_L_account D cy en g (cW cy ad en x ++ [((ob, .inl (cy 6, 1, .inr (.inl fo))) : Nat × va_E)]) sz [.ref (ad 12 0), .int p1, .ref ob] code (cW cy ad en x ++ [((ob, .inl (cy 6, 1, .inr (.inl (if code = 0 then (vp_updL fo (0 : Int32).toNatClampNeg r.toInt64) else fo)))) : Nat × va_E)]) := by
  refine MW.of (by decide +kernel) (Nat.le_of_ble_eq_true rfl) ?_
  intro p e s m args below meth c A ls Q hx hb hml hown hw hK8 hN htb hST hP hD hA hS hl hret
  have hK := hKL hK8
  have hown : s.vm.findClass "CloudDeedsLaw" = some m.cls := hown
  have hl : lv_has ls 4 [(0, .ref (ad 12 0)), (1, .int p1), (2, .ref ob)] := hl
  refine lv_aload_n hx hb dL_account_0 rfl (lv_at hl 2 rfl) ?_
  refine lv_iconst (v := 0) hx hb dL_account_1 (by decide) ?_
  refine lv_aload_n hx hb dL_account_2 rfl (lv_at hl 0 rfl) ?_
  refine lv_iload_n hx hb dL_account_3 rfl (lv_at hl 1 rfl) ?_
  refine xfT (w1 := cW cy ad en x) (w2 := [((ob, .inl (cy 6, 1, .inr (.inl fo))) : Nat × va_E)]) (As := [.int p1]) (rest := [.int 0, .ref ob]) hx hb hml hown hw hK hN hA hl.1 hP hD hS hST k_1526 k_1527 k_1528 k_76 k_1529 (met_X9_account l hst0 D cy _ ad en g x p1 code r hF) (gY (x := x) (r := 0) (f := x 12 0) (by decide) rfl) rfl ⟨rfl, rfl⟩ (n := 1) (by decide +kernel) rfl ⟨Nat.le_of_ble_eq_true rfl, Nat.le_of_ble_eq_true rfl⟩ ⟨Nat.le_of_ble_eq_true rfl, Nat.le_of_ble_eq_true rfl⟩ (Nat.le_of_ble_eq_true rfl) rfl dL_account_4 (fun H locs q9 ce9 hne hP hD hS hce hcv hcl => ?_) (fun H locs h0 hP hD hS => ?_)
  · rw [show (if code = 0 then (vp_updL fo (0 : Int32).toNatClampNeg r.toInt64) else fo) = fo from if_neg hne] at hret
    rcases hcd with hc9 | hc9
    · exact absurd hc9 hne
    · rw [hc9] at hcl
      have hcl : s.vm.findClass "java/lang/IllegalArgumentException" = some ce9.cls := hcl
      refine vx_catch (E := "java/lang/IllegalArgumentException") (name := "java/lang/IllegalArgumentException") hown [] ⟨0, 9, 12, 43⟩ [] (htb.trans rfl) (fun z hz => nomatch hz) (by decide) (by decide) (hw _ k_811) (va_Nw.use rfl (hN _ n_833)) hce hcv hcl ?_
      refine lv_astore_n (lv' := [(3, .ref q9), (0, .ref (ad 12 0)), (1, .int p1), (2, .ref ob)]) hx hb dL_account_12 rfl hl (by decide) rfl (fun ls hl => ?_)
      refine lv_iconst (v := 1) hx hb dL_account_13 (by decide) ?_
      exact hret _ _ _ _ _ _ _ _ hP hD hS rfl hc9.symm (Nat.le_of_ble_eq_true rfl) (Nat.le_of_ble_eq_true rfl) dL_account_14
  · rw [show (if code = 0 then (vp_updL fo (0 : Int32).toNatClampNeg r.toInt64) else fo) = (vp_updL fo (0 : Int32).toNatClampNeg r.toInt64) from if_pos h0] at hret
    refine lv_i2l hx hb dL_account_7 rfl ?_
    have hg9 : (cW cy ad en x ++ [((ob, .inl (cy 6, 1, .inr (.inl fo))) : Nat × va_E)])[(cW cy ad en x).length]? = some ((ob, .inl (cy 6, 1, .inr (.inl fo))) : Nat × va_E) := gL
    refine va_last hx hb hK8 hP hD hS _ 6 hg9 rfl (vp_in_iff.mpr (by decide)) dL_account_8 (fun H locs hP hD hS => ?_)
    have e9 : (cW cy ad en x ++ [((ob, .inl (cy 6, 1, .inr (.inl fo))) : Nat × va_E)]).set (cW cy ad en x).length ((ob, .inl (cy 6, 1, .inr (.inl (vp_updL fo (0 : Int32).toNatClampNeg r.toInt64)))) : Nat × va_E) = cW cy ad en x ++ [((ob, .inl (cy 6, 1, .inr (.inl (vp_updL fo (0 : Int32).toNatClampNeg r.toInt64)))) : Nat × va_E)] := sL
    have hP := cvP hP e9
    have hD := cvD hD e9
    refine lv_goto (tgt := 15) hx hb dL_account_9 (by decide) ?_
    refine lv_iconst (v := 0) hx hb dL_account_15 (by decide) ?_
    exact hret _ _ _ _ _ _ _ _ hP hD hS rfl h0.symm (Nat.le_of_ble_eq_true rfl) (Nat.le_of_ble_eq_true rfl) dL_account_16
abbrev rm_L_undo : Room := { frames := 7, cells := 2, slots := 12, locals := 165 }
set_option maxHeartbeats 4000000 in
theorem met_L_undo (l : Launch) (hst0 : l.stackTraces = false) (D : va_G) (cy : Nat → ClassId) (sz : Nat) (ad : Nat → Nat → Nat) (en g : Nat → Nat) (x : Mem) (ob : Nat) (fo : Nat → Int64) (code : Int32) (r : Int32) (x' : Mem) (hcd : code = 0 ∨ code = 1) (hF : D_X9_undo x = some (code, r, x')) : MW l yL_undo cL_undo 3 [(0, 8, 11, 84)] rm_L_undo D cy en g (cW cy ad en x ++ [((ob, .inl (cy 6, 1, .inr (.inl fo))) : Nat × va_E)]) sz [.ref (ad 12 0), .ref ob] code (cW cy ad en x' ++ [((ob, .inl (cy 6, 1, .inr (.inl (if code = 0 then (vp_updL fo (0 : Int32).toNatClampNeg r.toInt64) else fo)))) : Nat × va_E)]) := by
  refine MW.of (by decide +kernel) (Nat.le_of_ble_eq_true rfl) ?_
  intro p e s m args below meth c A ls Q hx hb hml hown hw hK8 hN htb hST hP hD hA hS hl hret
  have hK := hKL hK8
  have hown : s.vm.findClass "CloudDeedsLaw" = some m.cls := hown
  have hl : lv_has ls 3 [(0, .ref (ad 12 0)), (1, .ref ob)] := hl
  refine lv_aload_n hx hb dL_undo_0 rfl (lv_at hl 1 rfl) ?_
  refine lv_iconst (v := 0) hx hb dL_undo_1 (by decide) ?_
  refine lv_aload_n hx hb dL_undo_2 rfl (lv_at hl 0 rfl) ?_
  refine xfT (w1 := cW cy ad en x) (w2 := [((ob, .inl (cy 6, 1, .inr (.inl fo))) : Nat × va_E)]) (As := []) (rest := [.int 0, .ref ob]) hx hb hml hown hw hK hN hA hl.1 hP hD hS hST k_1543 k_1544 k_1545 k_76 k_1546 (met_X9_undo l hst0 D cy _ ad en g x code r x' hF) (gY (x := x) (r := 0) (f := x 12 0) (by decide) rfl) rfl ⟨rfl, rfl⟩ (n := 0) (by decide +kernel) rfl ⟨Nat.le_of_ble_eq_true rfl, Nat.le_of_ble_eq_true rfl⟩ ⟨Nat.le_of_ble_eq_true rfl, Nat.le_of_ble_eq_true rfl⟩ (Nat.le_of_ble_eq_true rfl) rfl dL_undo_3 (fun H locs q9 ce9 hne hP hD hS hce hcv hcl => ?_) (fun H locs h0 hP hD hS => ?_)
  · rw [show (if code = 0 then (vp_updL fo (0 : Int32).toNatClampNeg r.toInt64) else fo) = fo from if_neg hne] at hret
    rcases hcd with hc9 | hc9
    · exact absurd hc9 hne
    · rw [hc9] at hcl
      have hcl : s.vm.findClass "java/lang/IllegalStateException" = some ce9.cls := hcl
      refine vx_catch (E := "java/lang/IllegalStateException") (name := "java/lang/IllegalStateException") hown [] ⟨0, 8, 11, 84⟩ [] (htb.trans rfl) (fun z hz => nomatch hz) (by decide) (by decide) (hw _ k_1021) (va_Nw.use rfl (hN _ n_1033)) hce hcv hcl ?_
      refine lv_astore_n (lv' := [(2, .ref q9), (0, .ref (ad 12 0)), (1, .ref ob)]) hx hb dL_undo_11 rfl hl (by decide) rfl (fun ls hl => ?_)
      refine lv_iconst (v := 1) hx hb dL_undo_12 (by decide) ?_
      exact hret _ _ _ _ _ _ _ _ hP hD hS rfl hc9.symm (Nat.le_of_ble_eq_true rfl) (Nat.le_of_ble_eq_true rfl) dL_undo_13
  · rw [show (if code = 0 then (vp_updL fo (0 : Int32).toNatClampNeg r.toInt64) else fo) = (vp_updL fo (0 : Int32).toNatClampNeg r.toInt64) from if_pos h0] at hret
    refine lv_i2l hx hb dL_undo_6 rfl ?_
    have hg9 : (cW cy ad en x' ++ [((ob, .inl (cy 6, 1, .inr (.inl fo))) : Nat × va_E)])[(cW cy ad en x').length]? = some ((ob, .inl (cy 6, 1, .inr (.inl fo))) : Nat × va_E) := gL
    refine va_last hx hb hK8 hP hD hS _ 6 hg9 rfl (vp_in_iff.mpr (by decide)) dL_undo_7 (fun H locs hP hD hS => ?_)
    have e9 : (cW cy ad en x' ++ [((ob, .inl (cy 6, 1, .inr (.inl fo))) : Nat × va_E)]).set (cW cy ad en x').length ((ob, .inl (cy 6, 1, .inr (.inl (vp_updL fo (0 : Int32).toNatClampNeg r.toInt64)))) : Nat × va_E) = cW cy ad en x' ++ [((ob, .inl (cy 6, 1, .inr (.inl (vp_updL fo (0 : Int32).toNatClampNeg r.toInt64)))) : Nat × va_E)] := sL
    have hP := cvP hP e9
    have hD := cvD hD e9
    refine lv_goto (tgt := 14) hx hb dL_undo_8 (by decide) ?_
    refine lv_iconst (v := 0) hx hb dL_undo_14 (by decide) ?_
    exact hret _ _ _ _ _ _ _ _ hP hD hS rfl h0.symm (Nat.le_of_ble_eq_true rfl) (Nat.le_of_ble_eq_true rfl) dL_undo_15
abbrev rm_L_restore : Room := { frames := 7, cells := 2, slots := 12, locals := 144 }
set_option maxHeartbeats 4000000 in
theorem met_L_restore (l : Launch) (hst0 : l.stackTraces = false) (D : va_G) (cy : Nat → ClassId) (sz : Nat) (ad : Nat → Nat → Nat) (en g : Nat → Nat) (x : Mem) (ob : Nat) (fo : Nat → Int64) (code : Int32) (r : Int32) (x' : Mem) (hcd : code = 0 ∨ code = 1) (hF : D_X9_restore x = some (code, r, x')) : MW l yL_restore cL_restore 3 [(0, 8, 11, 84)] rm_L_restore D cy en g (cW cy ad en x ++ [((ob, .inl (cy 6, 1, .inr (.inl fo))) : Nat × va_E)]) sz [.ref (ad 12 0), .ref ob] code (cW cy ad en x' ++ [((ob, .inl (cy 6, 1, .inr (.inl (if code = 0 then (vp_updL fo (0 : Int32).toNatClampNeg r.toInt64) else fo)))) : Nat × va_E)]) := by
  refine MW.of (by decide +kernel) (Nat.le_of_ble_eq_true rfl) ?_
  intro p e s m args below meth c A ls Q hx hb hml hown hw hK8 hN htb hST hP hD hA hS hl hret
  have hK := hKL hK8
  have hown : s.vm.findClass "CloudDeedsLaw" = some m.cls := hown
  have hl : lv_has ls 3 [(0, .ref (ad 12 0)), (1, .ref ob)] := hl
  refine lv_aload_n hx hb dL_restore_0 rfl (lv_at hl 1 rfl) ?_
  refine lv_iconst (v := 0) hx hb dL_restore_1 (by decide) ?_
  refine lv_aload_n hx hb dL_restore_2 rfl (lv_at hl 0 rfl) ?_
  refine xfT (w1 := cW cy ad en x) (w2 := [((ob, .inl (cy 6, 1, .inr (.inl fo))) : Nat × va_E)]) (As := []) (rest := [.int 0, .ref ob]) hx hb hml hown hw hK hN hA hl.1 hP hD hS hST k_1555 k_1556 k_1557 k_76 k_1558 (met_X9_restore l hst0 D cy _ ad en g x code r x' hF) (gY (x := x) (r := 0) (f := x 12 0) (by decide) rfl) rfl ⟨rfl, rfl⟩ (n := 0) (by decide +kernel) rfl ⟨Nat.le_of_ble_eq_true rfl, Nat.le_of_ble_eq_true rfl⟩ ⟨Nat.le_of_ble_eq_true rfl, Nat.le_of_ble_eq_true rfl⟩ (Nat.le_of_ble_eq_true rfl) rfl dL_restore_3 (fun H locs q9 ce9 hne hP hD hS hce hcv hcl => ?_) (fun H locs h0 hP hD hS => ?_)
  · rw [show (if code = 0 then (vp_updL fo (0 : Int32).toNatClampNeg r.toInt64) else fo) = fo from if_neg hne] at hret
    rcases hcd with hc9 | hc9
    · exact absurd hc9 hne
    · rw [hc9] at hcl
      have hcl : s.vm.findClass "java/lang/IllegalStateException" = some ce9.cls := hcl
      refine vx_catch (E := "java/lang/IllegalStateException") (name := "java/lang/IllegalStateException") hown [] ⟨0, 8, 11, 84⟩ [] (htb.trans rfl) (fun z hz => nomatch hz) (by decide) (by decide) (hw _ k_1021) (va_Nw.use rfl (hN _ n_1033)) hce hcv hcl ?_
      refine lv_astore_n (lv' := [(2, .ref q9), (0, .ref (ad 12 0)), (1, .ref ob)]) hx hb dL_restore_11 rfl hl (by decide) rfl (fun ls hl => ?_)
      refine lv_iconst (v := 1) hx hb dL_restore_12 (by decide) ?_
      exact hret _ _ _ _ _ _ _ _ hP hD hS rfl hc9.symm (Nat.le_of_ble_eq_true rfl) (Nat.le_of_ble_eq_true rfl) dL_restore_13
  · rw [show (if code = 0 then (vp_updL fo (0 : Int32).toNatClampNeg r.toInt64) else fo) = (vp_updL fo (0 : Int32).toNatClampNeg r.toInt64) from if_pos h0] at hret
    refine lv_i2l hx hb dL_restore_6 rfl ?_
    have hg9 : (cW cy ad en x' ++ [((ob, .inl (cy 6, 1, .inr (.inl fo))) : Nat × va_E)])[(cW cy ad en x').length]? = some ((ob, .inl (cy 6, 1, .inr (.inl fo))) : Nat × va_E) := gL
    refine va_last hx hb hK8 hP hD hS _ 6 hg9 rfl (vp_in_iff.mpr (by decide)) dL_restore_7 (fun H locs hP hD hS => ?_)
    have e9 : (cW cy ad en x' ++ [((ob, .inl (cy 6, 1, .inr (.inl fo))) : Nat × va_E)]).set (cW cy ad en x').length ((ob, .inl (cy 6, 1, .inr (.inl (vp_updL fo (0 : Int32).toNatClampNeg r.toInt64)))) : Nat × va_E) = cW cy ad en x' ++ [((ob, .inl (cy 6, 1, .inr (.inl (vp_updL fo (0 : Int32).toNatClampNeg r.toInt64)))) : Nat × va_E)] := sL
    have hP := cvP hP e9
    have hD := cvD hD e9
    refine lv_goto (tgt := 14) hx hb dL_restore_8 (by decide) ?_
    refine lv_iconst (v := 0) hx hb dL_restore_14 (by decide) ?_
    exact hret _ _ _ _ _ _ _ _ hP hD hS rfl h0.symm (Nat.le_of_ble_eq_true rfl) (Nat.le_of_ble_eq_true rfl) dL_restore_15
