def D_X9_isWithin (p1 : Int32) (p2 : Int32) : Int32 := if p1 < 0 then (0) else (if p2 ≤ p1 then (0) else (1))
abbrev rm_X9_isWithin : Room := { frames := 0, cells := 0, slots := 0, locals := 0 }
set_option maxHeartbeats 4000000 in
set_option maxRecDepth 100000 in
theorem met_X9_isWithin (l : Launch) (D : va_G) (cy : Nat → ClassId) (sz : Nat) (ws : va_W) (p1 : Int32) (p2 : Int32)  (r : Int32) (hF : D_X9_isWithin p1 p2 = r) : MI l yX9_isWithin cX9_isWithin 2 (some .boolean) rm_X9_isWithin D cy ws sz (fun _ => True) [.int p1, .int p2] r ws := by
  refine MZ.of (by decide +kernel) (Nat.le_of_ble_eq_true rfl) ?_
  intro p e s m args below meth c A ls Q hAt _ hP hD hA hS hl hret
  obtain ⟨hx, hb, hr, hml, hown, hw, hlk, hK, hN⟩ := hAt
  have hown : s.vm.findClass "CloudDeeds" = some m.cls := hown
  have hl : lv_has ls 2 [(0, .int p1), (1, .int p2)] := hl
  refine lv_iload_n hx hb dX9_isWithin_0 rfl (lv_at hl 0 rfl) ?_
  refine lv_if_lt (tgt := 13) hx hb dX9_isWithin_1 (by decide) (fun h1 => ?_) (fun h1 => ?_)
  · replace hF := (if_pos h1).symm.trans hF
    refine lv_iconst (v := 0) hx hb dX9_isWithin_13 (by decide) ?_
    cases hF
    exact hret _ _ _ _ _ _ hP hD hS rfl rfl rfl dX9_isWithin_14
  · replace hF := (if_neg h1).symm.trans hF
    refine lv_iload_n hx hb dX9_isWithin_4 rfl (lv_at hl 0 rfl) ?_
    refine lv_iload_n hx hb dX9_isWithin_5 rfl (lv_at hl 1 rfl) ?_
    refine lv_icmp_ge (tgt := 13) hx hb dX9_isWithin_6 (by decide) (fun h2 => ?_) (fun h2 => ?_)
    · replace hF := (if_pos h2).symm.trans hF
      refine lv_iconst (v := 0) hx hb dX9_isWithin_13 (by decide) ?_
      cases hF
      exact hret _ _ _ _ _ _ hP hD hS rfl rfl rfl dX9_isWithin_14
    · replace hF := (if_neg h2).symm.trans hF
      refine lv_iconst (v := 1) hx hb dX9_isWithin_9 (by decide) ?_
      refine lv_goto (tgt := 14) hx hb dX9_isWithin_10 (by decide) ?_
      cases hF
      exact hret _ _ _ _ _ _ hP hD hS rfl rfl rfl dX9_isWithin_14
theorem bz_X9_isWithin (p1 : Int32) (p2 : Int32) : (D_X9_isWithin p1 p2) = 0 ∨ (D_X9_isWithin p1 p2) = 1 := by
  unfold D_X9_isWithin
  repeat' split
  all_goals first | exact Or.inl rfl | exact Or.inr rfl | assumption
def D_X9_isOwner (p1 : Int32) : Int32 := if p1 < 0 then (0) else (if 4 ≤ p1 then (0) else (1))
abbrev rm_X9_isOwner : Room := { frames := 0, cells := 0, slots := 0, locals := 0 }
set_option maxHeartbeats 4000000 in
set_option maxRecDepth 100000 in
theorem met_X9_isOwner (l : Launch) (D : va_G) (cy : Nat → ClassId) (sz : Nat) (ws : va_W) (p1 : Int32)  (r : Int32) (hF : D_X9_isOwner p1 = r) : MI l yX9_isOwner cX9_isOwner 1 (some .boolean) rm_X9_isOwner D cy ws sz (fun _ => True) [.int p1] r ws := by
  refine MZ.of (by decide +kernel) (Nat.le_of_ble_eq_true rfl) ?_
  intro p e s m args below meth c A ls Q hAt _ hP hD hA hS hl hret
  obtain ⟨hx, hb, hr, hml, hown, hw, hlk, hK, hN⟩ := hAt
  have hown : s.vm.findClass "CloudDeeds" = some m.cls := hown
  have hl : lv_has ls 1 [(0, .int p1)] := hl
  refine lv_iload_n hx hb dX9_isOwner_0 rfl (lv_at hl 0 rfl) ?_
  refine lv_if_lt (tgt := 13) hx hb dX9_isOwner_1 (by decide) (fun h1 => ?_) (fun h1 => ?_)
  · replace hF := (if_pos h1).symm.trans hF
    refine lv_iconst (v := 0) hx hb dX9_isOwner_13 (by decide) ?_
    cases hF
    exact hret _ _ _ _ _ _ hP hD hS rfl rfl rfl dX9_isOwner_14
  · replace hF := (if_neg h1).symm.trans hF
    refine lv_iload_n hx hb dX9_isOwner_4 rfl (lv_at hl 0 rfl) ?_
    refine lv_iconst (v := 4) hx hb dX9_isOwner_5 (by decide) ?_
    refine lv_icmp_ge (tgt := 13) hx hb dX9_isOwner_6 (by decide) (fun h2 => ?_) (fun h2 => ?_)
    · replace hF := (if_pos h2).symm.trans hF
      refine lv_iconst (v := 0) hx hb dX9_isOwner_13 (by decide) ?_
      cases hF
      exact hret _ _ _ _ _ _ hP hD hS rfl rfl rfl dX9_isOwner_14
    · replace hF := (if_neg h2).symm.trans hF
      refine lv_iconst (v := 1) hx hb dX9_isOwner_9 (by decide) ?_
      refine lv_goto (tgt := 14) hx hb dX9_isOwner_10 (by decide) ?_
      cases hF
      exact hret _ _ _ _ _ _ hP hD hS rfl rfl rfl dX9_isOwner_14
theorem bz_X9_isOwner (p1 : Int32) : (D_X9_isOwner p1) = 0 ∨ (D_X9_isOwner p1) = 1 := by
  unfold D_X9_isOwner
  repeat' split
  all_goals first | exact Or.inl rfl | exact Or.inr rfl | assumption
def D_X9_isVineyard (p1 : Int32) : Int32 := if p1 < 0 then (0) else (if 6 ≤ p1 then (0) else (1))
abbrev rm_X9_isVineyard : Room := { frames := 0, cells := 0, slots := 0, locals := 0 }
set_option maxHeartbeats 4000000 in
set_option maxRecDepth 100000 in
theorem met_X9_isVineyard (l : Launch) (D : va_G) (cy : Nat → ClassId) (sz : Nat) (ws : va_W) (p1 : Int32)  (r : Int32) (hF : D_X9_isVineyard p1 = r) : MI l yX9_isVineyard cX9_isVineyard 1 (some .boolean) rm_X9_isVineyard D cy ws sz (fun _ => True) [.int p1] r ws := by
  refine MZ.of (by decide +kernel) (Nat.le_of_ble_eq_true rfl) ?_
  intro p e s m args below meth c A ls Q hAt _ hP hD hA hS hl hret
  obtain ⟨hx, hb, hr, hml, hown, hw, hlk, hK, hN⟩ := hAt
  have hown : s.vm.findClass "CloudDeeds" = some m.cls := hown
  have hl : lv_has ls 1 [(0, .int p1)] := hl
  refine lv_iload_n hx hb dX9_isVineyard_0 rfl (lv_at hl 0 rfl) ?_
  refine lv_if_lt (tgt := 14) hx hb dX9_isVineyard_1 (by decide) (fun h1 => ?_) (fun h1 => ?_)
  · replace hF := (if_pos h1).symm.trans hF
    refine lv_iconst (v := 0) hx hb dX9_isVineyard_14 (by decide) ?_
    cases hF
    exact hret _ _ _ _ _ _ hP hD hS rfl rfl rfl dX9_isVineyard_15
  · replace hF := (if_neg h1).symm.trans hF
    refine lv_iload_n hx hb dX9_isVineyard_4 rfl (lv_at hl 0 rfl) ?_
    refine lv_bipush (v := 6) hx hb dX9_isVineyard_5 (by decide) ?_
    refine lv_icmp_ge (tgt := 14) hx hb dX9_isVineyard_7 (by decide) (fun h2 => ?_) (fun h2 => ?_)
    · replace hF := (if_pos h2).symm.trans hF
      refine lv_iconst (v := 0) hx hb dX9_isVineyard_14 (by decide) ?_
      cases hF
      exact hret _ _ _ _ _ _ hP hD hS rfl rfl rfl dX9_isVineyard_15
    · replace hF := (if_neg h2).symm.trans hF
      refine lv_iconst (v := 1) hx hb dX9_isVineyard_10 (by decide) ?_
      refine lv_goto (tgt := 15) hx hb dX9_isVineyard_11 (by decide) ?_
      cases hF
      exact hret _ _ _ _ _ _ hP hD hS rfl rfl rfl dX9_isVineyard_15
theorem bz_X9_isVineyard (p1 : Int32) : (D_X9_isVineyard p1) = 0 ∨ (D_X9_isVineyard p1) = 1 := by
  unfold D_X9_isVineyard
  repeat' split
  all_goals first | exact Or.inl rfl | exact Or.inr rfl | assumption
def D_X1_copyFrom (u : Nat → Int32) (u2 : Nat → Int32) : (Nat → Int32) := (upd (upd (upd (upd (upd (upd (upd u 0 (u2 0)) 1 (u2 1)) 2 (u2 2)) 3 (u2 3)) 4 (u2 4)) 5 (u2 5)) 6 (u2 6))
abbrev rm_X1_copyFrom : Room := { frames := 0, cells := 0, slots := 0, locals := 0 }
set_option maxHeartbeats 4000000 in
set_option maxRecDepth 100000 in
theorem met_X1_copyFrom (l : Launch) (D : va_G) (cy : Nat → ClassId) (sz : Nat) (ws : va_W) (q a : Nat) (u : Nat → Int32) (q2 a2 : Nat) (u2 : Nat → Int32) (he0 : ws[q]? = some (a, .inr (4, cF u))) (he2 : ws[q2]? = some (a2, .inr (4, cF u2))) (hq : q ≠ q2) (t' : Nat → Int32) (hF : D_X1_copyFrom u u2 = t') : MV l yX1_copyFrom cX1_copyFrom 2 rm_X1_copyFrom D cy ws sz (fun _ => True) [.ref a, .ref a2] (ws.set q (a, .inr (4, cF t'))) := by
  refine MV.of (by decide +kernel) (Nat.le_of_ble_eq_true rfl) ?_
  intro p e s m args below meth c A ls Q hAt _ hP hD hA hS hl hret
  obtain ⟨hx, hb, hr, hml, hown, hw, hlk, hK, hN⟩ := hAt
  have hown : s.vm.findClass "CloudDeeds$Cloud" = some m.cls := hown
  have hl : lv_has ls 2 [(0, .ref a), (1, .ref a2)] := hl
  refine lv_aload_n hx hb dX1_copyFrom_0 rfl (lv_at hl 0 rfl) ?_
  refine lv_aload_n hx hb dX1_copyFrom_1 rfl (lv_at hl 1 rfl) ?_
  refine get' (ci := 4) (fs := cF u2) (v := .int (u2 0)) hx hb hw inWX1 hown hK hP he2 rfl 0 (by decide) k_90 rfl rfl dX1_copyFrom_2 ?_
  refine put' (ci := 4) (fs := cF u) (v := .int (u2 0)) (ty := .int) (ws' := (ws.set q (a, .inr (4, cF (upd u 0 (u2 0)))))) hx hb hw inWX1 tyX1 tyX1_ok nmX1 hown hK hP hD hS he0 rfl 0 (by decide) k_90 rfl rfl (by decide +kernel) rfl rfl (Nat.le_of_ble_eq_true rfl) dX1_copyFrom_5 rfl (fun H locs hP hD hS => ?_)
  refine lv_aload_n hx hb dX1_copyFrom_8 rfl (lv_at hl 0 rfl) ?_
  refine lv_aload_n hx hb dX1_copyFrom_9 rfl (lv_at hl 1 rfl) ?_
  refine get' (ci := 4) (fs := cF u2) (v := .int (u2 1)) hx hb hw inWX1 hown hK hP ((List.getElem?_set_ne hq).trans he2) rfl 1 (by decide) k_92 rfl rfl dX1_copyFrom_10 ?_
  refine put' (ci := 4) (fs := cF (upd u 0 (u2 0))) (v := .int (u2 1)) (ty := .int) (ws' := (ws.set q (a, .inr (4, cF (upd (upd u 0 (u2 0)) 1 (u2 1)))))) hx hb hw inWX1 tyX1 tyX1_ok nmX1 hown hK hP hD hS (gC he0) rfl 1 (by decide) k_92 rfl rfl (by decide +kernel) rfl rfl (Nat.le_of_ble_eq_true rfl) dX1_copyFrom_13 sC (fun H locs hP hD hS => ?_)
  refine lv_aload_n hx hb dX1_copyFrom_16 rfl (lv_at hl 0 rfl) ?_
  refine lv_aload_n hx hb dX1_copyFrom_17 rfl (lv_at hl 1 rfl) ?_
  refine get' (ci := 4) (fs := cF u2) (v := .int (u2 2)) hx hb hw inWX1 hown hK hP ((List.getElem?_set_ne hq).trans he2) rfl 2 (by decide) k_93 rfl rfl dX1_copyFrom_18 ?_
  refine put' (ci := 4) (fs := cF (upd (upd u 0 (u2 0)) 1 (u2 1))) (v := .int (u2 2)) (ty := .int) (ws' := (ws.set q (a, .inr (4, cF (upd (upd (upd u 0 (u2 0)) 1 (u2 1)) 2 (u2 2)))))) hx hb hw inWX1 tyX1 tyX1_ok nmX1 hown hK hP hD hS (gC he0) rfl 2 (by decide) k_93 rfl rfl (by decide +kernel) rfl rfl (Nat.le_of_ble_eq_true rfl) dX1_copyFrom_21 sC (fun H locs hP hD hS => ?_)
  refine lv_aload_n hx hb dX1_copyFrom_24 rfl (lv_at hl 0 rfl) ?_
  refine lv_aload_n hx hb dX1_copyFrom_25 rfl (lv_at hl 1 rfl) ?_
  refine get' (ci := 4) (fs := cF u2) (v := .int (u2 3)) hx hb hw inWX1 hown hK hP ((List.getElem?_set_ne hq).trans he2) rfl 3 (by decide) k_95 rfl rfl dX1_copyFrom_26 ?_
  refine put' (ci := 4) (fs := cF (upd (upd (upd u 0 (u2 0)) 1 (u2 1)) 2 (u2 2))) (v := .int (u2 3)) (ty := .int) (ws' := (ws.set q (a, .inr (4, cF (upd (upd (upd (upd u 0 (u2 0)) 1 (u2 1)) 2 (u2 2)) 3 (u2 3)))))) hx hb hw inWX1 tyX1 tyX1_ok nmX1 hown hK hP hD hS (gC he0) rfl 3 (by decide) k_95 rfl rfl (by decide +kernel) rfl rfl (Nat.le_of_ble_eq_true rfl) dX1_copyFrom_29 sC (fun H locs hP hD hS => ?_)
  refine lv_aload_n hx hb dX1_copyFrom_32 rfl (lv_at hl 0 rfl) ?_
  refine lv_aload_n hx hb dX1_copyFrom_33 rfl (lv_at hl 1 rfl) ?_
  refine get' (ci := 4) (fs := cF u2) (v := .int (u2 4)) hx hb hw inWX1 hown hK hP ((List.getElem?_set_ne hq).trans he2) rfl 4 (by decide) k_98 rfl rfl dX1_copyFrom_34 ?_
  refine put' (ci := 4) (fs := cF (upd (upd (upd (upd u 0 (u2 0)) 1 (u2 1)) 2 (u2 2)) 3 (u2 3))) (v := .int (u2 4)) (ty := .int) (ws' := (ws.set q (a, .inr (4, cF (upd (upd (upd (upd (upd u 0 (u2 0)) 1 (u2 1)) 2 (u2 2)) 3 (u2 3)) 4 (u2 4)))))) hx hb hw inWX1 tyX1 tyX1_ok nmX1 hown hK hP hD hS (gC he0) rfl 4 (by decide) k_98 rfl rfl (by decide +kernel) rfl rfl (Nat.le_of_ble_eq_true rfl) dX1_copyFrom_37 sC (fun H locs hP hD hS => ?_)
  refine lv_aload_n hx hb dX1_copyFrom_40 rfl (lv_at hl 0 rfl) ?_
  refine lv_aload_n hx hb dX1_copyFrom_41 rfl (lv_at hl 1 rfl) ?_
  refine get' (ci := 4) (fs := cF u2) (v := .int (u2 5)) hx hb hw inWX1 hown hK hP ((List.getElem?_set_ne hq).trans he2) rfl 5 (by decide) k_99 rfl rfl dX1_copyFrom_42 ?_
  refine put' (ci := 4) (fs := cF (upd (upd (upd (upd (upd u 0 (u2 0)) 1 (u2 1)) 2 (u2 2)) 3 (u2 3)) 4 (u2 4))) (v := .int (u2 5)) (ty := .int) (ws' := (ws.set q (a, .inr (4, cF (upd (upd (upd (upd (upd (upd u 0 (u2 0)) 1 (u2 1)) 2 (u2 2)) 3 (u2 3)) 4 (u2 4)) 5 (u2 5)))))) hx hb hw inWX1 tyX1 tyX1_ok nmX1 hown hK hP hD hS (gC he0) rfl 5 (by decide) k_99 rfl rfl (by decide +kernel) rfl rfl (Nat.le_of_ble_eq_true rfl) dX1_copyFrom_45 sC (fun H locs hP hD hS => ?_)
  refine lv_aload_n hx hb dX1_copyFrom_48 rfl (lv_at hl 0 rfl) ?_
  refine lv_aload_n hx hb dX1_copyFrom_49 rfl (lv_at hl 1 rfl) ?_
  refine get' (ci := 4) (fs := cF u2) (v := .int (u2 6)) hx hb hw inWX1 hown hK hP ((List.getElem?_set_ne hq).trans he2) rfl 6 (by decide) k_101 rfl rfl dX1_copyFrom_50 ?_
  refine put' (ci := 4) (fs := cF (upd (upd (upd (upd (upd (upd u 0 (u2 0)) 1 (u2 1)) 2 (u2 2)) 3 (u2 3)) 4 (u2 4)) 5 (u2 5))) (v := .int (u2 6)) (ty := .int) (ws' := (ws.set q (a, .inr (4, cF (upd (upd (upd (upd (upd (upd (upd u 0 (u2 0)) 1 (u2 1)) 2 (u2 2)) 3 (u2 3)) 4 (u2 4)) 5 (u2 5)) 6 (u2 6)))))) hx hb hw inWX1 tyX1 tyX1_ok nmX1 hown hK hP hD hS (gC he0) rfl 6 (by decide) k_101 rfl rfl (by decide +kernel) rfl rfl (Nat.le_of_ble_eq_true rfl) dX1_copyFrom_53 sC (fun H locs hP hD hS => ?_)
  cases hF
  exact hret _ _ _ _ _ hP hD hS rfl dX1_copyFrom_56
def D_X1_copyFromS (u : Nat → Int32) : (Nat → Int32) := (upd (upd (upd (upd (upd (upd (upd u 0 (u 0)) 1 (u 1)) 2 (u 2)) 3 (u 3)) 4 (u 4)) 5 (u 5)) 6 (u 6))
set_option maxHeartbeats 4000000 in
set_option maxRecDepth 100000 in
theorem met_X1_copyFromS (l : Launch) (D : va_G) (cy : Nat → ClassId) (sz : Nat) (ws : va_W) (q a : Nat) (u : Nat → Int32) (he0 : ws[q]? = some (a, .inr (4, cF u))) (t' : Nat → Int32) (hF : D_X1_copyFromS u = t') : MV l yX1_copyFrom cX1_copyFrom 2 rm_X1_copyFrom D cy ws sz (fun _ => True) [.ref a, .ref a] (ws.set q (a, .inr (4, cF t'))) := by
  refine MV.of (by decide +kernel) (Nat.le_of_ble_eq_true rfl) ?_
  intro p e s m args below meth c A ls Q hAt _ hP hD hA hS hl hret
  obtain ⟨hx, hb, hr, hml, hown, hw, hlk, hK, hN⟩ := hAt
  have hown : s.vm.findClass "CloudDeeds$Cloud" = some m.cls := hown
  have hl : lv_has ls 2 [(0, .ref a), (1, .ref a)] := hl
  refine lv_aload_n hx hb dX1_copyFrom_0 rfl (lv_at hl 0 rfl) ?_
  refine lv_aload_n hx hb dX1_copyFrom_1 rfl (lv_at hl 1 rfl) ?_
  refine get' (ci := 4) (fs := cF u) (v := .int (u 0)) hx hb hw inWX1 hown hK hP he0 rfl 0 (by decide) k_90 rfl rfl dX1_copyFrom_2 ?_
  refine put' (ci := 4) (fs := cF u) (v := .int (u 0)) (ty := .int) (ws' := (ws.set q (a, .inr (4, cF (upd u 0 (u 0)))))) hx hb hw inWX1 tyX1 tyX1_ok nmX1 hown hK hP hD hS he0 rfl 0 (by decide) k_90 rfl rfl (by decide +kernel) rfl rfl (Nat.le_of_ble_eq_true rfl) dX1_copyFrom_5 rfl (fun H locs hP hD hS => ?_)
  refine lv_aload_n hx hb dX1_copyFrom_8 rfl (lv_at hl 0 rfl) ?_
  refine lv_aload_n hx hb dX1_copyFrom_9 rfl (lv_at hl 1 rfl) ?_
  refine get' (ci := 4) (fs := cF (upd u 0 (u 0))) (v := .int (u 1)) hx hb hw inWX1 hown hK hP (gC he0) rfl 1 (by decide) k_92 rfl rfl dX1_copyFrom_10 ?_
  refine put' (ci := 4) (fs := cF (upd u 0 (u 0))) (v := .int (u 1)) (ty := .int) (ws' := (ws.set q (a, .inr (4, cF (upd (upd u 0 (u 0)) 1 (u 1)))))) hx hb hw inWX1 tyX1 tyX1_ok nmX1 hown hK hP hD hS (gC he0) rfl 1 (by decide) k_92 rfl rfl (by decide +kernel) rfl rfl (Nat.le_of_ble_eq_true rfl) dX1_copyFrom_13 sC (fun H locs hP hD hS => ?_)
  refine lv_aload_n hx hb dX1_copyFrom_16 rfl (lv_at hl 0 rfl) ?_
  refine lv_aload_n hx hb dX1_copyFrom_17 rfl (lv_at hl 1 rfl) ?_
  refine get' (ci := 4) (fs := cF (upd (upd u 0 (u 0)) 1 (u 1))) (v := .int (u 2)) hx hb hw inWX1 hown hK hP (gC he0) rfl 2 (by decide) k_93 rfl rfl dX1_copyFrom_18 ?_
  refine put' (ci := 4) (fs := cF (upd (upd u 0 (u 0)) 1 (u 1))) (v := .int (u 2)) (ty := .int) (ws' := (ws.set q (a, .inr (4, cF (upd (upd (upd u 0 (u 0)) 1 (u 1)) 2 (u 2)))))) hx hb hw inWX1 tyX1 tyX1_ok nmX1 hown hK hP hD hS (gC he0) rfl 2 (by decide) k_93 rfl rfl (by decide +kernel) rfl rfl (Nat.le_of_ble_eq_true rfl) dX1_copyFrom_21 sC (fun H locs hP hD hS => ?_)
  refine lv_aload_n hx hb dX1_copyFrom_24 rfl (lv_at hl 0 rfl) ?_
  refine lv_aload_n hx hb dX1_copyFrom_25 rfl (lv_at hl 1 rfl) ?_
  refine get' (ci := 4) (fs := cF (upd (upd (upd u 0 (u 0)) 1 (u 1)) 2 (u 2))) (v := .int (u 3)) hx hb hw inWX1 hown hK hP (gC he0) rfl 3 (by decide) k_95 rfl rfl dX1_copyFrom_26 ?_
  refine put' (ci := 4) (fs := cF (upd (upd (upd u 0 (u 0)) 1 (u 1)) 2 (u 2))) (v := .int (u 3)) (ty := .int) (ws' := (ws.set q (a, .inr (4, cF (upd (upd (upd (upd u 0 (u 0)) 1 (u 1)) 2 (u 2)) 3 (u 3)))))) hx hb hw inWX1 tyX1 tyX1_ok nmX1 hown hK hP hD hS (gC he0) rfl 3 (by decide) k_95 rfl rfl (by decide +kernel) rfl rfl (Nat.le_of_ble_eq_true rfl) dX1_copyFrom_29 sC (fun H locs hP hD hS => ?_)
  refine lv_aload_n hx hb dX1_copyFrom_32 rfl (lv_at hl 0 rfl) ?_
  refine lv_aload_n hx hb dX1_copyFrom_33 rfl (lv_at hl 1 rfl) ?_
  refine get' (ci := 4) (fs := cF (upd (upd (upd (upd u 0 (u 0)) 1 (u 1)) 2 (u 2)) 3 (u 3))) (v := .int (u 4)) hx hb hw inWX1 hown hK hP (gC he0) rfl 4 (by decide) k_98 rfl rfl dX1_copyFrom_34 ?_
  refine put' (ci := 4) (fs := cF (upd (upd (upd (upd u 0 (u 0)) 1 (u 1)) 2 (u 2)) 3 (u 3))) (v := .int (u 4)) (ty := .int) (ws' := (ws.set q (a, .inr (4, cF (upd (upd (upd (upd (upd u 0 (u 0)) 1 (u 1)) 2 (u 2)) 3 (u 3)) 4 (u 4)))))) hx hb hw inWX1 tyX1 tyX1_ok nmX1 hown hK hP hD hS (gC he0) rfl 4 (by decide) k_98 rfl rfl (by decide +kernel) rfl rfl (Nat.le_of_ble_eq_true rfl) dX1_copyFrom_37 sC (fun H locs hP hD hS => ?_)
  refine lv_aload_n hx hb dX1_copyFrom_40 rfl (lv_at hl 0 rfl) ?_
  refine lv_aload_n hx hb dX1_copyFrom_41 rfl (lv_at hl 1 rfl) ?_
  refine get' (ci := 4) (fs := cF (upd (upd (upd (upd (upd u 0 (u 0)) 1 (u 1)) 2 (u 2)) 3 (u 3)) 4 (u 4))) (v := .int (u 5)) hx hb hw inWX1 hown hK hP (gC he0) rfl 5 (by decide) k_99 rfl rfl dX1_copyFrom_42 ?_
  refine put' (ci := 4) (fs := cF (upd (upd (upd (upd (upd u 0 (u 0)) 1 (u 1)) 2 (u 2)) 3 (u 3)) 4 (u 4))) (v := .int (u 5)) (ty := .int) (ws' := (ws.set q (a, .inr (4, cF (upd (upd (upd (upd (upd (upd u 0 (u 0)) 1 (u 1)) 2 (u 2)) 3 (u 3)) 4 (u 4)) 5 (u 5)))))) hx hb hw inWX1 tyX1 tyX1_ok nmX1 hown hK hP hD hS (gC he0) rfl 5 (by decide) k_99 rfl rfl (by decide +kernel) rfl rfl (Nat.le_of_ble_eq_true rfl) dX1_copyFrom_45 sC (fun H locs hP hD hS => ?_)
  refine lv_aload_n hx hb dX1_copyFrom_48 rfl (lv_at hl 0 rfl) ?_
  refine lv_aload_n hx hb dX1_copyFrom_49 rfl (lv_at hl 1 rfl) ?_
  refine get' (ci := 4) (fs := cF (upd (upd (upd (upd (upd (upd u 0 (u 0)) 1 (u 1)) 2 (u 2)) 3 (u 3)) 4 (u 4)) 5 (u 5))) (v := .int (u 6)) hx hb hw inWX1 hown hK hP (gC he0) rfl 6 (by decide) k_101 rfl rfl dX1_copyFrom_50 ?_
  refine put' (ci := 4) (fs := cF (upd (upd (upd (upd (upd (upd u 0 (u 0)) 1 (u 1)) 2 (u 2)) 3 (u 3)) 4 (u 4)) 5 (u 5))) (v := .int (u 6)) (ty := .int) (ws' := (ws.set q (a, .inr (4, cF (upd (upd (upd (upd (upd (upd (upd u 0 (u 0)) 1 (u 1)) 2 (u 2)) 3 (u 3)) 4 (u 4)) 5 (u 5)) 6 (u 6)))))) hx hb hw inWX1 tyX1 tyX1_ok nmX1 hown hK hP hD hS (gC he0) rfl 6 (by decide) k_101 rfl rfl (by decide +kernel) rfl rfl (Nat.le_of_ble_eq_true rfl) dX1_copyFrom_53 sC (fun H locs hP hD hS => ?_)
  cases hF
  exact hret _ _ _ _ _ hP hD hS rfl dX1_copyFrom_56
def D_X1_endPledge (u : Nat → Int32) : (Nat → Int32) := (upd (upd u 5 (-1)) 6 0)
abbrev rm_X1_endPledge : Room := { frames := 0, cells := 0, slots := 0, locals := 0 }
set_option maxHeartbeats 4000000 in
set_option maxRecDepth 100000 in
theorem met_X1_endPledge (l : Launch) (D : va_G) (cy : Nat → ClassId) (sz : Nat) (ws : va_W) (q a : Nat) (u : Nat → Int32) (he0 : ws[q]? = some (a, .inr (4, cF u))) (t' : Nat → Int32) (hF : D_X1_endPledge u = t') : MV l yX1_endPledge cX1_endPledge 1 rm_X1_endPledge D cy ws sz (fun _ => True) [.ref a] (ws.set q (a, .inr (4, cF t'))) := by
  refine MV.of (by decide +kernel) (Nat.le_of_ble_eq_true rfl) ?_
  intro p e s m args below meth c A ls Q hAt _ hP hD hA hS hl hret
  obtain ⟨hx, hb, hr, hml, hown, hw, hlk, hK, hN⟩ := hAt
  have hown : s.vm.findClass "CloudDeeds$Cloud" = some m.cls := hown
  have hl : lv_has ls 1 [(0, .ref a)] := hl
  refine lv_aload_n hx hb dX1_endPledge_0 rfl (lv_at hl 0 rfl) ?_
  refine lv_iconst (v := (-1)) hx hb dX1_endPledge_1 (by decide) ?_
  refine put' (ci := 4) (fs := cF u) (v := .int (-1)) (ty := .int) (ws' := (ws.set q (a, .inr (4, cF (upd u 5 (-1)))))) hx hb hw inWX1 tyX1 tyX1_ok nmX1 hown hK hP hD hS he0 rfl 5 (by decide) k_99 rfl rfl (by decide +kernel) rfl rfl (Nat.le_of_ble_eq_true rfl) dX1_endPledge_2 rfl (fun H locs hP hD hS => ?_)
  refine lv_aload_n hx hb dX1_endPledge_5 rfl (lv_at hl 0 rfl) ?_
  refine lv_iconst (v := 0) hx hb dX1_endPledge_6 (by decide) ?_
  refine put' (ci := 4) (fs := cF (upd u 5 (-1))) (v := .int 0) (ty := .int) (ws' := (ws.set q (a, .inr (4, cF (upd (upd u 5 (-1)) 6 0))))) hx hb hw inWX1 tyX1 tyX1_ok nmX1 hown hK hP hD hS (gC he0) rfl 6 (by decide) k_101 rfl rfl (by decide +kernel) rfl rfl (Nat.le_of_ble_eq_true rfl) dX1_endPledge_7 sC (fun H locs hP hD hS => ?_)
  cases hF
  exact hret _ _ _ _ _ hP hD hS rfl dX1_endPledge_10
def D_X1_loseTitle (u : Nat → Int32) : (Nat → Int32) := (D_X1_endPledge (upd (upd u 3 (-1)) 4 (-1)))
abbrev rm_X1_loseTitle : Room := { frames := 1, cells := 0, slots := 0, locals := 20 }
set_option maxHeartbeats 4000000 in
set_option maxRecDepth 100000 in
theorem met_X1_loseTitle (l : Launch) (D : va_G) (cy : Nat → ClassId) (sz : Nat) (ws : va_W) (q a : Nat) (u : Nat → Int32) (he0 : ws[q]? = some (a, .inr (4, cF u))) (t' : Nat → Int32) (hF : D_X1_loseTitle u = t') : MV l yX1_loseTitle cX1_loseTitle 1 rm_X1_loseTitle D cy ws sz (fun _ => True) [.ref a] (ws.set q (a, .inr (4, cF t'))) := by
  refine MV.of (by decide +kernel) (Nat.le_of_ble_eq_true rfl) ?_
  intro p e s m args below meth c A ls Q hAt _ hP hD hA hS hl hret
  obtain ⟨hx, hb, hr, hml, hown, hw, hlk, hK, hN⟩ := hAt
  have hown : s.vm.findClass "CloudDeeds$Cloud" = some m.cls := hown
  have hl : lv_has ls 1 [(0, .ref a)] := hl
  refine lv_aload_n hx hb dX1_loseTitle_0 rfl (lv_at hl 0 rfl) ?_
  refine lv_iconst (v := (-1)) hx hb dX1_loseTitle_1 (by decide) ?_
  refine put' (ci := 4) (fs := cF u) (v := .int (-1)) (ty := .int) (ws' := (ws.set q (a, .inr (4, cF (upd u 3 (-1)))))) hx hb hw inWX1 tyX1 tyX1_ok nmX1 hown hK hP hD hS he0 rfl 3 (by decide) k_95 rfl rfl (by decide +kernel) rfl rfl (Nat.le_of_ble_eq_true rfl) dX1_loseTitle_2 rfl (fun H locs hP hD hS => ?_)
  refine lv_aload_n hx hb dX1_loseTitle_5 rfl (lv_at hl 0 rfl) ?_
  refine lv_iconst (v := (-1)) hx hb dX1_loseTitle_6 (by decide) ?_
  refine put' (ci := 4) (fs := cF (upd u 3 (-1))) (v := .int (-1)) (ty := .int) (ws' := (ws.set q (a, .inr (4, cF (upd (upd u 3 (-1)) 4 (-1)))))) hx hb hw inWX1 tyX1 tyX1_ok nmX1 hown hK hP hD hS (gC he0) rfl 4 (by decide) k_98 rfl rfl (by decide +kernel) rfl rfl (Nat.le_of_ble_eq_true rfl) dX1_loseTitle_7 sC (fun H locs hP hD hS => ?_)
  refine lv_aload_n hx hb dX1_loseTitle_10 rfl (lv_at hl 0 rfl) ?_
  refine cV_v (As := []) (rest := []) hx hb hml hown hw hK hN hA hl.1 hP hD hS k_571 k_572 k_573 k_24 k_574 (met_X1_endPledge l D cy _ (ws.set q (a, .inr (4, cF (upd (upd u 3 (-1)) 4 (-1))))) q a (upd (upd u 3 (-1)) 4 (-1)) (gC he0) (D_X1_endPledge (upd (upd u 3 (-1)) 4 (-1))) rfl) (fun _ _ _ => trivial) Xok_T (gC he0) rfl ⟨rfl, rfl⟩ (n := 0) (by decide +kernel) rfl ⟨Nat.le_of_ble_eq_true rfl, Nat.le_of_ble_eq_true rfl⟩ ⟨Nat.le_of_ble_eq_true rfl, Nat.le_of_ble_eq_true rfl⟩ (Nat.le_of_ble_eq_true rfl) rfl dX1_loseTitle_11 (fun H locs hP hD hS => ?_)
  have hP : va_P D vwCl (ws.set q (a, .inr (4, cF (D_X1_endPledge (upd (upd u 3 (-1)) 4 (-1)))))) H := cvP hP sC
  have hD : va_D A (ws.set q (a, .inr (4, cF (D_X1_endPledge (upd (upd u 3 (-1)) 4 (-1)))))) := cvD hD sC
  cases hF
  exact hret _ _ _ _ _ hP hD hS rfl dX1_loseTitle_14
def D_X1_comeOver (u : Nat → Int32) (p1 : Int32) (p2 : Int32) (p3 : Int32) : (Nat → Int32) := (D_X1_loseTitle (upd (upd (upd u 0 p1) 1 p2) 2 p3))
abbrev rm_X1_comeOver : Room := { frames := 2, cells := 0, slots := 0, locals := 40 }
set_option maxHeartbeats 4000000 in
set_option maxRecDepth 100000 in
theorem met_X1_comeOver (l : Launch) (D : va_G) (cy : Nat → ClassId) (sz : Nat) (ws : va_W) (q a : Nat) (u : Nat → Int32) (p1 : Int32) (p2 : Int32) (p3 : Int32) (he0 : ws[q]? = some (a, .inr (4, cF u))) (t' : Nat → Int32) (hF : D_X1_comeOver u p1 p2 p3 = t') : MV l yX1_comeOver cX1_comeOver 4 rm_X1_comeOver D cy ws sz (fun _ => True) [.ref a, .int p1, .int p2, .int p3] (ws.set q (a, .inr (4, cF t'))) := by
  refine MV.of (by decide +kernel) (Nat.le_of_ble_eq_true rfl) ?_
  intro p e s m args below meth c A ls Q hAt _ hP hD hA hS hl hret
  obtain ⟨hx, hb, hr, hml, hown, hw, hlk, hK, hN⟩ := hAt
  have hown : s.vm.findClass "CloudDeeds$Cloud" = some m.cls := hown
  have hl : lv_has ls 4 [(0, .ref a), (1, .int p1), (2, .int p2), (3, .int p3)] := hl
  refine lv_aload_n hx hb dX1_comeOver_0 rfl (lv_at hl 0 rfl) ?_
  refine lv_iload_n hx hb dX1_comeOver_1 rfl (lv_at hl 1 rfl) ?_
  refine put' (ci := 4) (fs := cF u) (v := .int p1) (ty := .int) (ws' := (ws.set q (a, .inr (4, cF (upd u 0 p1))))) hx hb hw inWX1 tyX1 tyX1_ok nmX1 hown hK hP hD hS he0 rfl 0 (by decide) k_90 rfl rfl (by decide +kernel) rfl rfl (Nat.le_of_ble_eq_true rfl) dX1_comeOver_2 rfl (fun H locs hP hD hS => ?_)
  refine lv_aload_n hx hb dX1_comeOver_5 rfl (lv_at hl 0 rfl) ?_
  refine lv_iload_n hx hb dX1_comeOver_6 rfl (lv_at hl 2 rfl) ?_
  refine put' (ci := 4) (fs := cF (upd u 0 p1)) (v := .int p2) (ty := .int) (ws' := (ws.set q (a, .inr (4, cF (upd (upd u 0 p1) 1 p2))))) hx hb hw inWX1 tyX1 tyX1_ok nmX1 hown hK hP hD hS (gC he0) rfl 1 (by decide) k_92 rfl rfl (by decide +kernel) rfl rfl (Nat.le_of_ble_eq_true rfl) dX1_comeOver_7 sC (fun H locs hP hD hS => ?_)
  refine lv_aload_n hx hb dX1_comeOver_10 rfl (lv_at hl 0 rfl) ?_
  refine lv_iload_n hx hb dX1_comeOver_11 rfl (lv_at hl 3 rfl) ?_
  refine put' (ci := 4) (fs := cF (upd (upd u 0 p1) 1 p2)) (v := .int p3) (ty := .int) (ws' := (ws.set q (a, .inr (4, cF (upd (upd (upd u 0 p1) 1 p2) 2 p3))))) hx hb hw inWX1 tyX1 tyX1_ok nmX1 hown hK hP hD hS (gC he0) rfl 2 (by decide) k_93 rfl rfl (by decide +kernel) rfl rfl (Nat.le_of_ble_eq_true rfl) dX1_comeOver_12 sC (fun H locs hP hD hS => ?_)
  refine lv_aload_n hx hb dX1_comeOver_15 rfl (lv_at hl 0 rfl) ?_
  refine cV_v (As := []) (rest := []) hx hb hml hown hw hK hN hA hl.1 hP hD hS k_1006 k_568 k_569 k_24 k_570 (met_X1_loseTitle l D cy _ (ws.set q (a, .inr (4, cF (upd (upd (upd u 0 p1) 1 p2) 2 p3)))) q a (upd (upd (upd u 0 p1) 1 p2) 2 p3) (gC he0) (D_X1_loseTitle (upd (upd (upd u 0 p1) 1 p2) 2 p3)) rfl) (fun _ _ _ => trivial) Xok_T (gC he0) rfl ⟨rfl, rfl⟩ (n := 0) (by decide +kernel) rfl ⟨Nat.le_of_ble_eq_true rfl, Nat.le_of_ble_eq_true rfl⟩ ⟨Nat.le_of_ble_eq_true rfl, Nat.le_of_ble_eq_true rfl⟩ (Nat.le_of_ble_eq_true rfl) rfl dX1_comeOver_16 (fun H locs hP hD hS => ?_)
  have hP : va_P D vwCl (ws.set q (a, .inr (4, cF (D_X1_loseTitle (upd (upd (upd u 0 p1) 1 p2) 2 p3))))) H := cvP hP sC
  have hD : va_D A (ws.set q (a, .inr (4, cF (D_X1_loseTitle (upd (upd (upd u 0 p1) 1 p2) 2 p3))))) := cvD hD sC
  cases hF
  exact hret _ _ _ _ _ hP hD hS rfl dX1_comeOver_19
def D_X1_hasTitle (u : Nat → Int32) : Int32 := if (u 3) = (-1) then (0) else (1)
abbrev rm_X1_hasTitle : Room := { frames := 0, cells := 0, slots := 0, locals := 0 }
set_option maxHeartbeats 4000000 in
set_option maxRecDepth 100000 in
theorem met_X1_hasTitle (l : Launch) (D : va_G) (cy : Nat → ClassId) (sz : Nat) (ws : va_W) (q a : Nat) (u : Nat → Int32) (he0 : ws[q]? = some (a, .inr (4, cF u))) (r : Int32) (hF : D_X1_hasTitle u = r) : MI l yX1_hasTitle cX1_hasTitle 1 (some .boolean) rm_X1_hasTitle D cy ws sz (fun _ => True) [.ref a] r ws := by
  refine MZ.of (by decide +kernel) (Nat.le_of_ble_eq_true rfl) ?_
  intro p e s m args below meth c A ls Q hAt _ hP hD hA hS hl hret
  obtain ⟨hx, hb, hr, hml, hown, hw, hlk, hK, hN⟩ := hAt
  have hown : s.vm.findClass "CloudDeeds$Cloud" = some m.cls := hown
  have hl : lv_has ls 1 [(0, .ref a)] := hl
  refine lv_aload_n hx hb dX1_hasTitle_0 rfl (lv_at hl 0 rfl) ?_
  refine get' (ci := 4) (fs := cF u) (v := .int (u 3)) hx hb hw inWX1 hown hK hP he0 rfl 3 (by decide) k_95 rfl rfl dX1_hasTitle_1 ?_
  refine lv_iconst (v := (-1)) hx hb dX1_hasTitle_4 (by decide) ?_
  refine lv_icmp_eq (tgt := 12) hx hb dX1_hasTitle_5 (by decide) (fun h1 => ?_) (fun h1 => ?_)
  · replace hF := (if_pos h1).symm.trans hF
    refine lv_iconst (v := 0) hx hb dX1_hasTitle_12 (by decide) ?_
    cases hF
    exact hret _ _ _ _ _ _ hP hD hS rfl rfl rfl dX1_hasTitle_13
  · replace hF := (if_neg h1).symm.trans hF
    refine lv_iconst (v := 1) hx hb dX1_hasTitle_8 (by decide) ?_
    refine lv_goto (tgt := 13) hx hb dX1_hasTitle_9 (by decide) ?_
    cases hF
    exact hret _ _ _ _ _ _ hP hD hS rfl rfl rfl dX1_hasTitle_13
theorem bz_X1_hasTitle (u : Nat → Int32) : (D_X1_hasTitle u) = 0 ∨ (D_X1_hasTitle u) = 1 := by
  unfold D_X1_hasTitle
  repeat' split
  all_goals first | exact Or.inl rfl | exact Or.inr rfl | assumption
def D_X1_isPledged (u : Nat → Int32) : Int32 := if (u 5) = (-1) then (0) else (1)
abbrev rm_X1_isPledged : Room := { frames := 0, cells := 0, slots := 0, locals := 0 }
set_option maxHeartbeats 4000000 in
set_option maxRecDepth 100000 in
theorem met_X1_isPledged (l : Launch) (D : va_G) (cy : Nat → ClassId) (sz : Nat) (ws : va_W) (q a : Nat) (u : Nat → Int32) (he0 : ws[q]? = some (a, .inr (4, cF u))) (r : Int32) (hF : D_X1_isPledged u = r) : MI l yX1_isPledged cX1_isPledged 1 (some .boolean) rm_X1_isPledged D cy ws sz (fun _ => True) [.ref a] r ws := by
  refine MZ.of (by decide +kernel) (Nat.le_of_ble_eq_true rfl) ?_
  intro p e s m args below meth c A ls Q hAt _ hP hD hA hS hl hret
  obtain ⟨hx, hb, hr, hml, hown, hw, hlk, hK, hN⟩ := hAt
  have hown : s.vm.findClass "CloudDeeds$Cloud" = some m.cls := hown
  have hl : lv_has ls 1 [(0, .ref a)] := hl
  refine lv_aload_n hx hb dX1_isPledged_0 rfl (lv_at hl 0 rfl) ?_
  refine get' (ci := 4) (fs := cF u) (v := .int (u 5)) hx hb hw inWX1 hown hK hP he0 rfl 5 (by decide) k_99 rfl rfl dX1_isPledged_1 ?_
  refine lv_iconst (v := (-1)) hx hb dX1_isPledged_4 (by decide) ?_
  refine lv_icmp_eq (tgt := 12) hx hb dX1_isPledged_5 (by decide) (fun h1 => ?_) (fun h1 => ?_)
  · replace hF := (if_pos h1).symm.trans hF
    refine lv_iconst (v := 0) hx hb dX1_isPledged_12 (by decide) ?_
    cases hF
    exact hret _ _ _ _ _ _ hP hD hS rfl rfl rfl dX1_isPledged_13
  · replace hF := (if_neg h1).symm.trans hF
    refine lv_iconst (v := 1) hx hb dX1_isPledged_8 (by decide) ?_
    refine lv_goto (tgt := 13) hx hb dX1_isPledged_9 (by decide) ?_
    cases hF
    exact hret _ _ _ _ _ _ hP hD hS rfl rfl rfl dX1_isPledged_13
theorem bz_X1_isPledged (u : Nat → Int32) : (D_X1_isPledged u) = 0 ∨ (D_X1_isPledged u) = 1 := by
  unfold D_X1_isPledged
  repeat' split
  all_goals first | exact Or.inl rfl | exact Or.inr rfl | assumption
def D_X1_hasTitleForOtherShape (u : Nat → Int32) : Int32 := if (D_X1_hasTitle u) = 0 then (0) else (if (u 4) = (u 1) then (0) else (1))
abbrev rm_X1_hasTitleForOtherShape : Room := { frames := 1, cells := 0, slots := 0, locals := 20 }
set_option maxHeartbeats 4000000 in
set_option maxRecDepth 100000 in
theorem met_X1_hasTitleForOtherShape (l : Launch) (D : va_G) (cy : Nat → ClassId) (sz : Nat) (ws : va_W) (q a : Nat) (u : Nat → Int32) (he0 : ws[q]? = some (a, .inr (4, cF u))) (r : Int32) (hF : D_X1_hasTitleForOtherShape u = r) : MI l yX1_hasTitleForOtherShape cX1_hasTitleForOtherShape 1 (some .boolean) rm_X1_hasTitleForOtherShape D cy ws sz (fun _ => True) [.ref a] r ws := by
  refine MZ.of (by decide +kernel) (Nat.le_of_ble_eq_true rfl) ?_
  intro p e s m args below meth c A ls Q hAt _ hP hD hA hS hl hret
  obtain ⟨hx, hb, hr, hml, hown, hw, hlk, hK, hN⟩ := hAt
  have hown : s.vm.findClass "CloudDeeds$Cloud" = some m.cls := hown
  have hl : lv_has ls 1 [(0, .ref a)] := hl
  refine lv_aload_n hx hb dX1_hasTitleForOtherShape_0 rfl (lv_at hl 0 rfl) ?_
  refine cV_i (As := []) (rest := []) hx hb hml hown hw hK hN hA hl.1 hP hD hS k_555 k_556 k_557 k_24 k_558 (met_X1_hasTitle l D cy _ ws q a u he0 (D_X1_hasTitle u) rfl) (fun _ _ _ => trivial) Xok_T he0 rfl ⟨rfl, rfl⟩ (n := 0) (by decide +kernel) rfl ⟨Nat.le_of_ble_eq_true rfl, Nat.le_of_ble_eq_true rfl⟩ ⟨Nat.le_of_ble_eq_true rfl, Nat.le_of_ble_eq_true rfl⟩ (Nat.le_of_ble_eq_true rfl) rfl dX1_hasTitleForOtherShape_1 (fun H locs hP hD hS => ?_)
  refine lv_if_eq (tgt := 22) hx hb dX1_hasTitleForOtherShape_4 (by decide) (fun h4 => ?_) (fun h4 => ?_)
  · replace hF := (if_pos h4).symm.trans hF
    refine lv_iconst (v := 0) hx hb dX1_hasTitleForOtherShape_22 (by decide) ?_
    cases hF
    exact hret _ _ _ _ _ _ hP hD hS rfl rfl rfl dX1_hasTitleForOtherShape_23
  · replace hF := (if_neg h4).symm.trans hF
    refine lv_aload_n hx hb dX1_hasTitleForOtherShape_7 rfl (lv_at hl 0 rfl) ?_
    refine get' (ci := 4) (fs := cF u) (v := .int (u 4)) hx hb hw inWX1 hown hK hP he0 rfl 4 (by decide) k_98 rfl rfl dX1_hasTitleForOtherShape_8 ?_
    refine lv_aload_n hx hb dX1_hasTitleForOtherShape_11 rfl (lv_at hl 0 rfl) ?_
    refine get' (ci := 4) (fs := cF u) (v := .int (u 1)) hx hb hw inWX1 hown hK hP he0 rfl 1 (by decide) k_92 rfl rfl dX1_hasTitleForOtherShape_12 ?_
    refine lv_icmp_eq (tgt := 22) hx hb dX1_hasTitleForOtherShape_15 (by decide) (fun h5 => ?_) (fun h5 => ?_)
    · replace hF := (if_pos h5).symm.trans hF
      refine lv_iconst (v := 0) hx hb dX1_hasTitleForOtherShape_22 (by decide) ?_
      cases hF
      exact hret _ _ _ _ _ _ hP hD hS rfl rfl rfl dX1_hasTitleForOtherShape_23
    · replace hF := (if_neg h5).symm.trans hF
      refine lv_iconst (v := 1) hx hb dX1_hasTitleForOtherShape_18 (by decide) ?_
      refine lv_goto (tgt := 23) hx hb dX1_hasTitleForOtherShape_19 (by decide) ?_
      cases hF
      exact hret _ _ _ _ _ _ hP hD hS rfl rfl rfl dX1_hasTitleForOtherShape_23
theorem bz_X1_hasTitleForOtherShape (u : Nat → Int32) : (D_X1_hasTitleForOtherShape u) = 0 ∨ (D_X1_hasTitleForOtherShape u) = 1 := by
  unfold D_X1_hasTitleForOtherShape
  repeat' split
  all_goals first | exact Or.inl rfl | exact Or.inr rfl | assumption | exact bz_X1_hasTitle ..
def D_X1_entitle (u : Nat → Int32) (p1 : Int32) : (Nat → Int32) := (D_X1_endPledge (upd (upd u 3 p1) 4 (u 1)))
abbrev rm_X1_entitle : Room := { frames := 1, cells := 0, slots := 0, locals := 20 }
set_option maxHeartbeats 4000000 in
set_option maxRecDepth 100000 in
theorem met_X1_entitle (l : Launch) (D : va_G) (cy : Nat → ClassId) (sz : Nat) (ws : va_W) (q a : Nat) (u : Nat → Int32) (p1 : Int32) (he0 : ws[q]? = some (a, .inr (4, cF u))) (t' : Nat → Int32) (hF : D_X1_entitle u p1 = t') : MV l yX1_entitle cX1_entitle 2 rm_X1_entitle D cy ws sz (fun _ => True) [.ref a, .int p1] (ws.set q (a, .inr (4, cF t'))) := by
  refine MV.of (by decide +kernel) (Nat.le_of_ble_eq_true rfl) ?_
  intro p e s m args below meth c A ls Q hAt _ hP hD hA hS hl hret
  obtain ⟨hx, hb, hr, hml, hown, hw, hlk, hK, hN⟩ := hAt
  have hown : s.vm.findClass "CloudDeeds$Cloud" = some m.cls := hown
  have hl : lv_has ls 2 [(0, .ref a), (1, .int p1)] := hl
  refine lv_aload_n hx hb dX1_entitle_0 rfl (lv_at hl 0 rfl) ?_
  refine lv_iload_n hx hb dX1_entitle_1 rfl (lv_at hl 1 rfl) ?_
  refine put' (ci := 4) (fs := cF u) (v := .int p1) (ty := .int) (ws' := (ws.set q (a, .inr (4, cF (upd u 3 p1))))) hx hb hw inWX1 tyX1 tyX1_ok nmX1 hown hK hP hD hS he0 rfl 3 (by decide) k_95 rfl rfl (by decide +kernel) rfl rfl (Nat.le_of_ble_eq_true rfl) dX1_entitle_2 rfl (fun H locs hP hD hS => ?_)
  refine lv_aload_n hx hb dX1_entitle_5 rfl (lv_at hl 0 rfl) ?_
  refine lv_aload_n hx hb dX1_entitle_6 rfl (lv_at hl 0 rfl) ?_
  refine get' (ci := 4) (fs := cF (upd u 3 p1)) (v := .int (u 1)) hx hb hw inWX1 hown hK hP (gC he0) rfl 1 (by decide) k_92 rfl rfl dX1_entitle_7 ?_
  refine put' (ci := 4) (fs := cF (upd u 3 p1)) (v := .int (u 1)) (ty := .int) (ws' := (ws.set q (a, .inr (4, cF (upd (upd u 3 p1) 4 (u 1)))))) hx hb hw inWX1 tyX1 tyX1_ok nmX1 hown hK hP hD hS (gC he0) rfl 4 (by decide) k_98 rfl rfl (by decide +kernel) rfl rfl (Nat.le_of_ble_eq_true rfl) dX1_entitle_10 sC (fun H locs hP hD hS => ?_)
  refine lv_aload_n hx hb dX1_entitle_13 rfl (lv_at hl 0 rfl) ?_
  refine cV_v (As := []) (rest := []) hx hb hml hown hw hK hN hA hl.1 hP hD hS k_571 k_572 k_573 k_24 k_574 (met_X1_endPledge l D cy _ (ws.set q (a, .inr (4, cF (upd (upd u 3 p1) 4 (u 1))))) q a (upd (upd u 3 p1) 4 (u 1)) (gC he0) (D_X1_endPledge (upd (upd u 3 p1) 4 (u 1))) rfl) (fun _ _ _ => trivial) Xok_T (gC he0) rfl ⟨rfl, rfl⟩ (n := 0) (by decide +kernel) rfl ⟨Nat.le_of_ble_eq_true rfl, Nat.le_of_ble_eq_true rfl⟩ ⟨Nat.le_of_ble_eq_true rfl, Nat.le_of_ble_eq_true rfl⟩ (Nat.le_of_ble_eq_true rfl) rfl dX1_entitle_14 (fun H locs hP hD hS => ?_)
  have hP : va_P D vwCl (ws.set q (a, .inr (4, cF (D_X1_endPledge (upd (upd u 3 p1) 4 (u 1)))))) H := cvP hP sC
  have hD : va_D A (ws.set q (a, .inr (4, cF (D_X1_endPledge (upd (upd u 3 p1) 4 (u 1)))))) := cvD hD sC
  cases hF
  exact hret _ _ _ _ _ hP hD hS rfl dX1_entitle_17
def D_X1_pledgeTo (u : Nat → Int32) (p1 : Int32) : (Nat → Int32) := (upd (upd u 5 p1) 6 (u 2))
abbrev rm_X1_pledgeTo : Room := { frames := 0, cells := 0, slots := 0, locals := 0 }
set_option maxHeartbeats 4000000 in
set_option maxRecDepth 100000 in
theorem met_X1_pledgeTo (l : Launch) (D : va_G) (cy : Nat → ClassId) (sz : Nat) (ws : va_W) (q a : Nat) (u : Nat → Int32) (p1 : Int32) (he0 : ws[q]? = some (a, .inr (4, cF u))) (t' : Nat → Int32) (hF : D_X1_pledgeTo u p1 = t') : MV l yX1_pledgeTo cX1_pledgeTo 2 rm_X1_pledgeTo D cy ws sz (fun _ => True) [.ref a, .int p1] (ws.set q (a, .inr (4, cF t'))) := by
  refine MV.of (by decide +kernel) (Nat.le_of_ble_eq_true rfl) ?_
  intro p e s m args below meth c A ls Q hAt _ hP hD hA hS hl hret
  obtain ⟨hx, hb, hr, hml, hown, hw, hlk, hK, hN⟩ := hAt
  have hown : s.vm.findClass "CloudDeeds$Cloud" = some m.cls := hown
  have hl : lv_has ls 2 [(0, .ref a), (1, .int p1)] := hl
  refine lv_aload_n hx hb dX1_pledgeTo_0 rfl (lv_at hl 0 rfl) ?_
  refine lv_iload_n hx hb dX1_pledgeTo_1 rfl (lv_at hl 1 rfl) ?_
  refine put' (ci := 4) (fs := cF u) (v := .int p1) (ty := .int) (ws' := (ws.set q (a, .inr (4, cF (upd u 5 p1))))) hx hb hw inWX1 tyX1 tyX1_ok nmX1 hown hK hP hD hS he0 rfl 5 (by decide) k_99 rfl rfl (by decide +kernel) rfl rfl (Nat.le_of_ble_eq_true rfl) dX1_pledgeTo_2 rfl (fun H locs hP hD hS => ?_)
  refine lv_aload_n hx hb dX1_pledgeTo_5 rfl (lv_at hl 0 rfl) ?_
  refine lv_aload_n hx hb dX1_pledgeTo_6 rfl (lv_at hl 0 rfl) ?_
  refine get' (ci := 4) (fs := cF (upd u 5 p1)) (v := .int (u 2)) hx hb hw inWX1 hown hK hP (gC he0) rfl 2 (by decide) k_93 rfl rfl dX1_pledgeTo_7 ?_
  refine put' (ci := 4) (fs := cF (upd u 5 p1)) (v := .int (u 2)) (ty := .int) (ws' := (ws.set q (a, .inr (4, cF (upd (upd u 5 p1) 6 (u 2)))))) hx hb hw inWX1 tyX1 tyX1_ok nmX1 hown hK hP hD hS (gC he0) rfl 6 (by decide) k_101 rfl rfl (by decide +kernel) rfl rfl (Nat.le_of_ble_eq_true rfl) dX1_pledgeTo_10 sC (fun H locs hP hD hS => ?_)
  cases hF
  exact hret _ _ _ _ _ hP hD hS rfl dX1_pledgeTo_13
def D_X1_loan (u : Nat → Int32) : Int32 := (2 * (u 2))
abbrev rm_X1_loan : Room := { frames := 0, cells := 0, slots := 0, locals := 0 }
set_option maxHeartbeats 4000000 in
set_option maxRecDepth 100000 in
theorem met_X1_loan (l : Launch) (D : va_G) (cy : Nat → ClassId) (sz : Nat) (ws : va_W) (q a : Nat) (u : Nat → Int32) (he0 : ws[q]? = some (a, .inr (4, cF u))) (r : Int32) (hF : D_X1_loan u = r) : MI l yX1_loan cX1_loan 1 (some .int) rm_X1_loan D cy ws sz (fun _ => True) [.ref a] r ws := by
  refine MI.of (by decide +kernel) (Nat.le_of_ble_eq_true rfl) ?_
  intro p e s m args below meth c A ls Q hAt _ hP hD hA hS hl hret
  obtain ⟨hx, hb, hr, hml, hown, hw, hlk, hK, hN⟩ := hAt
  have hown : s.vm.findClass "CloudDeeds$Cloud" = some m.cls := hown
  have hl : lv_has ls 1 [(0, .ref a)] := hl
  refine lv_iconst (v := 2) hx hb dX1_loan_0 (by decide) ?_
  refine lv_aload_n hx hb dX1_loan_1 rfl (lv_at hl 0 rfl) ?_
  refine get' (ci := 4) (fs := cF u) (v := .int (u 2)) hx hb hw inWX1 hown hK hP he0 rfl 2 (by decide) k_93 rfl rfl dX1_loan_2 ?_
  refine lv_imul hx hb dX1_loan_5 ?_
  cases hF
  exact hret _ _ _ _ _ _ hP hD hS rfl rfl dX1_loan_6
def D_X1_redemption (u : Nat → Int32) : Int32 := if (D_X1_isPledged u) = 0 then (0) else (((2 * (u 6)) + 1))
abbrev rm_X1_redemption : Room := { frames := 1, cells := 0, slots := 0, locals := 20 }
set_option maxHeartbeats 4000000 in
set_option maxRecDepth 100000 in
theorem met_X1_redemption (l : Launch) (D : va_G) (cy : Nat → ClassId) (sz : Nat) (ws : va_W) (q a : Nat) (u : Nat → Int32) (he0 : ws[q]? = some (a, .inr (4, cF u))) (r : Int32) (hF : D_X1_redemption u = r) : MI l yX1_redemption cX1_redemption 1 (some .int) rm_X1_redemption D cy ws sz (fun _ => True) [.ref a] r ws := by
  refine MI.of (by decide +kernel) (Nat.le_of_ble_eq_true rfl) ?_
  intro p e s m args below meth c A ls Q hAt _ hP hD hA hS hl hret
  obtain ⟨hx, hb, hr, hml, hown, hw, hlk, hK, hN⟩ := hAt
  have hown : s.vm.findClass "CloudDeeds$Cloud" = some m.cls := hown
  have hl : lv_has ls 1 [(0, .ref a)] := hl
  refine lv_aload_n hx hb dX1_redemption_0 rfl (lv_at hl 0 rfl) ?_
  refine cV_i (As := []) (rest := []) hx hb hml hown hw hK hN hA hl.1 hP hD hS k_420 k_421 k_422 k_24 k_423 (met_X1_isPledged l D cy _ ws q a u he0 (D_X1_isPledged u) rfl) (fun _ _ _ => trivial) Xok_T he0 rfl ⟨rfl, rfl⟩ (n := 0) (by decide +kernel) rfl ⟨Nat.le_of_ble_eq_true rfl, Nat.le_of_ble_eq_true rfl⟩ ⟨Nat.le_of_ble_eq_true rfl, Nat.le_of_ble_eq_true rfl⟩ (Nat.le_of_ble_eq_true rfl) rfl dX1_redemption_1 (fun H locs hP hD hS => ?_)
  refine lv_if_eq (tgt := 18) hx hb dX1_redemption_4 (by decide) (fun h4 => ?_) (fun h4 => ?_)
  · replace hF := (if_pos h4).symm.trans hF
    refine lv_iconst (v := 0) hx hb dX1_redemption_18 (by decide) ?_
    cases hF
    exact hret _ _ _ _ _ _ hP hD hS rfl rfl dX1_redemption_19
  · replace hF := (if_neg h4).symm.trans hF
    refine lv_iconst (v := 2) hx hb dX1_redemption_7 (by decide) ?_
    refine lv_aload_n hx hb dX1_redemption_8 rfl (lv_at hl 0 rfl) ?_
    refine get' (ci := 4) (fs := cF u) (v := .int (u 6)) hx hb hw inWX1 hown hK hP he0 rfl 6 (by decide) k_101 rfl rfl dX1_redemption_9 ?_
    refine lv_imul hx hb dX1_redemption_12 ?_
    refine lv_iconst (v := 1) hx hb dX1_redemption_13 (by decide) ?_
    refine lv_iadd hx hb dX1_redemption_14 ?_
    refine lv_goto (tgt := 19) hx hb dX1_redemption_15 (by decide) ?_
    cases hF
    exact hret _ _ _ _ _ _ hP hD hS rfl rfl dX1_redemption_19
def D_J9_floorMod_7cf53 (p1 : Int32) (p2 : Int32) : Option (Int32) := if p2 = 0 then none else (if 0 ≤ (p1 ^^^ p2) then (some (p1 - p1 / p2 * p2)) else (if (p1 - p1 / p2 * p2) = 0 then (some (p1 - p1 / p2 * p2)) else (some ((p1 - p1 / p2 * p2) + p2))))
abbrev rm_J9_floorMod_7cf53 : Room := { frames := 0, cells := 0, slots := 0, locals := 0 }
set_option maxHeartbeats 4000000 in
set_option maxRecDepth 100000 in
theorem met_J9_floorMod_7cf53 (l : Launch) (D : va_G) (cy : Nat → ClassId) (sz : Nat) (ws : va_W) (p1 : Int32) (p2 : Int32)  (r : Int32) (hF : D_J9_floorMod_7cf53 p1 p2 = some r) : MI l yJ9_floorMod_7cf53 cJ9_floorMod_7cf53 3 (some .int) rm_J9_floorMod_7cf53 D cy ws sz (fun _ => True) [.int p1, .int p2] r ws := by
  refine MI.of (by decide +kernel) (Nat.le_of_ble_eq_true rfl) ?_
  intro p e s m args below meth c A ls Q hAt _ hP hD hA hS hl hret
  obtain ⟨hx, hb, hr, hml, hown, hw, hlk, hK, hN⟩ := hAt
  have hown : s.vm.findClass "java/lang/Math" = some m.cls := hown
  have hl : lv_has ls 3 [(0, .int p1), (1, .int p2)] := hl
  refine lv_iload_n hx hb dJ9_floorMod_7cf53_0 rfl (lv_at hl 0 rfl) ?_
  refine lv_iload_n hx hb dJ9_floorMod_7cf53_1 rfl (lv_at hl 1 rfl) ?_
  obtain ⟨h1, hF⟩ := ite_none_some hF
  refine lv_irem hx hb dJ9_floorMod_7cf53_2 h1 ?_
  refine lv_istore_n (lv' := [(2, .int (p1 - p1 / p2 * p2)), (0, .int p1), (1, .int p2)]) hx hb dJ9_floorMod_7cf53_3 rfl hl (by decide) rfl (fun ls hl => ?_)
  refine lv_iload_n hx hb dJ9_floorMod_7cf53_4 rfl (lv_at hl 1 rfl) ?_
  refine lv_iload_n hx hb dJ9_floorMod_7cf53_5 rfl (lv_at hl 2 rfl) ?_
  refine lv_ixor hx hb dJ9_floorMod_7cf53_6 ?_
  refine lv_if_ge (tgt := 18) hx hb dJ9_floorMod_7cf53_7 (by decide) (fun h2 => ?_) (fun h2 => ?_)
  · replace hF := (if_pos h2).symm.trans hF
    refine lv_iload_n hx hb dJ9_floorMod_7cf53_18 rfl (lv_at hl 0 rfl) ?_
    cases hF
    exact hret _ _ _ _ _ _ hP hD hS rfl rfl dJ9_floorMod_7cf53_19
  · replace hF := (if_neg h2).symm.trans hF
    refine lv_iload_n hx hb dJ9_floorMod_7cf53_10 rfl (lv_at hl 0 rfl) ?_
    refine lv_if_eq (tgt := 18) hx hb dJ9_floorMod_7cf53_11 (by decide) (fun h3 => ?_) (fun h3 => ?_)
    · replace hF := (if_pos h3).symm.trans hF
      refine lv_iload_n hx hb dJ9_floorMod_7cf53_18 rfl (lv_at hl 0 rfl) ?_
      cases hF
      exact hret _ _ _ _ _ _ hP hD hS rfl rfl dJ9_floorMod_7cf53_19
    · replace hF := (if_neg h3).symm.trans hF
      refine lv_iload_n hx hb dJ9_floorMod_7cf53_14 rfl (lv_at hl 0 rfl) ?_
      refine lv_iload_n hx hb dJ9_floorMod_7cf53_15 rfl (lv_at hl 2 rfl) ?_
      refine lv_iadd hx hb dJ9_floorMod_7cf53_16 ?_
      cases hF
      exact hret _ _ _ _ _ _ hP hD hS rfl rfl dJ9_floorMod_7cf53_17
def D_X1_vineyardAfter (u : Nat → Int32) (p1 : Int32) : Option (Int32) := (D_J9_floorMod_7cf53 ((u 0) + p1) 6).bind (fun r1 => some r1)
abbrev rm_X1_vineyardAfter : Room := { frames := 1, cells := 0, slots := 0, locals := 22 }
set_option maxHeartbeats 4000000 in
set_option maxRecDepth 100000 in
theorem met_X1_vineyardAfter (l : Launch) (D : va_G) (cy : Nat → ClassId) (sz : Nat) (ws : va_W) (q a : Nat) (u : Nat → Int32) (p1 : Int32) (he0 : ws[q]? = some (a, .inr (4, cF u))) (r : Int32) (hF : D_X1_vineyardAfter u p1 = some r) : MI l yX1_vineyardAfter cX1_vineyardAfter 2 (some .int) rm_X1_vineyardAfter D cy ws sz (fun _ => True) [.ref a, .int p1] r ws := by
  refine MI.of (by decide +kernel) (Nat.le_of_ble_eq_true rfl) ?_
  intro p e s m args below meth c A ls Q hAt _ hP hD hA hS hl hret
  obtain ⟨hx, hb, hr, hml, hown, hw, hlk, hK, hN⟩ := hAt
  have hown : s.vm.findClass "CloudDeeds$Cloud" = some m.cls := hown
  have hl : lv_has ls 2 [(0, .ref a), (1, .int p1)] := hl
  refine lv_aload_n hx hb dX1_vineyardAfter_0 rfl (lv_at hl 0 rfl) ?_
  refine get' (ci := 4) (fs := cF u) (v := .int (u 0)) hx hb hw inWX1 hown hK hP he0 rfl 0 (by decide) k_90 rfl rfl dX1_vineyardAfter_1 ?_
  refine lv_iload_n hx hb dX1_vineyardAfter_4 rfl (lv_at hl 1 rfl) ?_
  refine lv_iadd hx hb dX1_vineyardAfter_5 ?_
  refine lv_bipush (v := 6) hx hb dX1_vineyardAfter_6 (by decide) ?_
  obtain ⟨r1, hc3, hF⟩ := bind_some hF
  try dsimp only at hF
  refine cS_i (As := [.int ((u 0) + p1), .int 6]) (rest := []) hx hb hml hown hw hK hN hA hl.1 hP hD hS k_494 k_495 k_35 k_496 (met_J9_floorMod_7cf53 l D cy _ ws ((u 0) + p1) 6 r1 hc3) (fun _ _ _ => trivial) Xok_T ⟨rfl, rfl⟩ (n := 2) (by decide +kernel) rfl ⟨Nat.le_of_ble_eq_true rfl, Nat.le_of_ble_eq_true rfl⟩ ⟨Nat.le_of_ble_eq_true rfl, Nat.le_of_ble_eq_true rfl⟩ (Nat.le_of_ble_eq_true rfl) rfl dX1_vineyardAfter_8 (fun H locs hP hD hS => ?_)
  cases hF
  exact hret _ _ _ _ _ _ hP hD hS rfl rfl dX1_vineyardAfter_11
def D_X1_drift (u : Nat → Int32) (p1 : Int32) : Option ((Nat → Int32)) := (D_X1_vineyardAfter u p1).bind (fun r1 => (D_J9_floorMod_7cf53 ((u 1) + (if 0 ≤ p1 then p1 else 0 - p1)) 6).bind (fun r4 => some (upd (upd u 0 r1) 1 r4)))
abbrev rm_X1_drift : Room := { frames := 2, cells := 0, slots := 0, locals := 43 }
set_option maxHeartbeats 4000000 in
set_option maxRecDepth 100000 in
theorem met_X1_drift (l : Launch) (D : va_G) (cy : Nat → ClassId) (sz : Nat) (ws : va_W) (q a : Nat) (u : Nat → Int32) (p1 : Int32) (he0 : ws[q]? = some (a, .inr (4, cF u))) (t' : Nat → Int32) (hF : D_X1_drift u p1 = some t') : MV l yX1_drift cX1_drift 2 rm_X1_drift D cy ws sz (fun _ => True) [.ref a, .int p1] (ws.set q (a, .inr (4, cF t'))) := by
  refine MV.of (by decide +kernel) (Nat.le_of_ble_eq_true rfl) ?_
  intro p e s m args below meth c A ls Q hAt _ hP hD hA hS hl hret
  obtain ⟨hx, hb, hr, hml, hown, hw, hlk, hK, hN⟩ := hAt
  have hown : s.vm.findClass "CloudDeeds$Cloud" = some m.cls := hown
  have hl : lv_has ls 2 [(0, .ref a), (1, .int p1)] := hl
  refine lv_aload_n hx hb dX1_drift_0 rfl (lv_at hl 0 rfl) ?_
  refine lv_aload_n hx hb dX1_drift_1 rfl (lv_at hl 0 rfl) ?_
  refine lv_iload_n hx hb dX1_drift_2 rfl (lv_at hl 1 rfl) ?_
  obtain ⟨r1, hc3, hF⟩ := bind_some hF
  try dsimp only at hF
  refine cV_i (As := [.int p1]) (rest := [.ref a]) hx hb hml hown hw hK hN hA hl.1 hP hD hS k_490 k_491 k_492 k_24 k_493 (met_X1_vineyardAfter l D cy _ ws q a u p1 he0 r1 hc3) (fun _ _ _ => trivial) Xok_T he0 rfl ⟨rfl, rfl⟩ (n := 1) (by decide +kernel) rfl ⟨Nat.le_of_ble_eq_true rfl, Nat.le_of_ble_eq_true rfl⟩ ⟨Nat.le_of_ble_eq_true rfl, Nat.le_of_ble_eq_true rfl⟩ (Nat.le_of_ble_eq_true rfl) rfl dX1_drift_3 (fun H locs hP hD hS => ?_)
  refine put' (ci := 4) (fs := cF u) (v := .int r1) (ty := .int) (ws' := (ws.set q (a, .inr (4, cF (upd u 0 r1))))) hx hb hw inWX1 tyX1 tyX1_ok nmX1 hown hK hP hD hS he0 rfl 0 (by decide) k_90 rfl rfl (by decide +kernel) rfl rfl (Nat.le_of_ble_eq_true rfl) dX1_drift_6 rfl (fun H locs hP hD hS => ?_)
  refine lv_aload_n hx hb dX1_drift_9 rfl (lv_at hl 0 rfl) ?_
  refine lv_aload_n hx hb dX1_drift_10 rfl (lv_at hl 0 rfl) ?_
  refine get' (ci := 4) (fs := cF (upd u 0 r1)) (v := .int (u 1)) hx hb hw inWX1 hown hK hP (gC he0) rfl 1 (by decide) k_92 rfl rfl dX1_drift_11 ?_
  refine lv_iload_n hx hb dX1_drift_14 rfl (lv_at hl 1 rfl) ?_
  refine va_mabs hx hb (hml.trans hl.1.symm) hown (hw _ k_548) (hw _ k_549) (hw _ k_35) (hw _ k_550) (Nat.le_of_ble_eq_true rfl) (Nat.le_of_ble_eq_true rfl) (Nat.zero_le _) (Nat.zero_le _) dX1_drift_15 ?_
  refine lv_iadd hx hb dX1_drift_18 ?_
  refine lv_bipush (v := 6) hx hb dX1_drift_19 (by decide) ?_
  obtain ⟨r4, hc6, hF⟩ := bind_some hF
  try dsimp only at hF
  refine cS_i (As := [.int ((u 1) + (if 0 ≤ p1 then p1 else 0 - p1)), .int 6]) (rest := [.ref a]) hx hb hml hown hw hK hN hA hl.1 hP hD hS k_494 k_495 k_35 k_496 (met_J9_floorMod_7cf53 l D cy _ (ws.set q (a, .inr (4, cF (upd u 0 r1)))) ((u 1) + (if 0 ≤ p1 then p1 else 0 - p1)) 6 r4 hc6) (fun _ _ _ => trivial) Xok_T ⟨rfl, rfl⟩ (n := 2) (by decide +kernel) rfl ⟨Nat.le_of_ble_eq_true rfl, Nat.le_of_ble_eq_true rfl⟩ ⟨Nat.le_of_ble_eq_true rfl, Nat.le_of_ble_eq_true rfl⟩ (Nat.le_of_ble_eq_true rfl) rfl dX1_drift_21 (fun H locs hP hD hS => ?_)
  refine put' (ci := 4) (fs := cF (upd u 0 r1)) (v := .int r4) (ty := .int) (ws' := (ws.set q (a, .inr (4, cF (upd (upd u 0 r1) 1 r4))))) hx hb hw inWX1 tyX1 tyX1_ok nmX1 hown hK hP hD hS (gC he0) rfl 1 (by decide) k_92 rfl rfl (by decide +kernel) rfl rfl (Nat.le_of_ble_eq_true rfl) dX1_drift_24 sC (fun H locs hP hD hS => ?_)
  cases hF
  exact hret _ _ _ _ _ hP hD hS rfl dX1_drift_27
def L_X1_windByTrying_2 : Nat → (Nat → Int32) → (Int32) → (Int32) → Option (Int32)
  | 0, _, _, _ => none
  | n2 + 1, u, p1, i2h2 => if 3 < i2h2 then (some 0) else ((D_X1_vineyardAfter u i2h2).bind (fun r2 => if r2 = p1 then (some i2h2) else ((D_X1_vineyardAfter u (-i2h2)).bind (fun r6 => if r6 = p1 then (some (-i2h2)) else (L_X1_windByTrying_2 n2 u p1 (i2h2 + 1))))))
def D_X1_windByTrying (u : Nat → Int32) (p1 : Int32) : Option (Int32) := L_X1_windByTrying_2 200 u p1 0
abbrev rm_X1_windByTrying : Room := { frames := 2, cells := 0, slots := 0, locals := 43 }
set_option maxHeartbeats 4000000 in
set_option maxRecDepth 100000 in
theorem met_X1_windByTrying (l : Launch) (D : va_G) (cy : Nat → ClassId) (sz : Nat) (ws : va_W) (q a : Nat) (u : Nat → Int32) (p1 : Int32) (he0 : ws[q]? = some (a, .inr (4, cF u))) (r : Int32) (hF : D_X1_windByTrying u p1 = some r) : MI l yX1_windByTrying cX1_windByTrying 3 (some .int) rm_X1_windByTrying D cy ws sz (fun _ => True) [.ref a, .int p1] r ws := by
  refine MI.of (by decide +kernel) (Nat.le_of_ble_eq_true rfl) ?_
  intro p e s m args below meth c A ls Q hAt _ hP hD hA hS hl hret
  obtain ⟨hx, hb, hr, hml, hown, hw, hlk, hK, hN⟩ := hAt
  have hown : s.vm.findClass "CloudDeeds$Cloud" = some m.cls := hown
  have hl : lv_has ls 3 [(0, .ref a), (1, .int p1)] := hl
  refine lv_iconst (v := 0) hx hb dX1_windByTrying_0 (by decide) ?_
  refine lv_istore_n (lv' := [(2, .int 0), (0, .ref a), (1, .int p1)]) hx hb dX1_windByTrying_1 rfl hl (by decide) rfl (fun ls hl => ?_)
  have loop2 : ∀ (n : Nat) (i2h2 : Int32) (H : Heap) (locs : List Loc) (ls : Array Slot), L_X1_windByTrying_2 n u p1 i2h2 = some r → va_P D vwCl ws H → va_D A ws → va_S A s.heap H locs → lv_has ls 3 [(2, .int i2h2), (0, .ref a), (1, .int p1)] → W p l e rm_X1_windByTrying s m args below meth c H locs 0 0 Q (F0 m 2 ls []) := by
    intro n
    induction n with
    | zero => intro i2h2 H locs ls hF _ _ _ _; exact absurd hF (by simp [L_X1_windByTrying_2])
    | succ n2 ih2 =>
      intro i2h2 H locs ls hF hP hD hS hl
      refine lv_iload_n hx hb dX1_windByTrying_2 rfl (lv_at hl 0 rfl) ?_
      refine lv_iconst (v := 3) hx hb dX1_windByTrying_3 (by decide) ?_
      refine lv_icmp_gt (tgt := 37) hx hb dX1_windByTrying_4 (by decide) (fun h1 => ?_) (fun h1 => ?_)
      · replace hF := (if_pos h1).symm.trans hF
        refine lv_iconst (v := 0) hx hb dX1_windByTrying_37 (by decide) ?_
        cases hF
        exact hret _ _ _ _ _ _ hP hD hS rfl rfl dX1_windByTrying_38
      · replace hF := (if_neg h1).symm.trans hF
        refine lv_aload_n hx hb dX1_windByTrying_7 rfl (lv_at hl 1 rfl) ?_
        refine lv_iload_n hx hb dX1_windByTrying_8 rfl (lv_at hl 0 rfl) ?_
        obtain ⟨r2, hc4, hF⟩ := bind_some hF
        try dsimp only at hF
        refine cV_i (As := [.int i2h2]) (rest := []) hx hb hml hown hw hK hN hA hl.1 hP hD hS k_490 k_491 k_492 k_24 k_493 (met_X1_vineyardAfter l D cy _ ws q a u i2h2 he0 r2 hc4) (fun _ _ _ => trivial) Xok_T he0 rfl ⟨rfl, rfl⟩ (n := 1) (by decide +kernel) rfl ⟨Nat.le_of_ble_eq_true rfl, Nat.le_of_ble_eq_true rfl⟩ ⟨Nat.le_of_ble_eq_true rfl, Nat.le_of_ble_eq_true rfl⟩ (Nat.le_of_ble_eq_true rfl) rfl dX1_windByTrying_9 (fun H locs hP hD hS => ?_)
        refine lv_iload_n hx hb dX1_windByTrying_12 rfl (lv_at hl 2 rfl) ?_
        refine lv_icmp_ne (tgt := 18) hx hb dX1_windByTrying_13 (by decide) (fun h5 => ?_) (fun h5 => ?_)
        · replace hF := (if_neg h5).symm.trans hF
          refine lv_aload_n hx hb dX1_windByTrying_18 rfl (lv_at hl 1 rfl) ?_
          refine lv_iload_n hx hb dX1_windByTrying_19 rfl (lv_at hl 0 rfl) ?_
          refine lv_ineg hx hb dX1_windByTrying_20 ?_
          obtain ⟨r6, hc8, hF⟩ := bind_some hF
          try dsimp only at hF
          refine cV_i (As := [.int (-i2h2)]) (rest := []) hx hb hml hown hw hK hN hA hl.1 hP hD hS k_490 k_491 k_492 k_24 k_493 (met_X1_vineyardAfter l D cy _ ws q a u (-i2h2) he0 r6 hc8) (fun _ _ _ => trivial) Xok_T he0 rfl ⟨rfl, rfl⟩ (n := 1) (by decide +kernel) rfl ⟨Nat.le_of_ble_eq_true rfl, Nat.le_of_ble_eq_true rfl⟩ ⟨Nat.le_of_ble_eq_true rfl, Nat.le_of_ble_eq_true rfl⟩ (Nat.le_of_ble_eq_true rfl) rfl dX1_windByTrying_21 (fun H locs hP hD hS => ?_)
          refine lv_iload_n hx hb dX1_windByTrying_24 rfl (lv_at hl 2 rfl) ?_
          refine lv_icmp_ne (tgt := 31) hx hb dX1_windByTrying_25 (by decide) (fun h9 => ?_) (fun h9 => ?_)
          · replace hF := (if_neg h9).symm.trans hF
            refine lv_iinc (v := (i2h2 + 1)) (lv' := [(2, .int (i2h2 + 1)), (0, .ref a), (1, .int p1)]) hx hb dX1_windByTrying_31 hl (k := 0) rfl rfl (by decide) rfl (fun ls hl => ?_)
            refine lv_goto (tgt := 2) hx hb dX1_windByTrying_34 (by decide) ?_
            exact ih2 (i2h2 + 1)  _ _ _ hF hP hD hS (lv_sub hl [0, 1, 2] rfl)
          · replace hF := (if_pos h9).symm.trans hF
            refine lv_iload_n hx hb dX1_windByTrying_28 rfl (lv_at hl 0 rfl) ?_
            refine lv_ineg hx hb dX1_windByTrying_29 ?_
            cases hF
            exact hret _ _ _ _ _ _ hP hD hS rfl rfl dX1_windByTrying_30
        · replace hF := (if_pos h5).symm.trans hF
          refine lv_iload_n hx hb dX1_windByTrying_16 rfl (lv_at hl 0 rfl) ?_
          cases hF
          exact hret _ _ _ _ _ _ hP hD hS rfl rfl dX1_windByTrying_17
  exact loop2 200 0  _ _ _ hF hP hD hS (lv_sub hl [0, 1, 2] rfl)
def D_X1_windByDistance (u : Nat → Int32) (p1 : Int32) : Option (Int32) := (D_J9_floorMod_7cf53 (p1 - (u 0)) 6).bind (fun r1 => if 3 < r1 then (some (r1 - 6)) else (some r1))
abbrev rm_X1_windByDistance : Room := { frames := 1, cells := 0, slots := 0, locals := 22 }
set_option maxHeartbeats 4000000 in
set_option maxRecDepth 100000 in
theorem met_X1_windByDistance (l : Launch) (D : va_G) (cy : Nat → ClassId) (sz : Nat) (ws : va_W) (q a : Nat) (u : Nat → Int32) (p1 : Int32) (he0 : ws[q]? = some (a, .inr (4, cF u))) (r : Int32) (hF : D_X1_windByDistance u p1 = some r) : MI l yX1_windByDistance cX1_windByDistance 3 (some .int) rm_X1_windByDistance D cy ws sz (fun _ => True) [.ref a, .int p1] r ws := by
  refine MI.of (by decide +kernel) (Nat.le_of_ble_eq_true rfl) ?_
  intro p e s m args below meth c A ls Q hAt _ hP hD hA hS hl hret
  obtain ⟨hx, hb, hr, hml, hown, hw, hlk, hK, hN⟩ := hAt
  have hown : s.vm.findClass "CloudDeeds$Cloud" = some m.cls := hown
  have hl : lv_has ls 3 [(0, .ref a), (1, .int p1)] := hl
  refine lv_iload_n hx hb dX1_windByDistance_0 rfl (lv_at hl 1 rfl) ?_
  refine lv_aload_n hx hb dX1_windByDistance_1 rfl (lv_at hl 0 rfl) ?_
  refine get' (ci := 4) (fs := cF u) (v := .int (u 0)) hx hb hw inWX1 hown hK hP he0 rfl 0 (by decide) k_90 rfl rfl dX1_windByDistance_2 ?_
  refine lv_isub hx hb dX1_windByDistance_5 ?_
  refine lv_bipush (v := 6) hx hb dX1_windByDistance_6 (by decide) ?_
  obtain ⟨r1, hc3, hF⟩ := bind_some hF
  try dsimp only at hF
  refine cS_i (As := [.int (p1 - (u 0)), .int 6]) (rest := []) hx hb hml hown hw hK hN hA hl.1 hP hD hS k_494 k_495 k_35 k_496 (met_J9_floorMod_7cf53 l D cy _ ws (p1 - (u 0)) 6 r1 hc3) (fun _ _ _ => trivial) Xok_T ⟨rfl, rfl⟩ (n := 2) (by decide +kernel) rfl ⟨Nat.le_of_ble_eq_true rfl, Nat.le_of_ble_eq_true rfl⟩ ⟨Nat.le_of_ble_eq_true rfl, Nat.le_of_ble_eq_true rfl⟩ (Nat.le_of_ble_eq_true rfl) rfl dX1_windByDistance_8 (fun H locs hP hD hS => ?_)
  refine lv_istore_n (lv' := [(2, .int r1), (0, .ref a), (1, .int p1)]) hx hb dX1_windByDistance_11 rfl hl (by decide) rfl (fun ls hl => ?_)
  refine lv_iload_n hx hb dX1_windByDistance_12 rfl (lv_at hl 0 rfl) ?_
  refine lv_iconst (v := 3) hx hb dX1_windByDistance_13 (by decide) ?_
  refine lv_icmp_gt (tgt := 21) hx hb dX1_windByDistance_14 (by decide) (fun h4 => ?_) (fun h4 => ?_)
  · replace hF := (if_pos h4).symm.trans hF
    refine lv_iload_n hx hb dX1_windByDistance_21 rfl (lv_at hl 0 rfl) ?_
    refine lv_bipush (v := 6) hx hb dX1_windByDistance_22 (by decide) ?_
    refine lv_isub hx hb dX1_windByDistance_24 ?_
    cases hF
    exact hret _ _ _ _ _ _ hP hD hS rfl rfl dX1_windByDistance_25
  · replace hF := (if_neg h4).symm.trans hF
    refine lv_iload_n hx hb dX1_windByDistance_17 rfl (lv_at hl 0 rfl) ?_
    refine lv_goto (tgt := 25) hx hb dX1_windByDistance_18 (by decide) ?_
    cases hF
    exact hret _ _ _ _ _ _ hP hD hS rfl rfl dX1_windByDistance_25
def D_X1_isAheadOf (u : Nat → Int32) (u2 : Nat → Int32) : Int32 := if (u 2) = (u2 2) then (if (D_X1_hasTitle u) = 0 then (0) else (if (D_X1_hasTitle u2) = 0 then (1) else (0))) else (if (u 2) ≤ (u2 2) then (0) else (1))
abbrev rm_X1_isAheadOf : Room := { frames := 1, cells := 0, slots := 0, locals := 20 }
set_option maxHeartbeats 4000000 in
set_option maxRecDepth 100000 in
theorem met_X1_isAheadOf (l : Launch) (D : va_G) (cy : Nat → ClassId) (sz : Nat) (ws : va_W) (q a : Nat) (u : Nat → Int32) (q2 a2 : Nat) (u2 : Nat → Int32) (he0 : ws[q]? = some (a, .inr (4, cF u))) (he2 : ws[q2]? = some (a2, .inr (4, cF u2))) (r : Int32) (hF : D_X1_isAheadOf u u2 = r) : MI l yX1_isAheadOf cX1_isAheadOf 2 (some .boolean) rm_X1_isAheadOf D cy ws sz (fun _ => True) [.ref a, .ref a2] r ws := by
  refine MZ.of (by decide +kernel) (Nat.le_of_ble_eq_true rfl) ?_
  intro p e s m args below meth c A ls Q hAt _ hP hD hA hS hl hret
  obtain ⟨hx, hb, hr, hml, hown, hw, hlk, hK, hN⟩ := hAt
  have hown : s.vm.findClass "CloudDeeds$Cloud" = some m.cls := hown
  have hl : lv_has ls 2 [(0, .ref a), (1, .ref a2)] := hl
  refine lv_aload_n hx hb dX1_isAheadOf_0 rfl (lv_at hl 0 rfl) ?_
  refine get' (ci := 4) (fs := cF u) (v := .int (u 2)) hx hb hw inWX1 hown hK hP he0 rfl 2 (by decide) k_93 rfl rfl dX1_isAheadOf_1 ?_
  refine lv_aload_n hx hb dX1_isAheadOf_4 rfl (lv_at hl 1 rfl) ?_
  refine get' (ci := 4) (fs := cF u2) (v := .int (u2 2)) hx hb hw inWX1 hown hK hP he2 rfl 2 (by decide) k_93 rfl rfl dX1_isAheadOf_5 ?_
  refine lv_icmp_eq (tgt := 28) hx hb dX1_isAheadOf_8 (by decide) (fun h1 => ?_) (fun h1 => ?_)
  · replace hF := (if_pos h1).symm.trans hF
    refine lv_aload_n hx hb dX1_isAheadOf_28 rfl (lv_at hl 0 rfl) ?_
    refine cV_i (As := []) (rest := []) hx hb hml hown hw hK hN hA hl.1 hP hD hS k_555 k_556 k_557 k_24 k_558 (met_X1_hasTitle l D cy _ ws q a u he0 (D_X1_hasTitle u) rfl) (fun _ _ _ => trivial) Xok_T he0 rfl ⟨rfl, rfl⟩ (n := 0) (by decide +kernel) rfl ⟨Nat.le_of_ble_eq_true rfl, Nat.le_of_ble_eq_true rfl⟩ ⟨Nat.le_of_ble_eq_true rfl, Nat.le_of_ble_eq_true rfl⟩ (Nat.le_of_ble_eq_true rfl) rfl dX1_isAheadOf_29 (fun H locs hP hD hS => ?_)
    refine lv_if_eq (tgt := 46) hx hb dX1_isAheadOf_32 (by decide) (fun h5 => ?_) (fun h5 => ?_)
    · replace hF := (if_pos h5).symm.trans hF
      refine lv_iconst (v := 0) hx hb dX1_isAheadOf_46 (by decide) ?_
      cases hF
      exact hret _ _ _ _ _ _ hP hD hS rfl rfl rfl dX1_isAheadOf_47
    · replace hF := (if_neg h5).symm.trans hF
      refine lv_aload_n hx hb dX1_isAheadOf_35 rfl (lv_at hl 1 rfl) ?_
      refine cV_i (As := []) (rest := []) hx hb hml hown hw hK hN hA hl.1 hP hD hS k_555 k_556 k_557 k_24 k_558 (met_X1_hasTitle l D cy _ ws q2 a2 u2 he2 (D_X1_hasTitle u2) rfl) (fun _ _ _ => trivial) Xok_T he2 rfl ⟨rfl, rfl⟩ (n := 0) (by decide +kernel) rfl ⟨Nat.le_of_ble_eq_true rfl, Nat.le_of_ble_eq_true rfl⟩ ⟨Nat.le_of_ble_eq_true rfl, Nat.le_of_ble_eq_true rfl⟩ (Nat.le_of_ble_eq_true rfl) rfl dX1_isAheadOf_36 (fun H locs hP hD hS => ?_)
      refine lv_if_ne (tgt := 46) hx hb dX1_isAheadOf_39 (by decide) (fun h9 => ?_) (fun h9 => ?_)
      · replace hF := (if_neg h9).symm.trans hF
        refine lv_iconst (v := 0) hx hb dX1_isAheadOf_46 (by decide) ?_
        cases hF
        exact hret _ _ _ _ _ _ hP hD hS rfl rfl rfl dX1_isAheadOf_47
      · replace hF := (if_pos h9).symm.trans hF
        refine lv_iconst (v := 1) hx hb dX1_isAheadOf_42 (by decide) ?_
        refine lv_goto (tgt := 47) hx hb dX1_isAheadOf_43 (by decide) ?_
        cases hF
        exact hret _ _ _ _ _ _ hP hD hS rfl rfl rfl dX1_isAheadOf_47
  · replace hF := (if_neg h1).symm.trans hF
    refine lv_aload_n hx hb dX1_isAheadOf_11 rfl (lv_at hl 0 rfl) ?_
    refine get' (ci := 4) (fs := cF u) (v := .int (u 2)) hx hb hw inWX1 hown hK hP he0 rfl 2 (by decide) k_93 rfl rfl dX1_isAheadOf_12 ?_
    refine lv_aload_n hx hb dX1_isAheadOf_15 rfl (lv_at hl 1 rfl) ?_
    refine get' (ci := 4) (fs := cF u2) (v := .int (u2 2)) hx hb hw inWX1 hown hK hP he2 rfl 2 (by decide) k_93 rfl rfl dX1_isAheadOf_16 ?_
    refine lv_icmp_le (tgt := 26) hx hb dX1_isAheadOf_19 (by decide) (fun h10 => ?_) (fun h10 => ?_)
    · replace hF := (if_pos h10).symm.trans hF
      refine lv_iconst (v := 0) hx hb dX1_isAheadOf_26 (by decide) ?_
      cases hF
      exact hret _ _ _ _ _ _ hP hD hS rfl rfl rfl dX1_isAheadOf_27
    · replace hF := (if_neg h10).symm.trans hF
      refine lv_iconst (v := 1) hx hb dX1_isAheadOf_22 (by decide) ?_
      refine lv_goto (tgt := 27) hx hb dX1_isAheadOf_23 (by decide) ?_
      cases hF
      exact hret _ _ _ _ _ _ hP hD hS rfl rfl rfl dX1_isAheadOf_27
theorem bz_X1_isAheadOf (u : Nat → Int32) (u2 : Nat → Int32) : (D_X1_isAheadOf u u2) = 0 ∨ (D_X1_isAheadOf u u2) = 1 := by
  unfold D_X1_isAheadOf
  repeat' split
  all_goals first | exact Or.inl rfl | exact Or.inr rfl | assumption | exact bz_X1_hasTitle ..
def D_X1_tell (u : Nat → Int32) (p1 : Int32) : Int32 := if p1 = 0 then ((u 0)) else (if p1 = 1 then ((u 1)) else (if p1 = 2 then ((u 2)) else (if p1 = 3 then ((u 3)) else (if p1 = 4 then ((u 4)) else (if p1 = 5 then ((u 5)) else ((D_X1_redemption u)))))))
abbrev rm_X1_tell : Room := { frames := 2, cells := 0, slots := 0, locals := 40 }
set_option maxHeartbeats 4000000 in
set_option maxRecDepth 100000 in
theorem met_X1_tell (l : Launch) (D : va_G) (cy : Nat → ClassId) (sz : Nat) (ws : va_W) (q a : Nat) (u : Nat → Int32) (p1 : Int32) (he0 : ws[q]? = some (a, .inr (4, cF u))) (r : Int32) (hF : D_X1_tell u p1 = r) : MI l yX1_tell cX1_tell 2 (some .int) rm_X1_tell D cy ws sz (fun _ => True) [.ref a, .int p1] r ws := by
  refine MI.of (by decide +kernel) (Nat.le_of_ble_eq_true rfl) ?_
  intro p e s m args below meth c A ls Q hAt _ hP hD hA hS hl hret
  obtain ⟨hx, hb, hr, hml, hown, hw, hlk, hK, hN⟩ := hAt
  have hown : s.vm.findClass "CloudDeeds$Cloud" = some m.cls := hown
  have hl : lv_has ls 2 [(0, .ref a), (1, .int p1)] := hl
  refine lv_iload_n hx hb dX1_tell_0 rfl (lv_at hl 1 rfl) ?_
  by_cases h1 : p1 = 0
  · replace hF := (if_pos h1).symm.trans hF
    refine lv_tableIn (tgt := 40) (off := 39) hx hb dX1_tell_1 (by rw [h1]; decide) (by rw [h1]; decide) (by rw [h1]; decide) (by decide) ?_
    refine lv_aload_n hx hb dX1_tell_40 rfl (lv_at hl 0 rfl) ?_
    refine get' (ci := 4) (fs := cF u) (v := .int (u 0)) hx hb hw inWX1 hown hK hP he0 rfl 0 (by decide) k_90 rfl rfl dX1_tell_41 ?_
    cases hF
    exact hret _ _ _ _ _ _ hP hD hS rfl rfl dX1_tell_44
  · replace hF := (if_neg h1).symm.trans hF
    by_cases h2 : p1 = 1
    · replace hF := (if_pos h2).symm.trans hF
      refine lv_tableIn (tgt := 45) (off := 44) hx hb dX1_tell_1 (by rw [h2]; decide) (by rw [h2]; decide) (by rw [h2]; decide) (by decide) ?_
      refine lv_aload_n hx hb dX1_tell_45 rfl (lv_at hl 0 rfl) ?_
      refine get' (ci := 4) (fs := cF u) (v := .int (u 1)) hx hb hw inWX1 hown hK hP he0 rfl 1 (by decide) k_92 rfl rfl dX1_tell_46 ?_
      cases hF
      exact hret _ _ _ _ _ _ hP hD hS rfl rfl dX1_tell_49
    · replace hF := (if_neg h2).symm.trans hF
      by_cases h3 : p1 = 2
      · replace hF := (if_pos h3).symm.trans hF
        refine lv_tableIn (tgt := 50) (off := 49) hx hb dX1_tell_1 (by rw [h3]; decide) (by rw [h3]; decide) (by rw [h3]; decide) (by decide) ?_
        refine lv_aload_n hx hb dX1_tell_50 rfl (lv_at hl 0 rfl) ?_
        refine get' (ci := 4) (fs := cF u) (v := .int (u 2)) hx hb hw inWX1 hown hK hP he0 rfl 2 (by decide) k_93 rfl rfl dX1_tell_51 ?_
        cases hF
        exact hret _ _ _ _ _ _ hP hD hS rfl rfl dX1_tell_54
      · replace hF := (if_neg h3).symm.trans hF
        by_cases h4 : p1 = 3
        · replace hF := (if_pos h4).symm.trans hF
          refine lv_tableIn (tgt := 55) (off := 54) hx hb dX1_tell_1 (by rw [h4]; decide) (by rw [h4]; decide) (by rw [h4]; decide) (by decide) ?_
          refine lv_aload_n hx hb dX1_tell_55 rfl (lv_at hl 0 rfl) ?_
          refine get' (ci := 4) (fs := cF u) (v := .int (u 3)) hx hb hw inWX1 hown hK hP he0 rfl 3 (by decide) k_95 rfl rfl dX1_tell_56 ?_
          cases hF
          exact hret _ _ _ _ _ _ hP hD hS rfl rfl dX1_tell_59
        · replace hF := (if_neg h4).symm.trans hF
          by_cases h5 : p1 = 4
          · replace hF := (if_pos h5).symm.trans hF
            refine lv_tableIn (tgt := 60) (off := 59) hx hb dX1_tell_1 (by rw [h5]; decide) (by rw [h5]; decide) (by rw [h5]; decide) (by decide) ?_
            refine lv_aload_n hx hb dX1_tell_60 rfl (lv_at hl 0 rfl) ?_
            refine get' (ci := 4) (fs := cF u) (v := .int (u 4)) hx hb hw inWX1 hown hK hP he0 rfl 4 (by decide) k_98 rfl rfl dX1_tell_61 ?_
            cases hF
            exact hret _ _ _ _ _ _ hP hD hS rfl rfl dX1_tell_64
          · replace hF := (if_neg h5).symm.trans hF
            by_cases h6 : p1 = 5
            · replace hF := (if_pos h6).symm.trans hF
              refine lv_tableIn (tgt := 65) (off := 64) hx hb dX1_tell_1 (by rw [h6]; decide) (by rw [h6]; decide) (by rw [h6]; decide) (by decide) ?_
              refine lv_aload_n hx hb dX1_tell_65 rfl (lv_at hl 0 rfl) ?_
              refine get' (ci := 4) (fs := cF u) (v := .int (u 5)) hx hb hw inWX1 hown hK hP he0 rfl 5 (by decide) k_99 rfl rfl dX1_tell_66 ?_
              cases hF
              exact hret _ _ _ _ _ _ hP hD hS rfl rfl dX1_tell_69
            · replace hF := (if_neg h6).symm.trans hF
              refine tableDf (tgt := 70) hx hb dX1_tell_1 (fun z hz1 hz2 hz3 => by have eh1 := lv_neT h1 (show (0 : Int32).toInt = 0 by decide); have eh2 := lv_neT h2 (show (1 : Int32).toInt = 1 by decide); have eh3 := lv_neT h3 (show (2 : Int32).toInt = 2 by decide); have eh4 := lv_neT h4 (show (3 : Int32).toInt = 3 by decide); have eh5 := lv_neT h5 (show (4 : Int32).toInt = 4 by decide); have eh6 := lv_neT h6 (show (5 : Int32).toInt = 5 by decide); omega) (by decide) ?_
              refine lv_aload_n hx hb dX1_tell_70 rfl (lv_at hl 0 rfl) ?_
              refine cV_i (As := []) (rest := []) hx hb hml hown hw hK hN hA hl.1 hP hD hS k_416 k_417 k_418 k_24 k_419 (met_X1_redemption l D cy _ ws q a u he0 (D_X1_redemption u) rfl) (fun _ _ _ => trivial) Xok_T he0 rfl ⟨rfl, rfl⟩ (n := 0) (by decide +kernel) rfl ⟨Nat.le_of_ble_eq_true rfl, Nat.le_of_ble_eq_true rfl⟩ ⟨Nat.le_of_ble_eq_true rfl, Nat.le_of_ble_eq_true rfl⟩ (Nat.le_of_ble_eq_true rfl) rfl dX1_tell_71 (fun H locs hP hD hS => ?_)
              cases hF
              exact hret _ _ _ _ _ _ hP hD hS rfl rfl dX1_tell_74
