def D_X10_thrown (m0 : Nat → Nat → Int32) : Int32 := ((m0 0) 0)
abbrev rm_X10_thrown : Room := { frames := 0, cells := 0, slots := 0, locals := 0 }
set_option maxHeartbeats 4000000 in
set_option maxRecDepth 100000 in
theorem met_X10_thrown (l : Launch) (D : va_G) (cy : Nat → ClassId) (sz : Nat) (am : Nat → Nat) (m0 : Nat → Nat → Int32)  (r : Int32) (hF : D_X10_thrown m0 = r) : MI l yX10_thrown cX10_thrown 1 (some .int) rm_X10_thrown D cy (mW cy am m0) sz (fun _ => True) [.ref (am 0)] r (mW cy am m0) := by
  refine MI.of (by decide +kernel) (Nat.le_of_ble_eq_true rfl) ?_
  intro p e s m args below meth c A ls Q hAt _ hP hD hA hS hl hret
  obtain ⟨hx, hb, hr, hml, hown, hw, hlk, hK, hN⟩ := hAt
  have hown : s.vm.findClass "CloudDeedsModel" = some m.cls := hown
  have hl : lv_has ls 1 [(0, .ref (am 0))] := hl
  refine lv_aload_n hx hb dX10_thrown_0 rfl (lv_at hl 0 rfl) ?_
  refine get' (ci := 12) (fs := mF am (m0 0)) (v := .int ((m0 0) 0)) hx hb hw inWX10 hown hK hP (gM (am := am) (r := 0) (m := m0) (f := (m0 0)) (by decide) rfl) rfl 0 (by decide) k_1570 rfl rfl dX10_thrown_1 ?_
  cases hF
  exact hret _ _ _ _ _ _ hP hD hS rfl rfl dX10_thrown_4
def D_X10_in (p1 : Int32) (p2 : Int32) (p3 : Int32) : Int32 := if p1 < p2 then (0) else (if p3 < p1 then (0) else (1))
abbrev rm_X10_in : Room := { frames := 0, cells := 0, slots := 0, locals := 0 }
set_option maxHeartbeats 4000000 in
set_option maxRecDepth 100000 in
theorem met_X10_in (l : Launch) (D : va_G) (cy : Nat → ClassId) (sz : Nat) (ws : va_W) (p1 : Int32) (p2 : Int32) (p3 : Int32)  (r : Int32) (hF : D_X10_in p1 p2 p3 = r) : MI l yX10_in cX10_in 3 (some .boolean) rm_X10_in D cy ws sz (fun _ => True) [.int p1, .int p2, .int p3] r ws := by
  refine MZ.of (by decide +kernel) (Nat.le_of_ble_eq_true rfl) ?_
  intro p e s m args below meth c A ls Q hAt _ hP hD hA hS hl hret
  obtain ⟨hx, hb, hr, hml, hown, hw, hlk, hK, hN⟩ := hAt
  have hown : s.vm.findClass "CloudDeedsModel" = some m.cls := hown
  have hl : lv_has ls 3 [(0, .int p1), (1, .int p2), (2, .int p3)] := hl
  refine lv_iload_n hx hb dX10_in_0 rfl (lv_at hl 0 rfl) ?_
  refine lv_iload_n hx hb dX10_in_1 rfl (lv_at hl 1 rfl) ?_
  refine lv_icmp_lt (tgt := 14) hx hb dX10_in_2 (by decide) (fun h1 => ?_) (fun h1 => ?_)
  · replace hF := (if_pos h1).symm.trans hF
    refine lv_iconst (v := 0) hx hb dX10_in_14 (by decide) ?_
    cases hF
    exact hret _ _ _ _ _ _ hP hD hS rfl rfl rfl dX10_in_15
  · replace hF := (if_neg h1).symm.trans hF
    refine lv_iload_n hx hb dX10_in_5 rfl (lv_at hl 0 rfl) ?_
    refine lv_iload_n hx hb dX10_in_6 rfl (lv_at hl 2 rfl) ?_
    refine lv_icmp_gt (tgt := 14) hx hb dX10_in_7 (by decide) (fun h2 => ?_) (fun h2 => ?_)
    · replace hF := (if_pos h2).symm.trans hF
      refine lv_iconst (v := 0) hx hb dX10_in_14 (by decide) ?_
      cases hF
      exact hret _ _ _ _ _ _ hP hD hS rfl rfl rfl dX10_in_15
    · replace hF := (if_neg h2).symm.trans hF
      refine lv_iconst (v := 1) hx hb dX10_in_10 (by decide) ?_
      refine lv_goto (tgt := 15) hx hb dX10_in_11 (by decide) ?_
      cases hF
      exact hret _ _ _ _ _ _ hP hD hS rfl rfl rfl dX10_in_15
theorem bz_X10_in (p1 : Int32) (p2 : Int32) (p3 : Int32) : (D_X10_in p1 p2 p3) = 0 ∨ (D_X10_in p1 p2 p3) = 1 := by
  unfold D_X10_in
  repeat' split
  all_goals first | exact Or.inl rfl | exact Or.inr rfl | assumption
def L_X10_copies_2 : Nat → (Nat → Nat → Int32) → (Int32) → (Int32) → (Int32) → (Nat → Nat → Int32) → Option ((Nat → Nat → Int32))
  | 0, _, _, _, _, _ => none
  | n2 + 1, m0, p1, p2, i3h2, s2 => if 96 ≤ i3h2 then (some s2) else (if inb ((96 * p1) + i3h2) 1152 then (if inb ((96 * p2) + i3h2) 1152 then (L_X10_copies_2 n2 m0 p1 p2 (i3h2 + 1) (va_up s2 1 (upd (s2 1) (((96 * p2) + i3h2).toNatClampNeg) ((s2 1) ((96 * p1) + i3h2).toNatClampNeg)))) else none) else none)
def D_X10_copies (m0 : Nat → Nat → Int32) (p1 : Int32) (p2 : Int32) : Option ((Nat → Nat → Int32)) := L_X10_copies_2 200 m0 p1 p2 0 m0
abbrev rm_X10_copies : Room := { frames := 0, cells := 0, slots := 0, locals := 0 }
set_option maxHeartbeats 4000000 in
set_option maxRecDepth 100000 in
theorem met_X10_copies (l : Launch) (D : va_G) (cy : Nat → ClassId) (sz : Nat) (am : Nat → Nat) (m0 : Nat → Nat → Int32) (p1 : Int32) (p2 : Int32)  (t' : Nat → Nat → Int32) (hF : D_X10_copies m0 p1 p2 = some t') : MV l yX10_copies cX10_copies 4 rm_X10_copies D cy (mW cy am m0) sz (fun _ => True) [.ref (am 0), .int p1, .int p2] (mW cy am t') := by
  refine MV.of (by decide +kernel) (Nat.le_of_ble_eq_true rfl) ?_
  intro p e s m args below meth c A ls Q hAt _ hP hD hA hS hl hret
  obtain ⟨hx, hb, hr, hml, hown, hw, hlk, hK, hN⟩ := hAt
  have hown : s.vm.findClass "CloudDeedsModel" = some m.cls := hown
  have hl : lv_has ls 4 [(0, .ref (am 0)), (1, .int p1), (2, .int p2)] := hl
  refine lv_iconst (v := 0) hx hb dX10_copies_0 (by decide) ?_
  refine lv_istore_n (lv' := [(3, .int 0), (0, .ref (am 0)), (1, .int p1), (2, .int p2)]) hx hb dX10_copies_1 rfl hl (by decide) rfl (fun ls hl => ?_)
  have loop2 : ∀ (n : Nat) (i3h2 : Int32) (s2 : Nat → Nat → Int32) (H : Heap) (locs : List Loc) (ls : Array Slot), L_X10_copies_2 n m0 p1 p2 i3h2 s2 = some t' → va_P D vwCl (mW cy am s2) H → va_D A (mW cy am s2) → va_S A s.heap H locs → lv_has ls 4 [(3, .int i3h2), (0, .ref (am 0)), (1, .int p1), (2, .int p2)] → W p l e rm_X10_copies s m args below meth c H locs 0 0 Q (F0 m 2 ls []) := by
    intro n
    induction n with
    | zero => intro i3h2 s2 H locs ls hF _ _ _ _; exact absurd hF (by simp [L_X10_copies_2])
    | succ n2 ih2 =>
      intro i3h2 s2 H locs ls hF hP hD hS hl
      refine lv_iload_n hx hb dX10_copies_2 rfl (lv_at hl 0 rfl) ?_
      refine lv_bipush (v := 96) hx hb dX10_copies_3 (by decide) ?_
      refine lv_icmp_ge (tgt := 36) hx hb dX10_copies_5 (by decide) (fun h1 => ?_) (fun h1 => ?_)
      · replace hF := (if_pos h1).symm.trans hF
        cases hF
        exact hret _ _ _ _ _ hP hD hS rfl dX10_copies_36
      · replace hF := (if_neg h1).symm.trans hF
        refine lv_aload_n hx hb dX10_copies_8 rfl (lv_at hl 1 rfl) ?_
        refine get' (ci := 12) (fs := mF am (s2 0)) (v := .ref (am 1)) hx hb hw inWX10 hown hK hP (gM (am := am) (r := 0) (m := s2) (f := (s2 0)) (by decide) rfl) rfl 1 (by decide) k_1571 rfl rfl dX10_copies_9 ?_
        refine lv_bipush (v := 96) hx hb dX10_copies_12 (by decide) ?_
        refine lv_iload_n hx hb dX10_copies_14 rfl (lv_at hl 3 rfl) ?_
        refine lv_imul hx hb dX10_copies_15 ?_
        refine lv_iload_n hx hb dX10_copies_16 rfl (lv_at hl 0 rfl) ?_
        refine lv_iadd hx hb dX10_copies_17 ?_
        refine lv_aload_n hx hb dX10_copies_18 rfl (lv_at hl 1 rfl) ?_
        refine get' (ci := 12) (fs := mF am (s2 0)) (v := .ref (am 1)) hx hb hw inWX10 hown hK hP (gM (am := am) (r := 0) (m := s2) (f := (s2 0)) (by decide) rfl) rfl 1 (by decide) k_1571 rfl rfl dX10_copies_19 ?_
        refine lv_bipush (v := 96) hx hb dX10_copies_22 (by decide) ?_
        refine lv_iload_n hx hb dX10_copies_24 rfl (lv_at hl 2 rfl) ?_
        refine lv_imul hx hb dX10_copies_25 ?_
        refine lv_iload_n hx hb dX10_copies_26 rfl (lv_at hl 0 rfl) ?_
        refine lv_iadd hx hb dX10_copies_27 ?_
        obtain ⟨h2, hF⟩ := ite_some hF
        refine va_iald (n := 1152) (f := (s2 1)) hx hb hK hP _ 0 (gM (am := am) (r := 1) (m := s2) (f := (s2 1)) (by decide) rfl) rfl (vp_inb h2) dX10_copies_28 ?_
        obtain ⟨h3, hF⟩ := ite_some hF
        refine iast' (n := 1152) (f := (s2 1)) (ws' := (mW cy am (va_up s2 1 (upd (s2 1) (((96 * p2) + i3h2).toNatClampNeg) ((s2 1) ((96 * p1) + i3h2).toNatClampNeg))))) hx hb hK hP hD hS (gM (am := am) (r := 1) (m := s2) (f := (s2 1)) (by decide) rfl) (t0 := 0) rfl (vp_inb h3) dX10_copies_29 (sM (am := am) (r := 1) (m := s2) (g := (upd (s2 1) (((96 * p2) + i3h2).toNatClampNeg) ((s2 1) ((96 * p1) + i3h2).toNatClampNeg))) (by decide)) (fun H locs hP hD hS => ?_)
        refine lv_iinc (v := (i3h2 + 1)) (lv' := [(3, .int (i3h2 + 1)), (0, .ref (am 0)), (1, .int p1), (2, .int p2)]) hx hb dX10_copies_30 hl (k := 0) rfl rfl (by decide) rfl (fun ls hl => ?_)
        refine lv_goto (tgt := 2) hx hb dX10_copies_33 (by decide) ?_
        exact ih2 (i3h2 + 1) (va_up s2 1 (upd (s2 1) (((96 * p2) + i3h2).toNatClampNeg) ((s2 1) ((96 * p1) + i3h2).toNatClampNeg))) _ _ _ hF hP hD hS (lv_sub hl [0, 1, 2, 3] rfl)
  exact loop2 200 0 m0 _ _ _ hF hP hD hS (lv_sub hl [0, 1, 2, 3] rfl)
def D_X10_refuses (m0 : Nat → Nat → Int32) (p1 : Int32) (p2 : Int32) (p3 : Int32) : Int32 × (Nat → Nat → Int32) := if p1 = 0 then ((p1, m0)) else ((p1, (va_up m0 0 (upd (upd (upd (m0 0) 5 p2) 6 p3) 7 0))))
abbrev rm_X10_refuses : Room := { frames := 0, cells := 0, slots := 0, locals := 0 }
set_option maxHeartbeats 4000000 in
set_option maxRecDepth 100000 in
theorem met_X10_refuses (l : Launch) (D : va_G) (cy : Nat → ClassId) (sz : Nat) (am : Nat → Nat) (m0 : Nat → Nat → Int32) (p1 : Int32) (p2 : Int32) (p3 : Int32) (hz1 : p1 = 0 ∨ p1 = 1) (r : Int32) (t' : Nat → Nat → Int32) (hF : D_X10_refuses m0 p1 p2 p3 = (r, t')) : MI l yX10_refuses cX10_refuses 4 (some .boolean) rm_X10_refuses D cy (mW cy am m0) sz (fun _ => True) [.ref (am 0), .int p1, .int p2, .int p3] r (mW cy am t') := by
  refine MZ.of (by decide +kernel) (Nat.le_of_ble_eq_true rfl) ?_
  intro p e s m args below meth c A ls Q hAt _ hP hD hA hS hl hret
  obtain ⟨hx, hb, hr, hml, hown, hw, hlk, hK, hN⟩ := hAt
  have hown : s.vm.findClass "CloudDeedsModel" = some m.cls := hown
  have hl : lv_has ls 4 [(0, .ref (am 0)), (1, .int p1), (2, .int p2), (3, .int p3)] := hl
  refine lv_iload_n hx hb dX10_refuses_0 rfl (lv_at hl 1 rfl) ?_
  refine lv_if_eq (tgt := 19) hx hb dX10_refuses_1 (by decide) (fun h1 => ?_) (fun h1 => ?_)
  · replace hF := (if_pos h1).symm.trans hF
    refine lv_iload_n hx hb dX10_refuses_19 rfl (lv_at hl 1 rfl) ?_
    cases hF
    exact hret _ _ _ _ _ _ hP hD hS rfl rfl (nar_z (hz1)) dX10_refuses_20
  · replace hF := (if_neg h1).symm.trans hF
    refine lv_aload_n hx hb dX10_refuses_4 rfl (lv_at hl 0 rfl) ?_
    refine lv_iload_n hx hb dX10_refuses_5 rfl (lv_at hl 2 rfl) ?_
    refine put' (ci := 12) (fs := mF am (m0 0)) (v := .int p2) (ty := .int) (ws' := (mW cy am (va_up m0 0 (upd (m0 0) 5 p2)))) hx hb hw inWX10 tyX10 tyX10_ok nmX10 hown hK hP hD hS (gM (am := am) (r := 0) (m := m0) (f := (m0 0)) (by decide) rfl) rfl 5 (by decide) k_1575 rfl rfl (by decide +kernel) rfl rfl (Nat.le_of_ble_eq_true rfl) dX10_refuses_6 (sM (am := am) (r := 0) (m := m0) (g := (upd (m0 0) 5 p2)) (by decide)) (fun H locs hP hD hS => ?_)
    refine lv_aload_n hx hb dX10_refuses_9 rfl (lv_at hl 0 rfl) ?_
    refine lv_iload_n hx hb dX10_refuses_10 rfl (lv_at hl 3 rfl) ?_
    refine put' (ci := 12) (fs := mF am (upd (m0 0) 5 p2)) (v := .int p3) (ty := .int) (ws' := (mW cy am (va_up m0 0 (upd (upd (m0 0) 5 p2) 6 p3)))) hx hb hw inWX10 tyX10 tyX10_ok nmX10 hown hK hP hD hS (gM (am := am) (r := 0) (m := (va_up m0 0 (upd (m0 0) 5 p2))) (f := (upd (m0 0) 5 p2)) (by decide) (va_up_self _ _ _)) rfl 6 (by decide) k_1576 rfl rfl (by decide +kernel) rfl rfl (Nat.le_of_ble_eq_true rfl) dX10_refuses_11 ((sM (am := am) (r := 0) (m := (va_up m0 0 (upd (m0 0) 5 p2))) (g := (upd (upd (m0 0) 5 p2) 6 p3)) (by decide)).trans (congrArg (fun z => mW cy am z) (up_up _ _ _ _))) (fun H locs hP hD hS => ?_)
    refine lv_aload_n hx hb dX10_refuses_14 rfl (lv_at hl 0 rfl) ?_
    refine lv_iconst (v := 0) hx hb dX10_refuses_15 (by decide) ?_
    refine put' (ci := 12) (fs := mF am (upd (upd (m0 0) 5 p2) 6 p3)) (v := .int 0) (ty := .int) (ws' := (mW cy am (va_up m0 0 (upd (upd (upd (m0 0) 5 p2) 6 p3) 7 0)))) hx hb hw inWX10 tyX10 tyX10_ok nmX10 hown hK hP hD hS (gM (am := am) (r := 0) (m := (va_up m0 0 (upd (upd (m0 0) 5 p2) 6 p3))) (f := (upd (upd (m0 0) 5 p2) 6 p3)) (by decide) (va_up_self _ _ _)) rfl 7 (by decide) k_1577 rfl rfl (by decide +kernel) rfl rfl (Nat.le_of_ble_eq_true rfl) dX10_refuses_16 ((sM (am := am) (r := 0) (m := (va_up m0 0 (upd (upd (m0 0) 5 p2) 6 p3))) (g := (upd (upd (upd (m0 0) 5 p2) 6 p3) 7 0)) (by decide)).trans (congrArg (fun z => mW cy am z) (up_up _ _ _ _))) (fun H locs hP hD hS => ?_)
    refine lv_iload_n hx hb dX10_refuses_19 rfl (lv_at hl 1 rfl) ?_
    cases hF
    exact hret _ _ _ _ _ _ hP hD hS rfl rfl (nar_z (hz1)) dX10_refuses_20
theorem rs_X10_refuses (m0 : Nat → Nat → Int32) (p1 : Int32) (p2 : Int32) (p3 : Int32) : D_X10_refuses m0 p1 p2 p3 = (p1, (D_X10_refuses m0 p1 p2 p3).2) := by
  unfold D_X10_refuses
  repeat' split
  all_goals rfl
def D_X10_isThere (m0 : Nat → Nat → Int32) (p1 : Int32) : Int32 × (Nat → Nat → Int32) := if p1 = 0 then ((p1, (va_up m0 0 (upd (m0 0) 0 1)))) else ((p1, (va_up m0 0 (upd (m0 0) 0 0))))
abbrev rm_X10_isThere : Room := { frames := 0, cells := 0, slots := 0, locals := 0 }
set_option maxHeartbeats 4000000 in
set_option maxRecDepth 100000 in
theorem met_X10_isThere (l : Launch) (D : va_G) (cy : Nat → ClassId) (sz : Nat) (am : Nat → Nat) (m0 : Nat → Nat → Int32) (p1 : Int32) (hz1 : p1 = 0 ∨ p1 = 1) (r : Int32) (t' : Nat → Nat → Int32) (hF : D_X10_isThere m0 p1 = (r, t')) : MI l yX10_isThere cX10_isThere 2 (some .boolean) rm_X10_isThere D cy (mW cy am m0) sz (fun _ => True) [.ref (am 0), .int p1] r (mW cy am t') := by
  refine MZ.of (by decide +kernel) (Nat.le_of_ble_eq_true rfl) ?_
  intro p e s m args below meth c A ls Q hAt _ hP hD hA hS hl hret
  obtain ⟨hx, hb, hr, hml, hown, hw, hlk, hK, hN⟩ := hAt
  have hown : s.vm.findClass "CloudDeedsModel" = some m.cls := hown
  have hl : lv_has ls 2 [(0, .ref (am 0)), (1, .int p1)] := hl
  refine lv_aload_n hx hb dX10_isThere_0 rfl (lv_at hl 0 rfl) ?_
  refine lv_iload_n hx hb dX10_isThere_1 rfl (lv_at hl 1 rfl) ?_
  refine lv_if_eq (tgt := 9) hx hb dX10_isThere_2 (by decide) (fun h1 => ?_) (fun h1 => ?_)
  · replace hF := (if_pos h1).symm.trans hF
    refine lv_iconst (v := 1) hx hb dX10_isThere_9 (by decide) ?_
    refine put' (ci := 12) (fs := mF am (m0 0)) (v := .int 1) (ty := .int) (ws' := (mW cy am (va_up m0 0 (upd (m0 0) 0 1)))) hx hb hw inWX10 tyX10 tyX10_ok nmX10 hown hK hP hD hS (gM (am := am) (r := 0) (m := m0) (f := (m0 0)) (by decide) rfl) rfl 0 (by decide) k_1570 rfl rfl (by decide +kernel) rfl rfl (Nat.le_of_ble_eq_true rfl) dX10_isThere_10 (sM (am := am) (r := 0) (m := m0) (g := (upd (m0 0) 0 1)) (by decide)) (fun H locs hP hD hS => ?_)
    refine lv_iload_n hx hb dX10_isThere_13 rfl (lv_at hl 1 rfl) ?_
    cases hF
    exact hret _ _ _ _ _ _ hP hD hS rfl rfl (nar_z (hz1)) dX10_isThere_14
  · replace hF := (if_neg h1).symm.trans hF
    refine lv_iconst (v := 0) hx hb dX10_isThere_5 (by decide) ?_
    refine lv_goto (tgt := 10) hx hb dX10_isThere_6 (by decide) ?_
    refine put' (ci := 12) (fs := mF am (m0 0)) (v := .int 0) (ty := .int) (ws' := (mW cy am (va_up m0 0 (upd (m0 0) 0 0)))) hx hb hw inWX10 tyX10 tyX10_ok nmX10 hown hK hP hD hS (gM (am := am) (r := 0) (m := m0) (f := (m0 0)) (by decide) rfl) rfl 0 (by decide) k_1570 rfl rfl (by decide +kernel) rfl rfl (Nat.le_of_ble_eq_true rfl) dX10_isThere_10 (sM (am := am) (r := 0) (m := m0) (g := (upd (m0 0) 0 0)) (by decide)) (fun H locs hP hD hS => ?_)
    refine lv_iload_n hx hb dX10_isThere_13 rfl (lv_at hl 1 rfl) ?_
    cases hF
    exact hret _ _ _ _ _ _ hP hD hS rfl rfl (nar_z (hz1)) dX10_isThere_14
theorem rs_X10_isThere (m0 : Nat → Nat → Int32) (p1 : Int32) : D_X10_isThere m0 p1 = (p1, (D_X10_isThere m0 p1).2) := by
  unfold D_X10_isThere
  repeat' split
  all_goals rfl
def D_X10_c (m0 : Nat → Nat → Int32) (p1 : Int32) (p2 : Int32) : Option (Int32) := if inb ((19 + (7 * p1)) + p2) 1152 then (some ((m0 1) ((19 + (7 * p1)) + p2).toNatClampNeg)) else none
abbrev rm_X10_c : Room := { frames := 0, cells := 0, slots := 0, locals := 0 }
set_option maxHeartbeats 4000000 in
set_option maxRecDepth 100000 in
theorem met_X10_c (l : Launch) (D : va_G) (cy : Nat → ClassId) (sz : Nat) (am : Nat → Nat) (m0 : Nat → Nat → Int32) (p1 : Int32) (p2 : Int32)  (r : Int32) (hF : D_X10_c m0 p1 p2 = some r) : MI l yX10_c cX10_c 3 (some .int) rm_X10_c D cy (mW cy am m0) sz (fun _ => True) [.ref (am 0), .int p1, .int p2] r (mW cy am m0) := by
  refine MI.of (by decide +kernel) (Nat.le_of_ble_eq_true rfl) ?_
  intro p e s m args below meth c A ls Q hAt _ hP hD hA hS hl hret
  obtain ⟨hx, hb, hr, hml, hown, hw, hlk, hK, hN⟩ := hAt
  have hown : s.vm.findClass "CloudDeedsModel" = some m.cls := hown
  have hl : lv_has ls 3 [(0, .ref (am 0)), (1, .int p1), (2, .int p2)] := hl
  refine lv_aload_n hx hb dX10_c_0 rfl (lv_at hl 0 rfl) ?_
  refine get' (ci := 12) (fs := mF am (m0 0)) (v := .ref (am 1)) hx hb hw inWX10 hown hK hP (gM (am := am) (r := 0) (m := m0) (f := (m0 0)) (by decide) rfl) rfl 1 (by decide) k_1571 rfl rfl dX10_c_1 ?_
  refine lv_bipush (v := 19) hx hb dX10_c_4 (by decide) ?_
  refine lv_bipush (v := 7) hx hb dX10_c_6 (by decide) ?_
  refine lv_iload_n hx hb dX10_c_8 rfl (lv_at hl 1 rfl) ?_
  refine lv_imul hx hb dX10_c_9 ?_
  refine lv_iadd hx hb dX10_c_10 ?_
  refine lv_iload_n hx hb dX10_c_11 rfl (lv_at hl 2 rfl) ?_
  refine lv_iadd hx hb dX10_c_12 ?_
  obtain ⟨h1, hF⟩ := ite_some hF
  refine va_iald (n := 1152) (f := (m0 1)) hx hb hK hP _ 0 (gM (am := am) (r := 1) (m := m0) (f := (m0 1)) (by decide) rfl) rfl (vp_inb h1) dX10_c_13 ?_
  cases hF
  exact hret _ _ _ _ _ _ hP hD hS rfl rfl dX10_c_14
def D_X10_set (m0 : Nat → Nat → Int32) (p1 : Int32) (p2 : Int32) (p3 : Int32) : Option ((Nat → Nat → Int32)) := if inb ((19 + (7 * p1)) + p2) 1152 then (some (va_up m0 1 (upd (m0 1) (((19 + (7 * p1)) + p2).toNatClampNeg) p3))) else none
abbrev rm_X10_set : Room := { frames := 0, cells := 0, slots := 0, locals := 0 }
set_option maxHeartbeats 4000000 in
set_option maxRecDepth 100000 in
theorem met_X10_set (l : Launch) (D : va_G) (cy : Nat → ClassId) (sz : Nat) (am : Nat → Nat) (m0 : Nat → Nat → Int32) (p1 : Int32) (p2 : Int32) (p3 : Int32)  (t' : Nat → Nat → Int32) (hF : D_X10_set m0 p1 p2 p3 = some t') : MV l yX10_set cX10_set 4 rm_X10_set D cy (mW cy am m0) sz (fun _ => True) [.ref (am 0), .int p1, .int p2, .int p3] (mW cy am t') := by
  refine MV.of (by decide +kernel) (Nat.le_of_ble_eq_true rfl) ?_
  intro p e s m args below meth c A ls Q hAt _ hP hD hA hS hl hret
  obtain ⟨hx, hb, hr, hml, hown, hw, hlk, hK, hN⟩ := hAt
  have hown : s.vm.findClass "CloudDeedsModel" = some m.cls := hown
  have hl : lv_has ls 4 [(0, .ref (am 0)), (1, .int p1), (2, .int p2), (3, .int p3)] := hl
  refine lv_aload_n hx hb dX10_set_0 rfl (lv_at hl 0 rfl) ?_
  refine get' (ci := 12) (fs := mF am (m0 0)) (v := .ref (am 1)) hx hb hw inWX10 hown hK hP (gM (am := am) (r := 0) (m := m0) (f := (m0 0)) (by decide) rfl) rfl 1 (by decide) k_1571 rfl rfl dX10_set_1 ?_
  refine lv_bipush (v := 19) hx hb dX10_set_4 (by decide) ?_
  refine lv_bipush (v := 7) hx hb dX10_set_6 (by decide) ?_
  refine lv_iload_n hx hb dX10_set_8 rfl (lv_at hl 1 rfl) ?_
  refine lv_imul hx hb dX10_set_9 ?_
  refine lv_iadd hx hb dX10_set_10 ?_
  refine lv_iload_n hx hb dX10_set_11 rfl (lv_at hl 2 rfl) ?_
  refine lv_iadd hx hb dX10_set_12 ?_
  refine lv_iload_n hx hb dX10_set_13 rfl (lv_at hl 3 rfl) ?_
  obtain ⟨h1, hF⟩ := ite_some hF
  refine iast' (n := 1152) (f := (m0 1)) (ws' := (mW cy am (va_up m0 1 (upd (m0 1) (((19 + (7 * p1)) + p2).toNatClampNeg) p3)))) hx hb hK hP hD hS (gM (am := am) (r := 1) (m := m0) (f := (m0 1)) (by decide) rfl) (t0 := 0) rfl (vp_inb h1) dX10_set_14 (sM (am := am) (r := 1) (m := m0) (g := (upd (m0 1) (((19 + (7 * p1)) + p2).toNatClampNeg) p3)) (by decide)) (fun H locs hP hD hS => ?_)
  cases hF
  exact hret _ _ _ _ _ hP hD hS rfl dX10_set_15
def D_X10_coinsAt (m0 : Nat → Nat → Int32) (p1 : Int32) : Option (Int32) := if inb (9 + p1) 1152 then (some ((m0 1) (9 + p1).toNatClampNeg)) else none
abbrev rm_X10_coinsAt : Room := { frames := 0, cells := 0, slots := 0, locals := 0 }
set_option maxHeartbeats 4000000 in
set_option maxRecDepth 100000 in
theorem met_X10_coinsAt (l : Launch) (D : va_G) (cy : Nat → ClassId) (sz : Nat) (am : Nat → Nat) (m0 : Nat → Nat → Int32) (p1 : Int32)  (r : Int32) (hF : D_X10_coinsAt m0 p1 = some r) : MI l yX10_coinsAt cX10_coinsAt 2 (some .int) rm_X10_coinsAt D cy (mW cy am m0) sz (fun _ => True) [.ref (am 0), .int p1] r (mW cy am m0) := by
  refine MI.of (by decide +kernel) (Nat.le_of_ble_eq_true rfl) ?_
  intro p e s m args below meth c A ls Q hAt _ hP hD hA hS hl hret
  obtain ⟨hx, hb, hr, hml, hown, hw, hlk, hK, hN⟩ := hAt
  have hown : s.vm.findClass "CloudDeedsModel" = some m.cls := hown
  have hl : lv_has ls 2 [(0, .ref (am 0)), (1, .int p1)] := hl
  refine lv_aload_n hx hb dX10_coinsAt_0 rfl (lv_at hl 0 rfl) ?_
  refine get' (ci := 12) (fs := mF am (m0 0)) (v := .ref (am 1)) hx hb hw inWX10 hown hK hP (gM (am := am) (r := 0) (m := m0) (f := (m0 0)) (by decide) rfl) rfl 1 (by decide) k_1571 rfl rfl dX10_coinsAt_1 ?_
  refine lv_bipush (v := 9) hx hb dX10_coinsAt_4 (by decide) ?_
  refine lv_iload_n hx hb dX10_coinsAt_6 rfl (lv_at hl 1 rfl) ?_
  refine lv_iadd hx hb dX10_coinsAt_7 ?_
  obtain ⟨h1, hF⟩ := ite_some hF
  refine va_iald (n := 1152) (f := (m0 1)) hx hb hK hP _ 0 (gM (am := am) (r := 1) (m := m0) (f := (m0 1)) (by decide) rfl) rfl (vp_inb h1) dX10_coinsAt_8 ?_
  cases hF
  exact hret _ _ _ _ _ _ hP hD hS rfl rfl dX10_coinsAt_9
def D_X10_pays (m0 : Nat → Nat → Int32) (p1 : Int32) (p2 : Int32) : Option ((Nat → Nat → Int32)) := if inb (9 + p1) 1152 then (if inb (9 + p1) 1152 then (some (va_up m0 1 (upd (m0 1) ((9 + p1).toNatClampNeg) (((m0 1) (9 + p1).toNatClampNeg) - p2)))) else none) else none
abbrev rm_X10_pays : Room := { frames := 0, cells := 0, slots := 0, locals := 0 }
set_option maxHeartbeats 4000000 in
set_option maxRecDepth 100000 in
theorem met_X10_pays (l : Launch) (D : va_G) (cy : Nat → ClassId) (sz : Nat) (am : Nat → Nat) (m0 : Nat → Nat → Int32) (p1 : Int32) (p2 : Int32)  (t' : Nat → Nat → Int32) (hF : D_X10_pays m0 p1 p2 = some t') : MV l yX10_pays cX10_pays 3 rm_X10_pays D cy (mW cy am m0) sz (fun _ => True) [.ref (am 0), .int p1, .int p2] (mW cy am t') := by
  refine MV.of (by decide +kernel) (Nat.le_of_ble_eq_true rfl) ?_
  intro p e s m args below meth c A ls Q hAt _ hP hD hA hS hl hret
  obtain ⟨hx, hb, hr, hml, hown, hw, hlk, hK, hN⟩ := hAt
  have hown : s.vm.findClass "CloudDeedsModel" = some m.cls := hown
  have hl : lv_has ls 3 [(0, .ref (am 0)), (1, .int p1), (2, .int p2)] := hl
  refine lv_aload_n hx hb dX10_pays_0 rfl (lv_at hl 0 rfl) ?_
  refine get' (ci := 12) (fs := mF am (m0 0)) (v := .ref (am 1)) hx hb hw inWX10 hown hK hP (gM (am := am) (r := 0) (m := m0) (f := (m0 0)) (by decide) rfl) rfl 1 (by decide) k_1571 rfl rfl dX10_pays_1 ?_
  refine lv_bipush (v := 9) hx hb dX10_pays_4 (by decide) ?_
  refine lv_iload_n hx hb dX10_pays_6 rfl (lv_at hl 1 rfl) ?_
  refine lv_iadd hx hb dX10_pays_7 ?_
  refine lv_dup2_11 hx hb dX10_pays_8 rfl rfl ?_
  obtain ⟨h1, hF⟩ := ite_some hF
  refine va_iald (n := 1152) (f := (m0 1)) hx hb hK hP _ 0 (gM (am := am) (r := 1) (m := m0) (f := (m0 1)) (by decide) rfl) rfl (vp_inb h1) dX10_pays_9 ?_
  refine lv_iload_n hx hb dX10_pays_10 rfl (lv_at hl 2 rfl) ?_
  refine lv_isub hx hb dX10_pays_11 ?_
  obtain ⟨h2, hF⟩ := ite_some hF
  refine iast' (n := 1152) (f := (m0 1)) (ws' := (mW cy am (va_up m0 1 (upd (m0 1) ((9 + p1).toNatClampNeg) (((m0 1) (9 + p1).toNatClampNeg) - p2))))) hx hb hK hP hD hS (gM (am := am) (r := 1) (m := m0) (f := (m0 1)) (by decide) rfl) (t0 := 0) rfl (vp_inb h2) dX10_pays_12 (sM (am := am) (r := 1) (m := m0) (g := (upd (m0 1) ((9 + p1).toNatClampNeg) (((m0 1) (9 + p1).toNatClampNeg) - p2))) (by decide)) (fun H locs hP hD hS => ?_)
  cases hF
  exact hret _ _ _ _ _ hP hD hS rfl dX10_pays_13
def L_X10_owned_4 : Nat → (Nat → Nat → Int32) → (Int32) → (Int32) → Option (Int32)
  | 0, _, _, _ => none
  | n4 + 1, m0, i2h4, i1h4 => if 6 ≤ i2h4 then (some i1h4) else (if inb (13 + i2h4) 1152 then (if ((m0 1) (13 + i2h4).toNatClampNeg) ≤ 0 then (L_X10_owned_4 n4 m0 (i2h4 + 1) (i1h4 + 0)) else (L_X10_owned_4 n4 m0 (i2h4 + 1) (i1h4 + 1))) else none)
def D_X10_owned (m0 : Nat → Nat → Int32) : Option (Int32) := L_X10_owned_4 200 m0 0 0
abbrev rm_X10_owned : Room := { frames := 0, cells := 0, slots := 0, locals := 0 }
set_option maxHeartbeats 4000000 in
set_option maxRecDepth 100000 in
theorem met_X10_owned (l : Launch) (D : va_G) (cy : Nat → ClassId) (sz : Nat) (am : Nat → Nat) (m0 : Nat → Nat → Int32)  (r : Int32) (hF : D_X10_owned m0 = some r) : MI l yX10_owned cX10_owned 3 (some .int) rm_X10_owned D cy (mW cy am m0) sz (fun _ => True) [.ref (am 0)] r (mW cy am m0) := by
  refine MI.of (by decide +kernel) (Nat.le_of_ble_eq_true rfl) ?_
  intro p e s m args below meth c A ls Q hAt _ hP hD hA hS hl hret
  obtain ⟨hx, hb, hr, hml, hown, hw, hlk, hK, hN⟩ := hAt
  have hown : s.vm.findClass "CloudDeedsModel" = some m.cls := hown
  have hl : lv_has ls 3 [(0, .ref (am 0))] := hl
  refine lv_iconst (v := 0) hx hb dX10_owned_0 (by decide) ?_
  refine lv_istore_n (lv' := [(1, .int 0), (0, .ref (am 0))]) hx hb dX10_owned_1 rfl hl (by decide) rfl (fun ls hl => ?_)
  refine lv_iconst (v := 0) hx hb dX10_owned_2 (by decide) ?_
  refine lv_istore_n (lv' := [(2, .int 0), (1, .int 0), (0, .ref (am 0))]) hx hb dX10_owned_3 rfl hl (by decide) rfl (fun ls hl => ?_)
  have loop4 : ∀ (n : Nat) (i2h4 : Int32) (i1h4 : Int32) (H : Heap) (locs : List Loc) (ls : Array Slot), L_X10_owned_4 n m0 i2h4 i1h4 = some r → va_P D vwCl (mW cy am m0) H → va_D A (mW cy am m0) → va_S A s.heap H locs → lv_has ls 3 [(2, .int i2h4), (1, .int i1h4), (0, .ref (am 0))] → W p l e rm_X10_owned s m args below meth c H locs 0 0 Q (F0 m 4 ls []) := by
    intro n
    induction n with
    | zero => intro i2h4 i1h4 H locs ls hF _ _ _ _; exact absurd hF (by simp [L_X10_owned_4])
    | succ n4 ih4 =>
      intro i2h4 i1h4 H locs ls hF hP hD hS hl
      refine lv_iload_n hx hb dX10_owned_4 rfl (lv_at hl 0 rfl) ?_
      refine lv_bipush (v := 6) hx hb dX10_owned_5 (by decide) ?_
      refine lv_icmp_ge (tgt := 36) hx hb dX10_owned_7 (by decide) (fun h1 => ?_) (fun h1 => ?_)
      · replace hF := (if_pos h1).symm.trans hF
        refine lv_iload_n hx hb dX10_owned_36 rfl (lv_at hl 1 rfl) ?_
        cases hF
        exact hret _ _ _ _ _ _ hP hD hS rfl rfl dX10_owned_37
      · replace hF := (if_neg h1).symm.trans hF
        refine lv_iload_n hx hb dX10_owned_10 rfl (lv_at hl 1 rfl) ?_
        refine lv_aload_n hx hb dX10_owned_11 rfl (lv_at hl 2 rfl) ?_
        refine get' (ci := 12) (fs := mF am (m0 0)) (v := .ref (am 1)) hx hb hw inWX10 hown hK hP (gM (am := am) (r := 0) (m := m0) (f := (m0 0)) (by decide) rfl) rfl 1 (by decide) k_1571 rfl rfl dX10_owned_12 ?_
        refine lv_bipush (v := 13) hx hb dX10_owned_15 (by decide) ?_
        refine lv_iload_n hx hb dX10_owned_17 rfl (lv_at hl 0 rfl) ?_
        refine lv_iadd hx hb dX10_owned_18 ?_
        obtain ⟨h2, hF⟩ := ite_some hF
        refine va_iald (n := 1152) (f := (m0 1)) hx hb hK hP _ 0 (gM (am := am) (r := 1) (m := m0) (f := (m0 1)) (by decide) rfl) rfl (vp_inb h2) dX10_owned_19 ?_
        refine lv_if_le (tgt := 27) hx hb dX10_owned_20 (by decide) (fun h3 => ?_) (fun h3 => ?_)
        · replace hF := (if_pos h3).symm.trans hF
          refine lv_iconst (v := 0) hx hb dX10_owned_27 (by decide) ?_
          refine lv_iadd hx hb dX10_owned_28 ?_
          refine lv_istore_n (lv' := [(1, .int (i1h4 + 0)), (2, .int i2h4), (0, .ref (am 0))]) hx hb dX10_owned_29 rfl hl (by decide) rfl (fun ls hl => ?_)
          refine lv_iinc (v := (i2h4 + 1)) (lv' := [(2, .int (i2h4 + 1)), (1, .int (i1h4 + 0)), (0, .ref (am 0))]) hx hb dX10_owned_30 hl (k := 1) rfl rfl (by decide) rfl (fun ls hl => ?_)
          refine lv_goto (tgt := 4) hx hb dX10_owned_33 (by decide) ?_
          exact ih4 (i2h4 + 1) (i1h4 + 0)  _ _ _ hF hP hD hS (lv_sub hl [0, 1, 2] rfl)
        · replace hF := (if_neg h3).symm.trans hF
          refine lv_iconst (v := 1) hx hb dX10_owned_23 (by decide) ?_
          refine lv_goto (tgt := 28) hx hb dX10_owned_24 (by decide) ?_
          refine lv_iadd hx hb dX10_owned_28 ?_
          refine lv_istore_n (lv' := [(1, .int (i1h4 + 1)), (2, .int i2h4), (0, .ref (am 0))]) hx hb dX10_owned_29 rfl hl (by decide) rfl (fun ls hl => ?_)
          refine lv_iinc (v := (i2h4 + 1)) (lv' := [(2, .int (i2h4 + 1)), (1, .int (i1h4 + 1)), (0, .ref (am 0))]) hx hb dX10_owned_30 hl (k := 1) rfl rfl (by decide) rfl (fun ls hl => ?_)
          refine lv_goto (tgt := 4) hx hb dX10_owned_33 (by decide) ?_
          exact ih4 (i2h4 + 1) (i1h4 + 1)  _ _ _ hF hP hD hS (lv_sub hl [0, 1, 2] rfl)
  exact loop4 200 0 0  _ _ _ hF hP hD hS (lv_sub hl [0, 1, 2] rfl)
def L_X10_vinesOf_4 : Nat → (Nat → Nat → Int32) → (Int32) → (Int32) → (Int32) → Option (Int32)
  | 0, _, _, _, _ => none
  | n4 + 1, m0, p1, i3h4, i2h4 => if 6 ≤ i3h4 then (some i2h4) else (if inb (13 + i3h4) 1152 then (if ((m0 1) (13 + i3h4).toNatClampNeg) = (p1 + 1) then (L_X10_vinesOf_4 n4 m0 p1 (i3h4 + 1) (i2h4 + 1)) else (L_X10_vinesOf_4 n4 m0 p1 (i3h4 + 1) (i2h4 + 0))) else none)
def D_X10_vinesOf (m0 : Nat → Nat → Int32) (p1 : Int32) : Option (Int32) := L_X10_vinesOf_4 200 m0 p1 0 0
abbrev rm_X10_vinesOf : Room := { frames := 0, cells := 0, slots := 0, locals := 0 }
set_option maxHeartbeats 4000000 in
set_option maxRecDepth 100000 in
theorem met_X10_vinesOf (l : Launch) (D : va_G) (cy : Nat → ClassId) (sz : Nat) (am : Nat → Nat) (m0 : Nat → Nat → Int32) (p1 : Int32)  (r : Int32) (hF : D_X10_vinesOf m0 p1 = some r) : MI l yX10_vinesOf cX10_vinesOf 4 (some .int) rm_X10_vinesOf D cy (mW cy am m0) sz (fun _ => True) [.ref (am 0), .int p1] r (mW cy am m0) := by
  refine MI.of (by decide +kernel) (Nat.le_of_ble_eq_true rfl) ?_
  intro p e s m args below meth c A ls Q hAt _ hP hD hA hS hl hret
  obtain ⟨hx, hb, hr, hml, hown, hw, hlk, hK, hN⟩ := hAt
  have hown : s.vm.findClass "CloudDeedsModel" = some m.cls := hown
  have hl : lv_has ls 4 [(0, .ref (am 0)), (1, .int p1)] := hl
  refine lv_iconst (v := 0) hx hb dX10_vinesOf_0 (by decide) ?_
  refine lv_istore_n (lv' := [(2, .int 0), (0, .ref (am 0)), (1, .int p1)]) hx hb dX10_vinesOf_1 rfl hl (by decide) rfl (fun ls hl => ?_)
  refine lv_iconst (v := 0) hx hb dX10_vinesOf_2 (by decide) ?_
  refine lv_istore_n (lv' := [(3, .int 0), (2, .int 0), (0, .ref (am 0)), (1, .int p1)]) hx hb dX10_vinesOf_3 rfl hl (by decide) rfl (fun ls hl => ?_)
  have loop4 : ∀ (n : Nat) (i3h4 : Int32) (i2h4 : Int32) (H : Heap) (locs : List Loc) (ls : Array Slot), L_X10_vinesOf_4 n m0 p1 i3h4 i2h4 = some r → va_P D vwCl (mW cy am m0) H → va_D A (mW cy am m0) → va_S A s.heap H locs → lv_has ls 4 [(3, .int i3h4), (2, .int i2h4), (0, .ref (am 0)), (1, .int p1)] → W p l e rm_X10_vinesOf s m args below meth c H locs 0 0 Q (F0 m 4 ls []) := by
    intro n
    induction n with
    | zero => intro i3h4 i2h4 H locs ls hF _ _ _ _; exact absurd hF (by simp [L_X10_vinesOf_4])
    | succ n4 ih4 =>
      intro i3h4 i2h4 H locs ls hF hP hD hS hl
      refine lv_iload_n hx hb dX10_vinesOf_4 rfl (lv_at hl 0 rfl) ?_
      refine lv_bipush (v := 6) hx hb dX10_vinesOf_5 (by decide) ?_
      refine lv_icmp_ge (tgt := 39) hx hb dX10_vinesOf_7 (by decide) (fun h1 => ?_) (fun h1 => ?_)
      · replace hF := (if_pos h1).symm.trans hF
        refine lv_iload_n hx hb dX10_vinesOf_39 rfl (lv_at hl 1 rfl) ?_
        cases hF
        exact hret _ _ _ _ _ _ hP hD hS rfl rfl dX10_vinesOf_40
      · replace hF := (if_neg h1).symm.trans hF
        refine lv_iload_n hx hb dX10_vinesOf_10 rfl (lv_at hl 1 rfl) ?_
        refine lv_aload_n hx hb dX10_vinesOf_11 rfl (lv_at hl 2 rfl) ?_
        refine get' (ci := 12) (fs := mF am (m0 0)) (v := .ref (am 1)) hx hb hw inWX10 hown hK hP (gM (am := am) (r := 0) (m := m0) (f := (m0 0)) (by decide) rfl) rfl 1 (by decide) k_1571 rfl rfl dX10_vinesOf_12 ?_
        refine lv_bipush (v := 13) hx hb dX10_vinesOf_15 (by decide) ?_
        refine lv_iload_n hx hb dX10_vinesOf_17 rfl (lv_at hl 0 rfl) ?_
        refine lv_iadd hx hb dX10_vinesOf_18 ?_
        obtain ⟨h2, hF⟩ := ite_some hF
        refine va_iald (n := 1152) (f := (m0 1)) hx hb hK hP _ 0 (gM (am := am) (r := 1) (m := m0) (f := (m0 1)) (by decide) rfl) rfl (vp_inb h2) dX10_vinesOf_19 ?_
        refine lv_iload_n hx hb dX10_vinesOf_20 rfl (lv_at hl 3 rfl) ?_
        refine lv_iconst (v := 1) hx hb dX10_vinesOf_21 (by decide) ?_
        refine lv_iadd hx hb dX10_vinesOf_22 ?_
        refine lv_icmp_ne (tgt := 30) hx hb dX10_vinesOf_23 (by decide) (fun h3 => ?_) (fun h3 => ?_)
        · replace hF := (if_neg h3).symm.trans hF
          refine lv_iconst (v := 0) hx hb dX10_vinesOf_30 (by decide) ?_
          refine lv_iadd hx hb dX10_vinesOf_31 ?_
          refine lv_istore_n (lv' := [(2, .int (i2h4 + 0)), (3, .int i3h4), (0, .ref (am 0)), (1, .int p1)]) hx hb dX10_vinesOf_32 rfl hl (by decide) rfl (fun ls hl => ?_)
          refine lv_iinc (v := (i3h4 + 1)) (lv' := [(3, .int (i3h4 + 1)), (2, .int (i2h4 + 0)), (0, .ref (am 0)), (1, .int p1)]) hx hb dX10_vinesOf_33 hl (k := 1) rfl rfl (by decide) rfl (fun ls hl => ?_)
          refine lv_goto (tgt := 4) hx hb dX10_vinesOf_36 (by decide) ?_
          exact ih4 (i3h4 + 1) (i2h4 + 0)  _ _ _ hF hP hD hS (lv_sub hl [0, 1, 2, 3] rfl)
        · replace hF := (if_pos h3).symm.trans hF
          refine lv_iconst (v := 1) hx hb dX10_vinesOf_26 (by decide) ?_
          refine lv_goto (tgt := 31) hx hb dX10_vinesOf_27 (by decide) ?_
          refine lv_iadd hx hb dX10_vinesOf_31 ?_
          refine lv_istore_n (lv' := [(2, .int (i2h4 + 1)), (3, .int i3h4), (0, .ref (am 0)), (1, .int p1)]) hx hb dX10_vinesOf_32 rfl hl (by decide) rfl (fun ls hl => ?_)
          refine lv_iinc (v := (i3h4 + 1)) (lv' := [(3, .int (i3h4 + 1)), (2, .int (i2h4 + 1)), (0, .ref (am 0)), (1, .int p1)]) hx hb dX10_vinesOf_33 hl (k := 1) rfl rfl (by decide) rfl (fun ls hl => ?_)
          refine lv_goto (tgt := 4) hx hb dX10_vinesOf_36 (by decide) ?_
          exact ih4 (i3h4 + 1) (i2h4 + 1)  _ _ _ hF hP hD hS (lv_sub hl [0, 1, 2, 3] rfl)
  exact loop4 200 0 0  _ _ _ hF hP hD hS (lv_sub hl [0, 1, 2, 3] rfl)
def D_X10_coins (m0 : Nat → Nat → Int32) : Option (Int32 × (Nat → Nat → Int32)) := if inb 9 1152 then (if inb 10 1152 then (if inb 11 1152 then (if inb 12 1152 then (some ((((((m0 1) (9 : Int32).toNatClampNeg) + ((m0 1) (10 : Int32).toNatClampNeg)) + ((m0 1) (11 : Int32).toNatClampNeg)) + ((m0 1) (12 : Int32).toNatClampNeg)), (va_up m0 0 (upd (m0 0) 0 0)))) else none) else none) else none) else none
abbrev rm_X10_coins : Room := { frames := 0, cells := 0, slots := 0, locals := 0 }
set_option maxHeartbeats 4000000 in
set_option maxRecDepth 100000 in
theorem met_X10_coins (l : Launch) (D : va_G) (cy : Nat → ClassId) (sz : Nat) (am : Nat → Nat) (m0 : Nat → Nat → Int32)  (r : Int32) (t' : Nat → Nat → Int32) (hF : D_X10_coins m0 = some (r, t')) : MI l yX10_coins cX10_coins 1 (some .int) rm_X10_coins D cy (mW cy am m0) sz (fun _ => True) [.ref (am 0)] r (mW cy am t') := by
  refine MI.of (by decide +kernel) (Nat.le_of_ble_eq_true rfl) ?_
  intro p e s m args below meth c A ls Q hAt _ hP hD hA hS hl hret
  obtain ⟨hx, hb, hr, hml, hown, hw, hlk, hK, hN⟩ := hAt
  have hown : s.vm.findClass "CloudDeedsModel" = some m.cls := hown
  have hl : lv_has ls 1 [(0, .ref (am 0))] := hl
  refine lv_aload_n hx hb dX10_coins_0 rfl (lv_at hl 0 rfl) ?_
  refine lv_iconst (v := 0) hx hb dX10_coins_1 (by decide) ?_
  refine put' (ci := 12) (fs := mF am (m0 0)) (v := .int 0) (ty := .int) (ws' := (mW cy am (va_up m0 0 (upd (m0 0) 0 0)))) hx hb hw inWX10 tyX10 tyX10_ok nmX10 hown hK hP hD hS (gM (am := am) (r := 0) (m := m0) (f := (m0 0)) (by decide) rfl) rfl 0 (by decide) k_1570 rfl rfl (by decide +kernel) rfl rfl (Nat.le_of_ble_eq_true rfl) dX10_coins_2 (sM (am := am) (r := 0) (m := m0) (g := (upd (m0 0) 0 0)) (by decide)) (fun H locs hP hD hS => ?_)
  refine lv_aload_n hx hb dX10_coins_5 rfl (lv_at hl 0 rfl) ?_
  refine get' (ci := 12) (fs := mF am (upd (m0 0) 0 0)) (v := .ref (am 1)) hx hb hw inWX10 hown hK hP (gM (am := am) (r := 0) (m := (va_up m0 0 (upd (m0 0) 0 0))) (f := (upd (m0 0) 0 0)) (by decide) (va_up_self _ _ _)) rfl 1 (by decide) k_1571 rfl rfl dX10_coins_6 ?_
  refine lv_bipush (v := 9) hx hb dX10_coins_9 (by decide) ?_
  obtain ⟨h1, hF⟩ := ite_some hF
  refine va_iald (n := 1152) (f := (m0 1)) hx hb hK hP _ 0 (gM (am := am) (r := 1) (m := (va_up m0 0 (upd (m0 0) 0 0))) (f := (m0 1)) (by decide) ((va_up_ne _ _ (by decide)).trans rfl)) rfl (vp_inb h1) dX10_coins_11 ?_
  refine lv_aload_n hx hb dX10_coins_12 rfl (lv_at hl 0 rfl) ?_
  refine get' (ci := 12) (fs := mF am (upd (m0 0) 0 0)) (v := .ref (am 1)) hx hb hw inWX10 hown hK hP (gM (am := am) (r := 0) (m := (va_up m0 0 (upd (m0 0) 0 0))) (f := (upd (m0 0) 0 0)) (by decide) (va_up_self _ _ _)) rfl 1 (by decide) k_1571 rfl rfl dX10_coins_13 ?_
  refine lv_bipush (v := 10) hx hb dX10_coins_16 (by decide) ?_
  obtain ⟨h2, hF⟩ := ite_some hF
  refine va_iald (n := 1152) (f := (m0 1)) hx hb hK hP _ 0 (gM (am := am) (r := 1) (m := (va_up m0 0 (upd (m0 0) 0 0))) (f := (m0 1)) (by decide) ((va_up_ne _ _ (by decide)).trans rfl)) rfl (vp_inb h2) dX10_coins_18 ?_
  refine lv_iadd hx hb dX10_coins_19 ?_
  refine lv_aload_n hx hb dX10_coins_20 rfl (lv_at hl 0 rfl) ?_
  refine get' (ci := 12) (fs := mF am (upd (m0 0) 0 0)) (v := .ref (am 1)) hx hb hw inWX10 hown hK hP (gM (am := am) (r := 0) (m := (va_up m0 0 (upd (m0 0) 0 0))) (f := (upd (m0 0) 0 0)) (by decide) (va_up_self _ _ _)) rfl 1 (by decide) k_1571 rfl rfl dX10_coins_21 ?_
  refine lv_bipush (v := 11) hx hb dX10_coins_24 (by decide) ?_
  obtain ⟨h3, hF⟩ := ite_some hF
  refine va_iald (n := 1152) (f := (m0 1)) hx hb hK hP _ 0 (gM (am := am) (r := 1) (m := (va_up m0 0 (upd (m0 0) 0 0))) (f := (m0 1)) (by decide) ((va_up_ne _ _ (by decide)).trans rfl)) rfl (vp_inb h3) dX10_coins_26 ?_
  refine lv_iadd hx hb dX10_coins_27 ?_
  refine lv_aload_n hx hb dX10_coins_28 rfl (lv_at hl 0 rfl) ?_
  refine get' (ci := 12) (fs := mF am (upd (m0 0) 0 0)) (v := .ref (am 1)) hx hb hw inWX10 hown hK hP (gM (am := am) (r := 0) (m := (va_up m0 0 (upd (m0 0) 0 0))) (f := (upd (m0 0) 0 0)) (by decide) (va_up_self _ _ _)) rfl 1 (by decide) k_1571 rfl rfl dX10_coins_29 ?_
  refine lv_bipush (v := 12) hx hb dX10_coins_32 (by decide) ?_
  obtain ⟨h4, hF⟩ := ite_some hF
  refine va_iald (n := 1152) (f := (m0 1)) hx hb hK hP _ 0 (gM (am := am) (r := 1) (m := (va_up m0 0 (upd (m0 0) 0 0))) (f := (m0 1)) (by decide) ((va_up_ne _ _ (by decide)).trans rfl)) rfl (vp_inb h4) dX10_coins_34 ?_
  refine lv_iadd hx hb dX10_coins_35 ?_
  cases hF
  exact hret _ _ _ _ _ _ hP hD hS rfl rfl dX10_coins_36
def D_X10_sign (m0 : Nat → Nat → Int32) : Option (Int32) := if ((m0 0) 10) ≤ ((m0 0) 11) then (some (-1)) else (if inb ((m0 0) 11) 60 then (some ((m0 2) ((m0 0) 11).toNatClampNeg)) else none)
abbrev rm_X10_sign : Room := { frames := 0, cells := 0, slots := 0, locals := 0 }
set_option maxHeartbeats 4000000 in
set_option maxRecDepth 100000 in
theorem met_X10_sign (l : Launch) (D : va_G) (cy : Nat → ClassId) (sz : Nat) (am : Nat → Nat) (m0 : Nat → Nat → Int32)  (r : Int32) (hF : D_X10_sign m0 = some r) : MI l yX10_sign cX10_sign 1 (some .int) rm_X10_sign D cy (mW cy am m0) sz (fun _ => True) [.ref (am 0)] r (mW cy am m0) := by
  refine MI.of (by decide +kernel) (Nat.le_of_ble_eq_true rfl) ?_
  intro p e s m args below meth c A ls Q hAt _ hP hD hA hS hl hret
  obtain ⟨hx, hb, hr, hml, hown, hw, hlk, hK, hN⟩ := hAt
  have hown : s.vm.findClass "CloudDeedsModel" = some m.cls := hown
  have hl : lv_has ls 1 [(0, .ref (am 0))] := hl
  refine lv_aload_n hx hb dX10_sign_0 rfl (lv_at hl 0 rfl) ?_
  refine get' (ci := 12) (fs := mF am (m0 0)) (v := .int ((m0 0) 11)) hx hb hw inWX10 hown hK hP (gM (am := am) (r := 0) (m := m0) (f := (m0 0)) (by decide) rfl) rfl 11 (by decide) k_1581 rfl rfl dX10_sign_1 ?_
  refine lv_aload_n hx hb dX10_sign_4 rfl (lv_at hl 0 rfl) ?_
  refine get' (ci := 12) (fs := mF am (m0 0)) (v := .int ((m0 0) 10)) hx hb hw inWX10 hown hK hP (gM (am := am) (r := 0) (m := m0) (f := (m0 0)) (by decide) rfl) rfl 10 (by decide) k_1580 rfl rfl dX10_sign_5 ?_
  refine lv_icmp_ge (tgt := 23) hx hb dX10_sign_8 (by decide) (fun h1 => ?_) (fun h1 => ?_)
  · replace hF := (if_pos h1).symm.trans hF
    refine lv_iconst (v := (-1)) hx hb dX10_sign_23 (by decide) ?_
    cases hF
    exact hret _ _ _ _ _ _ hP hD hS rfl rfl dX10_sign_24
  · replace hF := (if_neg h1).symm.trans hF
    refine lv_aload_n hx hb dX10_sign_11 rfl (lv_at hl 0 rfl) ?_
    refine get' (ci := 12) (fs := mF am (m0 0)) (v := .ref (am 2)) hx hb hw inWX10 hown hK hP (gM (am := am) (r := 0) (m := m0) (f := (m0 0)) (by decide) rfl) rfl 9 (by decide) k_1579 rfl rfl dX10_sign_12 ?_
    refine lv_aload_n hx hb dX10_sign_15 rfl (lv_at hl 0 rfl) ?_
    refine get' (ci := 12) (fs := mF am (m0 0)) (v := .int ((m0 0) 11)) hx hb hw inWX10 hown hK hP (gM (am := am) (r := 0) (m := m0) (f := (m0 0)) (by decide) rfl) rfl 11 (by decide) k_1581 rfl rfl dX10_sign_16 ?_
    obtain ⟨h2, hF⟩ := ite_some hF
    refine va_cald (n := 60) (f := (m0 2)) hx hb hK hP _ 1 (gM (am := am) (r := 2) (m := m0) (f := (m0 2)) (by decide) rfl) rfl (vp_inb h2) dX10_sign_19 ?_
    refine lv_goto (tgt := 24) hx hb dX10_sign_20 (by decide) ?_
    cases hF
    exact hret _ _ _ _ _ _ hP hD hS rfl rfl dX10_sign_24
def D_X10_isWord (p1 : Int32) : Int32 := if p1 = 99 then (1) else (if p1 = 118 then (1) else (if p1 = 116 then (1) else (if p1 = 115 then (1) else (if p1 = 112 then (1) else (if p1 = 114 then (1) else (if p1 = 119 then (1) else (if p1 = 104 then (1) else (if p1 = 100 then (1) else (0)))))))))
abbrev rm_X10_isWord : Room := { frames := 0, cells := 0, slots := 0, locals := 0 }
set_option maxHeartbeats 4000000 in
set_option maxRecDepth 100000 in
theorem met_X10_isWord (l : Launch) (D : va_G) (cy : Nat → ClassId) (sz : Nat) (ws : va_W) (p1 : Int32)  (r : Int32) (hF : D_X10_isWord p1 = r) : MI l yX10_isWord cX10_isWord 1 (some .boolean) rm_X10_isWord D cy ws sz (fun _ => True) [.int p1] r ws := by
  refine MZ.of (by decide +kernel) (Nat.le_of_ble_eq_true rfl) ?_
  intro p e s m args below meth c A ls Q hAt _ hP hD hA hS hl hret
  obtain ⟨hx, hb, hr, hml, hown, hw, hlk, hK, hN⟩ := hAt
  have hown : s.vm.findClass "CloudDeedsModel" = some m.cls := hown
  have hl : lv_has ls 1 [(0, .int p1)] := hl
  refine lv_iload_n hx hb dX10_isWord_0 rfl (lv_at hl 0 rfl) ?_
  refine lv_bipush (v := 99) hx hb dX10_isWord_1 (by decide) ?_
  refine lv_icmp_eq (tgt := 54) hx hb dX10_isWord_3 (by decide) (fun h1 => ?_) (fun h1 => ?_)
  · replace hF := (if_pos h1).symm.trans hF
    refine lv_iconst (v := 1) hx hb dX10_isWord_54 (by decide) ?_
    refine lv_goto (tgt := 59) hx hb dX10_isWord_55 (by decide) ?_
    cases hF
    exact hret _ _ _ _ _ _ hP hD hS rfl rfl rfl dX10_isWord_59
  · replace hF := (if_neg h1).symm.trans hF
    refine lv_iload_n hx hb dX10_isWord_6 rfl (lv_at hl 0 rfl) ?_
    refine lv_bipush (v := 118) hx hb dX10_isWord_7 (by decide) ?_
    refine lv_icmp_eq (tgt := 54) hx hb dX10_isWord_9 (by decide) (fun h2 => ?_) (fun h2 => ?_)
    · replace hF := (if_pos h2).symm.trans hF
      refine lv_iconst (v := 1) hx hb dX10_isWord_54 (by decide) ?_
      refine lv_goto (tgt := 59) hx hb dX10_isWord_55 (by decide) ?_
      cases hF
      exact hret _ _ _ _ _ _ hP hD hS rfl rfl rfl dX10_isWord_59
    · replace hF := (if_neg h2).symm.trans hF
      refine lv_iload_n hx hb dX10_isWord_12 rfl (lv_at hl 0 rfl) ?_
      refine lv_bipush (v := 116) hx hb dX10_isWord_13 (by decide) ?_
      refine lv_icmp_eq (tgt := 54) hx hb dX10_isWord_15 (by decide) (fun h3 => ?_) (fun h3 => ?_)
      · replace hF := (if_pos h3).symm.trans hF
        refine lv_iconst (v := 1) hx hb dX10_isWord_54 (by decide) ?_
        refine lv_goto (tgt := 59) hx hb dX10_isWord_55 (by decide) ?_
        cases hF
        exact hret _ _ _ _ _ _ hP hD hS rfl rfl rfl dX10_isWord_59
      · replace hF := (if_neg h3).symm.trans hF
        refine lv_iload_n hx hb dX10_isWord_18 rfl (lv_at hl 0 rfl) ?_
        refine lv_bipush (v := 115) hx hb dX10_isWord_19 (by decide) ?_
        refine lv_icmp_eq (tgt := 54) hx hb dX10_isWord_21 (by decide) (fun h4 => ?_) (fun h4 => ?_)
        · replace hF := (if_pos h4).symm.trans hF
          refine lv_iconst (v := 1) hx hb dX10_isWord_54 (by decide) ?_
          refine lv_goto (tgt := 59) hx hb dX10_isWord_55 (by decide) ?_
          cases hF
          exact hret _ _ _ _ _ _ hP hD hS rfl rfl rfl dX10_isWord_59
        · replace hF := (if_neg h4).symm.trans hF
          refine lv_iload_n hx hb dX10_isWord_24 rfl (lv_at hl 0 rfl) ?_
          refine lv_bipush (v := 112) hx hb dX10_isWord_25 (by decide) ?_
          refine lv_icmp_eq (tgt := 54) hx hb dX10_isWord_27 (by decide) (fun h5 => ?_) (fun h5 => ?_)
          · replace hF := (if_pos h5).symm.trans hF
            refine lv_iconst (v := 1) hx hb dX10_isWord_54 (by decide) ?_
            refine lv_goto (tgt := 59) hx hb dX10_isWord_55 (by decide) ?_
            cases hF
            exact hret _ _ _ _ _ _ hP hD hS rfl rfl rfl dX10_isWord_59
          · replace hF := (if_neg h5).symm.trans hF
            refine lv_iload_n hx hb dX10_isWord_30 rfl (lv_at hl 0 rfl) ?_
            refine lv_bipush (v := 114) hx hb dX10_isWord_31 (by decide) ?_
            refine lv_icmp_eq (tgt := 54) hx hb dX10_isWord_33 (by decide) (fun h6 => ?_) (fun h6 => ?_)
            · replace hF := (if_pos h6).symm.trans hF
              refine lv_iconst (v := 1) hx hb dX10_isWord_54 (by decide) ?_
              refine lv_goto (tgt := 59) hx hb dX10_isWord_55 (by decide) ?_
              cases hF
              exact hret _ _ _ _ _ _ hP hD hS rfl rfl rfl dX10_isWord_59
            · replace hF := (if_neg h6).symm.trans hF
              refine lv_iload_n hx hb dX10_isWord_36 rfl (lv_at hl 0 rfl) ?_
              refine lv_bipush (v := 119) hx hb dX10_isWord_37 (by decide) ?_
              refine lv_icmp_eq (tgt := 54) hx hb dX10_isWord_39 (by decide) (fun h7 => ?_) (fun h7 => ?_)
              · replace hF := (if_pos h7).symm.trans hF
                refine lv_iconst (v := 1) hx hb dX10_isWord_54 (by decide) ?_
                refine lv_goto (tgt := 59) hx hb dX10_isWord_55 (by decide) ?_
                cases hF
                exact hret _ _ _ _ _ _ hP hD hS rfl rfl rfl dX10_isWord_59
              · replace hF := (if_neg h7).symm.trans hF
                refine lv_iload_n hx hb dX10_isWord_42 rfl (lv_at hl 0 rfl) ?_
                refine lv_bipush (v := 104) hx hb dX10_isWord_43 (by decide) ?_
                refine lv_icmp_eq (tgt := 54) hx hb dX10_isWord_45 (by decide) (fun h8 => ?_) (fun h8 => ?_)
                · replace hF := (if_pos h8).symm.trans hF
                  refine lv_iconst (v := 1) hx hb dX10_isWord_54 (by decide) ?_
                  refine lv_goto (tgt := 59) hx hb dX10_isWord_55 (by decide) ?_
                  cases hF
                  exact hret _ _ _ _ _ _ hP hD hS rfl rfl rfl dX10_isWord_59
                · replace hF := (if_neg h8).symm.trans hF
                  refine lv_iload_n hx hb dX10_isWord_48 rfl (lv_at hl 0 rfl) ?_
                  refine lv_bipush (v := 100) hx hb dX10_isWord_49 (by decide) ?_
                  refine lv_icmp_ne (tgt := 58) hx hb dX10_isWord_51 (by decide) (fun h9 => ?_) (fun h9 => ?_)
                  · replace hF := (if_neg h9).symm.trans hF
                    refine lv_iconst (v := 0) hx hb dX10_isWord_58 (by decide) ?_
                    cases hF
                    exact hret _ _ _ _ _ _ hP hD hS rfl rfl rfl dX10_isWord_59
                  · replace hF := (if_pos h9).symm.trans hF
                    refine lv_iconst (v := 1) hx hb dX10_isWord_54 (by decide) ?_
                    refine lv_goto (tgt := 59) hx hb dX10_isWord_55 (by decide) ?_
                    cases hF
                    exact hret _ _ _ _ _ _ hP hD hS rfl rfl rfl dX10_isWord_59
theorem bz_X10_isWord (p1 : Int32) : (D_X10_isWord p1) = 0 ∨ (D_X10_isWord p1) = 1 := by
  unfold D_X10_isWord
  repeat' split
  all_goals first | exact Or.inl rfl | exact Or.inr rfl | assumption
def D_X10_writes (m0 : Nat → Nat → Int32) (p1 : Int32) : Option ((Nat → Nat → Int32)) := if inb ((m0 0) 17) 24 then (some (va_up (va_up m0 4 (upd (m0 4) (((m0 0) 17).toNatClampNeg) (vp_nar .char ((p1.toUInt32 % 65536).toInt32)))) 0 (upd (m0 0) 17 (((m0 0) 17) + 1)))) else none
abbrev rm_X10_writes : Room := { frames := 0, cells := 0, slots := 0, locals := 0 }
set_option maxHeartbeats 4000000 in
set_option maxRecDepth 100000 in
theorem met_X10_writes (l : Launch) (D : va_G) (cy : Nat → ClassId) (sz : Nat) (am : Nat → Nat) (m0 : Nat → Nat → Int32) (p1 : Int32)  (t' : Nat → Nat → Int32) (hF : D_X10_writes m0 p1 = some t') : MV l yX10_writes cX10_writes 2 rm_X10_writes D cy (mW cy am m0) sz (fun _ => True) [.ref (am 0), .int p1] (mW cy am t') := by
  refine MV.of (by decide +kernel) (Nat.le_of_ble_eq_true rfl) ?_
  intro p e s m args below meth c A ls Q hAt _ hP hD hA hS hl hret
  obtain ⟨hx, hb, hr, hml, hown, hw, hlk, hK, hN⟩ := hAt
  have hown : s.vm.findClass "CloudDeedsModel" = some m.cls := hown
  have hl : lv_has ls 2 [(0, .ref (am 0)), (1, .int p1)] := hl
  refine lv_aload_n hx hb dX10_writes_0 rfl (lv_at hl 0 rfl) ?_
  refine get' (ci := 12) (fs := mF am (m0 0)) (v := .ref (am 4)) hx hb hw inWX10 hown hK hP (gM (am := am) (r := 0) (m := m0) (f := (m0 0)) (by decide) rfl) rfl 16 (by decide) k_1586 rfl rfl dX10_writes_1 ?_
  refine lv_aload_n hx hb dX10_writes_4 rfl (lv_at hl 0 rfl) ?_
  refine get' (ci := 12) (fs := mF am (m0 0)) (v := .int ((m0 0) 17)) hx hb hw inWX10 hown hK hP (gM (am := am) (r := 0) (m := m0) (f := (m0 0)) (by decide) rfl) rfl 17 (by decide) k_1587 rfl rfl dX10_writes_5 ?_
  refine lv_iload_n hx hb dX10_writes_8 rfl (lv_at hl 1 rfl) ?_
  refine lv_i2c (v := (p1.toUInt32 % 65536).toInt32) hx hb dX10_writes_9 rfl ?_
  obtain ⟨h1, hF⟩ := ite_some hF
  refine cast' (n := 24) (f := (m0 4)) (ws' := (mW cy am (va_up m0 4 (upd (m0 4) (((m0 0) 17).toNatClampNeg) (vp_nar .char ((p1.toUInt32 % 65536).toInt32)))))) hx hb hK hP hD hS (gM (am := am) (r := 4) (m := m0) (f := (m0 4)) (by decide) rfl) (t0 := 1) rfl (vp_inb h1) dX10_writes_10 (sM (am := am) (r := 4) (m := m0) (g := (upd (m0 4) (((m0 0) 17).toNatClampNeg) (vp_nar .char ((p1.toUInt32 % 65536).toInt32)))) (by decide)) (fun H locs hP hD hS => ?_)
  refine lv_aload_n hx hb dX10_writes_11 rfl (lv_at hl 0 rfl) ?_
  refine lv_dup hx hb dX10_writes_12 rfl ?_
  refine get' (ci := 12) (fs := mF am (m0 0)) (v := .int ((m0 0) 17)) hx hb hw inWX10 hown hK hP (gM (am := am) (r := 0) (m := (va_up m0 4 (upd (m0 4) (((m0 0) 17).toNatClampNeg) (vp_nar .char ((p1.toUInt32 % 65536).toInt32))))) (f := (m0 0)) (by decide) ((va_up_ne _ _ (by decide)).trans rfl)) rfl 17 (by decide) k_1587 rfl rfl dX10_writes_13 ?_
  refine lv_iconst (v := 1) hx hb dX10_writes_16 (by decide) ?_
  refine lv_iadd hx hb dX10_writes_17 ?_
  refine put' (ci := 12) (fs := mF am (m0 0)) (v := .int (((m0 0) 17) + 1)) (ty := .int) (ws' := (mW cy am (va_up (va_up m0 4 (upd (m0 4) (((m0 0) 17).toNatClampNeg) (vp_nar .char ((p1.toUInt32 % 65536).toInt32)))) 0 (upd (m0 0) 17 (((m0 0) 17) + 1))))) hx hb hw inWX10 tyX10 tyX10_ok nmX10 hown hK hP hD hS (gM (am := am) (r := 0) (m := (va_up m0 4 (upd (m0 4) (((m0 0) 17).toNatClampNeg) (vp_nar .char ((p1.toUInt32 % 65536).toInt32))))) (f := (m0 0)) (by decide) ((va_up_ne _ _ (by decide)).trans rfl)) rfl 17 (by decide) k_1587 rfl rfl (by decide +kernel) rfl rfl (Nat.le_of_ble_eq_true rfl) dX10_writes_18 (sM (am := am) (r := 0) (m := (va_up m0 4 (upd (m0 4) (((m0 0) 17).toNatClampNeg) (vp_nar .char ((p1.toUInt32 % 65536).toInt32))))) (g := (upd (m0 0) 17 (((m0 0) 17) + 1))) (by decide)) (fun H locs hP hD hS => ?_)
  cases hF
  exact hret _ _ _ _ _ hP hD hS rfl dX10_writes_21
def D_X10_isBalanced (m0 : Nat → Nat → Int32) : Int32 × (Nat → Nat → Int32) := (1, (va_up m0 0 (upd (m0 0) 0 0)))
abbrev rm_X10_isBalanced : Room := { frames := 0, cells := 0, slots := 0, locals := 0 }
set_option maxHeartbeats 4000000 in
set_option maxRecDepth 100000 in
theorem met_X10_isBalanced (l : Launch) (D : va_G) (cy : Nat → ClassId) (sz : Nat) (am : Nat → Nat) (m0 : Nat → Nat → Int32)  (r : Int32) (t' : Nat → Nat → Int32) (hF : D_X10_isBalanced m0 = (r, t')) : MI l yX10_isBalanced cX10_isBalanced 1 (some .boolean) rm_X10_isBalanced D cy (mW cy am m0) sz (fun _ => True) [.ref (am 0)] r (mW cy am t') := by
  refine MZ.of (by decide +kernel) (Nat.le_of_ble_eq_true rfl) ?_
  intro p e s m args below meth c A ls Q hAt _ hP hD hA hS hl hret
  obtain ⟨hx, hb, hr, hml, hown, hw, hlk, hK, hN⟩ := hAt
  have hown : s.vm.findClass "CloudDeedsModel" = some m.cls := hown
  have hl : lv_has ls 1 [(0, .ref (am 0))] := hl
  refine lv_aload_n hx hb dX10_isBalanced_0 rfl (lv_at hl 0 rfl) ?_
  refine lv_iconst (v := 0) hx hb dX10_isBalanced_1 (by decide) ?_
  refine put' (ci := 12) (fs := mF am (m0 0)) (v := .int 0) (ty := .int) (ws' := (mW cy am (va_up m0 0 (upd (m0 0) 0 0)))) hx hb hw inWX10 tyX10 tyX10_ok nmX10 hown hK hP hD hS (gM (am := am) (r := 0) (m := m0) (f := (m0 0)) (by decide) rfl) rfl 0 (by decide) k_1570 rfl rfl (by decide +kernel) rfl rfl (Nat.le_of_ble_eq_true rfl) dX10_isBalanced_2 (sM (am := am) (r := 0) (m := m0) (g := (upd (m0 0) 0 0)) (by decide)) (fun H locs hP hD hS => ?_)
  refine lv_iconst (v := 1) hx hb dX10_isBalanced_5 (by decide) ?_
  cases hF
  exact hret _ _ _ _ _ _ hP hD hS rfl rfl rfl dX10_isBalanced_6
theorem bz_X10_isBalanced (m0 : Nat → Nat → Int32) : (D_X10_isBalanced m0).1 = 0 ∨ (D_X10_isBalanced m0).1 = 1 := by
  unfold D_X10_isBalanced
  repeat' split
  all_goals first | exact Or.inl rfl | exact Or.inr rfl | assumption
def D_X10_begins (m0 : Nat → Nat → Int32) : Option ((Nat → Nat → Int32)) := (D_X10_copies m0 0 10).bind (fun o2 => some o2)
abbrev rm_X10_begins : Room := { frames := 1, cells := 0, slots := 0, locals := 23 }
set_option maxHeartbeats 4000000 in
set_option maxRecDepth 100000 in
theorem met_X10_begins (l : Launch) (D : va_G) (cy : Nat → ClassId) (sz : Nat) (am : Nat → Nat) (m0 : Nat → Nat → Int32)  (t' : Nat → Nat → Int32) (hF : D_X10_begins m0 = some t') : MV l yX10_begins cX10_begins 1 rm_X10_begins D cy (mW cy am m0) sz (fun _ => True) [.ref (am 0)] (mW cy am t') := by
  refine MV.of (by decide +kernel) (Nat.le_of_ble_eq_true rfl) ?_
  intro p e s m args below meth c A ls Q hAt _ hP hD hA hS hl hret
  obtain ⟨hx, hb, hr, hml, hown, hw, hlk, hK, hN⟩ := hAt
  have hown : s.vm.findClass "CloudDeedsModel" = some m.cls := hown
  have hl : lv_has ls 1 [(0, .ref (am 0))] := hl
  refine lv_aload_n hx hb dX10_begins_0 rfl (lv_at hl 0 rfl) ?_
  refine lv_iconst (v := 0) hx hb dX10_begins_1 (by decide) ?_
  refine lv_bipush (v := 10) hx hb dX10_begins_2 (by decide) ?_
  obtain ⟨o2, hc3, hF⟩ := bind_some hF
  try dsimp only at hF
  refine cV_v (As := [.int 0, .int 10]) (rest := []) hx hb hml hown hw hK hN hA hl.1 hP hD hS k_1645 k_1647 k_30 k_90 k_1648 (met_X10_copies l D cy _ am m0 0 10 o2 hc3) (fun _ _ _ => trivial) Xok_T (gM (am := am) (r := 0) (m := m0) (f := (m0 0)) (by decide) rfl) rfl ⟨rfl, rfl⟩ (n := 2) (by decide +kernel) rfl ⟨Nat.le_of_ble_eq_true rfl, Nat.le_of_ble_eq_true rfl⟩ ⟨Nat.le_of_ble_eq_true rfl, Nat.le_of_ble_eq_true rfl⟩ (Nat.le_of_ble_eq_true rfl) rfl dX10_begins_4 (fun H locs hP hD hS => ?_)
  cases hF
  exact hret _ _ _ _ _ hP hD hS rfl dX10_begins_7
def L_X10_ends_37 : Nat → (Nat → Nat → Int32) → (Int32) → (Int32) → (Nat → Nat → Int32) → Option (Int32 × (Nat → Nat → Int32))
  | 0, _, _, _, _ => none
  | n37 + 1, m0, p1, i2h37, s37 => if 8 ≤ i2h37 then ((D_X10_copies (va_up s37 0 (upd (upd (s37 0) 2 (((s37 0) 2) - 1)) 2 ((((s37 0) 2) - 1) + 1))) 10 ((((s37 0) 2) - 1) + 1)).bind (fun o9 => some (((o9 0) 4), o9))) else ((D_X10_copies s37 (i2h37 + 1) i2h37).bind (fun o12 => L_X10_ends_37 n37 m0 p1 (i2h37 + 1) o12))
def L_X10_ends_37_2 : Nat → (Nat → Nat → Int32) → (Int32) → (Int32) → (Nat → Nat → Int32) → Option (Int32 × (Nat → Nat → Int32))
  | 0, _, _, _, _ => none
  | n37 + 1, m0, p1, i2h37, s37 => if 8 ≤ i2h37 then ((D_X10_copies (va_up s37 0 (upd (upd (s37 0) 2 (((s37 0) 2) - 1)) 2 ((((s37 0) 2) - 1) + 1))) 10 ((((s37 0) 2) - 1) + 1)).bind (fun o24 => some (((o24 0) 4), o24))) else ((D_X10_copies s37 (i2h37 + 1) i2h37).bind (fun o27 => L_X10_ends_37_2 n37 m0 p1 (i2h37 + 1) o27))
def D_X10_ends (m0 : Nat → Nat → Int32) (p1 : Int32) : Option (Int32 × (Nat → Nat → Int32)) := if p1 = 0 then (if p1 = 0 then ((D_X10_copies (va_up m0 0 (upd (m0 0) 0 1)) 10 0).bind (fun o15 => some (0, o15))) else (if ((m0 0) 2) = 8 then (L_X10_ends_37 200 m0 p1 1 (va_up m0 0 (upd (m0 0) 0 1))) else ((D_X10_copies (va_up m0 0 (upd (upd (m0 0) 0 1) 2 (((m0 0) 2) + 1))) 10 (((m0 0) 2) + 1)).bind (fun o5 => some (((o5 0) 4), o5))))) else (if p1 = 0 then ((D_X10_copies (va_up m0 0 (upd (m0 0) 0 0)) 10 0).bind (fun o30 => some (0, o30))) else (if ((m0 0) 2) = 8 then (L_X10_ends_37_2 200 m0 p1 1 (va_up m0 0 (upd (m0 0) 0 0))) else ((D_X10_copies (va_up m0 0 (upd (upd (m0 0) 0 0) 2 (((m0 0) 2) + 1))) 10 (((m0 0) 2) + 1)).bind (fun o20 => some (((o20 0) 4), o20)))))
abbrev rm_X10_ends : Room := { frames := 1, cells := 0, slots := 0, locals := 23 }
set_option maxHeartbeats 4000000 in
set_option maxRecDepth 100000 in
theorem met_X10_ends (l : Launch) (D : va_G) (cy : Nat → ClassId) (sz : Nat) (am : Nat → Nat) (m0 : Nat → Nat → Int32) (p1 : Int32) (hz1 : p1 = 0 ∨ p1 = 1) (r : Int32) (t' : Nat → Nat → Int32) (hF : D_X10_ends m0 p1 = some (r, t')) : MI l yX10_ends cX10_ends 3 (some .int) rm_X10_ends D cy (mW cy am m0) sz (fun _ => True) [.ref (am 0), .int p1] r (mW cy am t') := by
  refine MI.of (by decide +kernel) (Nat.le_of_ble_eq_true rfl) ?_
  intro p e s m args below meth c A ls Q hAt _ hP hD hA hS hl hret
  obtain ⟨hx, hb, hr, hml, hown, hw, hlk, hK, hN⟩ := hAt
  have hown : s.vm.findClass "CloudDeedsModel" = some m.cls := hown
  have hl : lv_has ls 3 [(0, .ref (am 0)), (1, .int p1)] := hl
  refine lv_aload_n hx hb dX10_ends_0 rfl (lv_at hl 0 rfl) ?_
  refine lv_iload_n hx hb dX10_ends_1 rfl (lv_at hl 1 rfl) ?_
  refine lv_if_eq (tgt := 9) hx hb dX10_ends_2 (by decide) (fun h1 => ?_) (fun h1 => ?_)
  · replace hF := (if_pos h1).symm.trans hF
    refine lv_iconst (v := 1) hx hb dX10_ends_9 (by decide) ?_
    refine put' (ci := 12) (fs := mF am (m0 0)) (v := .int 1) (ty := .int) (ws' := (mW cy am (va_up m0 0 (upd (m0 0) 0 1)))) hx hb hw inWX10 tyX10 tyX10_ok nmX10 hown hK hP hD hS (gM (am := am) (r := 0) (m := m0) (f := (m0 0)) (by decide) rfl) rfl 0 (by decide) k_1570 rfl rfl (by decide +kernel) rfl rfl (Nat.le_of_ble_eq_true rfl) dX10_ends_10 (sM (am := am) (r := 0) (m := m0) (g := (upd (m0 0) 0 1)) (by decide)) (fun H locs hP hD hS => ?_)
    refine lv_iload_n hx hb dX10_ends_13 rfl (lv_at hl 1 rfl) ?_
    refine lv_if_ne (tgt := 26) hx hb dX10_ends_14 (by decide) (fun h2 => ?_) (fun h2 => ?_)
    · replace hF := (if_neg h2).symm.trans hF
      refine lv_aload_n hx hb dX10_ends_26 rfl (lv_at hl 0 rfl) ?_
      refine get' (ci := 12) (fs := mF am (upd (m0 0) 0 1)) (v := .int ((m0 0) 2)) hx hb hw inWX10 hown hK hP (gM (am := am) (r := 0) (m := (va_up m0 0 (upd (m0 0) 0 1))) (f := (upd (m0 0) 0 1)) (by decide) (va_up_self _ _ _)) rfl 2 (by decide) k_1572 rfl rfl dX10_ends_27 ?_
      refine lv_bipush (v := 8) hx hb dX10_ends_30 (by decide) ?_
      refine lv_icmp_ne (tgt := 67) hx hb dX10_ends_32 (by decide) (fun h3 => ?_) (fun h3 => ?_)
      · replace hF := (if_neg h3).symm.trans hF
        refine lv_aload_n hx hb dX10_ends_67 rfl (lv_at hl 0 rfl) ?_
        refine lv_dup hx hb dX10_ends_68 rfl ?_
        refine get' (ci := 12) (fs := mF am (upd (m0 0) 0 1)) (v := .int ((m0 0) 2)) hx hb hw inWX10 hown hK hP (gM (am := am) (r := 0) (m := (va_up m0 0 (upd (m0 0) 0 1))) (f := (upd (m0 0) 0 1)) (by decide) (va_up_self _ _ _)) rfl 2 (by decide) k_1572 rfl rfl dX10_ends_69 ?_
        refine lv_iconst (v := 1) hx hb dX10_ends_72 (by decide) ?_
        refine lv_iadd hx hb dX10_ends_73 ?_
        refine put' (ci := 12) (fs := mF am (upd (m0 0) 0 1)) (v := .int (((m0 0) 2) + 1)) (ty := .int) (ws' := (mW cy am (va_up m0 0 (upd (upd (m0 0) 0 1) 2 (((m0 0) 2) + 1))))) hx hb hw inWX10 tyX10 tyX10_ok nmX10 hown hK hP hD hS (gM (am := am) (r := 0) (m := (va_up m0 0 (upd (m0 0) 0 1))) (f := (upd (m0 0) 0 1)) (by decide) (va_up_self _ _ _)) rfl 2 (by decide) k_1572 rfl rfl (by decide +kernel) rfl rfl (Nat.le_of_ble_eq_true rfl) dX10_ends_74 ((sM (am := am) (r := 0) (m := (va_up m0 0 (upd (m0 0) 0 1))) (g := (upd (upd (m0 0) 0 1) 2 (((m0 0) 2) + 1))) (by decide)).trans (congrArg (fun z => mW cy am z) (up_up _ _ _ _))) (fun H locs hP hD hS => ?_)
        refine lv_aload_n hx hb dX10_ends_77 rfl (lv_at hl 0 rfl) ?_
        refine lv_bipush (v := 10) hx hb dX10_ends_78 (by decide) ?_
        refine lv_aload_n hx hb dX10_ends_80 rfl (lv_at hl 0 rfl) ?_
        refine get' (ci := 12) (fs := mF am (upd (upd (m0 0) 0 1) 2 (((m0 0) 2) + 1))) (v := .int (((m0 0) 2) + 1)) hx hb hw inWX10 hown hK hP (gM (am := am) (r := 0) (m := (va_up m0 0 (upd (upd (m0 0) 0 1) 2 (((m0 0) 2) + 1)))) (f := (upd (upd (m0 0) 0 1) 2 (((m0 0) 2) + 1))) (by decide) (va_up_self _ _ _)) rfl 2 (by decide) k_1572 rfl rfl dX10_ends_81 ?_
        obtain ⟨o5, hc6, hF⟩ := bind_some hF
        try dsimp only at hF
        refine cV_v (As := [.int 10, .int (((m0 0) 2) + 1)]) (rest := []) hx hb hml hown hw hK hN hA hl.1 hP hD hS k_1645 k_1647 k_30 k_90 k_1648 (met_X10_copies l D cy _ am (va_up m0 0 (upd (upd (m0 0) 0 1) 2 (((m0 0) 2) + 1))) 10 (((m0 0) 2) + 1) o5 hc6) (fun _ _ _ => trivial) Xok_T (gM (am := am) (r := 0) (m := (va_up m0 0 (upd (upd (m0 0) 0 1) 2 (((m0 0) 2) + 1)))) (f := (upd (upd (m0 0) 0 1) 2 (((m0 0) 2) + 1))) (by decide) (va_up_self _ _ _)) rfl ⟨rfl, rfl⟩ (n := 2) (by decide +kernel) rfl ⟨Nat.le_of_ble_eq_true rfl, Nat.le_of_ble_eq_true rfl⟩ ⟨Nat.le_of_ble_eq_true rfl, Nat.le_of_ble_eq_true rfl⟩ (Nat.le_of_ble_eq_true rfl) rfl dX10_ends_84 (fun H locs hP hD hS => ?_)
        refine lv_aload_n hx hb dX10_ends_87 rfl (lv_at hl 0 rfl) ?_
        refine get' (ci := 12) (fs := mF am (o5 0)) (v := .int ((o5 0) 4)) hx hb hw inWX10 hown hK hP (gM (am := am) (r := 0) (m := o5) (f := (o5 0)) (by decide) rfl) rfl 4 (by decide) k_1574 rfl rfl dX10_ends_88 ?_
        cases hF
        exact hret _ _ _ _ _ _ hP hD hS rfl rfl dX10_ends_91
      · replace hF := (if_pos h3).symm.trans hF
        refine lv_iconst (v := 1) hx hb dX10_ends_35 (by decide) ?_
        refine lv_istore_n (lv' := [(2, .int 1), (0, .ref (am 0)), (1, .int p1)]) hx hb dX10_ends_36 rfl hl (by decide) rfl (fun ls hl => ?_)
        have loop37 : ∀ (n : Nat) (i2h37 : Int32) (s37 : Nat → Nat → Int32) (H : Heap) (locs : List Loc) (ls : Array Slot), L_X10_ends_37 n m0 p1 i2h37 s37 = some (r, t') → va_P D vwCl (mW cy am s37) H → va_D A (mW cy am s37) → va_S A s.heap H locs → lv_has ls 3 [(2, .int i2h37), (0, .ref (am 0)), (1, .int p1)] → W p l e rm_X10_ends s m args below meth c H locs 0 0 Q (F0 m 37 ls []) := by
          intro n
          induction n with
          | zero => intro i2h37 s37 H locs ls hF _ _ _ _; exact absurd hF (by simp [L_X10_ends_37])
          | succ n37 ih37 =>
            intro i2h37 s37 H locs ls hF hP hD hS hl
            refine lv_iload_n hx hb dX10_ends_37 rfl (lv_at hl 0 rfl) ?_
            refine lv_bipush (v := 8) hx hb dX10_ends_38 (by decide) ?_
            refine lv_icmp_ge (tgt := 57) hx hb dX10_ends_40 (by decide) (fun h7 => ?_) (fun h7 => ?_)
            · replace hF := (if_pos h7).symm.trans hF
              refine lv_aload_n hx hb dX10_ends_57 rfl (lv_at hl 1 rfl) ?_
              refine lv_dup hx hb dX10_ends_58 rfl ?_
              refine get' (ci := 12) (fs := mF am (s37 0)) (v := .int ((s37 0) 2)) hx hb hw inWX10 hown hK hP (gM (am := am) (r := 0) (m := s37) (f := (s37 0)) (by decide) rfl) rfl 2 (by decide) k_1572 rfl rfl dX10_ends_59 ?_
              refine lv_iconst (v := 1) hx hb dX10_ends_62 (by decide) ?_
              refine lv_isub hx hb dX10_ends_63 ?_
              refine put' (ci := 12) (fs := mF am (s37 0)) (v := .int (((s37 0) 2) - 1)) (ty := .int) (ws' := (mW cy am (va_up s37 0 (upd (s37 0) 2 (((s37 0) 2) - 1))))) hx hb hw inWX10 tyX10 tyX10_ok nmX10 hown hK hP hD hS (gM (am := am) (r := 0) (m := s37) (f := (s37 0)) (by decide) rfl) rfl 2 (by decide) k_1572 rfl rfl (by decide +kernel) rfl rfl (Nat.le_of_ble_eq_true rfl) dX10_ends_64 (sM (am := am) (r := 0) (m := s37) (g := (upd (s37 0) 2 (((s37 0) 2) - 1))) (by decide)) (fun H locs hP hD hS => ?_)
              refine lv_aload_n hx hb dX10_ends_67 rfl (lv_at hl 1 rfl) ?_
              refine lv_dup hx hb dX10_ends_68 rfl ?_
              refine get' (ci := 12) (fs := mF am (upd (s37 0) 2 (((s37 0) 2) - 1))) (v := .int (((s37 0) 2) - 1)) hx hb hw inWX10 hown hK hP (gM (am := am) (r := 0) (m := (va_up s37 0 (upd (s37 0) 2 (((s37 0) 2) - 1)))) (f := (upd (s37 0) 2 (((s37 0) 2) - 1))) (by decide) (va_up_self _ _ _)) rfl 2 (by decide) k_1572 rfl rfl dX10_ends_69 ?_
              refine lv_iconst (v := 1) hx hb dX10_ends_72 (by decide) ?_
              refine lv_iadd hx hb dX10_ends_73 ?_
              refine put' (ci := 12) (fs := mF am (upd (s37 0) 2 (((s37 0) 2) - 1))) (v := .int ((((s37 0) 2) - 1) + 1)) (ty := .int) (ws' := (mW cy am (va_up s37 0 (upd (upd (s37 0) 2 (((s37 0) 2) - 1)) 2 ((((s37 0) 2) - 1) + 1))))) hx hb hw inWX10 tyX10 tyX10_ok nmX10 hown hK hP hD hS (gM (am := am) (r := 0) (m := (va_up s37 0 (upd (s37 0) 2 (((s37 0) 2) - 1)))) (f := (upd (s37 0) 2 (((s37 0) 2) - 1))) (by decide) (va_up_self _ _ _)) rfl 2 (by decide) k_1572 rfl rfl (by decide +kernel) rfl rfl (Nat.le_of_ble_eq_true rfl) dX10_ends_74 ((sM (am := am) (r := 0) (m := (va_up s37 0 (upd (s37 0) 2 (((s37 0) 2) - 1)))) (g := (upd (upd (s37 0) 2 (((s37 0) 2) - 1)) 2 ((((s37 0) 2) - 1) + 1))) (by decide)).trans (congrArg (fun z => mW cy am z) (up_up _ _ _ _))) (fun H locs hP hD hS => ?_)
              refine lv_aload_n hx hb dX10_ends_77 rfl (lv_at hl 1 rfl) ?_
              refine lv_bipush (v := 10) hx hb dX10_ends_78 (by decide) ?_
              refine lv_aload_n hx hb dX10_ends_80 rfl (lv_at hl 1 rfl) ?_
              refine get' (ci := 12) (fs := mF am (upd (upd (s37 0) 2 (((s37 0) 2) - 1)) 2 ((((s37 0) 2) - 1) + 1))) (v := .int ((((s37 0) 2) - 1) + 1)) hx hb hw inWX10 hown hK hP (gM (am := am) (r := 0) (m := (va_up s37 0 (upd (upd (s37 0) 2 (((s37 0) 2) - 1)) 2 ((((s37 0) 2) - 1) + 1)))) (f := (upd (upd (s37 0) 2 (((s37 0) 2) - 1)) 2 ((((s37 0) 2) - 1) + 1))) (by decide) (va_up_self _ _ _)) rfl 2 (by decide) k_1572 rfl rfl dX10_ends_81 ?_
              obtain ⟨o9, hc10, hF⟩ := bind_some hF
              try dsimp only at hF
              refine cV_v (As := [.int 10, .int ((((s37 0) 2) - 1) + 1)]) (rest := []) hx hb hml hown hw hK hN hA hl.1 hP hD hS k_1645 k_1647 k_30 k_90 k_1648 (met_X10_copies l D cy _ am (va_up s37 0 (upd (upd (s37 0) 2 (((s37 0) 2) - 1)) 2 ((((s37 0) 2) - 1) + 1))) 10 ((((s37 0) 2) - 1) + 1) o9 hc10) (fun _ _ _ => trivial) Xok_T (gM (am := am) (r := 0) (m := (va_up s37 0 (upd (upd (s37 0) 2 (((s37 0) 2) - 1)) 2 ((((s37 0) 2) - 1) + 1)))) (f := (upd (upd (s37 0) 2 (((s37 0) 2) - 1)) 2 ((((s37 0) 2) - 1) + 1))) (by decide) (va_up_self _ _ _)) rfl ⟨rfl, rfl⟩ (n := 2) (by decide +kernel) rfl ⟨Nat.le_of_ble_eq_true rfl, Nat.le_of_ble_eq_true rfl⟩ ⟨Nat.le_of_ble_eq_true rfl, Nat.le_of_ble_eq_true rfl⟩ (Nat.le_of_ble_eq_true rfl) rfl dX10_ends_84 (fun H locs hP hD hS => ?_)
              refine lv_aload_n hx hb dX10_ends_87 rfl (lv_at hl 1 rfl) ?_
              refine get' (ci := 12) (fs := mF am (o9 0)) (v := .int ((o9 0) 4)) hx hb hw inWX10 hown hK hP (gM (am := am) (r := 0) (m := o9) (f := (o9 0)) (by decide) rfl) rfl 4 (by decide) k_1574 rfl rfl dX10_ends_88 ?_
              cases hF
              exact hret _ _ _ _ _ _ hP hD hS rfl rfl dX10_ends_91
            · replace hF := (if_neg h7).symm.trans hF
              refine lv_aload_n hx hb dX10_ends_43 rfl (lv_at hl 1 rfl) ?_
              refine lv_iload_n hx hb dX10_ends_44 rfl (lv_at hl 0 rfl) ?_
              refine lv_iconst (v := 1) hx hb dX10_ends_45 (by decide) ?_
              refine lv_iadd hx hb dX10_ends_46 ?_
              refine lv_iload_n hx hb dX10_ends_47 rfl (lv_at hl 0 rfl) ?_
              obtain ⟨o12, hc13, hF⟩ := bind_some hF
              try dsimp only at hF
              refine cV_v (As := [.int (i2h37 + 1), .int i2h37]) (rest := []) hx hb hml hown hw hK hN hA hl.1 hP hD hS k_1645 k_1647 k_30 k_90 k_1648 (met_X10_copies l D cy _ am s37 (i2h37 + 1) i2h37 o12 hc13) (fun _ _ _ => trivial) Xok_T (gM (am := am) (r := 0) (m := s37) (f := (s37 0)) (by decide) rfl) rfl ⟨rfl, rfl⟩ (n := 2) (by decide +kernel) rfl ⟨Nat.le_of_ble_eq_true rfl, Nat.le_of_ble_eq_true rfl⟩ ⟨Nat.le_of_ble_eq_true rfl, Nat.le_of_ble_eq_true rfl⟩ (Nat.le_of_ble_eq_true rfl) rfl dX10_ends_48 (fun H locs hP hD hS => ?_)
              refine lv_iinc (v := (i2h37 + 1)) (lv' := [(2, .int (i2h37 + 1)), (0, .ref (am 0)), (1, .int p1)]) hx hb dX10_ends_51 hl (k := 0) rfl rfl (by decide) rfl (fun ls hl => ?_)
              refine lv_goto (tgt := 37) hx hb dX10_ends_54 (by decide) ?_
              exact ih37 (i2h37 + 1) o12 _ _ _ hF hP hD hS (lv_sub hl [0, 1, 2] rfl)
        exact loop37 200 1 (va_up m0 0 (upd (m0 0) 0 1)) _ _ _ hF hP hD hS (lv_sub hl [0, 1, 2] rfl)
    · replace hF := (if_pos h2).symm.trans hF
      refine lv_aload_n hx hb dX10_ends_17 rfl (lv_at hl 0 rfl) ?_
      refine lv_bipush (v := 10) hx hb dX10_ends_18 (by decide) ?_
      refine lv_iconst (v := 0) hx hb dX10_ends_20 (by decide) ?_
      obtain ⟨o15, hc16, hF⟩ := bind_some hF
      try dsimp only at hF
      refine cV_v (As := [.int 10, .int 0]) (rest := []) hx hb hml hown hw hK hN hA hl.1 hP hD hS k_1645 k_1647 k_30 k_90 k_1648 (met_X10_copies l D cy _ am (va_up m0 0 (upd (m0 0) 0 1)) 10 0 o15 hc16) (fun _ _ _ => trivial) Xok_T (gM (am := am) (r := 0) (m := (va_up m0 0 (upd (m0 0) 0 1))) (f := (upd (m0 0) 0 1)) (by decide) (va_up_self _ _ _)) rfl ⟨rfl, rfl⟩ (n := 2) (by decide +kernel) rfl ⟨Nat.le_of_ble_eq_true rfl, Nat.le_of_ble_eq_true rfl⟩ ⟨Nat.le_of_ble_eq_true rfl, Nat.le_of_ble_eq_true rfl⟩ (Nat.le_of_ble_eq_true rfl) rfl dX10_ends_21 (fun H locs hP hD hS => ?_)
      refine lv_iconst (v := 0) hx hb dX10_ends_24 (by decide) ?_
      cases hF
      exact hret _ _ _ _ _ _ hP hD hS rfl rfl dX10_ends_25
  · replace hF := (if_neg h1).symm.trans hF
    refine lv_iconst (v := 0) hx hb dX10_ends_5 (by decide) ?_
    refine lv_goto (tgt := 10) hx hb dX10_ends_6 (by decide) ?_
    refine put' (ci := 12) (fs := mF am (m0 0)) (v := .int 0) (ty := .int) (ws' := (mW cy am (va_up m0 0 (upd (m0 0) 0 0)))) hx hb hw inWX10 tyX10 tyX10_ok nmX10 hown hK hP hD hS (gM (am := am) (r := 0) (m := m0) (f := (m0 0)) (by decide) rfl) rfl 0 (by decide) k_1570 rfl rfl (by decide +kernel) rfl rfl (Nat.le_of_ble_eq_true rfl) dX10_ends_10 (sM (am := am) (r := 0) (m := m0) (g := (upd (m0 0) 0 0)) (by decide)) (fun H locs hP hD hS => ?_)
    refine lv_iload_n hx hb dX10_ends_13 rfl (lv_at hl 1 rfl) ?_
    refine lv_if_ne (tgt := 26) hx hb dX10_ends_14 (by decide) (fun h17 => ?_) (fun h17 => ?_)
    · replace hF := (if_neg h17).symm.trans hF
      refine lv_aload_n hx hb dX10_ends_26 rfl (lv_at hl 0 rfl) ?_
      refine get' (ci := 12) (fs := mF am (upd (m0 0) 0 0)) (v := .int ((m0 0) 2)) hx hb hw inWX10 hown hK hP (gM (am := am) (r := 0) (m := (va_up m0 0 (upd (m0 0) 0 0))) (f := (upd (m0 0) 0 0)) (by decide) (va_up_self _ _ _)) rfl 2 (by decide) k_1572 rfl rfl dX10_ends_27 ?_
      refine lv_bipush (v := 8) hx hb dX10_ends_30 (by decide) ?_
      refine lv_icmp_ne (tgt := 67) hx hb dX10_ends_32 (by decide) (fun h18 => ?_) (fun h18 => ?_)
      · replace hF := (if_neg h18).symm.trans hF
        refine lv_aload_n hx hb dX10_ends_67 rfl (lv_at hl 0 rfl) ?_
        refine lv_dup hx hb dX10_ends_68 rfl ?_
        refine get' (ci := 12) (fs := mF am (upd (m0 0) 0 0)) (v := .int ((m0 0) 2)) hx hb hw inWX10 hown hK hP (gM (am := am) (r := 0) (m := (va_up m0 0 (upd (m0 0) 0 0))) (f := (upd (m0 0) 0 0)) (by decide) (va_up_self _ _ _)) rfl 2 (by decide) k_1572 rfl rfl dX10_ends_69 ?_
        refine lv_iconst (v := 1) hx hb dX10_ends_72 (by decide) ?_
        refine lv_iadd hx hb dX10_ends_73 ?_
        refine put' (ci := 12) (fs := mF am (upd (m0 0) 0 0)) (v := .int (((m0 0) 2) + 1)) (ty := .int) (ws' := (mW cy am (va_up m0 0 (upd (upd (m0 0) 0 0) 2 (((m0 0) 2) + 1))))) hx hb hw inWX10 tyX10 tyX10_ok nmX10 hown hK hP hD hS (gM (am := am) (r := 0) (m := (va_up m0 0 (upd (m0 0) 0 0))) (f := (upd (m0 0) 0 0)) (by decide) (va_up_self _ _ _)) rfl 2 (by decide) k_1572 rfl rfl (by decide +kernel) rfl rfl (Nat.le_of_ble_eq_true rfl) dX10_ends_74 ((sM (am := am) (r := 0) (m := (va_up m0 0 (upd (m0 0) 0 0))) (g := (upd (upd (m0 0) 0 0) 2 (((m0 0) 2) + 1))) (by decide)).trans (congrArg (fun z => mW cy am z) (up_up _ _ _ _))) (fun H locs hP hD hS => ?_)
        refine lv_aload_n hx hb dX10_ends_77 rfl (lv_at hl 0 rfl) ?_
        refine lv_bipush (v := 10) hx hb dX10_ends_78 (by decide) ?_
        refine lv_aload_n hx hb dX10_ends_80 rfl (lv_at hl 0 rfl) ?_
        refine get' (ci := 12) (fs := mF am (upd (upd (m0 0) 0 0) 2 (((m0 0) 2) + 1))) (v := .int (((m0 0) 2) + 1)) hx hb hw inWX10 hown hK hP (gM (am := am) (r := 0) (m := (va_up m0 0 (upd (upd (m0 0) 0 0) 2 (((m0 0) 2) + 1)))) (f := (upd (upd (m0 0) 0 0) 2 (((m0 0) 2) + 1))) (by decide) (va_up_self _ _ _)) rfl 2 (by decide) k_1572 rfl rfl dX10_ends_81 ?_
        obtain ⟨o20, hc21, hF⟩ := bind_some hF
        try dsimp only at hF
        refine cV_v (As := [.int 10, .int (((m0 0) 2) + 1)]) (rest := []) hx hb hml hown hw hK hN hA hl.1 hP hD hS k_1645 k_1647 k_30 k_90 k_1648 (met_X10_copies l D cy _ am (va_up m0 0 (upd (upd (m0 0) 0 0) 2 (((m0 0) 2) + 1))) 10 (((m0 0) 2) + 1) o20 hc21) (fun _ _ _ => trivial) Xok_T (gM (am := am) (r := 0) (m := (va_up m0 0 (upd (upd (m0 0) 0 0) 2 (((m0 0) 2) + 1)))) (f := (upd (upd (m0 0) 0 0) 2 (((m0 0) 2) + 1))) (by decide) (va_up_self _ _ _)) rfl ⟨rfl, rfl⟩ (n := 2) (by decide +kernel) rfl ⟨Nat.le_of_ble_eq_true rfl, Nat.le_of_ble_eq_true rfl⟩ ⟨Nat.le_of_ble_eq_true rfl, Nat.le_of_ble_eq_true rfl⟩ (Nat.le_of_ble_eq_true rfl) rfl dX10_ends_84 (fun H locs hP hD hS => ?_)
        refine lv_aload_n hx hb dX10_ends_87 rfl (lv_at hl 0 rfl) ?_
        refine get' (ci := 12) (fs := mF am (o20 0)) (v := .int ((o20 0) 4)) hx hb hw inWX10 hown hK hP (gM (am := am) (r := 0) (m := o20) (f := (o20 0)) (by decide) rfl) rfl 4 (by decide) k_1574 rfl rfl dX10_ends_88 ?_
        cases hF
        exact hret _ _ _ _ _ _ hP hD hS rfl rfl dX10_ends_91
      · replace hF := (if_pos h18).symm.trans hF
        refine lv_iconst (v := 1) hx hb dX10_ends_35 (by decide) ?_
        refine lv_istore_n (lv' := [(2, .int 1), (0, .ref (am 0)), (1, .int p1)]) hx hb dX10_ends_36 rfl hl (by decide) rfl (fun ls hl => ?_)
        have loop37 : ∀ (n : Nat) (i2h37 : Int32) (s37 : Nat → Nat → Int32) (H : Heap) (locs : List Loc) (ls : Array Slot), L_X10_ends_37_2 n m0 p1 i2h37 s37 = some (r, t') → va_P D vwCl (mW cy am s37) H → va_D A (mW cy am s37) → va_S A s.heap H locs → lv_has ls 3 [(2, .int i2h37), (0, .ref (am 0)), (1, .int p1)] → W p l e rm_X10_ends s m args below meth c H locs 0 0 Q (F0 m 37 ls []) := by
          intro n
          induction n with
          | zero => intro i2h37 s37 H locs ls hF _ _ _ _; exact absurd hF (by simp [L_X10_ends_37_2])
          | succ n37 ih37 =>
            intro i2h37 s37 H locs ls hF hP hD hS hl
            refine lv_iload_n hx hb dX10_ends_37 rfl (lv_at hl 0 rfl) ?_
            refine lv_bipush (v := 8) hx hb dX10_ends_38 (by decide) ?_
            refine lv_icmp_ge (tgt := 57) hx hb dX10_ends_40 (by decide) (fun h22 => ?_) (fun h22 => ?_)
            · replace hF := (if_pos h22).symm.trans hF
              refine lv_aload_n hx hb dX10_ends_57 rfl (lv_at hl 1 rfl) ?_
              refine lv_dup hx hb dX10_ends_58 rfl ?_
              refine get' (ci := 12) (fs := mF am (s37 0)) (v := .int ((s37 0) 2)) hx hb hw inWX10 hown hK hP (gM (am := am) (r := 0) (m := s37) (f := (s37 0)) (by decide) rfl) rfl 2 (by decide) k_1572 rfl rfl dX10_ends_59 ?_
              refine lv_iconst (v := 1) hx hb dX10_ends_62 (by decide) ?_
              refine lv_isub hx hb dX10_ends_63 ?_
              refine put' (ci := 12) (fs := mF am (s37 0)) (v := .int (((s37 0) 2) - 1)) (ty := .int) (ws' := (mW cy am (va_up s37 0 (upd (s37 0) 2 (((s37 0) 2) - 1))))) hx hb hw inWX10 tyX10 tyX10_ok nmX10 hown hK hP hD hS (gM (am := am) (r := 0) (m := s37) (f := (s37 0)) (by decide) rfl) rfl 2 (by decide) k_1572 rfl rfl (by decide +kernel) rfl rfl (Nat.le_of_ble_eq_true rfl) dX10_ends_64 (sM (am := am) (r := 0) (m := s37) (g := (upd (s37 0) 2 (((s37 0) 2) - 1))) (by decide)) (fun H locs hP hD hS => ?_)
              refine lv_aload_n hx hb dX10_ends_67 rfl (lv_at hl 1 rfl) ?_
              refine lv_dup hx hb dX10_ends_68 rfl ?_
              refine get' (ci := 12) (fs := mF am (upd (s37 0) 2 (((s37 0) 2) - 1))) (v := .int (((s37 0) 2) - 1)) hx hb hw inWX10 hown hK hP (gM (am := am) (r := 0) (m := (va_up s37 0 (upd (s37 0) 2 (((s37 0) 2) - 1)))) (f := (upd (s37 0) 2 (((s37 0) 2) - 1))) (by decide) (va_up_self _ _ _)) rfl 2 (by decide) k_1572 rfl rfl dX10_ends_69 ?_
              refine lv_iconst (v := 1) hx hb dX10_ends_72 (by decide) ?_
              refine lv_iadd hx hb dX10_ends_73 ?_
              refine put' (ci := 12) (fs := mF am (upd (s37 0) 2 (((s37 0) 2) - 1))) (v := .int ((((s37 0) 2) - 1) + 1)) (ty := .int) (ws' := (mW cy am (va_up s37 0 (upd (upd (s37 0) 2 (((s37 0) 2) - 1)) 2 ((((s37 0) 2) - 1) + 1))))) hx hb hw inWX10 tyX10 tyX10_ok nmX10 hown hK hP hD hS (gM (am := am) (r := 0) (m := (va_up s37 0 (upd (s37 0) 2 (((s37 0) 2) - 1)))) (f := (upd (s37 0) 2 (((s37 0) 2) - 1))) (by decide) (va_up_self _ _ _)) rfl 2 (by decide) k_1572 rfl rfl (by decide +kernel) rfl rfl (Nat.le_of_ble_eq_true rfl) dX10_ends_74 ((sM (am := am) (r := 0) (m := (va_up s37 0 (upd (s37 0) 2 (((s37 0) 2) - 1)))) (g := (upd (upd (s37 0) 2 (((s37 0) 2) - 1)) 2 ((((s37 0) 2) - 1) + 1))) (by decide)).trans (congrArg (fun z => mW cy am z) (up_up _ _ _ _))) (fun H locs hP hD hS => ?_)
              refine lv_aload_n hx hb dX10_ends_77 rfl (lv_at hl 1 rfl) ?_
              refine lv_bipush (v := 10) hx hb dX10_ends_78 (by decide) ?_
              refine lv_aload_n hx hb dX10_ends_80 rfl (lv_at hl 1 rfl) ?_
              refine get' (ci := 12) (fs := mF am (upd (upd (s37 0) 2 (((s37 0) 2) - 1)) 2 ((((s37 0) 2) - 1) + 1))) (v := .int ((((s37 0) 2) - 1) + 1)) hx hb hw inWX10 hown hK hP (gM (am := am) (r := 0) (m := (va_up s37 0 (upd (upd (s37 0) 2 (((s37 0) 2) - 1)) 2 ((((s37 0) 2) - 1) + 1)))) (f := (upd (upd (s37 0) 2 (((s37 0) 2) - 1)) 2 ((((s37 0) 2) - 1) + 1))) (by decide) (va_up_self _ _ _)) rfl 2 (by decide) k_1572 rfl rfl dX10_ends_81 ?_
              obtain ⟨o24, hc25, hF⟩ := bind_some hF
              try dsimp only at hF
              refine cV_v (As := [.int 10, .int ((((s37 0) 2) - 1) + 1)]) (rest := []) hx hb hml hown hw hK hN hA hl.1 hP hD hS k_1645 k_1647 k_30 k_90 k_1648 (met_X10_copies l D cy _ am (va_up s37 0 (upd (upd (s37 0) 2 (((s37 0) 2) - 1)) 2 ((((s37 0) 2) - 1) + 1))) 10 ((((s37 0) 2) - 1) + 1) o24 hc25) (fun _ _ _ => trivial) Xok_T (gM (am := am) (r := 0) (m := (va_up s37 0 (upd (upd (s37 0) 2 (((s37 0) 2) - 1)) 2 ((((s37 0) 2) - 1) + 1)))) (f := (upd (upd (s37 0) 2 (((s37 0) 2) - 1)) 2 ((((s37 0) 2) - 1) + 1))) (by decide) (va_up_self _ _ _)) rfl ⟨rfl, rfl⟩ (n := 2) (by decide +kernel) rfl ⟨Nat.le_of_ble_eq_true rfl, Nat.le_of_ble_eq_true rfl⟩ ⟨Nat.le_of_ble_eq_true rfl, Nat.le_of_ble_eq_true rfl⟩ (Nat.le_of_ble_eq_true rfl) rfl dX10_ends_84 (fun H locs hP hD hS => ?_)
              refine lv_aload_n hx hb dX10_ends_87 rfl (lv_at hl 1 rfl) ?_
              refine get' (ci := 12) (fs := mF am (o24 0)) (v := .int ((o24 0) 4)) hx hb hw inWX10 hown hK hP (gM (am := am) (r := 0) (m := o24) (f := (o24 0)) (by decide) rfl) rfl 4 (by decide) k_1574 rfl rfl dX10_ends_88 ?_
              cases hF
              exact hret _ _ _ _ _ _ hP hD hS rfl rfl dX10_ends_91
            · replace hF := (if_neg h22).symm.trans hF
              refine lv_aload_n hx hb dX10_ends_43 rfl (lv_at hl 1 rfl) ?_
              refine lv_iload_n hx hb dX10_ends_44 rfl (lv_at hl 0 rfl) ?_
              refine lv_iconst (v := 1) hx hb dX10_ends_45 (by decide) ?_
              refine lv_iadd hx hb dX10_ends_46 ?_
              refine lv_iload_n hx hb dX10_ends_47 rfl (lv_at hl 0 rfl) ?_
              obtain ⟨o27, hc28, hF⟩ := bind_some hF
              try dsimp only at hF
              refine cV_v (As := [.int (i2h37 + 1), .int i2h37]) (rest := []) hx hb hml hown hw hK hN hA hl.1 hP hD hS k_1645 k_1647 k_30 k_90 k_1648 (met_X10_copies l D cy _ am s37 (i2h37 + 1) i2h37 o27 hc28) (fun _ _ _ => trivial) Xok_T (gM (am := am) (r := 0) (m := s37) (f := (s37 0)) (by decide) rfl) rfl ⟨rfl, rfl⟩ (n := 2) (by decide +kernel) rfl ⟨Nat.le_of_ble_eq_true rfl, Nat.le_of_ble_eq_true rfl⟩ ⟨Nat.le_of_ble_eq_true rfl, Nat.le_of_ble_eq_true rfl⟩ (Nat.le_of_ble_eq_true rfl) rfl dX10_ends_48 (fun H locs hP hD hS => ?_)
              refine lv_iinc (v := (i2h37 + 1)) (lv' := [(2, .int (i2h37 + 1)), (0, .ref (am 0)), (1, .int p1)]) hx hb dX10_ends_51 hl (k := 0) rfl rfl (by decide) rfl (fun ls hl => ?_)
              refine lv_goto (tgt := 37) hx hb dX10_ends_54 (by decide) ?_
              exact ih37 (i2h37 + 1) o27 _ _ _ hF hP hD hS (lv_sub hl [0, 1, 2] rfl)
        exact loop37 200 1 (va_up m0 0 (upd (m0 0) 0 0)) _ _ _ hF hP hD hS (lv_sub hl [0, 1, 2] rfl)
    · replace hF := (if_pos h17).symm.trans hF
      refine lv_aload_n hx hb dX10_ends_17 rfl (lv_at hl 0 rfl) ?_
      refine lv_bipush (v := 10) hx hb dX10_ends_18 (by decide) ?_
      refine lv_iconst (v := 0) hx hb dX10_ends_20 (by decide) ?_
      obtain ⟨o30, hc31, hF⟩ := bind_some hF
      try dsimp only at hF
      refine cV_v (As := [.int 10, .int 0]) (rest := []) hx hb hml hown hw hK hN hA hl.1 hP hD hS k_1645 k_1647 k_30 k_90 k_1648 (met_X10_copies l D cy _ am (va_up m0 0 (upd (m0 0) 0 0)) 10 0 o30 hc31) (fun _ _ _ => trivial) Xok_T (gM (am := am) (r := 0) (m := (va_up m0 0 (upd (m0 0) 0 0))) (f := (upd (m0 0) 0 0)) (by decide) (va_up_self _ _ _)) rfl ⟨rfl, rfl⟩ (n := 2) (by decide +kernel) rfl ⟨Nat.le_of_ble_eq_true rfl, Nat.le_of_ble_eq_true rfl⟩ ⟨Nat.le_of_ble_eq_true rfl, Nat.le_of_ble_eq_true rfl⟩ (Nat.le_of_ble_eq_true rfl) rfl dX10_ends_21 (fun H locs hP hD hS => ?_)
      refine lv_iconst (v := 0) hx hb dX10_ends_24 (by decide) ?_
      cases hF
      exact hret _ _ _ _ _ _ hP hD hS rfl rfl dX10_ends_25
def D_X10_reason (m0 : Nat → Nat → Int32) (p1 : Int32) (p2 : Int32) : Int32 × (Nat → Nat → Int32) := if p1 = 0 then (if ((m0 0) 5) = 0 then ((0, (D_X10_isThere m0 0).2)) else (if p1 = 0 then (if p2 = 0 then (((((D_X10_isThere m0 1).2 0) 5), (D_X10_isThere m0 1).2)) else (((((D_X10_isThere m0 1).2 0) 6), (D_X10_isThere m0 1).2))) else (if p2 = 0 then (((((D_X10_isThere m0 1).2 0) 7), (D_X10_isThere m0 1).2)) else (((((D_X10_isThere m0 1).2 0) 8), (D_X10_isThere m0 1).2))))) else (if ((m0 0) 7) = 0 then ((0, (D_X10_isThere m0 0).2)) else (if p1 = 0 then (if p2 = 0 then (((((D_X10_isThere m0 1).2 0) 5), (D_X10_isThere m0 1).2)) else (((((D_X10_isThere m0 1).2 0) 6), (D_X10_isThere m0 1).2))) else (if p2 = 0 then (((((D_X10_isThere m0 1).2 0) 7), (D_X10_isThere m0 1).2)) else (((((D_X10_isThere m0 1).2 0) 8), (D_X10_isThere m0 1).2)))))
abbrev rm_X10_reason : Room := { frames := 1, cells := 0, slots := 0, locals := 21 }
set_option maxHeartbeats 4000000 in
set_option maxRecDepth 100000 in
theorem met_X10_reason (l : Launch) (D : va_G) (cy : Nat → ClassId) (sz : Nat) (am : Nat → Nat) (m0 : Nat → Nat → Int32) (p1 : Int32) (p2 : Int32) (hz1 : p1 = 0 ∨ p1 = 1) (hz2 : p2 = 0 ∨ p2 = 1) (r : Int32) (t' : Nat → Nat → Int32) (hF : D_X10_reason m0 p1 p2 = (r, t')) : MI l yX10_reason cX10_reason 3 (some .int) rm_X10_reason D cy (mW cy am m0) sz (fun _ => True) [.ref (am 0), .int p1, .int p2] r (mW cy am t') := by
  refine MI.of (by decide +kernel) (Nat.le_of_ble_eq_true rfl) ?_
  intro p e s m args below meth c A ls Q hAt _ hP hD hA hS hl hret
  obtain ⟨hx, hb, hr, hml, hown, hw, hlk, hK, hN⟩ := hAt
  have hown : s.vm.findClass "CloudDeedsModel" = some m.cls := hown
  have hl : lv_has ls 3 [(0, .ref (am 0)), (1, .int p1), (2, .int p2)] := hl
  refine lv_aload_n hx hb dX10_reason_0 rfl (lv_at hl 0 rfl) ?_
  refine lv_iload_n hx hb dX10_reason_1 rfl (lv_at hl 1 rfl) ?_
  refine lv_if_eq (tgt := 12) hx hb dX10_reason_2 (by decide) (fun h1 => ?_) (fun h1 => ?_)
  · replace hF := (if_pos h1).symm.trans hF
    refine lv_aload_n hx hb dX10_reason_12 rfl (lv_at hl 0 rfl) ?_
    refine get' (ci := 12) (fs := mF am (m0 0)) (v := .int ((m0 0) 5)) hx hb hw inWX10 hown hK hP (gM (am := am) (r := 0) (m := m0) (f := (m0 0)) (by decide) rfl) rfl 5 (by decide) k_1575 rfl rfl dX10_reason_13 ?_
    refine lv_if_eq (tgt := 23) hx hb dX10_reason_16 (by decide) (fun h2 => ?_) (fun h2 => ?_)
    · replace hF := (if_pos h2).symm.trans hF
      refine lv_iconst (v := 0) hx hb dX10_reason_23 (by decide) ?_
      refine cV_i (As := [.int 0]) (rest := []) hx hb hml hown hw hK hN hA hl.1 hP hD hS k_1633 k_1635 k_28 k_90 k_1636 (met_X10_isThere l D cy _ am m0 0 (Or.inl rfl) 0 (D_X10_isThere m0 0).2 (rs_X10_isThere ..)) (fun _ _ _ => trivial) Xok_T (gM (am := am) (r := 0) (m := m0) (f := (m0 0)) (by decide) rfl) rfl ⟨rfl, rfl⟩ (n := 1) (by decide +kernel) rfl ⟨Nat.le_of_ble_eq_true rfl, Nat.le_of_ble_eq_true rfl⟩ ⟨Nat.le_of_ble_eq_true rfl, Nat.le_of_ble_eq_true rfl⟩ (Nat.le_of_ble_eq_true rfl) rfl dX10_reason_24 (fun H locs hP hD hS => ?_)
      refine lv_if_ne (tgt := 32) hx hb dX10_reason_27 (by decide) (fun h => absurd h (by decide)) (fun _ => ?_)
      refine lv_iconst (v := 0) hx hb dX10_reason_30 (by decide) ?_
      cases hF
      exact hret _ _ _ _ _ _ hP hD hS rfl rfl dX10_reason_31
    · replace hF := (if_neg h2).symm.trans hF
      refine lv_iconst (v := 1) hx hb dX10_reason_19 (by decide) ?_
      refine lv_goto (tgt := 24) hx hb dX10_reason_20 (by decide) ?_
      refine cV_i (As := [.int 1]) (rest := []) hx hb hml hown hw hK hN hA hl.1 hP hD hS k_1633 k_1635 k_28 k_90 k_1636 (met_X10_isThere l D cy _ am m0 1 (Or.inr rfl) 1 (D_X10_isThere m0 1).2 (rs_X10_isThere ..)) (fun _ _ _ => trivial) Xok_T (gM (am := am) (r := 0) (m := m0) (f := (m0 0)) (by decide) rfl) rfl ⟨rfl, rfl⟩ (n := 1) (by decide +kernel) rfl ⟨Nat.le_of_ble_eq_true rfl, Nat.le_of_ble_eq_true rfl⟩ ⟨Nat.le_of_ble_eq_true rfl, Nat.le_of_ble_eq_true rfl⟩ (Nat.le_of_ble_eq_true rfl) rfl dX10_reason_24 (fun H locs hP hD hS => ?_)
      refine lv_if_ne (tgt := 32) hx hb dX10_reason_27 (by decide) (fun _ => ?_) (fun h => absurd h (by decide))
      refine lv_iload_n hx hb dX10_reason_32 rfl (lv_at hl 1 rfl) ?_
      refine lv_if_eq (tgt := 54) hx hb dX10_reason_33 (by decide) (fun h11 => ?_) (fun h11 => ?_)
      · replace hF := (if_pos h11).symm.trans hF
        refine lv_iload_n hx hb dX10_reason_54 rfl (lv_at hl 2 rfl) ?_
        refine lv_if_eq (tgt := 65) hx hb dX10_reason_55 (by decide) (fun h12 => ?_) (fun h12 => ?_)
        · replace hF := (if_pos h12).symm.trans hF
          refine lv_aload_n hx hb dX10_reason_65 rfl (lv_at hl 0 rfl) ?_
          refine get' (ci := 12) (fs := mF am ((D_X10_isThere m0 1).2 0)) (v := .int (((D_X10_isThere m0 1).2 0) 5)) hx hb hw inWX10 hown hK hP (gM (am := am) (r := 0) (m := (D_X10_isThere m0 1).2) (f := ((D_X10_isThere m0 1).2 0)) (by decide) rfl) rfl 5 (by decide) k_1575 rfl rfl dX10_reason_66 ?_
          cases hF
          exact hret _ _ _ _ _ _ hP hD hS rfl rfl dX10_reason_69
        · replace hF := (if_neg h12).symm.trans hF
          refine lv_aload_n hx hb dX10_reason_58 rfl (lv_at hl 0 rfl) ?_
          refine get' (ci := 12) (fs := mF am ((D_X10_isThere m0 1).2 0)) (v := .int (((D_X10_isThere m0 1).2 0) 6)) hx hb hw inWX10 hown hK hP (gM (am := am) (r := 0) (m := (D_X10_isThere m0 1).2) (f := ((D_X10_isThere m0 1).2 0)) (by decide) rfl) rfl 6 (by decide) k_1576 rfl rfl dX10_reason_59 ?_
          refine lv_goto (tgt := 69) hx hb dX10_reason_62 (by decide) ?_
          cases hF
          exact hret _ _ _ _ _ _ hP hD hS rfl rfl dX10_reason_69
      · replace hF := (if_neg h11).symm.trans hF
        refine lv_iload_n hx hb dX10_reason_36 rfl (lv_at hl 2 rfl) ?_
        refine lv_if_eq (tgt := 47) hx hb dX10_reason_37 (by decide) (fun h13 => ?_) (fun h13 => ?_)
        · replace hF := (if_pos h13).symm.trans hF
          refine lv_aload_n hx hb dX10_reason_47 rfl (lv_at hl 0 rfl) ?_
          refine get' (ci := 12) (fs := mF am ((D_X10_isThere m0 1).2 0)) (v := .int (((D_X10_isThere m0 1).2 0) 7)) hx hb hw inWX10 hown hK hP (gM (am := am) (r := 0) (m := (D_X10_isThere m0 1).2) (f := ((D_X10_isThere m0 1).2 0)) (by decide) rfl) rfl 7 (by decide) k_1577 rfl rfl dX10_reason_48 ?_
          refine lv_goto (tgt := 69) hx hb dX10_reason_51 (by decide) ?_
          cases hF
          exact hret _ _ _ _ _ _ hP hD hS rfl rfl dX10_reason_69
        · replace hF := (if_neg h13).symm.trans hF
          refine lv_aload_n hx hb dX10_reason_40 rfl (lv_at hl 0 rfl) ?_
          refine get' (ci := 12) (fs := mF am ((D_X10_isThere m0 1).2 0)) (v := .int (((D_X10_isThere m0 1).2 0) 8)) hx hb hw inWX10 hown hK hP (gM (am := am) (r := 0) (m := (D_X10_isThere m0 1).2) (f := ((D_X10_isThere m0 1).2 0)) (by decide) rfl) rfl 8 (by decide) k_1578 rfl rfl dX10_reason_41 ?_
          refine lv_goto (tgt := 69) hx hb dX10_reason_44 (by decide) ?_
          cases hF
          exact hret _ _ _ _ _ _ hP hD hS rfl rfl dX10_reason_69
  · replace hF := (if_neg h1).symm.trans hF
    refine lv_aload_n hx hb dX10_reason_5 rfl (lv_at hl 0 rfl) ?_
    refine get' (ci := 12) (fs := mF am (m0 0)) (v := .int ((m0 0) 7)) hx hb hw inWX10 hown hK hP (gM (am := am) (r := 0) (m := m0) (f := (m0 0)) (by decide) rfl) rfl 7 (by decide) k_1577 rfl rfl dX10_reason_6 ?_
    refine lv_goto (tgt := 16) hx hb dX10_reason_9 (by decide) ?_
    refine lv_if_eq (tgt := 23) hx hb dX10_reason_16 (by decide) (fun h14 => ?_) (fun h14 => ?_)
    · replace hF := (if_pos h14).symm.trans hF
      refine lv_iconst (v := 0) hx hb dX10_reason_23 (by decide) ?_
      refine cV_i (As := [.int 0]) (rest := []) hx hb hml hown hw hK hN hA hl.1 hP hD hS k_1633 k_1635 k_28 k_90 k_1636 (met_X10_isThere l D cy _ am m0 0 (Or.inl rfl) 0 (D_X10_isThere m0 0).2 (rs_X10_isThere ..)) (fun _ _ _ => trivial) Xok_T (gM (am := am) (r := 0) (m := m0) (f := (m0 0)) (by decide) rfl) rfl ⟨rfl, rfl⟩ (n := 1) (by decide +kernel) rfl ⟨Nat.le_of_ble_eq_true rfl, Nat.le_of_ble_eq_true rfl⟩ ⟨Nat.le_of_ble_eq_true rfl, Nat.le_of_ble_eq_true rfl⟩ (Nat.le_of_ble_eq_true rfl) rfl dX10_reason_24 (fun H locs hP hD hS => ?_)
      refine lv_if_ne (tgt := 32) hx hb dX10_reason_27 (by decide) (fun h => absurd h (by decide)) (fun _ => ?_)
      refine lv_iconst (v := 0) hx hb dX10_reason_30 (by decide) ?_
      cases hF
      exact hret _ _ _ _ _ _ hP hD hS rfl rfl dX10_reason_31
    · replace hF := (if_neg h14).symm.trans hF
      refine lv_iconst (v := 1) hx hb dX10_reason_19 (by decide) ?_
      refine lv_goto (tgt := 24) hx hb dX10_reason_20 (by decide) ?_
      refine cV_i (As := [.int 1]) (rest := []) hx hb hml hown hw hK hN hA hl.1 hP hD hS k_1633 k_1635 k_28 k_90 k_1636 (met_X10_isThere l D cy _ am m0 1 (Or.inr rfl) 1 (D_X10_isThere m0 1).2 (rs_X10_isThere ..)) (fun _ _ _ => trivial) Xok_T (gM (am := am) (r := 0) (m := m0) (f := (m0 0)) (by decide) rfl) rfl ⟨rfl, rfl⟩ (n := 1) (by decide +kernel) rfl ⟨Nat.le_of_ble_eq_true rfl, Nat.le_of_ble_eq_true rfl⟩ ⟨Nat.le_of_ble_eq_true rfl, Nat.le_of_ble_eq_true rfl⟩ (Nat.le_of_ble_eq_true rfl) rfl dX10_reason_24 (fun H locs hP hD hS => ?_)
      refine lv_if_ne (tgt := 32) hx hb dX10_reason_27 (by decide) (fun _ => ?_) (fun h => absurd h (by decide))
      refine lv_iload_n hx hb dX10_reason_32 rfl (lv_at hl 1 rfl) ?_
      refine lv_if_eq (tgt := 54) hx hb dX10_reason_33 (by decide) (fun h23 => ?_) (fun h23 => ?_)
      · replace hF := (if_pos h23).symm.trans hF
        refine lv_iload_n hx hb dX10_reason_54 rfl (lv_at hl 2 rfl) ?_
        refine lv_if_eq (tgt := 65) hx hb dX10_reason_55 (by decide) (fun h24 => ?_) (fun h24 => ?_)
        · replace hF := (if_pos h24).symm.trans hF
          refine lv_aload_n hx hb dX10_reason_65 rfl (lv_at hl 0 rfl) ?_
          refine get' (ci := 12) (fs := mF am ((D_X10_isThere m0 1).2 0)) (v := .int (((D_X10_isThere m0 1).2 0) 5)) hx hb hw inWX10 hown hK hP (gM (am := am) (r := 0) (m := (D_X10_isThere m0 1).2) (f := ((D_X10_isThere m0 1).2 0)) (by decide) rfl) rfl 5 (by decide) k_1575 rfl rfl dX10_reason_66 ?_
          cases hF
          exact hret _ _ _ _ _ _ hP hD hS rfl rfl dX10_reason_69
        · replace hF := (if_neg h24).symm.trans hF
          refine lv_aload_n hx hb dX10_reason_58 rfl (lv_at hl 0 rfl) ?_
          refine get' (ci := 12) (fs := mF am ((D_X10_isThere m0 1).2 0)) (v := .int (((D_X10_isThere m0 1).2 0) 6)) hx hb hw inWX10 hown hK hP (gM (am := am) (r := 0) (m := (D_X10_isThere m0 1).2) (f := ((D_X10_isThere m0 1).2 0)) (by decide) rfl) rfl 6 (by decide) k_1576 rfl rfl dX10_reason_59 ?_
          refine lv_goto (tgt := 69) hx hb dX10_reason_62 (by decide) ?_
          cases hF
          exact hret _ _ _ _ _ _ hP hD hS rfl rfl dX10_reason_69
      · replace hF := (if_neg h23).symm.trans hF
        refine lv_iload_n hx hb dX10_reason_36 rfl (lv_at hl 2 rfl) ?_
        refine lv_if_eq (tgt := 47) hx hb dX10_reason_37 (by decide) (fun h25 => ?_) (fun h25 => ?_)
        · replace hF := (if_pos h25).symm.trans hF
          refine lv_aload_n hx hb dX10_reason_47 rfl (lv_at hl 0 rfl) ?_
          refine get' (ci := 12) (fs := mF am ((D_X10_isThere m0 1).2 0)) (v := .int (((D_X10_isThere m0 1).2 0) 7)) hx hb hw inWX10 hown hK hP (gM (am := am) (r := 0) (m := (D_X10_isThere m0 1).2) (f := ((D_X10_isThere m0 1).2 0)) (by decide) rfl) rfl 7 (by decide) k_1577 rfl rfl dX10_reason_48 ?_
          refine lv_goto (tgt := 69) hx hb dX10_reason_51 (by decide) ?_
          cases hF
          exact hret _ _ _ _ _ _ hP hD hS rfl rfl dX10_reason_69
        · replace hF := (if_neg h25).symm.trans hF
          refine lv_aload_n hx hb dX10_reason_40 rfl (lv_at hl 0 rfl) ?_
          refine get' (ci := 12) (fs := mF am ((D_X10_isThere m0 1).2 0)) (v := .int (((D_X10_isThere m0 1).2 0) 8)) hx hb hw inWX10 hown hK hP (gM (am := am) (r := 0) (m := (D_X10_isThere m0 1).2) (f := ((D_X10_isThere m0 1).2 0)) (by decide) rfl) rfl 8 (by decide) k_1578 rfl rfl dX10_reason_41 ?_
          refine lv_goto (tgt := 69) hx hb dX10_reason_44 (by decide) ?_
          cases hF
          exact hret _ _ _ _ _ _ hP hD hS rfl rfl dX10_reason_69
def D_X10_isCloud (m0 : Nat → Nat → Int32) (p1 : Int32) : Option (Int32) := if inb 0 1152 then (some (D_X10_in p1 0 (((m0 1) (0 : Int32).toNatClampNeg) - 1))) else none
abbrev rm_X10_isCloud : Room := { frames := 1, cells := 0, slots := 0, locals := 22 }
set_option maxHeartbeats 4000000 in
set_option maxRecDepth 100000 in
theorem met_X10_isCloud (l : Launch) (D : va_G) (cy : Nat → ClassId) (sz : Nat) (am : Nat → Nat) (m0 : Nat → Nat → Int32) (p1 : Int32)  (r : Int32) (hF : D_X10_isCloud m0 p1 = some r) : MI l yX10_isCloud cX10_isCloud 2 (some .boolean) rm_X10_isCloud D cy (mW cy am m0) sz (fun _ => True) [.ref (am 0), .int p1] r (mW cy am m0) := by
  refine MZ.of (by decide +kernel) (Nat.le_of_ble_eq_true rfl) ?_
  intro p e s m args below meth c A ls Q hAt _ hP hD hA hS hl hret
  obtain ⟨hx, hb, hr, hml, hown, hw, hlk, hK, hN⟩ := hAt
  have hown : s.vm.findClass "CloudDeedsModel" = some m.cls := hown
  have hl : lv_has ls 2 [(0, .ref (am 0)), (1, .int p1)] := hl
  refine lv_iload_n hx hb dX10_isCloud_0 rfl (lv_at hl 1 rfl) ?_
  refine lv_iconst (v := 0) hx hb dX10_isCloud_1 (by decide) ?_
  refine lv_aload_n hx hb dX10_isCloud_2 rfl (lv_at hl 0 rfl) ?_
  refine get' (ci := 12) (fs := mF am (m0 0)) (v := .ref (am 1)) hx hb hw inWX10 hown hK hP (gM (am := am) (r := 0) (m := m0) (f := (m0 0)) (by decide) rfl) rfl 1 (by decide) k_1571 rfl rfl dX10_isCloud_3 ?_
  refine lv_iconst (v := 0) hx hb dX10_isCloud_6 (by decide) ?_
  obtain ⟨h1, hF⟩ := ite_some hF
  refine va_iald (n := 1152) (f := (m0 1)) hx hb hK hP _ 0 (gM (am := am) (r := 1) (m := m0) (f := (m0 1)) (by decide) rfl) rfl (vp_inb h1) dX10_isCloud_7 ?_
  refine lv_iconst (v := 1) hx hb dX10_isCloud_8 (by decide) ?_
  refine lv_isub hx hb dX10_isCloud_9 ?_
  refine cS_i (As := [.int p1, .int 0, .int (((m0 1) (0 : Int32).toNatClampNeg) - 1)]) (rest := []) hx hb hml hown hw hK hN hA hl.1 hP hD hS k_1656 k_1657 k_90 k_1658 (met_X10_in l D cy _ (mW cy am m0) p1 0 (((m0 1) (0 : Int32).toNatClampNeg) - 1) (D_X10_in p1 0 (((m0 1) (0 : Int32).toNatClampNeg) - 1)) rfl) (fun _ _ _ => trivial) Xok_T ⟨rfl, rfl⟩ (n := 3) (by decide +kernel) rfl ⟨Nat.le_of_ble_eq_true rfl, Nat.le_of_ble_eq_true rfl⟩ ⟨Nat.le_of_ble_eq_true rfl, Nat.le_of_ble_eq_true rfl⟩ (Nat.le_of_ble_eq_true rfl) rfl dX10_isCloud_10 (fun H locs hP hD hS => ?_)
  cases hF
  exact hret _ _ _ _ _ _ hP hD hS rfl rfl (nar_z (bz_X10_in ..)) dX10_isCloud_13
def D_X10_isOwner (p1 : Int32) : Int32 := (D_X10_in p1 0 3)
abbrev rm_X10_isOwner : Room := { frames := 1, cells := 0, slots := 0, locals := 22 }
set_option maxHeartbeats 4000000 in
set_option maxRecDepth 100000 in
theorem met_X10_isOwner (l : Launch) (D : va_G) (cy : Nat → ClassId) (sz : Nat) (ws : va_W) (p1 : Int32)  (r : Int32) (hF : D_X10_isOwner p1 = r) : MI l yX10_isOwner cX10_isOwner 1 (some .boolean) rm_X10_isOwner D cy ws sz (fun _ => True) [.int p1] r ws := by
  refine MZ.of (by decide +kernel) (Nat.le_of_ble_eq_true rfl) ?_
  intro p e s m args below meth c A ls Q hAt _ hP hD hA hS hl hret
  obtain ⟨hx, hb, hr, hml, hown, hw, hlk, hK, hN⟩ := hAt
  have hown : s.vm.findClass "CloudDeedsModel" = some m.cls := hown
  have hl : lv_has ls 1 [(0, .int p1)] := hl
  refine lv_iload_n hx hb dX10_isOwner_0 rfl (lv_at hl 0 rfl) ?_
  refine lv_iconst (v := 0) hx hb dX10_isOwner_1 (by decide) ?_
  refine lv_iconst (v := 3) hx hb dX10_isOwner_2 (by decide) ?_
  refine cS_i (As := [.int p1, .int 0, .int 3]) (rest := []) hx hb hml hown hw hK hN hA hl.1 hP hD hS k_1656 k_1657 k_90 k_1658 (met_X10_in l D cy _ ws p1 0 3 (D_X10_in p1 0 3) rfl) (fun _ _ _ => trivial) Xok_T ⟨rfl, rfl⟩ (n := 3) (by decide +kernel) rfl ⟨Nat.le_of_ble_eq_true rfl, Nat.le_of_ble_eq_true rfl⟩ ⟨Nat.le_of_ble_eq_true rfl, Nat.le_of_ble_eq_true rfl⟩ (Nat.le_of_ble_eq_true rfl) rfl dX10_isOwner_3 (fun H locs hP hD hS => ?_)
  cases hF
  exact hret _ _ _ _ _ _ hP hD hS rfl rfl (nar_z (bz_X10_in ..)) dX10_isOwner_6
theorem bz_X10_isOwner (p1 : Int32) : (D_X10_isOwner p1) = 0 ∨ (D_X10_isOwner p1) = 1 := by
  unfold D_X10_isOwner
  repeat' split
  all_goals first | exact Or.inl rfl | exact Or.inr rfl | assumption | exact bz_X10_in ..
def D_X10_isVine (p1 : Int32) : Int32 := (D_X10_in p1 0 5)
abbrev rm_X10_isVine : Room := { frames := 1, cells := 0, slots := 0, locals := 22 }
set_option maxHeartbeats 4000000 in
set_option maxRecDepth 100000 in
theorem met_X10_isVine (l : Launch) (D : va_G) (cy : Nat → ClassId) (sz : Nat) (ws : va_W) (p1 : Int32)  (r : Int32) (hF : D_X10_isVine p1 = r) : MI l yX10_isVine cX10_isVine 1 (some .boolean) rm_X10_isVine D cy ws sz (fun _ => True) [.int p1] r ws := by
  refine MZ.of (by decide +kernel) (Nat.le_of_ble_eq_true rfl) ?_
  intro p e s m args below meth c A ls Q hAt _ hP hD hA hS hl hret
  obtain ⟨hx, hb, hr, hml, hown, hw, hlk, hK, hN⟩ := hAt
  have hown : s.vm.findClass "CloudDeedsModel" = some m.cls := hown
  have hl : lv_has ls 1 [(0, .int p1)] := hl
  refine lv_iload_n hx hb dX10_isVine_0 rfl (lv_at hl 0 rfl) ?_
  refine lv_iconst (v := 0) hx hb dX10_isVine_1 (by decide) ?_
  refine lv_iconst (v := 5) hx hb dX10_isVine_2 (by decide) ?_
  refine cS_i (As := [.int p1, .int 0, .int 5]) (rest := []) hx hb hml hown hw hK hN hA hl.1 hP hD hS k_1656 k_1657 k_90 k_1658 (met_X10_in l D cy _ ws p1 0 5 (D_X10_in p1 0 5) rfl) (fun _ _ _ => trivial) Xok_T ⟨rfl, rfl⟩ (n := 3) (by decide +kernel) rfl ⟨Nat.le_of_ble_eq_true rfl, Nat.le_of_ble_eq_true rfl⟩ ⟨Nat.le_of_ble_eq_true rfl, Nat.le_of_ble_eq_true rfl⟩ (Nat.le_of_ble_eq_true rfl) rfl dX10_isVine_3 (fun H locs hP hD hS => ?_)
  cases hF
  exact hret _ _ _ _ _ _ hP hD hS rfl rfl (nar_z (bz_X10_in ..)) dX10_isVine_6
theorem bz_X10_isVine (p1 : Int32) : (D_X10_isVine p1) = 0 ∨ (D_X10_isVine p1) = 1 := by
  unfold D_X10_isVine
  repeat' split
  all_goals first | exact Or.inl rfl | exact Or.inr rfl | assumption | exact bz_X10_in ..
def D_X10_ownerAt (m0 : Nat → Nat → Int32) (p1 : Int32) : Option (Int32) := (D_X10_c m0 p1 3).bind (fun r1 => some (r1 - 1))
abbrev rm_X10_ownerAt : Room := { frames := 1, cells := 0, slots := 0, locals := 22 }
set_option maxHeartbeats 4000000 in
set_option maxRecDepth 100000 in
theorem met_X10_ownerAt (l : Launch) (D : va_G) (cy : Nat → ClassId) (sz : Nat) (am : Nat → Nat) (m0 : Nat → Nat → Int32) (p1 : Int32)  (r : Int32) (hF : D_X10_ownerAt m0 p1 = some r) : MI l yX10_ownerAt cX10_ownerAt 2 (some .int) rm_X10_ownerAt D cy (mW cy am m0) sz (fun _ => True) [.ref (am 0), .int p1] r (mW cy am m0) := by
  refine MI.of (by decide +kernel) (Nat.le_of_ble_eq_true rfl) ?_
  intro p e s m args below meth c A ls Q hAt _ hP hD hA hS hl hret
  obtain ⟨hx, hb, hr, hml, hown, hw, hlk, hK, hN⟩ := hAt
  have hown : s.vm.findClass "CloudDeedsModel" = some m.cls := hown
  have hl : lv_has ls 2 [(0, .ref (am 0)), (1, .int p1)] := hl
  refine lv_aload_n hx hb dX10_ownerAt_0 rfl (lv_at hl 0 rfl) ?_
  refine lv_iload_n hx hb dX10_ownerAt_1 rfl (lv_at hl 1 rfl) ?_
  refine lv_iconst (v := 3) hx hb dX10_ownerAt_2 (by decide) ?_
  obtain ⟨r1, hc3, hF⟩ := bind_some hF
  try dsimp only at hF
  refine cV_i (As := [.int p1, .int 3]) (rest := []) hx hb hml hown hw hK hN hA hl.1 hP hD hS k_1702 k_1704 k_40 k_90 k_1705 (met_X10_c l D cy _ am m0 p1 3 r1 hc3) (fun _ _ _ => trivial) Xok_T (gM (am := am) (r := 0) (m := m0) (f := (m0 0)) (by decide) rfl) rfl ⟨rfl, rfl⟩ (n := 2) (by decide +kernel) rfl ⟨Nat.le_of_ble_eq_true rfl, Nat.le_of_ble_eq_true rfl⟩ ⟨Nat.le_of_ble_eq_true rfl, Nat.le_of_ble_eq_true rfl⟩ (Nat.le_of_ble_eq_true rfl) rfl dX10_ownerAt_3 (fun H locs hP hD hS => ?_)
  refine lv_iconst (v := 1) hx hb dX10_ownerAt_6 (by decide) ?_
  refine lv_isub hx hb dX10_ownerAt_7 ?_
  cases hF
  exact hret _ _ _ _ _ _ hP hD hS rfl rfl dX10_ownerAt_8
def D_X10_lenderAt (m0 : Nat → Nat → Int32) (p1 : Int32) : Option (Int32) := (D_X10_c m0 p1 5).bind (fun r1 => some (r1 - 1))
abbrev rm_X10_lenderAt : Room := { frames := 1, cells := 0, slots := 0, locals := 22 }
set_option maxHeartbeats 4000000 in
set_option maxRecDepth 100000 in
theorem met_X10_lenderAt (l : Launch) (D : va_G) (cy : Nat → ClassId) (sz : Nat) (am : Nat → Nat) (m0 : Nat → Nat → Int32) (p1 : Int32)  (r : Int32) (hF : D_X10_lenderAt m0 p1 = some r) : MI l yX10_lenderAt cX10_lenderAt 2 (some .int) rm_X10_lenderAt D cy (mW cy am m0) sz (fun _ => True) [.ref (am 0), .int p1] r (mW cy am m0) := by
  refine MI.of (by decide +kernel) (Nat.le_of_ble_eq_true rfl) ?_
  intro p e s m args below meth c A ls Q hAt _ hP hD hA hS hl hret
  obtain ⟨hx, hb, hr, hml, hown, hw, hlk, hK, hN⟩ := hAt
  have hown : s.vm.findClass "CloudDeedsModel" = some m.cls := hown
  have hl : lv_has ls 2 [(0, .ref (am 0)), (1, .int p1)] := hl
  refine lv_aload_n hx hb dX10_lenderAt_0 rfl (lv_at hl 0 rfl) ?_
  refine lv_iload_n hx hb dX10_lenderAt_1 rfl (lv_at hl 1 rfl) ?_
  refine lv_iconst (v := 5) hx hb dX10_lenderAt_2 (by decide) ?_
  obtain ⟨r1, hc3, hF⟩ := bind_some hF
  try dsimp only at hF
  refine cV_i (As := [.int p1, .int 5]) (rest := []) hx hb hml hown hw hK hN hA hl.1 hP hD hS k_1702 k_1704 k_40 k_90 k_1705 (met_X10_c l D cy _ am m0 p1 5 r1 hc3) (fun _ _ _ => trivial) Xok_T (gM (am := am) (r := 0) (m := m0) (f := (m0 0)) (by decide) rfl) rfl ⟨rfl, rfl⟩ (n := 2) (by decide +kernel) rfl ⟨Nat.le_of_ble_eq_true rfl, Nat.le_of_ble_eq_true rfl⟩ ⟨Nat.le_of_ble_eq_true rfl, Nat.le_of_ble_eq_true rfl⟩ (Nat.le_of_ble_eq_true rfl) rfl dX10_lenderAt_3 (fun H locs hP hD hS => ?_)
  refine lv_iconst (v := 1) hx hb dX10_lenderAt_6 (by decide) ?_
  refine lv_isub hx hb dX10_lenderAt_7 ?_
  cases hF
  exact hret _ _ _ _ _ _ hP hD hS rfl rfl dX10_lenderAt_8
def D_X10_gets (m0 : Nat → Nat → Int32) (p1 : Int32) (p2 : Int32) : Option ((Nat → Nat → Int32)) := (D_X10_set m0 p1 3 (p2 + 1)).bind (fun o2 => (D_X10_c o2 p1 1).bind (fun r4 => (D_X10_set o2 p1 4 r4).bind (fun o8 => some o8)))
abbrev rm_X10_gets : Room := { frames := 1, cells := 0, slots := 0, locals := 23 }
set_option maxHeartbeats 4000000 in
set_option maxRecDepth 100000 in
theorem met_X10_gets (l : Launch) (D : va_G) (cy : Nat → ClassId) (sz : Nat) (am : Nat → Nat) (m0 : Nat → Nat → Int32) (p1 : Int32) (p2 : Int32)  (t' : Nat → Nat → Int32) (hF : D_X10_gets m0 p1 p2 = some t') : MV l yX10_gets cX10_gets 3 rm_X10_gets D cy (mW cy am m0) sz (fun _ => True) [.ref (am 0), .int p1, .int p2] (mW cy am t') := by
  refine MV.of (by decide +kernel) (Nat.le_of_ble_eq_true rfl) ?_
  intro p e s m args below meth c A ls Q hAt _ hP hD hA hS hl hret
  obtain ⟨hx, hb, hr, hml, hown, hw, hlk, hK, hN⟩ := hAt
  have hown : s.vm.findClass "CloudDeedsModel" = some m.cls := hown
  have hl : lv_has ls 3 [(0, .ref (am 0)), (1, .int p1), (2, .int p2)] := hl
  refine lv_aload_n hx hb dX10_gets_0 rfl (lv_at hl 0 rfl) ?_
  refine lv_iload_n hx hb dX10_gets_1 rfl (lv_at hl 1 rfl) ?_
  refine lv_iconst (v := 3) hx hb dX10_gets_2 (by decide) ?_
  refine lv_iload_n hx hb dX10_gets_3 rfl (lv_at hl 2 rfl) ?_
  refine lv_iconst (v := 1) hx hb dX10_gets_4 (by decide) ?_
  refine lv_iadd hx hb dX10_gets_5 ?_
  obtain ⟨o2, hc3, hF⟩ := bind_some hF
  try dsimp only at hF
  refine cV_v (As := [.int p1, .int 3, .int (p2 + 1)]) (rest := []) hx hb hml hown hw hK hN hA hl.1 hP hD hS k_1663 k_1665 k_33 k_90 k_1666 (met_X10_set l D cy _ am m0 p1 3 (p2 + 1) o2 hc3) (fun _ _ _ => trivial) Xok_T (gM (am := am) (r := 0) (m := m0) (f := (m0 0)) (by decide) rfl) rfl ⟨rfl, rfl⟩ (n := 3) (by decide +kernel) rfl ⟨Nat.le_of_ble_eq_true rfl, Nat.le_of_ble_eq_true rfl⟩ ⟨Nat.le_of_ble_eq_true rfl, Nat.le_of_ble_eq_true rfl⟩ (Nat.le_of_ble_eq_true rfl) rfl dX10_gets_6 (fun H locs hP hD hS => ?_)
  refine lv_aload_n hx hb dX10_gets_9 rfl (lv_at hl 0 rfl) ?_
  refine lv_iload_n hx hb dX10_gets_10 rfl (lv_at hl 1 rfl) ?_
  refine lv_iconst (v := 4) hx hb dX10_gets_11 (by decide) ?_
  refine lv_aload_n hx hb dX10_gets_12 rfl (lv_at hl 0 rfl) ?_
  refine lv_iload_n hx hb dX10_gets_13 rfl (lv_at hl 1 rfl) ?_
  refine lv_iconst (v := 1) hx hb dX10_gets_14 (by decide) ?_
  obtain ⟨r4, hc6, hF⟩ := bind_some hF
  try dsimp only at hF
  refine cV_i (As := [.int p1, .int 1]) (rest := [.int 4, .int p1, .ref (am 0)]) hx hb hml hown hw hK hN hA hl.1 hP hD hS k_1702 k_1704 k_40 k_90 k_1705 (met_X10_c l D cy _ am o2 p1 1 r4 hc6) (fun _ _ _ => trivial) Xok_T (gM (am := am) (r := 0) (m := o2) (f := (o2 0)) (by decide) rfl) rfl ⟨rfl, rfl⟩ (n := 2) (by decide +kernel) rfl ⟨Nat.le_of_ble_eq_true rfl, Nat.le_of_ble_eq_true rfl⟩ ⟨Nat.le_of_ble_eq_true rfl, Nat.le_of_ble_eq_true rfl⟩ (Nat.le_of_ble_eq_true rfl) rfl dX10_gets_15 (fun H locs hP hD hS => ?_)
  obtain ⟨o8, hc9, hF⟩ := bind_some hF
  try dsimp only at hF
  refine cV_v (As := [.int p1, .int 4, .int r4]) (rest := []) hx hb hml hown hw hK hN hA hl.1 hP hD hS k_1663 k_1665 k_33 k_90 k_1666 (met_X10_set l D cy _ am o2 p1 4 r4 o8 hc9) (fun _ _ _ => trivial) Xok_T (gM (am := am) (r := 0) (m := o2) (f := (o2 0)) (by decide) rfl) rfl ⟨rfl, rfl⟩ (n := 3) (by decide +kernel) rfl ⟨Nat.le_of_ble_eq_true rfl, Nat.le_of_ble_eq_true rfl⟩ ⟨Nat.le_of_ble_eq_true rfl, Nat.le_of_ble_eq_true rfl⟩ (Nat.le_of_ble_eq_true rfl) rfl dX10_gets_18 (fun H locs hP hD hS => ?_)
  cases hF
  exact hret _ _ _ _ _ hP hD hS rfl dX10_gets_21
def D_X10_frees (m0 : Nat → Nat → Int32) (p1 : Int32) : Option ((Nat → Nat → Int32)) := (D_X10_set m0 p1 5 0).bind (fun o2 => (D_X10_set o2 p1 6 0).bind (fun o5 => some o5))
abbrev rm_X10_frees : Room := { frames := 1, cells := 0, slots := 0, locals := 23 }
set_option maxHeartbeats 4000000 in
set_option maxRecDepth 100000 in
theorem met_X10_frees (l : Launch) (D : va_G) (cy : Nat → ClassId) (sz : Nat) (am : Nat → Nat) (m0 : Nat → Nat → Int32) (p1 : Int32)  (t' : Nat → Nat → Int32) (hF : D_X10_frees m0 p1 = some t') : MV l yX10_frees cX10_frees 2 rm_X10_frees D cy (mW cy am m0) sz (fun _ => True) [.ref (am 0), .int p1] (mW cy am t') := by
  refine MV.of (by decide +kernel) (Nat.le_of_ble_eq_true rfl) ?_
  intro p e s m args below meth c A ls Q hAt _ hP hD hA hS hl hret
  obtain ⟨hx, hb, hr, hml, hown, hw, hlk, hK, hN⟩ := hAt
  have hown : s.vm.findClass "CloudDeedsModel" = some m.cls := hown
  have hl : lv_has ls 2 [(0, .ref (am 0)), (1, .int p1)] := hl
  refine lv_aload_n hx hb dX10_frees_0 rfl (lv_at hl 0 rfl) ?_
  refine lv_iload_n hx hb dX10_frees_1 rfl (lv_at hl 1 rfl) ?_
  refine lv_iconst (v := 5) hx hb dX10_frees_2 (by decide) ?_
  refine lv_iconst (v := 0) hx hb dX10_frees_3 (by decide) ?_
  obtain ⟨o2, hc3, hF⟩ := bind_some hF
  try dsimp only at hF
  refine cV_v (As := [.int p1, .int 5, .int 0]) (rest := []) hx hb hml hown hw hK hN hA hl.1 hP hD hS k_1663 k_1665 k_33 k_90 k_1666 (met_X10_set l D cy _ am m0 p1 5 0 o2 hc3) (fun _ _ _ => trivial) Xok_T (gM (am := am) (r := 0) (m := m0) (f := (m0 0)) (by decide) rfl) rfl ⟨rfl, rfl⟩ (n := 3) (by decide +kernel) rfl ⟨Nat.le_of_ble_eq_true rfl, Nat.le_of_ble_eq_true rfl⟩ ⟨Nat.le_of_ble_eq_true rfl, Nat.le_of_ble_eq_true rfl⟩ (Nat.le_of_ble_eq_true rfl) rfl dX10_frees_4 (fun H locs hP hD hS => ?_)
  refine lv_aload_n hx hb dX10_frees_7 rfl (lv_at hl 0 rfl) ?_
  refine lv_iload_n hx hb dX10_frees_8 rfl (lv_at hl 1 rfl) ?_
  refine lv_bipush (v := 6) hx hb dX10_frees_9 (by decide) ?_
  refine lv_iconst (v := 0) hx hb dX10_frees_11 (by decide) ?_
  obtain ⟨o5, hc6, hF⟩ := bind_some hF
  try dsimp only at hF
  refine cV_v (As := [.int p1, .int 6, .int 0]) (rest := []) hx hb hml hown hw hK hN hA hl.1 hP hD hS k_1663 k_1665 k_33 k_90 k_1666 (met_X10_set l D cy _ am o2 p1 6 0 o5 hc6) (fun _ _ _ => trivial) Xok_T (gM (am := am) (r := 0) (m := o2) (f := (o2 0)) (by decide) rfl) rfl ⟨rfl, rfl⟩ (n := 3) (by decide +kernel) rfl ⟨Nat.le_of_ble_eq_true rfl, Nat.le_of_ble_eq_true rfl⟩ ⟨Nat.le_of_ble_eq_true rfl, Nat.le_of_ble_eq_true rfl⟩ (Nat.le_of_ble_eq_true rfl) rfl dX10_frees_12 (fun H locs hP hD hS => ?_)
  cases hF
  exact hret _ _ _ _ _ hP hD hS rfl dX10_frees_15
def L_X10_carries_2 : Nat → (Nat → Nat → Int32) → (Int32) → (Int32) → (Nat → Nat → Int32) → Option ((Nat → Nat → Int32))
  | 0, _, _, _, _ => none
  | n2 + 1, m0, p1, i2h2, s2 => if inb 0 1152 then (if ((s2 1) (0 : Int32).toNatClampNeg) ≤ i2h2 then (some s2) else ((D_X10_c s2 i2h2 0).bind (fun r3 => (D_X10_set s2 i2h2 0 (((r3 + p1) + 6) - ((r3 + p1) + 6) / 6 * 6)).bind (fun o7 => (D_X10_c o7 i2h2 1).bind (fun r9 => if 0 ≤ p1 then ((D_X10_set o7 i2h2 1 ((r9 + p1) - (r9 + p1) / 6 * 6)).bind (fun o14 => L_X10_carries_2 n2 m0 p1 (i2h2 + 1) o14)) else ((D_X10_set o7 i2h2 1 ((r9 + (-p1)) - (r9 + (-p1)) / 6 * 6)).bind (fun o17 => L_X10_carries_2 n2 m0 p1 (i2h2 + 1) o17))))))) else none
def D_X10_carries (m0 : Nat → Nat → Int32) (p1 : Int32) : Option ((Nat → Nat → Int32)) := L_X10_carries_2 200 m0 p1 0 m0
abbrev rm_X10_carries : Room := { frames := 1, cells := 0, slots := 0, locals := 23 }
set_option maxHeartbeats 4000000 in
set_option maxRecDepth 100000 in
theorem met_X10_carries (l : Launch) (D : va_G) (cy : Nat → ClassId) (sz : Nat) (am : Nat → Nat) (m0 : Nat → Nat → Int32) (p1 : Int32)  (t' : Nat → Nat → Int32) (hF : D_X10_carries m0 p1 = some t') : MV l yX10_carries cX10_carries 3 rm_X10_carries D cy (mW cy am m0) sz (fun _ => True) [.ref (am 0), .int p1] (mW cy am t') := by
  refine MV.of (by decide +kernel) (Nat.le_of_ble_eq_true rfl) ?_
  intro p e s m args below meth c A ls Q hAt _ hP hD hA hS hl hret
  obtain ⟨hx, hb, hr, hml, hown, hw, hlk, hK, hN⟩ := hAt
  have hown : s.vm.findClass "CloudDeedsModel" = some m.cls := hown
  have hl : lv_has ls 3 [(0, .ref (am 0)), (1, .int p1)] := hl
  refine lv_iconst (v := 0) hx hb dX10_carries_0 (by decide) ?_
  refine lv_istore_n (lv' := [(2, .int 0), (0, .ref (am 0)), (1, .int p1)]) hx hb dX10_carries_1 rfl hl (by decide) rfl (fun ls hl => ?_)
  have loop2 : ∀ (n : Nat) (i2h2 : Int32) (s2 : Nat → Nat → Int32) (H : Heap) (locs : List Loc) (ls : Array Slot), L_X10_carries_2 n m0 p1 i2h2 s2 = some t' → va_P D vwCl (mW cy am s2) H → va_D A (mW cy am s2) → va_S A s.heap H locs → lv_has ls 3 [(2, .int i2h2), (0, .ref (am 0)), (1, .int p1)] → W p l e rm_X10_carries s m args below meth c H locs 0 0 Q (F0 m 2 ls []) := by
    intro n
    induction n with
    | zero => intro i2h2 s2 H locs ls hF _ _ _ _; exact absurd hF (by simp [L_X10_carries_2])
    | succ n2 ih2 =>
      intro i2h2 s2 H locs ls hF hP hD hS hl
      refine lv_iload_n hx hb dX10_carries_2 rfl (lv_at hl 0 rfl) ?_
      refine lv_aload_n hx hb dX10_carries_3 rfl (lv_at hl 1 rfl) ?_
      refine get' (ci := 12) (fs := mF am (s2 0)) (v := .ref (am 1)) hx hb hw inWX10 hown hK hP (gM (am := am) (r := 0) (m := s2) (f := (s2 0)) (by decide) rfl) rfl 1 (by decide) k_1571 rfl rfl dX10_carries_4 ?_
      refine lv_iconst (v := 0) hx hb dX10_carries_7 (by decide) ?_
      obtain ⟨h1, hF⟩ := ite_some hF
      refine va_iald (n := 1152) (f := (s2 1)) hx hb hK hP _ 0 (gM (am := am) (r := 1) (m := s2) (f := (s2 1)) (by decide) rfl) rfl (vp_inb h1) dX10_carries_8 ?_
      refine lv_icmp_ge (tgt := 64) hx hb dX10_carries_9 (by decide) (fun h2 => ?_) (fun h2 => ?_)
      · replace hF := (if_pos h2).symm.trans hF
        cases hF
        exact hret _ _ _ _ _ hP hD hS rfl dX10_carries_64
      · replace hF := (if_neg h2).symm.trans hF
        refine lv_aload_n hx hb dX10_carries_12 rfl (lv_at hl 1 rfl) ?_
        refine lv_iload_n hx hb dX10_carries_13 rfl (lv_at hl 0 rfl) ?_
        refine lv_iconst (v := 0) hx hb dX10_carries_14 (by decide) ?_
        refine lv_aload_n hx hb dX10_carries_15 rfl (lv_at hl 1 rfl) ?_
        refine lv_iload_n hx hb dX10_carries_16 rfl (lv_at hl 0 rfl) ?_
        refine lv_iconst (v := 0) hx hb dX10_carries_17 (by decide) ?_
        obtain ⟨r3, hc5, hF⟩ := bind_some hF
        try dsimp only at hF
        refine cV_i (As := [.int i2h2, .int 0]) (rest := [.int 0, .int i2h2, .ref (am 0)]) hx hb hml hown hw hK hN hA hl.1 hP hD hS k_1702 k_1704 k_40 k_90 k_1705 (met_X10_c l D cy _ am s2 i2h2 0 r3 hc5) (fun _ _ _ => trivial) Xok_T (gM (am := am) (r := 0) (m := s2) (f := (s2 0)) (by decide) rfl) rfl ⟨rfl, rfl⟩ (n := 2) (by decide +kernel) rfl ⟨Nat.le_of_ble_eq_true rfl, Nat.le_of_ble_eq_true rfl⟩ ⟨Nat.le_of_ble_eq_true rfl, Nat.le_of_ble_eq_true rfl⟩ (Nat.le_of_ble_eq_true rfl) rfl dX10_carries_18 (fun H locs hP hD hS => ?_)
        refine lv_iload_n hx hb dX10_carries_21 rfl (lv_at hl 2 rfl) ?_
        refine lv_iadd hx hb dX10_carries_22 ?_
        refine lv_bipush (v := 6) hx hb dX10_carries_23 (by decide) ?_
        refine lv_iadd hx hb dX10_carries_25 ?_
        refine lv_bipush (v := 6) hx hb dX10_carries_26 (by decide) ?_
        refine lv_irem hx hb dX10_carries_28 (by decide) ?_
        obtain ⟨o7, hc8, hF⟩ := bind_some hF
        try dsimp only at hF
        refine cV_v (As := [.int i2h2, .int 0, .int (((r3 + p1) + 6) - ((r3 + p1) + 6) / 6 * 6)]) (rest := []) hx hb hml hown hw hK hN hA hl.1 hP hD hS k_1663 k_1665 k_33 k_90 k_1666 (met_X10_set l D cy _ am s2 i2h2 0 (((r3 + p1) + 6) - ((r3 + p1) + 6) / 6 * 6) o7 hc8) (fun _ _ _ => trivial) Xok_T (gM (am := am) (r := 0) (m := s2) (f := (s2 0)) (by decide) rfl) rfl ⟨rfl, rfl⟩ (n := 3) (by decide +kernel) rfl ⟨Nat.le_of_ble_eq_true rfl, Nat.le_of_ble_eq_true rfl⟩ ⟨Nat.le_of_ble_eq_true rfl, Nat.le_of_ble_eq_true rfl⟩ (Nat.le_of_ble_eq_true rfl) rfl dX10_carries_29 (fun H locs hP hD hS => ?_)
        refine lv_aload_n hx hb dX10_carries_32 rfl (lv_at hl 1 rfl) ?_
        refine lv_iload_n hx hb dX10_carries_33 rfl (lv_at hl 0 rfl) ?_
        refine lv_iconst (v := 1) hx hb dX10_carries_34 (by decide) ?_
        refine lv_aload_n hx hb dX10_carries_35 rfl (lv_at hl 1 rfl) ?_
        refine lv_iload_n hx hb dX10_carries_36 rfl (lv_at hl 0 rfl) ?_
        refine lv_iconst (v := 1) hx hb dX10_carries_37 (by decide) ?_
        obtain ⟨r9, hc11, hF⟩ := bind_some hF
        try dsimp only at hF
        refine cV_i (As := [.int i2h2, .int 1]) (rest := [.int 1, .int i2h2, .ref (am 0)]) hx hb hml hown hw hK hN hA hl.1 hP hD hS k_1702 k_1704 k_40 k_90 k_1705 (met_X10_c l D cy _ am o7 i2h2 1 r9 hc11) (fun _ _ _ => trivial) Xok_T (gM (am := am) (r := 0) (m := o7) (f := (o7 0)) (by decide) rfl) rfl ⟨rfl, rfl⟩ (n := 2) (by decide +kernel) rfl ⟨Nat.le_of_ble_eq_true rfl, Nat.le_of_ble_eq_true rfl⟩ ⟨Nat.le_of_ble_eq_true rfl, Nat.le_of_ble_eq_true rfl⟩ (Nat.le_of_ble_eq_true rfl) rfl dX10_carries_38 (fun H locs hP hD hS => ?_)
        refine lv_iload_n hx hb dX10_carries_41 rfl (lv_at hl 2 rfl) ?_
        refine lv_if_ge (tgt := 50) hx hb dX10_carries_42 (by decide) (fun h12 => ?_) (fun h12 => ?_)
        · replace hF := (if_pos h12).symm.trans hF
          refine lv_iload_n hx hb dX10_carries_50 rfl (lv_at hl 2 rfl) ?_
          refine lv_iadd hx hb dX10_carries_51 ?_
          refine lv_bipush (v := 6) hx hb dX10_carries_52 (by decide) ?_
          refine lv_irem hx hb dX10_carries_54 (by decide) ?_
          obtain ⟨o14, hc15, hF⟩ := bind_some hF
          try dsimp only at hF
          refine cV_v (As := [.int i2h2, .int 1, .int ((r9 + p1) - (r9 + p1) / 6 * 6)]) (rest := []) hx hb hml hown hw hK hN hA hl.1 hP hD hS k_1663 k_1665 k_33 k_90 k_1666 (met_X10_set l D cy _ am o7 i2h2 1 ((r9 + p1) - (r9 + p1) / 6 * 6) o14 hc15) (fun _ _ _ => trivial) Xok_T (gM (am := am) (r := 0) (m := o7) (f := (o7 0)) (by decide) rfl) rfl ⟨rfl, rfl⟩ (n := 3) (by decide +kernel) rfl ⟨Nat.le_of_ble_eq_true rfl, Nat.le_of_ble_eq_true rfl⟩ ⟨Nat.le_of_ble_eq_true rfl, Nat.le_of_ble_eq_true rfl⟩ (Nat.le_of_ble_eq_true rfl) rfl dX10_carries_55 (fun H locs hP hD hS => ?_)
          refine lv_iinc (v := (i2h2 + 1)) (lv' := [(2, .int (i2h2 + 1)), (0, .ref (am 0)), (1, .int p1)]) hx hb dX10_carries_58 hl (k := 0) rfl rfl (by decide) rfl (fun ls hl => ?_)
          refine lv_goto (tgt := 2) hx hb dX10_carries_61 (by decide) ?_
          exact ih2 (i2h2 + 1) o14 _ _ _ hF hP hD hS (lv_sub hl [0, 1, 2] rfl)
        · replace hF := (if_neg h12).symm.trans hF
          refine lv_iload_n hx hb dX10_carries_45 rfl (lv_at hl 2 rfl) ?_
          refine lv_ineg hx hb dX10_carries_46 ?_
          refine lv_goto (tgt := 51) hx hb dX10_carries_47 (by decide) ?_
          refine lv_iadd hx hb dX10_carries_51 ?_
          refine lv_bipush (v := 6) hx hb dX10_carries_52 (by decide) ?_
          refine lv_irem hx hb dX10_carries_54 (by decide) ?_
          obtain ⟨o17, hc18, hF⟩ := bind_some hF
          try dsimp only at hF
          refine cV_v (As := [.int i2h2, .int 1, .int ((r9 + (-p1)) - (r9 + (-p1)) / 6 * 6)]) (rest := []) hx hb hml hown hw hK hN hA hl.1 hP hD hS k_1663 k_1665 k_33 k_90 k_1666 (met_X10_set l D cy _ am o7 i2h2 1 ((r9 + (-p1)) - (r9 + (-p1)) / 6 * 6) o17 hc18) (fun _ _ _ => trivial) Xok_T (gM (am := am) (r := 0) (m := o7) (f := (o7 0)) (by decide) rfl) rfl ⟨rfl, rfl⟩ (n := 3) (by decide +kernel) rfl ⟨Nat.le_of_ble_eq_true rfl, Nat.le_of_ble_eq_true rfl⟩ ⟨Nat.le_of_ble_eq_true rfl, Nat.le_of_ble_eq_true rfl⟩ (Nat.le_of_ble_eq_true rfl) rfl dX10_carries_55 (fun H locs hP hD hS => ?_)
          refine lv_iinc (v := (i2h2 + 1)) (lv' := [(2, .int (i2h2 + 1)), (0, .ref (am 0)), (1, .int p1)]) hx hb dX10_carries_58 hl (k := 0) rfl rfl (by decide) rfl (fun ls hl => ?_)
          refine lv_goto (tgt := 2) hx hb dX10_carries_61 (by decide) ?_
          exact ih2 (i2h2 + 1) o17 _ _ _ hF hP hD hS (lv_sub hl [0, 1, 2] rfl)
  exact loop2 200 0 m0 _ _ _ hF hP hD hS (lv_sub hl [0, 1, 2] rfl)
def L_X10_goes_67 : Nat → (Nat → Nat → Int32) → (Int32) → (Int32) → (Nat → Nat → Int32) → (Int32) → (Nat → Nat → Int32) → Option ((Nat → Nat → Int32))
  | 0, _, _, _, _, _, _ => none
  | n67 + 1, m0, p1, i2h25, s25, i2h67, s67 => if 7 ≤ i2h67 then (some s67) else (if inb 0 1152 then ((D_X10_set s67 ((s67 1) (0 : Int32).toNatClampNeg) i2h67 0).bind (fun o10 => L_X10_goes_67 n67 m0 p1 i2h25 s25 (i2h67 + 1) o10)) else none)
def L_X10_goes_25 : Nat → (Nat → Nat → Int32) → (Int32) → (Int32) → (Nat → Nat → Int32) → Option ((Nat → Nat → Int32))
  | 0, _, _, _, _ => none
  | n25 + 1, m0, p1, i2h25, s25 => if inb 0 1152 then (if (7 * ((s25 1) (0 : Int32).toNatClampNeg)) ≤ i2h25 then (L_X10_goes_67 200 m0 p1 i2h25 s25 0 s25) else (if inb ((19 + i2h25) + 7) 1152 then (if inb (19 + i2h25) 1152 then (L_X10_goes_25 n25 m0 p1 (i2h25 + 1) (va_up s25 1 (upd (s25 1) ((19 + i2h25).toNatClampNeg) ((s25 1) ((19 + i2h25) + 7).toNatClampNeg)))) else none) else none)) else none
def D_X10_goes (m0 : Nat → Nat → Int32) (p1 : Int32) : Option ((Nat → Nat → Int32)) := if inb 0 1152 then (if inb 0 1152 then (if inb 5 1152 then (if inb 5 1152 then (L_X10_goes_25 200 m0 p1 (7 * p1) (va_up m0 1 (upd (upd (m0 1) ((0 : Int32).toNatClampNeg) (((m0 1) (0 : Int32).toNatClampNeg) - 1)) ((5 : Int32).toNatClampNeg) (((upd (m0 1) ((0 : Int32).toNatClampNeg) (((m0 1) (0 : Int32).toNatClampNeg) - 1)) (5 : Int32).toNatClampNeg) + 1)))) else none) else none) else none) else none
abbrev rm_X10_goes : Room := { frames := 1, cells := 0, slots := 0, locals := 23 }
set_option maxHeartbeats 4000000 in
set_option maxRecDepth 100000 in
theorem met_X10_goes (l : Launch) (D : va_G) (cy : Nat → ClassId) (sz : Nat) (am : Nat → Nat) (m0 : Nat → Nat → Int32) (p1 : Int32)  (t' : Nat → Nat → Int32) (hF : D_X10_goes m0 p1 = some t') : MV l yX10_goes cX10_goes 3 rm_X10_goes D cy (mW cy am m0) sz (fun _ => True) [.ref (am 0), .int p1] (mW cy am t') := by
  refine MV.of (by decide +kernel) (Nat.le_of_ble_eq_true rfl) ?_
  intro p e s m args below meth c A ls Q hAt _ hP hD hA hS hl hret
  obtain ⟨hx, hb, hr, hml, hown, hw, hlk, hK, hN⟩ := hAt
  have hown : s.vm.findClass "CloudDeedsModel" = some m.cls := hown
  have hl : lv_has ls 3 [(0, .ref (am 0)), (1, .int p1)] := hl
  refine lv_aload_n hx hb dX10_goes_0 rfl (lv_at hl 0 rfl) ?_
  refine get' (ci := 12) (fs := mF am (m0 0)) (v := .ref (am 1)) hx hb hw inWX10 hown hK hP (gM (am := am) (r := 0) (m := m0) (f := (m0 0)) (by decide) rfl) rfl 1 (by decide) k_1571 rfl rfl dX10_goes_1 ?_
  refine lv_iconst (v := 0) hx hb dX10_goes_4 (by decide) ?_
  refine lv_dup2_11 hx hb dX10_goes_5 rfl rfl ?_
  obtain ⟨h1, hF⟩ := ite_some hF
  refine va_iald (n := 1152) (f := (m0 1)) hx hb hK hP _ 0 (gM (am := am) (r := 1) (m := m0) (f := (m0 1)) (by decide) rfl) rfl (vp_inb h1) dX10_goes_6 ?_
  refine lv_iconst (v := 1) hx hb dX10_goes_7 (by decide) ?_
  refine lv_isub hx hb dX10_goes_8 ?_
  obtain ⟨h2, hF⟩ := ite_some hF
  refine iast' (n := 1152) (f := (m0 1)) (ws' := (mW cy am (va_up m0 1 (upd (m0 1) ((0 : Int32).toNatClampNeg) (((m0 1) (0 : Int32).toNatClampNeg) - 1))))) hx hb hK hP hD hS (gM (am := am) (r := 1) (m := m0) (f := (m0 1)) (by decide) rfl) (t0 := 0) rfl (vp_inb h2) dX10_goes_9 (sM (am := am) (r := 1) (m := m0) (g := (upd (m0 1) ((0 : Int32).toNatClampNeg) (((m0 1) (0 : Int32).toNatClampNeg) - 1))) (by decide)) (fun H locs hP hD hS => ?_)
  refine lv_aload_n hx hb dX10_goes_10 rfl (lv_at hl 0 rfl) ?_
  refine get' (ci := 12) (fs := mF am (m0 0)) (v := .ref (am 1)) hx hb hw inWX10 hown hK hP (gM (am := am) (r := 0) (m := (va_up m0 1 (upd (m0 1) ((0 : Int32).toNatClampNeg) (((m0 1) (0 : Int32).toNatClampNeg) - 1)))) (f := (m0 0)) (by decide) ((va_up_ne _ _ (by decide)).trans rfl)) rfl 1 (by decide) k_1571 rfl rfl dX10_goes_11 ?_
  refine lv_iconst (v := 5) hx hb dX10_goes_14 (by decide) ?_
  refine lv_dup2_11 hx hb dX10_goes_15 rfl rfl ?_
  obtain ⟨h3, hF⟩ := ite_some hF
  refine va_iald (n := 1152) (f := (upd (m0 1) ((0 : Int32).toNatClampNeg) (((m0 1) (0 : Int32).toNatClampNeg) - 1))) hx hb hK hP _ 0 (gM (am := am) (r := 1) (m := (va_up m0 1 (upd (m0 1) ((0 : Int32).toNatClampNeg) (((m0 1) (0 : Int32).toNatClampNeg) - 1)))) (f := (upd (m0 1) ((0 : Int32).toNatClampNeg) (((m0 1) (0 : Int32).toNatClampNeg) - 1))) (by decide) (va_up_self _ _ _)) rfl (vp_inb h3) dX10_goes_16 ?_
  refine lv_iconst (v := 1) hx hb dX10_goes_17 (by decide) ?_
  refine lv_iadd hx hb dX10_goes_18 ?_
  obtain ⟨h4, hF⟩ := ite_some hF
  refine iast' (n := 1152) (f := (upd (m0 1) ((0 : Int32).toNatClampNeg) (((m0 1) (0 : Int32).toNatClampNeg) - 1))) (ws' := (mW cy am (va_up m0 1 (upd (upd (m0 1) ((0 : Int32).toNatClampNeg) (((m0 1) (0 : Int32).toNatClampNeg) - 1)) ((5 : Int32).toNatClampNeg) (((upd (m0 1) ((0 : Int32).toNatClampNeg) (((m0 1) (0 : Int32).toNatClampNeg) - 1)) (5 : Int32).toNatClampNeg) + 1))))) hx hb hK hP hD hS (gM (am := am) (r := 1) (m := (va_up m0 1 (upd (m0 1) ((0 : Int32).toNatClampNeg) (((m0 1) (0 : Int32).toNatClampNeg) - 1)))) (f := (upd (m0 1) ((0 : Int32).toNatClampNeg) (((m0 1) (0 : Int32).toNatClampNeg) - 1))) (by decide) (va_up_self _ _ _)) (t0 := 0) rfl (vp_inb h4) dX10_goes_19 ((sM (am := am) (r := 1) (m := (va_up m0 1 (upd (m0 1) ((0 : Int32).toNatClampNeg) (((m0 1) (0 : Int32).toNatClampNeg) - 1)))) (g := (upd (upd (m0 1) ((0 : Int32).toNatClampNeg) (((m0 1) (0 : Int32).toNatClampNeg) - 1)) ((5 : Int32).toNatClampNeg) (((upd (m0 1) ((0 : Int32).toNatClampNeg) (((m0 1) (0 : Int32).toNatClampNeg) - 1)) (5 : Int32).toNatClampNeg) + 1))) (by decide)).trans (congrArg (fun z => mW cy am z) (up_up _ _ _ _))) (fun H locs hP hD hS => ?_)
  refine lv_bipush (v := 7) hx hb dX10_goes_20 (by decide) ?_
  refine lv_iload_n hx hb dX10_goes_22 rfl (lv_at hl 1 rfl) ?_
  refine lv_imul hx hb dX10_goes_23 ?_
  refine lv_istore_n (lv' := [(2, .int (7 * p1)), (0, .ref (am 0)), (1, .int p1)]) hx hb dX10_goes_24 rfl hl (by decide) rfl (fun ls hl => ?_)
  have loop25 : ∀ (n : Nat) (i2h25 : Int32) (s25 : Nat → Nat → Int32) (H : Heap) (locs : List Loc) (ls : Array Slot), L_X10_goes_25 n m0 p1 i2h25 s25 = some t' → va_P D vwCl (mW cy am s25) H → va_D A (mW cy am s25) → va_S A s.heap H locs → lv_has ls 3 [(2, .int i2h25), (0, .ref (am 0)), (1, .int p1)] → W p l e rm_X10_goes s m args below meth c H locs 0 0 Q (F0 m 25 ls []) := by
    intro n
    induction n with
    | zero => intro i2h25 s25 H locs ls hF _ _ _ _; exact absurd hF (by simp [L_X10_goes_25])
    | succ n25 ih25 =>
      intro i2h25 s25 H locs ls hF hP hD hS hl
      refine lv_iload_n hx hb dX10_goes_25 rfl (lv_at hl 0 rfl) ?_
      refine lv_bipush (v := 7) hx hb dX10_goes_26 (by decide) ?_
      refine lv_aload_n hx hb dX10_goes_28 rfl (lv_at hl 1 rfl) ?_
      refine get' (ci := 12) (fs := mF am (s25 0)) (v := .ref (am 1)) hx hb hw inWX10 hown hK hP (gM (am := am) (r := 0) (m := s25) (f := (s25 0)) (by decide) rfl) rfl 1 (by decide) k_1571 rfl rfl dX10_goes_29 ?_
      refine lv_iconst (v := 0) hx hb dX10_goes_32 (by decide) ?_
      obtain ⟨h5, hF⟩ := ite_some hF
      refine va_iald (n := 1152) (f := (s25 1)) hx hb hK hP _ 0 (gM (am := am) (r := 1) (m := s25) (f := (s25 1)) (by decide) rfl) rfl (vp_inb h5) dX10_goes_33 ?_
      refine lv_imul hx hb dX10_goes_34 ?_
      refine lv_icmp_ge (tgt := 65) hx hb dX10_goes_35 (by decide) (fun h6 => ?_) (fun h6 => ?_)
      · replace hF := (if_pos h6).symm.trans hF
        refine lv_iconst (v := 0) hx hb dX10_goes_65 (by decide) ?_
        refine lv_istore_n (lv' := [(2, .int 0), (0, .ref (am 0)), (1, .int p1)]) hx hb dX10_goes_66 rfl hl (by decide) rfl (fun ls hl => ?_)
        have loop67 : ∀ (n : Nat) (i2h67 : Int32) (s67 : Nat → Nat → Int32) (H : Heap) (locs : List Loc) (ls : Array Slot), L_X10_goes_67 n m0 p1 i2h25 s25 i2h67 s67 = some t' → va_P D vwCl (mW cy am s67) H → va_D A (mW cy am s67) → va_S A s.heap H locs → lv_has ls 3 [(2, .int i2h67), (0, .ref (am 0)), (1, .int p1)] → W p l e rm_X10_goes s m args below meth c H locs 0 0 Q (F0 m 67 ls []) := by
          intro n
          induction n with
          | zero => intro i2h67 s67 H locs ls hF _ _ _ _; exact absurd hF (by simp [L_X10_goes_67])
          | succ n67 ih67 =>
            intro i2h67 s67 H locs ls hF hP hD hS hl
            refine lv_iload_n hx hb dX10_goes_67 rfl (lv_at hl 0 rfl) ?_
            refine lv_bipush (v := 7) hx hb dX10_goes_68 (by decide) ?_
            refine lv_icmp_ge (tgt := 91) hx hb dX10_goes_70 (by decide) (fun h7 => ?_) (fun h7 => ?_)
            · replace hF := (if_pos h7).symm.trans hF
              cases hF
              exact hret _ _ _ _ _ hP hD hS rfl dX10_goes_91
            · replace hF := (if_neg h7).symm.trans hF
              refine lv_aload_n hx hb dX10_goes_73 rfl (lv_at hl 1 rfl) ?_
              refine lv_aload_n hx hb dX10_goes_74 rfl (lv_at hl 1 rfl) ?_
              refine get' (ci := 12) (fs := mF am (s67 0)) (v := .ref (am 1)) hx hb hw inWX10 hown hK hP (gM (am := am) (r := 0) (m := s67) (f := (s67 0)) (by decide) rfl) rfl 1 (by decide) k_1571 rfl rfl dX10_goes_75 ?_
              refine lv_iconst (v := 0) hx hb dX10_goes_78 (by decide) ?_
              obtain ⟨h8, hF⟩ := ite_some hF
              refine va_iald (n := 1152) (f := (s67 1)) hx hb hK hP _ 0 (gM (am := am) (r := 1) (m := s67) (f := (s67 1)) (by decide) rfl) rfl (vp_inb h8) dX10_goes_79 ?_
              refine lv_iload_n hx hb dX10_goes_80 rfl (lv_at hl 0 rfl) ?_
              refine lv_iconst (v := 0) hx hb dX10_goes_81 (by decide) ?_
              obtain ⟨o10, hc11, hF⟩ := bind_some hF
              try dsimp only at hF
              refine cV_v (As := [.int ((s67 1) (0 : Int32).toNatClampNeg), .int i2h67, .int 0]) (rest := []) hx hb hml hown hw hK hN hA hl.1 hP hD hS k_1663 k_1665 k_33 k_90 k_1666 (met_X10_set l D cy _ am s67 ((s67 1) (0 : Int32).toNatClampNeg) i2h67 0 o10 hc11) (fun _ _ _ => trivial) Xok_T (gM (am := am) (r := 0) (m := s67) (f := (s67 0)) (by decide) rfl) rfl ⟨rfl, rfl⟩ (n := 3) (by decide +kernel) rfl ⟨Nat.le_of_ble_eq_true rfl, Nat.le_of_ble_eq_true rfl⟩ ⟨Nat.le_of_ble_eq_true rfl, Nat.le_of_ble_eq_true rfl⟩ (Nat.le_of_ble_eq_true rfl) rfl dX10_goes_82 (fun H locs hP hD hS => ?_)
              refine lv_iinc (v := (i2h67 + 1)) (lv' := [(2, .int (i2h67 + 1)), (0, .ref (am 0)), (1, .int p1)]) hx hb dX10_goes_85 hl (k := 0) rfl rfl (by decide) rfl (fun ls hl => ?_)
              refine lv_goto (tgt := 67) hx hb dX10_goes_88 (by decide) ?_
              exact ih67 (i2h67 + 1) o10 _ _ _ hF hP hD hS (lv_sub hl [0, 1, 2] rfl)
        exact loop67 200 0 s25 _ _ _ hF hP hD hS (lv_sub hl [0, 1, 2] rfl)
      · replace hF := (if_neg h6).symm.trans hF
        refine lv_aload_n hx hb dX10_goes_38 rfl (lv_at hl 1 rfl) ?_
        refine get' (ci := 12) (fs := mF am (s25 0)) (v := .ref (am 1)) hx hb hw inWX10 hown hK hP (gM (am := am) (r := 0) (m := s25) (f := (s25 0)) (by decide) rfl) rfl 1 (by decide) k_1571 rfl rfl dX10_goes_39 ?_
        refine lv_bipush (v := 19) hx hb dX10_goes_42 (by decide) ?_
        refine lv_iload_n hx hb dX10_goes_44 rfl (lv_at hl 0 rfl) ?_
        refine lv_iadd hx hb dX10_goes_45 ?_
        refine lv_aload_n hx hb dX10_goes_46 rfl (lv_at hl 1 rfl) ?_
        refine get' (ci := 12) (fs := mF am (s25 0)) (v := .ref (am 1)) hx hb hw inWX10 hown hK hP (gM (am := am) (r := 0) (m := s25) (f := (s25 0)) (by decide) rfl) rfl 1 (by decide) k_1571 rfl rfl dX10_goes_47 ?_
        refine lv_bipush (v := 19) hx hb dX10_goes_50 (by decide) ?_
        refine lv_iload_n hx hb dX10_goes_52 rfl (lv_at hl 0 rfl) ?_
        refine lv_iadd hx hb dX10_goes_53 ?_
        refine lv_bipush (v := 7) hx hb dX10_goes_54 (by decide) ?_
        refine lv_iadd hx hb dX10_goes_56 ?_
        obtain ⟨h12, hF⟩ := ite_some hF
        refine va_iald (n := 1152) (f := (s25 1)) hx hb hK hP _ 0 (gM (am := am) (r := 1) (m := s25) (f := (s25 1)) (by decide) rfl) rfl (vp_inb h12) dX10_goes_57 ?_
        obtain ⟨h13, hF⟩ := ite_some hF
        refine iast' (n := 1152) (f := (s25 1)) (ws' := (mW cy am (va_up s25 1 (upd (s25 1) ((19 + i2h25).toNatClampNeg) ((s25 1) ((19 + i2h25) + 7).toNatClampNeg))))) hx hb hK hP hD hS (gM (am := am) (r := 1) (m := s25) (f := (s25 1)) (by decide) rfl) (t0 := 0) rfl (vp_inb h13) dX10_goes_58 (sM (am := am) (r := 1) (m := s25) (g := (upd (s25 1) ((19 + i2h25).toNatClampNeg) ((s25 1) ((19 + i2h25) + 7).toNatClampNeg))) (by decide)) (fun H locs hP hD hS => ?_)
        refine lv_iinc (v := (i2h25 + 1)) (lv' := [(2, .int (i2h25 + 1)), (0, .ref (am 0)), (1, .int p1)]) hx hb dX10_goes_59 hl (k := 0) rfl rfl (by decide) rfl (fun ls hl => ?_)
        refine lv_goto (tgt := 25) hx hb dX10_goes_62 (by decide) ?_
        exact ih25 (i2h25 + 1) (va_up s25 1 (upd (s25 1) ((19 + i2h25).toNatClampNeg) ((s25 1) ((19 + i2h25) + 7).toNatClampNeg))) _ _ _ hF hP hD hS (lv_sub hl [0, 1, 2] rfl)
  exact loop25 200 (7 * p1) (va_up m0 1 (upd (upd (m0 1) ((0 : Int32).toNatClampNeg) (((m0 1) (0 : Int32).toNatClampNeg) - 1)) ((5 : Int32).toNatClampNeg) (((upd (m0 1) ((0 : Int32).toNatClampNeg) (((m0 1) (0 : Int32).toNatClampNeg) - 1)) (5 : Int32).toNatClampNeg) + 1))) _ _ _ hF hP hD hS (lv_sub hl [0, 1, 2] rfl)
def L_X10_records_51 : Nat → (Nat → Nat → Int32) → (Int32) → (Nat → Nat → Int32) → (Int32) → (Nat → Nat → Int32) → Option ((Nat → Nat → Int32))
  | 0, _, _, _, _, _ => none
  | n51 + 1, m0, i1h3, s3, i1h51, s51 => if 6 ≤ i1h51 then (if inb 8 1152 then (if 5 ≤ ((s51 1) (8 : Int32).toNatClampNeg) then (if inb 8 1152 then (some (va_up s51 1 (upd (s51 1) ((8 : Int32).toNatClampNeg) 5))) else none) else (if inb 8 1152 then (if inb 8 1152 then (some (va_up s51 1 (upd (s51 1) ((8 : Int32).toNatClampNeg) (((s51 1) (8 : Int32).toNatClampNeg) + 1)))) else none) else none)) else none) else (if inb 0 1152 then (if ((s51 1) (0 : Int32).toNatClampNeg) ≤ i1h51 then (if inb (62 + i1h51) 1152 then (L_X10_records_51 n51 m0 i1h3 s3 (i1h51 + 1) (va_up s51 1 (upd (s51 1) ((62 + i1h51).toNatClampNeg) 0))) else none) else ((D_X10_c s51 i1h51 3).bind (fun r13 => if inb (62 + i1h51) 1152 then (L_X10_records_51 n51 m0 i1h3 s3 (i1h51 + 1) (va_up s51 1 (upd (s51 1) ((62 + i1h51).toNatClampNeg) r13))) else none))) else none)
def L_X10_records_3 : Nat → (Nat → Nat → Int32) → (Int32) → (Nat → Nat → Int32) → Option ((Nat → Nat → Int32))
  | 0, _, _, _ => none
  | n3 + 1, m0, i1h3, s3 => if i1h3 < 7 then (if inb 0 1152 then (if inb 61 1152 then (L_X10_records_51 200 m0 i1h3 s3 0 (va_up s3 1 (upd (s3 1) ((61 : Int32).toNatClampNeg) ((s3 1) (0 : Int32).toNatClampNeg)))) else none) else none) else (if inb ((61 + i1h3) - 7) 1152 then (if inb (61 + i1h3) 1152 then (L_X10_records_3 n3 m0 (i1h3 + (-1)) (va_up s3 1 (upd (s3 1) ((61 + i1h3).toNatClampNeg) ((s3 1) ((61 + i1h3) - 7).toNatClampNeg)))) else none) else none)
def D_X10_records (m0 : Nat → Nat → Int32) : Option ((Nat → Nat → Int32)) := L_X10_records_3 200 m0 34 m0
abbrev rm_X10_records : Room := { frames := 1, cells := 0, slots := 0, locals := 22 }
set_option maxHeartbeats 4000000 in
set_option maxRecDepth 100000 in
theorem met_X10_records (l : Launch) (D : va_G) (cy : Nat → ClassId) (sz : Nat) (am : Nat → Nat) (m0 : Nat → Nat → Int32)  (t' : Nat → Nat → Int32) (hF : D_X10_records m0 = some t') : MV l yX10_records cX10_records 2 rm_X10_records D cy (mW cy am m0) sz (fun _ => True) [.ref (am 0)] (mW cy am t') := by
  refine MV.of (by decide +kernel) (Nat.le_of_ble_eq_true rfl) ?_
  intro p e s m args below meth c A ls Q hAt _ hP hD hA hS hl hret
  obtain ⟨hx, hb, hr, hml, hown, hw, hlk, hK, hN⟩ := hAt
  have hown : s.vm.findClass "CloudDeedsModel" = some m.cls := hown
  have hl : lv_has ls 2 [(0, .ref (am 0))] := hl
  refine lv_bipush (v := 34) hx hb dX10_records_0 (by decide) ?_
  refine lv_istore_n (lv' := [(1, .int 34), (0, .ref (am 0))]) hx hb dX10_records_2 rfl hl (by decide) rfl (fun ls hl => ?_)
  have loop3 : ∀ (n : Nat) (i1h3 : Int32) (s3 : Nat → Nat → Int32) (H : Heap) (locs : List Loc) (ls : Array Slot), L_X10_records_3 n m0 i1h3 s3 = some t' → va_P D vwCl (mW cy am s3) H → va_D A (mW cy am s3) → va_S A s.heap H locs → lv_has ls 2 [(1, .int i1h3), (0, .ref (am 0))] → W p l e rm_X10_records s m args below meth c H locs 0 0 Q (F0 m 3 ls []) := by
    intro n
    induction n with
    | zero => intro i1h3 s3 H locs ls hF _ _ _ _; exact absurd hF (by simp [L_X10_records_3])
    | succ n3 ih3 =>
      intro i1h3 s3 H locs ls hF hP hD hS hl
      refine lv_iload_n hx hb dX10_records_3 rfl (lv_at hl 0 rfl) ?_
      refine lv_bipush (v := 7) hx hb dX10_records_4 (by decide) ?_
      refine lv_icmp_lt (tgt := 36) hx hb dX10_records_6 (by decide) (fun h1 => ?_) (fun h1 => ?_)
      · replace hF := (if_pos h1).symm.trans hF
        refine lv_aload_n hx hb dX10_records_36 rfl (lv_at hl 1 rfl) ?_
        refine get' (ci := 12) (fs := mF am (s3 0)) (v := .ref (am 1)) hx hb hw inWX10 hown hK hP (gM (am := am) (r := 0) (m := s3) (f := (s3 0)) (by decide) rfl) rfl 1 (by decide) k_1571 rfl rfl dX10_records_37 ?_
        refine lv_bipush (v := 61) hx hb dX10_records_40 (by decide) ?_
        refine lv_aload_n hx hb dX10_records_42 rfl (lv_at hl 1 rfl) ?_
        refine get' (ci := 12) (fs := mF am (s3 0)) (v := .ref (am 1)) hx hb hw inWX10 hown hK hP (gM (am := am) (r := 0) (m := s3) (f := (s3 0)) (by decide) rfl) rfl 1 (by decide) k_1571 rfl rfl dX10_records_43 ?_
        refine lv_iconst (v := 0) hx hb dX10_records_46 (by decide) ?_
        obtain ⟨h2, hF⟩ := ite_some hF
        refine va_iald (n := 1152) (f := (s3 1)) hx hb hK hP _ 0 (gM (am := am) (r := 1) (m := s3) (f := (s3 1)) (by decide) rfl) rfl (vp_inb h2) dX10_records_47 ?_
        obtain ⟨h3, hF⟩ := ite_some hF
        refine iast' (n := 1152) (f := (s3 1)) (ws' := (mW cy am (va_up s3 1 (upd (s3 1) ((61 : Int32).toNatClampNeg) ((s3 1) (0 : Int32).toNatClampNeg))))) hx hb hK hP hD hS (gM (am := am) (r := 1) (m := s3) (f := (s3 1)) (by decide) rfl) (t0 := 0) rfl (vp_inb h3) dX10_records_48 (sM (am := am) (r := 1) (m := s3) (g := (upd (s3 1) ((61 : Int32).toNatClampNeg) ((s3 1) (0 : Int32).toNatClampNeg))) (by decide)) (fun H locs hP hD hS => ?_)
        refine lv_iconst (v := 0) hx hb dX10_records_49 (by decide) ?_
        refine lv_istore_n (lv' := [(1, .int 0), (0, .ref (am 0))]) hx hb dX10_records_50 rfl hl (by decide) rfl (fun ls hl => ?_)
        have loop51 : ∀ (n : Nat) (i1h51 : Int32) (s51 : Nat → Nat → Int32) (H : Heap) (locs : List Loc) (ls : Array Slot), L_X10_records_51 n m0 i1h3 s3 i1h51 s51 = some t' → va_P D vwCl (mW cy am s51) H → va_D A (mW cy am s51) → va_S A s.heap H locs → lv_has ls 2 [(1, .int i1h51), (0, .ref (am 0))] → W p l e rm_X10_records s m args below meth c H locs 0 0 Q (F0 m 51 ls []) := by
          intro n
          induction n with
          | zero => intro i1h51 s51 H locs ls hF _ _ _ _; exact absurd hF (by simp [L_X10_records_51])
          | succ n51 ih51 =>
            intro i1h51 s51 H locs ls hF hP hD hS hl
            refine lv_iload_n hx hb dX10_records_51 rfl (lv_at hl 0 rfl) ?_
            refine lv_bipush (v := 6) hx hb dX10_records_52 (by decide) ?_
            refine lv_icmp_ge (tgt := 92) hx hb dX10_records_54 (by decide) (fun h4 => ?_) (fun h4 => ?_)
            · replace hF := (if_pos h4).symm.trans hF
              refine lv_aload_n hx hb dX10_records_92 rfl (lv_at hl 1 rfl) ?_
              refine get' (ci := 12) (fs := mF am (s51 0)) (v := .ref (am 1)) hx hb hw inWX10 hown hK hP (gM (am := am) (r := 0) (m := s51) (f := (s51 0)) (by decide) rfl) rfl 1 (by decide) k_1571 rfl rfl dX10_records_93 ?_
              refine lv_bipush (v := 8) hx hb dX10_records_96 (by decide) ?_
              refine lv_aload_n hx hb dX10_records_98 rfl (lv_at hl 1 rfl) ?_
              refine get' (ci := 12) (fs := mF am (s51 0)) (v := .ref (am 1)) hx hb hw inWX10 hown hK hP (gM (am := am) (r := 0) (m := s51) (f := (s51 0)) (by decide) rfl) rfl 1 (by decide) k_1571 rfl rfl dX10_records_99 ?_
              refine lv_bipush (v := 8) hx hb dX10_records_102 (by decide) ?_
              obtain ⟨h5, hF⟩ := ite_some hF
              refine va_iald (n := 1152) (f := (s51 1)) hx hb hK hP _ 0 (gM (am := am) (r := 1) (m := s51) (f := (s51 1)) (by decide) rfl) rfl (vp_inb h5) dX10_records_104 ?_
              refine lv_iconst (v := 5) hx hb dX10_records_105 (by decide) ?_
              refine lv_icmp_ge (tgt := 121) hx hb dX10_records_106 (by decide) (fun h6 => ?_) (fun h6 => ?_)
              · replace hF := (if_pos h6).symm.trans hF
                refine lv_iconst (v := 5) hx hb dX10_records_121 (by decide) ?_
                obtain ⟨h7, hF⟩ := ite_some hF
                refine iast' (n := 1152) (f := (s51 1)) (ws' := (mW cy am (va_up s51 1 (upd (s51 1) ((8 : Int32).toNatClampNeg) 5)))) hx hb hK hP hD hS (gM (am := am) (r := 1) (m := s51) (f := (s51 1)) (by decide) rfl) (t0 := 0) rfl (vp_inb h7) dX10_records_122 (sM (am := am) (r := 1) (m := s51) (g := (upd (s51 1) ((8 : Int32).toNatClampNeg) 5)) (by decide)) (fun H locs hP hD hS => ?_)
                cases hF
                exact hret _ _ _ _ _ hP hD hS rfl dX10_records_123
              · replace hF := (if_neg h6).symm.trans hF
                refine lv_aload_n hx hb dX10_records_109 rfl (lv_at hl 1 rfl) ?_
                refine get' (ci := 12) (fs := mF am (s51 0)) (v := .ref (am 1)) hx hb hw inWX10 hown hK hP (gM (am := am) (r := 0) (m := s51) (f := (s51 0)) (by decide) rfl) rfl 1 (by decide) k_1571 rfl rfl dX10_records_110 ?_
                refine lv_bipush (v := 8) hx hb dX10_records_113 (by decide) ?_
                obtain ⟨h8, hF⟩ := ite_some hF
                refine va_iald (n := 1152) (f := (s51 1)) hx hb hK hP _ 0 (gM (am := am) (r := 1) (m := s51) (f := (s51 1)) (by decide) rfl) rfl (vp_inb h8) dX10_records_115 ?_
                refine lv_iconst (v := 1) hx hb dX10_records_116 (by decide) ?_
                refine lv_iadd hx hb dX10_records_117 ?_
                refine lv_goto (tgt := 122) hx hb dX10_records_118 (by decide) ?_
                obtain ⟨h9, hF⟩ := ite_some hF
                refine iast' (n := 1152) (f := (s51 1)) (ws' := (mW cy am (va_up s51 1 (upd (s51 1) ((8 : Int32).toNatClampNeg) (((s51 1) (8 : Int32).toNatClampNeg) + 1))))) hx hb hK hP hD hS (gM (am := am) (r := 1) (m := s51) (f := (s51 1)) (by decide) rfl) (t0 := 0) rfl (vp_inb h9) dX10_records_122 (sM (am := am) (r := 1) (m := s51) (g := (upd (s51 1) ((8 : Int32).toNatClampNeg) (((s51 1) (8 : Int32).toNatClampNeg) + 1))) (by decide)) (fun H locs hP hD hS => ?_)
                cases hF
                exact hret _ _ _ _ _ hP hD hS rfl dX10_records_123
            · replace hF := (if_neg h4).symm.trans hF
              refine lv_aload_n hx hb dX10_records_57 rfl (lv_at hl 1 rfl) ?_
              refine get' (ci := 12) (fs := mF am (s51 0)) (v := .ref (am 1)) hx hb hw inWX10 hown hK hP (gM (am := am) (r := 0) (m := s51) (f := (s51 0)) (by decide) rfl) rfl 1 (by decide) k_1571 rfl rfl dX10_records_58 ?_
              refine lv_bipush (v := 62) hx hb dX10_records_61 (by decide) ?_
              refine lv_iload_n hx hb dX10_records_63 rfl (lv_at hl 0 rfl) ?_
              refine lv_iadd hx hb dX10_records_64 ?_
              refine lv_iload_n hx hb dX10_records_65 rfl (lv_at hl 0 rfl) ?_
              refine lv_aload_n hx hb dX10_records_66 rfl (lv_at hl 1 rfl) ?_
              refine get' (ci := 12) (fs := mF am (s51 0)) (v := .ref (am 1)) hx hb hw inWX10 hown hK hP (gM (am := am) (r := 0) (m := s51) (f := (s51 0)) (by decide) rfl) rfl 1 (by decide) k_1571 rfl rfl dX10_records_67 ?_
              refine lv_iconst (v := 0) hx hb dX10_records_70 (by decide) ?_
              obtain ⟨h10, hF⟩ := ite_some hF
              refine va_iald (n := 1152) (f := (s51 1)) hx hb hK hP _ 0 (gM (am := am) (r := 1) (m := s51) (f := (s51 1)) (by decide) rfl) rfl (vp_inb h10) dX10_records_71 ?_
              refine lv_icmp_ge (tgt := 84) hx hb dX10_records_72 (by decide) (fun h11 => ?_) (fun h11 => ?_)
              · replace hF := (if_pos h11).symm.trans hF
                refine lv_iconst (v := 0) hx hb dX10_records_84 (by decide) ?_
                obtain ⟨h12, hF⟩ := ite_some hF
                refine iast' (n := 1152) (f := (s51 1)) (ws' := (mW cy am (va_up s51 1 (upd (s51 1) ((62 + i1h51).toNatClampNeg) 0)))) hx hb hK hP hD hS (gM (am := am) (r := 1) (m := s51) (f := (s51 1)) (by decide) rfl) (t0 := 0) rfl (vp_inb h12) dX10_records_85 (sM (am := am) (r := 1) (m := s51) (g := (upd (s51 1) ((62 + i1h51).toNatClampNeg) 0)) (by decide)) (fun H locs hP hD hS => ?_)
                refine lv_iinc (v := (i1h51 + 1)) (lv' := [(1, .int (i1h51 + 1)), (0, .ref (am 0))]) hx hb dX10_records_86 hl (k := 0) rfl rfl (by decide) rfl (fun ls hl => ?_)
                refine lv_goto (tgt := 51) hx hb dX10_records_89 (by decide) ?_
                exact ih51 (i1h51 + 1) (va_up s51 1 (upd (s51 1) ((62 + i1h51).toNatClampNeg) 0)) _ _ _ hF hP hD hS (lv_sub hl [0, 1] rfl)
              · replace hF := (if_neg h11).symm.trans hF
                refine lv_aload_n hx hb dX10_records_75 rfl (lv_at hl 1 rfl) ?_
                refine lv_iload_n hx hb dX10_records_76 rfl (lv_at hl 0 rfl) ?_
                refine lv_iconst (v := 3) hx hb dX10_records_77 (by decide) ?_
                obtain ⟨r13, hc15, hF⟩ := bind_some hF
                try dsimp only at hF
                refine cV_i (As := [.int i1h51, .int 3]) (rest := [.int (62 + i1h51), .ref (am 1)]) hx hb hml hown hw hK hN hA hl.1 hP hD hS k_1702 k_1704 k_40 k_90 k_1705 (met_X10_c l D cy _ am s51 i1h51 3 r13 hc15) (fun _ _ _ => trivial) Xok_T (gM (am := am) (r := 0) (m := s51) (f := (s51 0)) (by decide) rfl) rfl ⟨rfl, rfl⟩ (n := 2) (by decide +kernel) rfl ⟨Nat.le_of_ble_eq_true rfl, Nat.le_of_ble_eq_true rfl⟩ ⟨Nat.le_of_ble_eq_true rfl, Nat.le_of_ble_eq_true rfl⟩ (Nat.le_of_ble_eq_true rfl) rfl dX10_records_78 (fun H locs hP hD hS => ?_)
                refine lv_goto (tgt := 85) hx hb dX10_records_81 (by decide) ?_
                obtain ⟨h16, hF⟩ := ite_some hF
                refine iast' (n := 1152) (f := (s51 1)) (ws' := (mW cy am (va_up s51 1 (upd (s51 1) ((62 + i1h51).toNatClampNeg) r13)))) hx hb hK hP hD hS (gM (am := am) (r := 1) (m := s51) (f := (s51 1)) (by decide) rfl) (t0 := 0) rfl (vp_inb h16) dX10_records_85 (sM (am := am) (r := 1) (m := s51) (g := (upd (s51 1) ((62 + i1h51).toNatClampNeg) r13)) (by decide)) (fun H locs hP hD hS => ?_)
                refine lv_iinc (v := (i1h51 + 1)) (lv' := [(1, .int (i1h51 + 1)), (0, .ref (am 0))]) hx hb dX10_records_86 hl (k := 0) rfl rfl (by decide) rfl (fun ls hl => ?_)
                refine lv_goto (tgt := 51) hx hb dX10_records_89 (by decide) ?_
                exact ih51 (i1h51 + 1) (va_up s51 1 (upd (s51 1) ((62 + i1h51).toNatClampNeg) r13)) _ _ _ hF hP hD hS (lv_sub hl [0, 1] rfl)
        exact loop51 200 0 (va_up s3 1 (upd (s3 1) ((61 : Int32).toNatClampNeg) ((s3 1) (0 : Int32).toNatClampNeg))) _ _ _ hF hP hD hS (lv_sub hl [0, 1] rfl)
      · replace hF := (if_neg h1).symm.trans hF
        refine lv_aload_n hx hb dX10_records_9 rfl (lv_at hl 1 rfl) ?_
        refine get' (ci := 12) (fs := mF am (s3 0)) (v := .ref (am 1)) hx hb hw inWX10 hown hK hP (gM (am := am) (r := 0) (m := s3) (f := (s3 0)) (by decide) rfl) rfl 1 (by decide) k_1571 rfl rfl dX10_records_10 ?_
        refine lv_bipush (v := 61) hx hb dX10_records_13 (by decide) ?_
        refine lv_iload_n hx hb dX10_records_15 rfl (lv_at hl 0 rfl) ?_
        refine lv_iadd hx hb dX10_records_16 ?_
        refine lv_aload_n hx hb dX10_records_17 rfl (lv_at hl 1 rfl) ?_
        refine get' (ci := 12) (fs := mF am (s3 0)) (v := .ref (am 1)) hx hb hw inWX10 hown hK hP (gM (am := am) (r := 0) (m := s3) (f := (s3 0)) (by decide) rfl) rfl 1 (by decide) k_1571 rfl rfl dX10_records_18 ?_
        refine lv_bipush (v := 61) hx hb dX10_records_21 (by decide) ?_
        refine lv_iload_n hx hb dX10_records_23 rfl (lv_at hl 0 rfl) ?_
        refine lv_iadd hx hb dX10_records_24 ?_
        refine lv_bipush (v := 7) hx hb dX10_records_25 (by decide) ?_
        refine lv_isub hx hb dX10_records_27 ?_
        obtain ⟨h17, hF⟩ := ite_some hF
        refine va_iald (n := 1152) (f := (s3 1)) hx hb hK hP _ 0 (gM (am := am) (r := 1) (m := s3) (f := (s3 1)) (by decide) rfl) rfl (vp_inb h17) dX10_records_28 ?_
        obtain ⟨h18, hF⟩ := ite_some hF
        refine iast' (n := 1152) (f := (s3 1)) (ws' := (mW cy am (va_up s3 1 (upd (s3 1) ((61 + i1h3).toNatClampNeg) ((s3 1) ((61 + i1h3) - 7).toNatClampNeg))))) hx hb hK hP hD hS (gM (am := am) (r := 1) (m := s3) (f := (s3 1)) (by decide) rfl) (t0 := 0) rfl (vp_inb h18) dX10_records_29 (sM (am := am) (r := 1) (m := s3) (g := (upd (s3 1) ((61 + i1h3).toNatClampNeg) ((s3 1) ((61 + i1h3) - 7).toNatClampNeg))) (by decide)) (fun H locs hP hD hS => ?_)
        refine lv_iinc (v := (i1h3 + (-1))) (lv' := [(1, .int (i1h3 + (-1))), (0, .ref (am 0))]) hx hb dX10_records_30 hl (k := 0) rfl rfl (by decide) rfl (fun ls hl => ?_)
        refine lv_goto (tgt := 3) hx hb dX10_records_33 (by decide) ?_
        exact ih3 (i1h3 + (-1)) (va_up s3 1 (upd (s3 1) ((61 + i1h3).toNatClampNeg) ((s3 1) ((61 + i1h3) - 7).toNatClampNeg))) _ _ _ hF hP hD hS (lv_sub hl [0, 1] rfl)
  exact loop3 200 34 m0 _ _ _ hF hP hD hS (lv_sub hl [0, 1] rfl)
def D_X10_recorded (m0 : Nat → Nat → Int32) (p1 : Int32) (p2 : Int32) : Option (Int32 × (Nat → Nat → Int32)) := if inb 8 1152 then (if (D_X10_in p1 0 (((m0 1) (8 : Int32).toNatClampNeg) - 1)) = 0 then (some (0, (D_X10_isThere m0 0).2)) else (if inb (61 + (7 * p1)) 1152 then (if (D_X10_in p2 0 (((m0 1) (61 + (7 * p1)).toNatClampNeg) - 1)) = 0 then (some (0, (D_X10_isThere m0 0).2)) else (if inb (((61 + (7 * p1)) + 1) + p2) 1152 then (some (((((D_X10_isThere m0 1).2 1) (((61 + (7 * p1)) + 1) + p2).toNatClampNeg) - 1), (D_X10_isThere m0 1).2)) else none)) else none)) else none
abbrev rm_X10_recorded : Room := { frames := 1, cells := 0, slots := 0, locals := 22 }
set_option maxHeartbeats 4000000 in
set_option maxRecDepth 100000 in
theorem met_X10_recorded (l : Launch) (D : va_G) (cy : Nat → ClassId) (sz : Nat) (am : Nat → Nat) (m0 : Nat → Nat → Int32) (p1 : Int32) (p2 : Int32)  (r : Int32) (t' : Nat → Nat → Int32) (hF : D_X10_recorded m0 p1 p2 = some (r, t')) : MI l yX10_recorded cX10_recorded 3 (some .int) rm_X10_recorded D cy (mW cy am m0) sz (fun _ => True) [.ref (am 0), .int p1, .int p2] r (mW cy am t') := by
  refine MI.of (by decide +kernel) (Nat.le_of_ble_eq_true rfl) ?_
  intro p e s m args below meth c A ls Q hAt _ hP hD hA hS hl hret
  obtain ⟨hx, hb, hr, hml, hown, hw, hlk, hK, hN⟩ := hAt
  have hown : s.vm.findClass "CloudDeedsModel" = some m.cls := hown
  have hl : lv_has ls 3 [(0, .ref (am 0)), (1, .int p1), (2, .int p2)] := hl
  refine lv_aload_n hx hb dX10_recorded_0 rfl (lv_at hl 0 rfl) ?_
  refine lv_iload_n hx hb dX10_recorded_1 rfl (lv_at hl 1 rfl) ?_
  refine lv_iconst (v := 0) hx hb dX10_recorded_2 (by decide) ?_
  refine lv_aload_n hx hb dX10_recorded_3 rfl (lv_at hl 0 rfl) ?_
  refine get' (ci := 12) (fs := mF am (m0 0)) (v := .ref (am 1)) hx hb hw inWX10 hown hK hP (gM (am := am) (r := 0) (m := m0) (f := (m0 0)) (by decide) rfl) rfl 1 (by decide) k_1571 rfl rfl dX10_recorded_4 ?_
  refine lv_bipush (v := 8) hx hb dX10_recorded_7 (by decide) ?_
  obtain ⟨h1, hF⟩ := ite_some hF
  refine va_iald (n := 1152) (f := (m0 1)) hx hb hK hP _ 0 (gM (am := am) (r := 1) (m := m0) (f := (m0 1)) (by decide) rfl) rfl (vp_inb h1) dX10_recorded_9 ?_
  refine lv_iconst (v := 1) hx hb dX10_recorded_10 (by decide) ?_
  refine lv_isub hx hb dX10_recorded_11 ?_
  refine cS_i (As := [.int p1, .int 0, .int (((m0 1) (8 : Int32).toNatClampNeg) - 1)]) (rest := [.ref (am 0)]) hx hb hml hown hw hK hN hA hl.1 hP hD hS k_1656 k_1657 k_90 k_1658 (met_X10_in l D cy _ (mW cy am m0) p1 0 (((m0 1) (8 : Int32).toNatClampNeg) - 1) (D_X10_in p1 0 (((m0 1) (8 : Int32).toNatClampNeg) - 1)) rfl) (fun _ _ _ => trivial) Xok_T ⟨rfl, rfl⟩ (n := 3) (by decide +kernel) rfl ⟨Nat.le_of_ble_eq_true rfl, Nat.le_of_ble_eq_true rfl⟩ ⟨Nat.le_of_ble_eq_true rfl, Nat.le_of_ble_eq_true rfl⟩ (Nat.le_of_ble_eq_true rfl) rfl dX10_recorded_12 (fun H locs hP hD hS => ?_)
  refine lv_if_eq (tgt := 44) hx hb dX10_recorded_15 (by decide) (fun h5 => ?_) (fun h5 => ?_)
  · replace hF := (if_pos h5).symm.trans hF
    refine lv_iconst (v := 0) hx hb dX10_recorded_44 (by decide) ?_
    refine cV_i (As := [.int 0]) (rest := []) hx hb hml hown hw hK hN hA hl.1 hP hD hS k_1633 k_1635 k_28 k_90 k_1636 (met_X10_isThere l D cy _ am m0 0 (Or.inl rfl) 0 (D_X10_isThere m0 0).2 (rs_X10_isThere ..)) (fun _ _ _ => trivial) Xok_T (gM (am := am) (r := 0) (m := m0) (f := (m0 0)) (by decide) rfl) rfl ⟨rfl, rfl⟩ (n := 1) (by decide +kernel) rfl ⟨Nat.le_of_ble_eq_true rfl, Nat.le_of_ble_eq_true rfl⟩ ⟨Nat.le_of_ble_eq_true rfl, Nat.le_of_ble_eq_true rfl⟩ (Nat.le_of_ble_eq_true rfl) rfl dX10_recorded_45 (fun H locs hP hD hS => ?_)
    refine lv_if_ne (tgt := 53) hx hb dX10_recorded_48 (by decide) (fun h => absurd h (by decide)) (fun _ => ?_)
    refine lv_iconst (v := 0) hx hb dX10_recorded_51 (by decide) ?_
    cases hF
    exact hret _ _ _ _ _ _ hP hD hS rfl rfl dX10_recorded_52
  · replace hF := (if_neg h5).symm.trans hF
    refine lv_iload_n hx hb dX10_recorded_18 rfl (lv_at hl 2 rfl) ?_
    refine lv_iconst (v := 0) hx hb dX10_recorded_19 (by decide) ?_
    refine lv_aload_n hx hb dX10_recorded_20 rfl (lv_at hl 0 rfl) ?_
    refine get' (ci := 12) (fs := mF am (m0 0)) (v := .ref (am 1)) hx hb hw inWX10 hown hK hP (gM (am := am) (r := 0) (m := m0) (f := (m0 0)) (by decide) rfl) rfl 1 (by decide) k_1571 rfl rfl dX10_recorded_21 ?_
    refine lv_bipush (v := 61) hx hb dX10_recorded_24 (by decide) ?_
    refine lv_bipush (v := 7) hx hb dX10_recorded_26 (by decide) ?_
    refine lv_iload_n hx hb dX10_recorded_28 rfl (lv_at hl 1 rfl) ?_
    refine lv_imul hx hb dX10_recorded_29 ?_
    refine lv_iadd hx hb dX10_recorded_30 ?_
    obtain ⟨h10, hF⟩ := ite_some hF
    refine va_iald (n := 1152) (f := (m0 1)) hx hb hK hP _ 0 (gM (am := am) (r := 1) (m := m0) (f := (m0 1)) (by decide) rfl) rfl (vp_inb h10) dX10_recorded_31 ?_
    refine lv_iconst (v := 1) hx hb dX10_recorded_32 (by decide) ?_
    refine lv_isub hx hb dX10_recorded_33 ?_
    refine cS_i (As := [.int p2, .int 0, .int (((m0 1) (61 + (7 * p1)).toNatClampNeg) - 1)]) (rest := [.ref (am 0)]) hx hb hml hown hw hK hN hA hl.1 hP hD hS k_1656 k_1657 k_90 k_1658 (met_X10_in l D cy _ (mW cy am m0) p2 0 (((m0 1) (61 + (7 * p1)).toNatClampNeg) - 1) (D_X10_in p2 0 (((m0 1) (61 + (7 * p1)).toNatClampNeg) - 1)) rfl) (fun _ _ _ => trivial) Xok_T ⟨rfl, rfl⟩ (n := 3) (by decide +kernel) rfl ⟨Nat.le_of_ble_eq_true rfl, Nat.le_of_ble_eq_true rfl⟩ ⟨Nat.le_of_ble_eq_true rfl, Nat.le_of_ble_eq_true rfl⟩ (Nat.le_of_ble_eq_true rfl) rfl dX10_recorded_34 (fun H locs hP hD hS => ?_)
    refine lv_if_eq (tgt := 44) hx hb dX10_recorded_37 (by decide) (fun h14 => ?_) (fun h14 => ?_)
    · replace hF := (if_pos h14).symm.trans hF
      refine lv_iconst (v := 0) hx hb dX10_recorded_44 (by decide) ?_
      refine cV_i (As := [.int 0]) (rest := []) hx hb hml hown hw hK hN hA hl.1 hP hD hS k_1633 k_1635 k_28 k_90 k_1636 (met_X10_isThere l D cy _ am m0 0 (Or.inl rfl) 0 (D_X10_isThere m0 0).2 (rs_X10_isThere ..)) (fun _ _ _ => trivial) Xok_T (gM (am := am) (r := 0) (m := m0) (f := (m0 0)) (by decide) rfl) rfl ⟨rfl, rfl⟩ (n := 1) (by decide +kernel) rfl ⟨Nat.le_of_ble_eq_true rfl, Nat.le_of_ble_eq_true rfl⟩ ⟨Nat.le_of_ble_eq_true rfl, Nat.le_of_ble_eq_true rfl⟩ (Nat.le_of_ble_eq_true rfl) rfl dX10_recorded_45 (fun H locs hP hD hS => ?_)
      refine lv_if_ne (tgt := 53) hx hb dX10_recorded_48 (by decide) (fun h => absurd h (by decide)) (fun _ => ?_)
      refine lv_iconst (v := 0) hx hb dX10_recorded_51 (by decide) ?_
      cases hF
      exact hret _ _ _ _ _ _ hP hD hS rfl rfl dX10_recorded_52
    · replace hF := (if_neg h14).symm.trans hF
      refine lv_iconst (v := 1) hx hb dX10_recorded_40 (by decide) ?_
      refine lv_goto (tgt := 45) hx hb dX10_recorded_41 (by decide) ?_
      refine cV_i (As := [.int 1]) (rest := []) hx hb hml hown hw hK hN hA hl.1 hP hD hS k_1633 k_1635 k_28 k_90 k_1636 (met_X10_isThere l D cy _ am m0 1 (Or.inr rfl) 1 (D_X10_isThere m0 1).2 (rs_X10_isThere ..)) (fun _ _ _ => trivial) Xok_T (gM (am := am) (r := 0) (m := m0) (f := (m0 0)) (by decide) rfl) rfl ⟨rfl, rfl⟩ (n := 1) (by decide +kernel) rfl ⟨Nat.le_of_ble_eq_true rfl, Nat.le_of_ble_eq_true rfl⟩ ⟨Nat.le_of_ble_eq_true rfl, Nat.le_of_ble_eq_true rfl⟩ (Nat.le_of_ble_eq_true rfl) rfl dX10_recorded_45 (fun H locs hP hD hS => ?_)
      refine lv_if_ne (tgt := 53) hx hb dX10_recorded_48 (by decide) (fun _ => ?_) (fun h => absurd h (by decide))
      refine lv_aload_n hx hb dX10_recorded_53 rfl (lv_at hl 0 rfl) ?_
      refine get' (ci := 12) (fs := mF am ((D_X10_isThere m0 1).2 0)) (v := .ref (am 1)) hx hb hw inWX10 hown hK hP (gM (am := am) (r := 0) (m := (D_X10_isThere m0 1).2) (f := ((D_X10_isThere m0 1).2 0)) (by decide) rfl) rfl 1 (by decide) k_1571 rfl rfl dX10_recorded_54 ?_
      refine lv_bipush (v := 61) hx hb dX10_recorded_57 (by decide) ?_
      refine lv_bipush (v := 7) hx hb dX10_recorded_59 (by decide) ?_
      refine lv_iload_n hx hb dX10_recorded_61 rfl (lv_at hl 1 rfl) ?_
      refine lv_imul hx hb dX10_recorded_62 ?_
      refine lv_iadd hx hb dX10_recorded_63 ?_
      refine lv_iconst (v := 1) hx hb dX10_recorded_64 (by decide) ?_
      refine lv_iadd hx hb dX10_recorded_65 ?_
      refine lv_iload_n hx hb dX10_recorded_66 rfl (lv_at hl 2 rfl) ?_
      refine lv_iadd hx hb dX10_recorded_67 ?_
      obtain ⟨h23, hF⟩ := ite_some hF
      refine va_iald (n := 1152) (f := ((D_X10_isThere m0 1).2 1)) hx hb hK hP _ 0 (gM (am := am) (r := 1) (m := (D_X10_isThere m0 1).2) (f := ((D_X10_isThere m0 1).2 1)) (by decide) rfl) rfl (vp_inb h23) dX10_recorded_68 ?_
      refine lv_iconst (v := 1) hx hb dX10_recorded_69 (by decide) ?_
      refine lv_isub hx hb dX10_recorded_70 ?_
      cases hF
      exact hret _ _ _ _ _ _ hP hD hS rfl rfl dX10_recorded_71
def D_X10_coinsAgain (m0 : Nat → Nat → Int32) : Option (Int32 × (Nat → Nat → Int32)) := (D_X10_coins m0).bind (fun (r1, o2) => some (r1, o2))
abbrev rm_X10_coinsAgain : Room := { frames := 1, cells := 0, slots := 0, locals := 20 }
set_option maxHeartbeats 4000000 in
set_option maxRecDepth 100000 in
theorem met_X10_coinsAgain (l : Launch) (D : va_G) (cy : Nat → ClassId) (sz : Nat) (am : Nat → Nat) (m0 : Nat → Nat → Int32)  (r : Int32) (t' : Nat → Nat → Int32) (hF : D_X10_coinsAgain m0 = some (r, t')) : MI l yX10_coinsAgain cX10_coinsAgain 1 (some .int) rm_X10_coinsAgain D cy (mW cy am m0) sz (fun _ => True) [.ref (am 0)] r (mW cy am t') := by
  refine MI.of (by decide +kernel) (Nat.le_of_ble_eq_true rfl) ?_
  intro p e s m args below meth c A ls Q hAt _ hP hD hA hS hl hret
  obtain ⟨hx, hb, hr, hml, hown, hw, hlk, hK, hN⟩ := hAt
  have hown : s.vm.findClass "CloudDeedsModel" = some m.cls := hown
  have hl : lv_has ls 1 [(0, .ref (am 0))] := hl
  refine lv_aload_n hx hb dX10_coinsAgain_0 rfl (lv_at hl 0 rfl) ?_
  obtain ⟨⟨r1, o2⟩, hc3, hF⟩ := bind_some hF
  try dsimp only at hF
  refine cV_i (As := []) (rest := []) hx hb hml hown hw hK hN hA hl.1 hP hD hS k_1860 k_1853 k_1854 k_90 k_1855 (met_X10_coins l D cy _ am m0 r1 o2 hc3) (fun _ _ _ => trivial) Xok_T (gM (am := am) (r := 0) (m := m0) (f := (m0 0)) (by decide) rfl) rfl ⟨rfl, rfl⟩ (n := 0) (by decide +kernel) rfl ⟨Nat.le_of_ble_eq_true rfl, Nat.le_of_ble_eq_true rfl⟩ ⟨Nat.le_of_ble_eq_true rfl, Nat.le_of_ble_eq_true rfl⟩ (Nat.le_of_ble_eq_true rfl) rfl dX10_coinsAgain_1 (fun H locs hP hD hS => ?_)
  cases hF
  exact hret _ _ _ _ _ _ hP hD hS rfl rfl dX10_coinsAgain_4
def D_X10_feed (m0 : Nat → Nat → Int32) (p1 : Int32) : Option (Int32 × (Nat → Nat → Int32)) := if 60 ≤ ((m0 0) 10) then (some (0, (D_X10_isThere m0 0).2)) else (if inb (((D_X10_isThere m0 1).2 0) 10) 60 then (some (((((D_X10_isThere m0 1).2 0) 10) + 1), (va_up (va_up (D_X10_isThere m0 1).2 2 (upd ((D_X10_isThere m0 1).2 2) ((((D_X10_isThere m0 1).2 0) 10).toNatClampNeg) (vp_nar .char p1))) 0 (upd ((D_X10_isThere m0 1).2 0) 10 ((((D_X10_isThere m0 1).2 0) 10) + 1))))) else none)
abbrev rm_X10_feed : Room := { frames := 1, cells := 0, slots := 0, locals := 21 }
set_option maxHeartbeats 4000000 in
set_option maxRecDepth 100000 in
theorem met_X10_feed (l : Launch) (D : va_G) (cy : Nat → ClassId) (sz : Nat) (am : Nat → Nat) (m0 : Nat → Nat → Int32) (p1 : Int32)  (r : Int32) (t' : Nat → Nat → Int32) (hF : D_X10_feed m0 p1 = some (r, t')) : MI l yX10_feed cX10_feed 2 (some .int) rm_X10_feed D cy (mW cy am m0) sz (fun _ => True) [.ref (am 0), .int p1] r (mW cy am t') := by
  refine MI.of (by decide +kernel) (Nat.le_of_ble_eq_true rfl) ?_
  intro p e s m args below meth c A ls Q hAt _ hP hD hA hS hl hret
  obtain ⟨hx, hb, hr, hml, hown, hw, hlk, hK, hN⟩ := hAt
  have hown : s.vm.findClass "CloudDeedsModel" = some m.cls := hown
  have hl : lv_has ls 2 [(0, .ref (am 0)), (1, .int p1)] := hl
  refine lv_aload_n hx hb dX10_feed_0 rfl (lv_at hl 0 rfl) ?_
  refine lv_aload_n hx hb dX10_feed_1 rfl (lv_at hl 0 rfl) ?_
  refine get' (ci := 12) (fs := mF am (m0 0)) (v := .int ((m0 0) 10)) hx hb hw inWX10 hown hK hP (gM (am := am) (r := 0) (m := m0) (f := (m0 0)) (by decide) rfl) rfl 10 (by decide) k_1580 rfl rfl dX10_feed_2 ?_
  refine lv_bipush (v := 60) hx hb dX10_feed_5 (by decide) ?_
  refine lv_icmp_ge (tgt := 14) hx hb dX10_feed_7 (by decide) (fun h1 => ?_) (fun h1 => ?_)
  · replace hF := (if_pos h1).symm.trans hF
    refine lv_iconst (v := 0) hx hb dX10_feed_14 (by decide) ?_
    refine cV_i (As := [.int 0]) (rest := []) hx hb hml hown hw hK hN hA hl.1 hP hD hS k_1633 k_1635 k_28 k_90 k_1636 (met_X10_isThere l D cy _ am m0 0 (Or.inl rfl) 0 (D_X10_isThere m0 0).2 (rs_X10_isThere ..)) (fun _ _ _ => trivial) Xok_T (gM (am := am) (r := 0) (m := m0) (f := (m0 0)) (by decide) rfl) rfl ⟨rfl, rfl⟩ (n := 1) (by decide +kernel) rfl ⟨Nat.le_of_ble_eq_true rfl, Nat.le_of_ble_eq_true rfl⟩ ⟨Nat.le_of_ble_eq_true rfl, Nat.le_of_ble_eq_true rfl⟩ (Nat.le_of_ble_eq_true rfl) rfl dX10_feed_15 (fun H locs hP hD hS => ?_)
    refine lv_if_ne (tgt := 23) hx hb dX10_feed_18 (by decide) (fun h => absurd h (by decide)) (fun _ => ?_)
    refine lv_iconst (v := 0) hx hb dX10_feed_21 (by decide) ?_
    cases hF
    exact hret _ _ _ _ _ _ hP hD hS rfl rfl dX10_feed_22
  · replace hF := (if_neg h1).symm.trans hF
    refine lv_iconst (v := 1) hx hb dX10_feed_10 (by decide) ?_
    refine lv_goto (tgt := 15) hx hb dX10_feed_11 (by decide) ?_
    refine cV_i (As := [.int 1]) (rest := []) hx hb hml hown hw hK hN hA hl.1 hP hD hS k_1633 k_1635 k_28 k_90 k_1636 (met_X10_isThere l D cy _ am m0 1 (Or.inr rfl) 1 (D_X10_isThere m0 1).2 (rs_X10_isThere ..)) (fun _ _ _ => trivial) Xok_T (gM (am := am) (r := 0) (m := m0) (f := (m0 0)) (by decide) rfl) rfl ⟨rfl, rfl⟩ (n := 1) (by decide +kernel) rfl ⟨Nat.le_of_ble_eq_true rfl, Nat.le_of_ble_eq_true rfl⟩ ⟨Nat.le_of_ble_eq_true rfl, Nat.le_of_ble_eq_true rfl⟩ (Nat.le_of_ble_eq_true rfl) rfl dX10_feed_15 (fun H locs hP hD hS => ?_)
    refine lv_if_ne (tgt := 23) hx hb dX10_feed_18 (by decide) (fun _ => ?_) (fun h => absurd h (by decide))
    refine lv_aload_n hx hb dX10_feed_23 rfl (lv_at hl 0 rfl) ?_
    refine get' (ci := 12) (fs := mF am ((D_X10_isThere m0 1).2 0)) (v := .ref (am 2)) hx hb hw inWX10 hown hK hP (gM (am := am) (r := 0) (m := (D_X10_isThere m0 1).2) (f := ((D_X10_isThere m0 1).2 0)) (by decide) rfl) rfl 9 (by decide) k_1579 rfl rfl dX10_feed_24 ?_
    refine lv_aload_n hx hb dX10_feed_27 rfl (lv_at hl 0 rfl) ?_
    refine get' (ci := 12) (fs := mF am ((D_X10_isThere m0 1).2 0)) (v := .int (((D_X10_isThere m0 1).2 0) 10)) hx hb hw inWX10 hown hK hP (gM (am := am) (r := 0) (m := (D_X10_isThere m0 1).2) (f := ((D_X10_isThere m0 1).2 0)) (by decide) rfl) rfl 10 (by decide) k_1580 rfl rfl dX10_feed_28 ?_
    refine lv_iload_n hx hb dX10_feed_31 rfl (lv_at hl 1 rfl) ?_
    obtain ⟨h10, hF⟩ := ite_some hF
    refine cast' (n := 60) (f := ((D_X10_isThere m0 1).2 2)) (ws' := (mW cy am (va_up (D_X10_isThere m0 1).2 2 (upd ((D_X10_isThere m0 1).2 2) ((((D_X10_isThere m0 1).2 0) 10).toNatClampNeg) (vp_nar .char p1))))) hx hb hK hP hD hS (gM (am := am) (r := 2) (m := (D_X10_isThere m0 1).2) (f := ((D_X10_isThere m0 1).2 2)) (by decide) rfl) (t0 := 1) rfl (vp_inb h10) dX10_feed_32 (sM (am := am) (r := 2) (m := (D_X10_isThere m0 1).2) (g := (upd ((D_X10_isThere m0 1).2 2) ((((D_X10_isThere m0 1).2 0) 10).toNatClampNeg) (vp_nar .char p1))) (by decide)) (fun H locs hP hD hS => ?_)
    refine lv_aload_n hx hb dX10_feed_33 rfl (lv_at hl 0 rfl) ?_
    refine lv_dup hx hb dX10_feed_34 rfl ?_
    refine get' (ci := 12) (fs := mF am ((D_X10_isThere m0 1).2 0)) (v := .int (((D_X10_isThere m0 1).2 0) 10)) hx hb hw inWX10 hown hK hP (gM (am := am) (r := 0) (m := (va_up (D_X10_isThere m0 1).2 2 (upd ((D_X10_isThere m0 1).2 2) ((((D_X10_isThere m0 1).2 0) 10).toNatClampNeg) (vp_nar .char p1)))) (f := ((D_X10_isThere m0 1).2 0)) (by decide) ((va_up_ne _ _ (by decide)).trans rfl)) rfl 10 (by decide) k_1580 rfl rfl dX10_feed_35 ?_
    refine lv_iconst (v := 1) hx hb dX10_feed_38 (by decide) ?_
    refine lv_iadd hx hb dX10_feed_39 ?_
    refine put' (ci := 12) (fs := mF am ((D_X10_isThere m0 1).2 0)) (v := .int ((((D_X10_isThere m0 1).2 0) 10) + 1)) (ty := .int) (ws' := (mW cy am (va_up (va_up (D_X10_isThere m0 1).2 2 (upd ((D_X10_isThere m0 1).2 2) ((((D_X10_isThere m0 1).2 0) 10).toNatClampNeg) (vp_nar .char p1))) 0 (upd ((D_X10_isThere m0 1).2 0) 10 ((((D_X10_isThere m0 1).2 0) 10) + 1))))) hx hb hw inWX10 tyX10 tyX10_ok nmX10 hown hK hP hD hS (gM (am := am) (r := 0) (m := (va_up (D_X10_isThere m0 1).2 2 (upd ((D_X10_isThere m0 1).2 2) ((((D_X10_isThere m0 1).2 0) 10).toNatClampNeg) (vp_nar .char p1)))) (f := ((D_X10_isThere m0 1).2 0)) (by decide) ((va_up_ne _ _ (by decide)).trans rfl)) rfl 10 (by decide) k_1580 rfl rfl (by decide +kernel) rfl rfl (Nat.le_of_ble_eq_true rfl) dX10_feed_40 (sM (am := am) (r := 0) (m := (va_up (D_X10_isThere m0 1).2 2 (upd ((D_X10_isThere m0 1).2 2) ((((D_X10_isThere m0 1).2 0) 10).toNatClampNeg) (vp_nar .char p1)))) (g := (upd ((D_X10_isThere m0 1).2 0) 10 ((((D_X10_isThere m0 1).2 0) 10) + 1))) (by decide)) (fun H locs hP hD hS => ?_)
    refine lv_aload_n hx hb dX10_feed_43 rfl (lv_at hl 0 rfl) ?_
    refine get' (ci := 12) (fs := mF am (upd ((D_X10_isThere m0 1).2 0) 10 ((((D_X10_isThere m0 1).2 0) 10) + 1))) (v := .int ((((D_X10_isThere m0 1).2 0) 10) + 1)) hx hb hw inWX10 hown hK hP (gM (am := am) (r := 0) (m := (va_up (va_up (D_X10_isThere m0 1).2 2 (upd ((D_X10_isThere m0 1).2 2) ((((D_X10_isThere m0 1).2 0) 10).toNatClampNeg) (vp_nar .char p1))) 0 (upd ((D_X10_isThere m0 1).2 0) 10 ((((D_X10_isThere m0 1).2 0) 10) + 1)))) (f := (upd ((D_X10_isThere m0 1).2 0) 10 ((((D_X10_isThere m0 1).2 0) 10) + 1))) (by decide) (va_up_self _ _ _)) rfl 10 (by decide) k_1580 rfl rfl dX10_feed_44 ?_
    cases hF
    exact hret _ _ _ _ _ _ hP hD hS rfl rfl dX10_feed_47
def D_X10_needs (m0 : Nat → Nat → Int32) (p1 : Int32) : Option ((Nat → Nat → Int32)) := if ((m0 0) 12) < 0 then ((D_X10_sign m0).bind (fun r2 => if r2 = p1 then (some (va_up m0 0 (upd (m0 0) 11 (((m0 0) 11) + 1)))) else (some (va_up m0 0 (upd (m0 0) 12 ((m0 0) 11)))))) else (some m0)
abbrev rm_X10_needs : Room := { frames := 1, cells := 0, slots := 0, locals := 20 }
set_option maxHeartbeats 4000000 in
set_option maxRecDepth 100000 in
theorem met_X10_needs (l : Launch) (D : va_G) (cy : Nat → ClassId) (sz : Nat) (am : Nat → Nat) (m0 : Nat → Nat → Int32) (p1 : Int32)  (t' : Nat → Nat → Int32) (hF : D_X10_needs m0 p1 = some t') : MV l yX10_needs cX10_needs 2 rm_X10_needs D cy (mW cy am m0) sz (fun _ => True) [.ref (am 0), .int p1] (mW cy am t') := by
  refine MV.of (by decide +kernel) (Nat.le_of_ble_eq_true rfl) ?_
  intro p e s m args below meth c A ls Q hAt _ hP hD hA hS hl hret
  obtain ⟨hx, hb, hr, hml, hown, hw, hlk, hK, hN⟩ := hAt
  have hown : s.vm.findClass "CloudDeedsModel" = some m.cls := hown
  have hl : lv_has ls 2 [(0, .ref (am 0)), (1, .int p1)] := hl
  refine lv_aload_n hx hb dX10_needs_0 rfl (lv_at hl 0 rfl) ?_
  refine get' (ci := 12) (fs := mF am (m0 0)) (v := .int ((m0 0) 12)) hx hb hw inWX10 hown hK hP (gM (am := am) (r := 0) (m := m0) (f := (m0 0)) (by decide) rfl) rfl 12 (by decide) k_1582 rfl rfl dX10_needs_1 ?_
  refine lv_if_lt (tgt := 8) hx hb dX10_needs_4 (by decide) (fun h1 => ?_) (fun h1 => ?_)
  · replace hF := (if_pos h1).symm.trans hF
    refine lv_aload_n hx hb dX10_needs_8 rfl (lv_at hl 0 rfl) ?_
    obtain ⟨r2, hc4, hF⟩ := bind_some hF
    try dsimp only at hF
    refine cV_i (As := []) (rest := []) hx hb hml hown hw hK hN hA hl.1 hP hD hS k_1885 k_1887 k_63 k_90 k_1888 (met_X10_sign l D cy _ am m0 r2 hc4) (fun _ _ _ => trivial) Xok_T (gM (am := am) (r := 0) (m := m0) (f := (m0 0)) (by decide) rfl) rfl ⟨rfl, rfl⟩ (n := 0) (by decide +kernel) rfl ⟨Nat.le_of_ble_eq_true rfl, Nat.le_of_ble_eq_true rfl⟩ ⟨Nat.le_of_ble_eq_true rfl, Nat.le_of_ble_eq_true rfl⟩ (Nat.le_of_ble_eq_true rfl) rfl dX10_needs_9 (fun H locs hP hD hS => ?_)
    refine lv_iload_n hx hb dX10_needs_12 rfl (lv_at hl 1 rfl) ?_
    refine lv_icmp_eq (tgt := 25) hx hb dX10_needs_13 (by decide) (fun h5 => ?_) (fun h5 => ?_)
    · replace hF := (if_pos h5).symm.trans hF
      refine lv_aload_n hx hb dX10_needs_25 rfl (lv_at hl 0 rfl) ?_
      refine lv_dup hx hb dX10_needs_26 rfl ?_
      refine get' (ci := 12) (fs := mF am (m0 0)) (v := .int ((m0 0) 11)) hx hb hw inWX10 hown hK hP (gM (am := am) (r := 0) (m := m0) (f := (m0 0)) (by decide) rfl) rfl 11 (by decide) k_1581 rfl rfl dX10_needs_27 ?_
      refine lv_iconst (v := 1) hx hb dX10_needs_30 (by decide) ?_
      refine lv_iadd hx hb dX10_needs_31 ?_
      refine put' (ci := 12) (fs := mF am (m0 0)) (v := .int (((m0 0) 11) + 1)) (ty := .int) (ws' := (mW cy am (va_up m0 0 (upd (m0 0) 11 (((m0 0) 11) + 1))))) hx hb hw inWX10 tyX10 tyX10_ok nmX10 hown hK hP hD hS (gM (am := am) (r := 0) (m := m0) (f := (m0 0)) (by decide) rfl) rfl 11 (by decide) k_1581 rfl rfl (by decide +kernel) rfl rfl (Nat.le_of_ble_eq_true rfl) dX10_needs_32 (sM (am := am) (r := 0) (m := m0) (g := (upd (m0 0) 11 (((m0 0) 11) + 1))) (by decide)) (fun H locs hP hD hS => ?_)
      cases hF
      exact hret _ _ _ _ _ hP hD hS rfl dX10_needs_35
    · replace hF := (if_neg h5).symm.trans hF
      refine lv_aload_n hx hb dX10_needs_16 rfl (lv_at hl 0 rfl) ?_
      refine lv_aload_n hx hb dX10_needs_17 rfl (lv_at hl 0 rfl) ?_
      refine get' (ci := 12) (fs := mF am (m0 0)) (v := .int ((m0 0) 11)) hx hb hw inWX10 hown hK hP (gM (am := am) (r := 0) (m := m0) (f := (m0 0)) (by decide) rfl) rfl 11 (by decide) k_1581 rfl rfl dX10_needs_18 ?_
      refine put' (ci := 12) (fs := mF am (m0 0)) (v := .int ((m0 0) 11)) (ty := .int) (ws' := (mW cy am (va_up m0 0 (upd (m0 0) 12 ((m0 0) 11))))) hx hb hw inWX10 tyX10 tyX10_ok nmX10 hown hK hP hD hS (gM (am := am) (r := 0) (m := m0) (f := (m0 0)) (by decide) rfl) rfl 12 (by decide) k_1582 rfl rfl (by decide +kernel) rfl rfl (Nat.le_of_ble_eq_true rfl) dX10_needs_21 (sM (am := am) (r := 0) (m := m0) (g := (upd (m0 0) 12 ((m0 0) 11))) (by decide)) (fun H locs hP hD hS => ?_)
      cases hF
      exact hret _ _ _ _ _ hP hD hS rfl dX10_needs_24
  · replace hF := (if_neg h1).symm.trans hF
    cases hF
    exact hret _ _ _ _ _ hP hD hS rfl dX10_needs_7
def L_X10_number_37 : Nat → (Nat → Nat → Int32) → (Int32) → (Int32) → (Int32) → (Int32) → (Nat → Nat → Int32) → Option (Int32 × (Nat → Nat → Int32))
  | 0, _, _, _, _, _, _ => none
  | n37 + 1, m0, p1, r2, i3h37, i2h37, s37 => if p1 ≤ i3h37 then (some (i2h37, s37)) else ((D_X10_sign s37).bind (fun r10 => if (D_X10_in r10 48 57) = 0 then (some (i2h37, s37)) else ((D_X10_sign s37).bind (fun r17 => L_X10_number_37 n37 m0 p1 r2 (i3h37 + 1) (((10 * i2h37) + r17) - 48) (va_up s37 0 (upd (s37 0) 11 (((s37 0) 11) + 1)))))))
def D_X10_number (m0 : Nat → Nat → Int32) (p1 : Int32) : Option (Int32 × (Nat → Nat → Int32)) := if ((m0 0) 12) < 0 then ((D_X10_sign m0).bind (fun r2 => if (D_X10_in r2 48 57) = 0 then (some (0, (va_up m0 0 (upd (m0 0) 12 ((m0 0) 11))))) else (L_X10_number_37 200 m0 p1 r2 0 0 m0))) else (some (0, m0))
abbrev rm_X10_number : Room := { frames := 1, cells := 0, slots := 0, locals := 22 }
set_option maxHeartbeats 4000000 in
set_option maxRecDepth 100000 in
theorem met_X10_number (l : Launch) (D : va_G) (cy : Nat → ClassId) (sz : Nat) (am : Nat → Nat) (m0 : Nat → Nat → Int32) (p1 : Int32)  (r : Int32) (t' : Nat → Nat → Int32) (hF : D_X10_number m0 p1 = some (r, t')) : MI l yX10_number cX10_number 4 (some .int) rm_X10_number D cy (mW cy am m0) sz (fun _ => True) [.ref (am 0), .int p1] r (mW cy am t') := by
  refine MI.of (by decide +kernel) (Nat.le_of_ble_eq_true rfl) ?_
  intro p e s m args below meth c A ls Q hAt _ hP hD hA hS hl hret
  obtain ⟨hx, hb, hr, hml, hown, hw, hlk, hK, hN⟩ := hAt
  have hown : s.vm.findClass "CloudDeedsModel" = some m.cls := hown
  have hl : lv_has ls 4 [(0, .ref (am 0)), (1, .int p1)] := hl
  refine lv_aload_n hx hb dX10_number_0 rfl (lv_at hl 0 rfl) ?_
  refine get' (ci := 12) (fs := mF am (m0 0)) (v := .int ((m0 0) 12)) hx hb hw inWX10 hown hK hP (gM (am := am) (r := 0) (m := m0) (f := (m0 0)) (by decide) rfl) rfl 12 (by decide) k_1582 rfl rfl dX10_number_1 ?_
  refine lv_if_lt (tgt := 9) hx hb dX10_number_4 (by decide) (fun h1 => ?_) (fun h1 => ?_)
  · replace hF := (if_pos h1).symm.trans hF
    refine lv_aload_n hx hb dX10_number_9 rfl (lv_at hl 0 rfl) ?_
    obtain ⟨r2, hc4, hF⟩ := bind_some hF
    try dsimp only at hF
    refine cV_i (As := []) (rest := []) hx hb hml hown hw hK hN hA hl.1 hP hD hS k_1885 k_1887 k_63 k_90 k_1888 (met_X10_sign l D cy _ am m0 r2 hc4) (fun _ _ _ => trivial) Xok_T (gM (am := am) (r := 0) (m := m0) (f := (m0 0)) (by decide) rfl) rfl ⟨rfl, rfl⟩ (n := 0) (by decide +kernel) rfl ⟨Nat.le_of_ble_eq_true rfl, Nat.le_of_ble_eq_true rfl⟩ ⟨Nat.le_of_ble_eq_true rfl, Nat.le_of_ble_eq_true rfl⟩ (Nat.le_of_ble_eq_true rfl) rfl dX10_number_10 (fun H locs hP hD hS => ?_)
    refine lv_bipush (v := 48) hx hb dX10_number_13 (by decide) ?_
    refine lv_bipush (v := 57) hx hb dX10_number_15 (by decide) ?_
    refine cS_i (As := [.int r2, .int 48, .int 57]) (rest := []) hx hb hml hown hw hK hN hA hl.1 hP hD hS k_1656 k_1657 k_90 k_1658 (met_X10_in l D cy _ (mW cy am m0) r2 48 57 (D_X10_in r2 48 57) rfl) (fun _ _ _ => trivial) Xok_T ⟨rfl, rfl⟩ (n := 3) (by decide +kernel) rfl ⟨Nat.le_of_ble_eq_true rfl, Nat.le_of_ble_eq_true rfl⟩ ⟨Nat.le_of_ble_eq_true rfl, Nat.le_of_ble_eq_true rfl⟩ (Nat.le_of_ble_eq_true rfl) rfl dX10_number_17 (fun H locs hP hD hS => ?_)
    refine lv_if_ne (tgt := 33) hx hb dX10_number_20 (by decide) (fun h8 => ?_) (fun h8 => ?_)
    · replace hF := (if_neg h8).symm.trans hF
      refine lv_iconst (v := 0) hx hb dX10_number_33 (by decide) ?_
      refine lv_istore_n (lv' := [(2, .int 0), (0, .ref (am 0)), (1, .int p1)]) hx hb dX10_number_34 rfl hl (by decide) rfl (fun ls hl => ?_)
      refine lv_iconst (v := 0) hx hb dX10_number_35 (by decide) ?_
      refine lv_istore_n (lv' := [(3, .int 0), (2, .int 0), (0, .ref (am 0)), (1, .int p1)]) hx hb dX10_number_36 rfl hl (by decide) rfl (fun ls hl => ?_)
      have loop37 : ∀ (n : Nat) (i3h37 : Int32) (i2h37 : Int32) (s37 : Nat → Nat → Int32) (H : Heap) (locs : List Loc) (ls : Array Slot), L_X10_number_37 n m0 p1 r2 i3h37 i2h37 s37 = some (r, t') → va_P D vwCl (mW cy am s37) H → va_D A (mW cy am s37) → va_S A s.heap H locs → lv_has ls 4 [(3, .int i3h37), (2, .int i2h37), (0, .ref (am 0)), (1, .int p1)] → W p l e rm_X10_number s m args below meth c H locs 0 0 Q (F0 m 37 ls []) := by
        intro n
        induction n with
        | zero => intro i3h37 i2h37 s37 H locs ls hF _ _ _ _; exact absurd hF (by simp [L_X10_number_37])
        | succ n37 ih37 =>
          intro i3h37 i2h37 s37 H locs ls hF hP hD hS hl
          refine lv_iload_n hx hb dX10_number_37 rfl (lv_at hl 0 rfl) ?_
          refine lv_iload_n hx hb dX10_number_38 rfl (lv_at hl 3 rfl) ?_
          refine lv_icmp_ge (tgt := 85) hx hb dX10_number_39 (by decide) (fun h9 => ?_) (fun h9 => ?_)
          · replace hF := (if_pos h9).symm.trans hF
            refine lv_iload_n hx hb dX10_number_85 rfl (lv_at hl 1 rfl) ?_
            cases hF
            exact hret _ _ _ _ _ _ hP hD hS rfl rfl dX10_number_86
          · replace hF := (if_neg h9).symm.trans hF
            refine lv_aload_n hx hb dX10_number_42 rfl (lv_at hl 2 rfl) ?_
            obtain ⟨r10, hc12, hF⟩ := bind_some hF
            try dsimp only at hF
            refine cV_i (As := []) (rest := []) hx hb hml hown hw hK hN hA hl.1 hP hD hS k_1885 k_1887 k_63 k_90 k_1888 (met_X10_sign l D cy _ am s37 r10 hc12) (fun _ _ _ => trivial) Xok_T (gM (am := am) (r := 0) (m := s37) (f := (s37 0)) (by decide) rfl) rfl ⟨rfl, rfl⟩ (n := 0) (by decide +kernel) rfl ⟨Nat.le_of_ble_eq_true rfl, Nat.le_of_ble_eq_true rfl⟩ ⟨Nat.le_of_ble_eq_true rfl, Nat.le_of_ble_eq_true rfl⟩ (Nat.le_of_ble_eq_true rfl) rfl dX10_number_43 (fun H locs hP hD hS => ?_)
            refine lv_bipush (v := 48) hx hb dX10_number_46 (by decide) ?_
            refine lv_bipush (v := 57) hx hb dX10_number_48 (by decide) ?_
            refine cS_i (As := [.int r10, .int 48, .int 57]) (rest := []) hx hb hml hown hw hK hN hA hl.1 hP hD hS k_1656 k_1657 k_90 k_1658 (met_X10_in l D cy _ (mW cy am s37) r10 48 57 (D_X10_in r10 48 57) rfl) (fun _ _ _ => trivial) Xok_T ⟨rfl, rfl⟩ (n := 3) (by decide +kernel) rfl ⟨Nat.le_of_ble_eq_true rfl, Nat.le_of_ble_eq_true rfl⟩ ⟨Nat.le_of_ble_eq_true rfl, Nat.le_of_ble_eq_true rfl⟩ (Nat.le_of_ble_eq_true rfl) rfl dX10_number_50 (fun H locs hP hD hS => ?_)
            refine lv_if_eq (tgt := 85) hx hb dX10_number_53 (by decide) (fun h16 => ?_) (fun h16 => ?_)
            · replace hF := (if_pos h16).symm.trans hF
              refine lv_iload_n hx hb dX10_number_85 rfl (lv_at hl 1 rfl) ?_
              cases hF
              exact hret _ _ _ _ _ _ hP hD hS rfl rfl dX10_number_86
            · replace hF := (if_neg h16).symm.trans hF
              refine lv_bipush (v := 10) hx hb dX10_number_56 (by decide) ?_
              refine lv_iload_n hx hb dX10_number_58 rfl (lv_at hl 1 rfl) ?_
              refine lv_imul hx hb dX10_number_59 ?_
              refine lv_aload_n hx hb dX10_number_60 rfl (lv_at hl 2 rfl) ?_
              obtain ⟨r17, hc19, hF⟩ := bind_some hF
              try dsimp only at hF
              refine cV_i (As := []) (rest := [.int (10 * i2h37)]) hx hb hml hown hw hK hN hA hl.1 hP hD hS k_1885 k_1887 k_63 k_90 k_1888 (met_X10_sign l D cy _ am s37 r17 hc19) (fun _ _ _ => trivial) Xok_T (gM (am := am) (r := 0) (m := s37) (f := (s37 0)) (by decide) rfl) rfl ⟨rfl, rfl⟩ (n := 0) (by decide +kernel) rfl ⟨Nat.le_of_ble_eq_true rfl, Nat.le_of_ble_eq_true rfl⟩ ⟨Nat.le_of_ble_eq_true rfl, Nat.le_of_ble_eq_true rfl⟩ (Nat.le_of_ble_eq_true rfl) rfl dX10_number_61 (fun H locs hP hD hS => ?_)
              refine lv_iadd hx hb dX10_number_64 ?_
              refine lv_bipush (v := 48) hx hb dX10_number_65 (by decide) ?_
              refine lv_isub hx hb dX10_number_67 ?_
              refine lv_istore_n (lv' := [(2, .int (((10 * i2h37) + r17) - 48)), (3, .int i3h37), (0, .ref (am 0)), (1, .int p1)]) hx hb dX10_number_68 rfl hl (by decide) rfl (fun ls hl => ?_)
              refine lv_aload_n hx hb dX10_number_69 rfl (lv_at hl 2 rfl) ?_
              refine lv_dup hx hb dX10_number_70 rfl ?_
              refine get' (ci := 12) (fs := mF am (s37 0)) (v := .int ((s37 0) 11)) hx hb hw inWX10 hown hK hP (gM (am := am) (r := 0) (m := s37) (f := (s37 0)) (by decide) rfl) rfl 11 (by decide) k_1581 rfl rfl dX10_number_71 ?_
              refine lv_iconst (v := 1) hx hb dX10_number_74 (by decide) ?_
              refine lv_iadd hx hb dX10_number_75 ?_
              refine put' (ci := 12) (fs := mF am (s37 0)) (v := .int (((s37 0) 11) + 1)) (ty := .int) (ws' := (mW cy am (va_up s37 0 (upd (s37 0) 11 (((s37 0) 11) + 1))))) hx hb hw inWX10 tyX10 tyX10_ok nmX10 hown hK hP hD hS (gM (am := am) (r := 0) (m := s37) (f := (s37 0)) (by decide) rfl) rfl 11 (by decide) k_1581 rfl rfl (by decide +kernel) rfl rfl (Nat.le_of_ble_eq_true rfl) dX10_number_76 (sM (am := am) (r := 0) (m := s37) (g := (upd (s37 0) 11 (((s37 0) 11) + 1))) (by decide)) (fun H locs hP hD hS => ?_)
              refine lv_iinc (v := (i3h37 + 1)) (lv' := [(3, .int (i3h37 + 1)), (2, .int (((10 * i2h37) + r17) - 48)), (0, .ref (am 0)), (1, .int p1)]) hx hb dX10_number_79 hl (k := 1) rfl rfl (by decide) rfl (fun ls hl => ?_)
              refine lv_goto (tgt := 37) hx hb dX10_number_82 (by decide) ?_
              exact ih37 (i3h37 + 1) (((10 * i2h37) + r17) - 48) (va_up s37 0 (upd (s37 0) 11 (((s37 0) 11) + 1))) _ _ _ hF hP hD hS (lv_sub hl [0, 1, 2, 3] rfl)
      exact loop37 200 0 0 m0 _ _ _ hF hP hD hS (lv_sub hl [0, 1, 2, 3] rfl)
    · replace hF := (if_pos h8).symm.trans hF
      refine lv_aload_n hx hb dX10_number_23 rfl (lv_at hl 0 rfl) ?_
      refine lv_aload_n hx hb dX10_number_24 rfl (lv_at hl 0 rfl) ?_
      refine get' (ci := 12) (fs := mF am (m0 0)) (v := .int ((m0 0) 11)) hx hb hw inWX10 hown hK hP (gM (am := am) (r := 0) (m := m0) (f := (m0 0)) (by decide) rfl) rfl 11 (by decide) k_1581 rfl rfl dX10_number_25 ?_
      refine put' (ci := 12) (fs := mF am (m0 0)) (v := .int ((m0 0) 11)) (ty := .int) (ws' := (mW cy am (va_up m0 0 (upd (m0 0) 12 ((m0 0) 11))))) hx hb hw inWX10 tyX10 tyX10_ok nmX10 hown hK hP hD hS (gM (am := am) (r := 0) (m := m0) (f := (m0 0)) (by decide) rfl) rfl 12 (by decide) k_1582 rfl rfl (by decide +kernel) rfl rfl (Nat.le_of_ble_eq_true rfl) dX10_number_28 (sM (am := am) (r := 0) (m := m0) (g := (upd (m0 0) 12 ((m0 0) 11))) (by decide)) (fun H locs hP hD hS => ?_)
      refine lv_iconst (v := 0) hx hb dX10_number_31 (by decide) ?_
      cases hF
      exact hret _ _ _ _ _ _ hP hD hS rfl rfl dX10_number_32
  · replace hF := (if_neg h1).symm.trans hF
    refine lv_iconst (v := 0) hx hb dX10_number_7 (by decide) ?_
    cases hF
    exact hret _ _ _ _ _ _ hP hD hS rfl rfl dX10_number_8
def D_X10_faultPosition (m0 : Nat → Nat → Int32) : Int32 × (Nat → Nat → Int32) := if ((m0 0) 13) = (-1) then ((0, (D_X10_isThere m0 0).2)) else (((((D_X10_isThere m0 1).2 0) 13), (D_X10_isThere m0 1).2))
abbrev rm_X10_faultPosition : Room := { frames := 1, cells := 0, slots := 0, locals := 21 }
set_option maxHeartbeats 4000000 in
set_option maxRecDepth 100000 in
theorem met_X10_faultPosition (l : Launch) (D : va_G) (cy : Nat → ClassId) (sz : Nat) (am : Nat → Nat) (m0 : Nat → Nat → Int32)  (r : Int32) (t' : Nat → Nat → Int32) (hF : D_X10_faultPosition m0 = (r, t')) : MI l yX10_faultPosition cX10_faultPosition 1 (some .int) rm_X10_faultPosition D cy (mW cy am m0) sz (fun _ => True) [.ref (am 0)] r (mW cy am t') := by
  refine MI.of (by decide +kernel) (Nat.le_of_ble_eq_true rfl) ?_
  intro p e s m args below meth c A ls Q hAt _ hP hD hA hS hl hret
  obtain ⟨hx, hb, hr, hml, hown, hw, hlk, hK, hN⟩ := hAt
  have hown : s.vm.findClass "CloudDeedsModel" = some m.cls := hown
  have hl : lv_has ls 1 [(0, .ref (am 0))] := hl
  refine lv_aload_n hx hb dX10_faultPosition_0 rfl (lv_at hl 0 rfl) ?_
  refine lv_aload_n hx hb dX10_faultPosition_1 rfl (lv_at hl 0 rfl) ?_
  refine get' (ci := 12) (fs := mF am (m0 0)) (v := .int ((m0 0) 13)) hx hb hw inWX10 hown hK hP (gM (am := am) (r := 0) (m := m0) (f := (m0 0)) (by decide) rfl) rfl 13 (by decide) k_1583 rfl rfl dX10_faultPosition_2 ?_
  refine lv_iconst (v := (-1)) hx hb dX10_faultPosition_5 (by decide) ?_
  refine lv_icmp_eq (tgt := 13) hx hb dX10_faultPosition_6 (by decide) (fun h1 => ?_) (fun h1 => ?_)
  · replace hF := (if_pos h1).symm.trans hF
    refine lv_iconst (v := 0) hx hb dX10_faultPosition_13 (by decide) ?_
    refine cV_i (As := [.int 0]) (rest := []) hx hb hml hown hw hK hN hA hl.1 hP hD hS k_1633 k_1635 k_28 k_90 k_1636 (met_X10_isThere l D cy _ am m0 0 (Or.inl rfl) 0 (D_X10_isThere m0 0).2 (rs_X10_isThere ..)) (fun _ _ _ => trivial) Xok_T (gM (am := am) (r := 0) (m := m0) (f := (m0 0)) (by decide) rfl) rfl ⟨rfl, rfl⟩ (n := 1) (by decide +kernel) rfl ⟨Nat.le_of_ble_eq_true rfl, Nat.le_of_ble_eq_true rfl⟩ ⟨Nat.le_of_ble_eq_true rfl, Nat.le_of_ble_eq_true rfl⟩ (Nat.le_of_ble_eq_true rfl) rfl dX10_faultPosition_14 (fun H locs hP hD hS => ?_)
    refine lv_if_eq (tgt := 27) hx hb dX10_faultPosition_17 (by decide) (fun _ => ?_) (fun h => absurd h (by decide))
    refine lv_iconst (v := 0) hx hb dX10_faultPosition_27 (by decide) ?_
    cases hF
    exact hret _ _ _ _ _ _ hP hD hS rfl rfl dX10_faultPosition_28
  · replace hF := (if_neg h1).symm.trans hF
    refine lv_iconst (v := 1) hx hb dX10_faultPosition_9 (by decide) ?_
    refine lv_goto (tgt := 14) hx hb dX10_faultPosition_10 (by decide) ?_
    refine cV_i (As := [.int 1]) (rest := []) hx hb hml hown hw hK hN hA hl.1 hP hD hS k_1633 k_1635 k_28 k_90 k_1636 (met_X10_isThere l D cy _ am m0 1 (Or.inr rfl) 1 (D_X10_isThere m0 1).2 (rs_X10_isThere ..)) (fun _ _ _ => trivial) Xok_T (gM (am := am) (r := 0) (m := m0) (f := (m0 0)) (by decide) rfl) rfl ⟨rfl, rfl⟩ (n := 1) (by decide +kernel) rfl ⟨Nat.le_of_ble_eq_true rfl, Nat.le_of_ble_eq_true rfl⟩ ⟨Nat.le_of_ble_eq_true rfl, Nat.le_of_ble_eq_true rfl⟩ (Nat.le_of_ble_eq_true rfl) rfl dX10_faultPosition_14 (fun H locs hP hD hS => ?_)
    refine lv_if_eq (tgt := 27) hx hb dX10_faultPosition_17 (by decide) (fun h => absurd h (by decide)) (fun _ => ?_)
    refine lv_aload_n hx hb dX10_faultPosition_20 rfl (lv_at hl 0 rfl) ?_
    refine get' (ci := 12) (fs := mF am ((D_X10_isThere m0 1).2 0)) (v := .int (((D_X10_isThere m0 1).2 0) 13)) hx hb hw inWX10 hown hK hP (gM (am := am) (r := 0) (m := (D_X10_isThere m0 1).2) (f := ((D_X10_isThere m0 1).2 0)) (by decide) rfl) rfl 13 (by decide) k_1583 rfl rfl dX10_faultPosition_21 ?_
    refine lv_goto (tgt := 28) hx hb dX10_faultPosition_24 (by decide) ?_
    cases hF
    exact hret _ _ _ _ _ _ hP hD hS rfl rfl dX10_faultPosition_28
def D_X10_both (m0 : Nat → Nat → Int32) (p1 : Int32) (p2 : Int32) : Option ((Nat → Nat → Int32)) := (D_X10_writes m0 p1).bind (fun o2 => (D_X10_writes o2 (48 + p2)).bind (fun o5 => some o5))
abbrev rm_X10_both : Room := { frames := 1, cells := 0, slots := 0, locals := 21 }
set_option maxHeartbeats 4000000 in
set_option maxRecDepth 100000 in
theorem met_X10_both (l : Launch) (D : va_G) (cy : Nat → ClassId) (sz : Nat) (am : Nat → Nat) (m0 : Nat → Nat → Int32) (p1 : Int32) (p2 : Int32)  (t' : Nat → Nat → Int32) (hF : D_X10_both m0 p1 p2 = some t') : MV l yX10_both cX10_both 3 rm_X10_both D cy (mW cy am m0) sz (fun _ => True) [.ref (am 0), .int p1, .int p2] (mW cy am t') := by
  refine MV.of (by decide +kernel) (Nat.le_of_ble_eq_true rfl) ?_
  intro p e s m args below meth c A ls Q hAt _ hP hD hA hS hl hret
  obtain ⟨hx, hb, hr, hml, hown, hw, hlk, hK, hN⟩ := hAt
  have hown : s.vm.findClass "CloudDeedsModel" = some m.cls := hown
  have hl : lv_has ls 3 [(0, .ref (am 0)), (1, .int p1), (2, .int p2)] := hl
  refine lv_aload_n hx hb dX10_both_0 rfl (lv_at hl 0 rfl) ?_
  refine lv_iload_n hx hb dX10_both_1 rfl (lv_at hl 1 rfl) ?_
  obtain ⟨o2, hc3, hF⟩ := bind_some hF
  try dsimp only at hF
  refine cV_v (As := [.int p1]) (rest := []) hx hb hml hown hw hK hN hA hl.1 hP hD hS k_1932 k_1934 k_72 k_90 k_1935 (met_X10_writes l D cy _ am m0 p1 o2 hc3) (fun _ _ _ => trivial) Xok_T (gM (am := am) (r := 0) (m := m0) (f := (m0 0)) (by decide) rfl) rfl ⟨rfl, rfl⟩ (n := 1) (by decide +kernel) rfl ⟨Nat.le_of_ble_eq_true rfl, Nat.le_of_ble_eq_true rfl⟩ ⟨Nat.le_of_ble_eq_true rfl, Nat.le_of_ble_eq_true rfl⟩ (Nat.le_of_ble_eq_true rfl) rfl dX10_both_2 (fun H locs hP hD hS => ?_)
  refine lv_aload_n hx hb dX10_both_5 rfl (lv_at hl 0 rfl) ?_
  refine lv_bipush (v := 48) hx hb dX10_both_6 (by decide) ?_
  refine lv_iload_n hx hb dX10_both_8 rfl (lv_at hl 2 rfl) ?_
  refine lv_iadd hx hb dX10_both_9 ?_
  obtain ⟨o5, hc6, hF⟩ := bind_some hF
  try dsimp only at hF
  refine cV_v (As := [.int (48 + p2)]) (rest := []) hx hb hml hown hw hK hN hA hl.1 hP hD hS k_1932 k_1934 k_72 k_90 k_1935 (met_X10_writes l D cy _ am o2 (48 + p2) o5 hc6) (fun _ _ _ => trivial) Xok_T (gM (am := am) (r := 0) (m := o2) (f := (o2 0)) (by decide) rfl) rfl ⟨rfl, rfl⟩ (n := 1) (by decide +kernel) rfl ⟨Nat.le_of_ble_eq_true rfl, Nat.le_of_ble_eq_true rfl⟩ ⟨Nat.le_of_ble_eq_true rfl, Nat.le_of_ble_eq_true rfl⟩ (Nat.le_of_ble_eq_true rfl) rfl dX10_both_10 (fun H locs hP hD hS => ?_)
  cases hF
  exact hret _ _ _ _ _ hP hD hS rfl dX10_both_13
def L_X10_dawnLine_30 : Nat → (Nat → Nat → Int32) → (Int32) → (Int32) → (Nat → Nat → Int32) → Option (Int32 × (Nat → Nat → Int32))
  | 0, _, _, _, _ => none
  | n30 + 1, m0, p1, i2h30, s30 => if inb (61 + (7 * p1)) 1152 then (if ((s30 1) (61 + (7 * p1)).toNatClampNeg) ≤ i2h30 then (some (((s30 0) 17), s30)) else (if inb (((61 + (7 * p1)) + 1) + i2h30) 1152 then (if 0 ≤ (((s30 1) (((61 + (7 * p1)) + 1) + i2h30).toNatClampNeg) - 1) then ((D_X10_writes s30 (48 + (((s30 1) (((61 + (7 * p1)) + 1) + i2h30).toNatClampNeg) - 1))).bind (fun o14 => L_X10_dawnLine_30 n30 m0 p1 (i2h30 + 1) o14)) else ((D_X10_writes s30 45).bind (fun o17 => L_X10_dawnLine_30 n30 m0 p1 (i2h30 + 1) o17))) else none)) else none
def D_X10_dawnLine (m0 : Nat → Nat → Int32) (p1 : Int32) : Option (Int32 × (Nat → Nat → Int32)) := if inb 8 1152 then (if (D_X10_in p1 0 (((m0 1) (8 : Int32).toNatClampNeg) - 1)) = 0 then (some (0, (D_X10_isThere m0 (D_X10_in p1 0 (((m0 1) (8 : Int32).toNatClampNeg) - 1))).2)) else (L_X10_dawnLine_30 200 m0 p1 0 (va_up (D_X10_isThere m0 (D_X10_in p1 0 (((m0 1) (8 : Int32).toNatClampNeg) - 1))).2 0 (upd ((D_X10_isThere m0 (D_X10_in p1 0 (((m0 1) (8 : Int32).toNatClampNeg) - 1))).2 0) 17 0)))) else none
abbrev rm_X10_dawnLine : Room := { frames := 1, cells := 0, slots := 0, locals := 22 }
set_option maxHeartbeats 4000000 in
set_option maxRecDepth 100000 in
theorem met_X10_dawnLine (l : Launch) (D : va_G) (cy : Nat → ClassId) (sz : Nat) (am : Nat → Nat) (m0 : Nat → Nat → Int32) (p1 : Int32)  (r : Int32) (t' : Nat → Nat → Int32) (hF : D_X10_dawnLine m0 p1 = some (r, t')) : MI l yX10_dawnLine cX10_dawnLine 4 (some .int) rm_X10_dawnLine D cy (mW cy am m0) sz (fun _ => True) [.ref (am 0), .int p1] r (mW cy am t') := by
  refine MI.of (by decide +kernel) (Nat.le_of_ble_eq_true rfl) ?_
  intro p e s m args below meth c A ls Q hAt _ hP hD hA hS hl hret
  obtain ⟨hx, hb, hr, hml, hown, hw, hlk, hK, hN⟩ := hAt
  have hown : s.vm.findClass "CloudDeedsModel" = some m.cls := hown
  have hl : lv_has ls 4 [(0, .ref (am 0)), (1, .int p1)] := hl
  refine lv_aload_n hx hb dX10_dawnLine_0 rfl (lv_at hl 0 rfl) ?_
  refine lv_iload_n hx hb dX10_dawnLine_1 rfl (lv_at hl 1 rfl) ?_
  refine lv_iconst (v := 0) hx hb dX10_dawnLine_2 (by decide) ?_
  refine lv_aload_n hx hb dX10_dawnLine_3 rfl (lv_at hl 0 rfl) ?_
  refine get' (ci := 12) (fs := mF am (m0 0)) (v := .ref (am 1)) hx hb hw inWX10 hown hK hP (gM (am := am) (r := 0) (m := m0) (f := (m0 0)) (by decide) rfl) rfl 1 (by decide) k_1571 rfl rfl dX10_dawnLine_4 ?_
  refine lv_bipush (v := 8) hx hb dX10_dawnLine_7 (by decide) ?_
  obtain ⟨h1, hF⟩ := ite_some hF
  refine va_iald (n := 1152) (f := (m0 1)) hx hb hK hP _ 0 (gM (am := am) (r := 1) (m := m0) (f := (m0 1)) (by decide) rfl) rfl (vp_inb h1) dX10_dawnLine_9 ?_
  refine lv_iconst (v := 1) hx hb dX10_dawnLine_10 (by decide) ?_
  refine lv_isub hx hb dX10_dawnLine_11 ?_
  refine cS_i (As := [.int p1, .int 0, .int (((m0 1) (8 : Int32).toNatClampNeg) - 1)]) (rest := [.ref (am 0)]) hx hb hml hown hw hK hN hA hl.1 hP hD hS k_1656 k_1657 k_90 k_1658 (met_X10_in l D cy _ (mW cy am m0) p1 0 (((m0 1) (8 : Int32).toNatClampNeg) - 1) (D_X10_in p1 0 (((m0 1) (8 : Int32).toNatClampNeg) - 1)) rfl) (fun _ _ _ => trivial) Xok_T ⟨rfl, rfl⟩ (n := 3) (by decide +kernel) rfl ⟨Nat.le_of_ble_eq_true rfl, Nat.le_of_ble_eq_true rfl⟩ ⟨Nat.le_of_ble_eq_true rfl, Nat.le_of_ble_eq_true rfl⟩ (Nat.le_of_ble_eq_true rfl) rfl dX10_dawnLine_12 (fun H locs hP hD hS => ?_)
  refine cV_i (As := [.int (D_X10_in p1 0 (((m0 1) (8 : Int32).toNatClampNeg) - 1))]) (rest := []) hx hb hml hown hw hK hN hA hl.1 hP hD hS k_1633 k_1635 k_28 k_90 k_1636 (met_X10_isThere l D cy _ am m0 (D_X10_in p1 0 (((m0 1) (8 : Int32).toNatClampNeg) - 1)) (bz_X10_in ..) (D_X10_in p1 0 (((m0 1) (8 : Int32).toNatClampNeg) - 1)) (D_X10_isThere m0 (D_X10_in p1 0 (((m0 1) (8 : Int32).toNatClampNeg) - 1))).2 (rs_X10_isThere ..)) (fun _ _ _ => trivial) Xok_T (gM (am := am) (r := 0) (m := m0) (f := (m0 0)) (by decide) rfl) rfl ⟨rfl, rfl⟩ (n := 1) (by decide +kernel) rfl ⟨Nat.le_of_ble_eq_true rfl, Nat.le_of_ble_eq_true rfl⟩ ⟨Nat.le_of_ble_eq_true rfl, Nat.le_of_ble_eq_true rfl⟩ (Nat.le_of_ble_eq_true rfl) rfl dX10_dawnLine_15 (fun H locs hP hD hS => ?_)
  refine lv_if_ne (tgt := 23) hx hb dX10_dawnLine_18 (by decide) (fun h8 => ?_) (fun h8 => ?_)
  · replace hF := (if_neg h8).symm.trans hF
    refine lv_aload_n hx hb dX10_dawnLine_23 rfl (lv_at hl 0 rfl) ?_
    refine lv_iconst (v := 0) hx hb dX10_dawnLine_24 (by decide) ?_
    refine put' (ci := 12) (fs := mF am ((D_X10_isThere m0 (D_X10_in p1 0 (((m0 1) (8 : Int32).toNatClampNeg) - 1))).2 0)) (v := .int 0) (ty := .int) (ws' := (mW cy am (va_up (D_X10_isThere m0 (D_X10_in p1 0 (((m0 1) (8 : Int32).toNatClampNeg) - 1))).2 0 (upd ((D_X10_isThere m0 (D_X10_in p1 0 (((m0 1) (8 : Int32).toNatClampNeg) - 1))).2 0) 17 0)))) hx hb hw inWX10 tyX10 tyX10_ok nmX10 hown hK hP hD hS (gM (am := am) (r := 0) (m := (D_X10_isThere m0 (D_X10_in p1 0 (((m0 1) (8 : Int32).toNatClampNeg) - 1))).2) (f := ((D_X10_isThere m0 (D_X10_in p1 0 (((m0 1) (8 : Int32).toNatClampNeg) - 1))).2 0)) (by decide) rfl) rfl 17 (by decide) k_1587 rfl rfl (by decide +kernel) rfl rfl (Nat.le_of_ble_eq_true rfl) dX10_dawnLine_25 (sM (am := am) (r := 0) (m := (D_X10_isThere m0 (D_X10_in p1 0 (((m0 1) (8 : Int32).toNatClampNeg) - 1))).2) (g := (upd ((D_X10_isThere m0 (D_X10_in p1 0 (((m0 1) (8 : Int32).toNatClampNeg) - 1))).2 0) 17 0)) (by decide)) (fun H locs hP hD hS => ?_)
    refine lv_iconst (v := 0) hx hb dX10_dawnLine_28 (by decide) ?_
    refine lv_istore_n (lv' := [(2, .int 0), (0, .ref (am 0)), (1, .int p1)]) hx hb dX10_dawnLine_29 rfl hl (by decide) rfl (fun ls hl => ?_)
    have loop30 : ∀ (n : Nat) (i2h30 : Int32) (s30 : Nat → Nat → Int32) (H : Heap) (locs : List Loc) (ls : Array Slot), L_X10_dawnLine_30 n m0 p1 i2h30 s30 = some (r, t') → va_P D vwCl (mW cy am s30) H → va_D A (mW cy am s30) → va_S A s.heap H locs → lv_has ls 4 [(2, .int i2h30), (0, .ref (am 0)), (1, .int p1)] → W p l e rm_X10_dawnLine s m args below meth c H locs 0 0 Q (F0 m 30 ls []) := by
      intro n
      induction n with
      | zero => intro i2h30 s30 H locs ls hF _ _ _ _; exact absurd hF (by simp [L_X10_dawnLine_30])
      | succ n30 ih30 =>
        intro i2h30 s30 H locs ls hF hP hD hS hl
        refine lv_iload_n hx hb dX10_dawnLine_30 rfl (lv_at hl 0 rfl) ?_
        refine lv_aload_n hx hb dX10_dawnLine_31 rfl (lv_at hl 1 rfl) ?_
        refine get' (ci := 12) (fs := mF am (s30 0)) (v := .ref (am 1)) hx hb hw inWX10 hown hK hP (gM (am := am) (r := 0) (m := s30) (f := (s30 0)) (by decide) rfl) rfl 1 (by decide) k_1571 rfl rfl dX10_dawnLine_32 ?_
        refine lv_bipush (v := 61) hx hb dX10_dawnLine_35 (by decide) ?_
        refine lv_bipush (v := 7) hx hb dX10_dawnLine_37 (by decide) ?_
        refine lv_iload_n hx hb dX10_dawnLine_39 rfl (lv_at hl 2 rfl) ?_
        refine lv_imul hx hb dX10_dawnLine_40 ?_
        refine lv_iadd hx hb dX10_dawnLine_41 ?_
        obtain ⟨h9, hF⟩ := ite_some hF
        refine va_iald (n := 1152) (f := (s30 1)) hx hb hK hP _ 0 (gM (am := am) (r := 1) (m := s30) (f := (s30 1)) (by decide) rfl) rfl (vp_inb h9) dX10_dawnLine_42 ?_
        refine lv_icmp_ge (tgt := 88) hx hb dX10_dawnLine_43 (by decide) (fun h10 => ?_) (fun h10 => ?_)
        · replace hF := (if_pos h10).symm.trans hF
          refine lv_aload_n hx hb dX10_dawnLine_88 rfl (lv_at hl 1 rfl) ?_
          refine get' (ci := 12) (fs := mF am (s30 0)) (v := .int ((s30 0) 17)) hx hb hw inWX10 hown hK hP (gM (am := am) (r := 0) (m := s30) (f := (s30 0)) (by decide) rfl) rfl 17 (by decide) k_1587 rfl rfl dX10_dawnLine_89 ?_
          cases hF
          exact hret _ _ _ _ _ _ hP hD hS rfl rfl dX10_dawnLine_92
        · replace hF := (if_neg h10).symm.trans hF
          refine lv_aload_n hx hb dX10_dawnLine_46 rfl (lv_at hl 1 rfl) ?_
          refine get' (ci := 12) (fs := mF am (s30 0)) (v := .ref (am 1)) hx hb hw inWX10 hown hK hP (gM (am := am) (r := 0) (m := s30) (f := (s30 0)) (by decide) rfl) rfl 1 (by decide) k_1571 rfl rfl dX10_dawnLine_47 ?_
          refine lv_bipush (v := 61) hx hb dX10_dawnLine_50 (by decide) ?_
          refine lv_bipush (v := 7) hx hb dX10_dawnLine_52 (by decide) ?_
          refine lv_iload_n hx hb dX10_dawnLine_54 rfl (lv_at hl 2 rfl) ?_
          refine lv_imul hx hb dX10_dawnLine_55 ?_
          refine lv_iadd hx hb dX10_dawnLine_56 ?_
          refine lv_iconst (v := 1) hx hb dX10_dawnLine_57 (by decide) ?_
          refine lv_iadd hx hb dX10_dawnLine_58 ?_
          refine lv_iload_n hx hb dX10_dawnLine_59 rfl (lv_at hl 0 rfl) ?_
          refine lv_iadd hx hb dX10_dawnLine_60 ?_
          obtain ⟨h11, hF⟩ := ite_some hF
          refine va_iald (n := 1152) (f := (s30 1)) hx hb hK hP _ 0 (gM (am := am) (r := 1) (m := s30) (f := (s30 1)) (by decide) rfl) rfl (vp_inb h11) dX10_dawnLine_61 ?_
          refine lv_iconst (v := 1) hx hb dX10_dawnLine_62 (by decide) ?_
          refine lv_isub hx hb dX10_dawnLine_63 ?_
          refine lv_istore_n (lv' := [(3, .int (((s30 1) (((61 + (7 * p1)) + 1) + i2h30).toNatClampNeg) - 1)), (2, .int i2h30), (0, .ref (am 0)), (1, .int p1)]) hx hb dX10_dawnLine_64 rfl hl (by decide) rfl (fun ls hl => ?_)
          refine lv_aload_n hx hb dX10_dawnLine_65 rfl (lv_at hl 2 rfl) ?_
          refine lv_iload_n hx hb dX10_dawnLine_66 rfl (lv_at hl 0 rfl) ?_
          refine lv_if_ge (tgt := 75) hx hb dX10_dawnLine_67 (by decide) (fun h12 => ?_) (fun h12 => ?_)
          · replace hF := (if_pos h12).symm.trans hF
            refine lv_bipush (v := 48) hx hb dX10_dawnLine_75 (by decide) ?_
            refine lv_iload_n hx hb dX10_dawnLine_77 rfl (lv_at hl 0 rfl) ?_
            refine lv_iadd hx hb dX10_dawnLine_78 ?_
            obtain ⟨o14, hc15, hF⟩ := bind_some hF
            try dsimp only at hF
            refine cV_v (As := [.int (48 + (((s30 1) (((61 + (7 * p1)) + 1) + i2h30).toNatClampNeg) - 1))]) (rest := []) hx hb hml hown hw hK hN hA hl.1 hP hD hS k_1932 k_1934 k_72 k_90 k_1935 (met_X10_writes l D cy _ am s30 (48 + (((s30 1) (((61 + (7 * p1)) + 1) + i2h30).toNatClampNeg) - 1)) o14 hc15) (fun _ _ _ => trivial) Xok_T (gM (am := am) (r := 0) (m := s30) (f := (s30 0)) (by decide) rfl) rfl ⟨rfl, rfl⟩ (n := 1) (by decide +kernel) rfl ⟨Nat.le_of_ble_eq_true rfl, Nat.le_of_ble_eq_true rfl⟩ ⟨Nat.le_of_ble_eq_true rfl, Nat.le_of_ble_eq_true rfl⟩ (Nat.le_of_ble_eq_true rfl) rfl dX10_dawnLine_79 (fun H locs hP hD hS => ?_)
            refine lv_iinc (v := (i2h30 + 1)) (lv' := [(2, .int (i2h30 + 1)), (3, .int (((s30 1) (((61 + (7 * p1)) + 1) + i2h30).toNatClampNeg) - 1)), (0, .ref (am 0)), (1, .int p1)]) hx hb dX10_dawnLine_82 hl (k := 1) rfl rfl (by decide) rfl (fun ls hl => ?_)
            refine lv_goto (tgt := 30) hx hb dX10_dawnLine_85 (by decide) ?_
            exact ih30 (i2h30 + 1) o14 _ _ _ hF hP hD hS (lv_sub hl [0, 2, 3] rfl)
          · replace hF := (if_neg h12).symm.trans hF
            refine lv_bipush (v := 45) hx hb dX10_dawnLine_70 (by decide) ?_
            refine lv_goto (tgt := 79) hx hb dX10_dawnLine_72 (by decide) ?_
            obtain ⟨o17, hc18, hF⟩ := bind_some hF
            try dsimp only at hF
            refine cV_v (As := [.int 45]) (rest := []) hx hb hml hown hw hK hN hA hl.1 hP hD hS k_1932 k_1934 k_72 k_90 k_1935 (met_X10_writes l D cy _ am s30 45 o17 hc18) (fun _ _ _ => trivial) Xok_T (gM (am := am) (r := 0) (m := s30) (f := (s30 0)) (by decide) rfl) rfl ⟨rfl, rfl⟩ (n := 1) (by decide +kernel) rfl ⟨Nat.le_of_ble_eq_true rfl, Nat.le_of_ble_eq_true rfl⟩ ⟨Nat.le_of_ble_eq_true rfl, Nat.le_of_ble_eq_true rfl⟩ (Nat.le_of_ble_eq_true rfl) rfl dX10_dawnLine_79 (fun H locs hP hD hS => ?_)
            refine lv_iinc (v := (i2h30 + 1)) (lv' := [(2, .int (i2h30 + 1)), (3, .int (((s30 1) (((61 + (7 * p1)) + 1) + i2h30).toNatClampNeg) - 1)), (0, .ref (am 0)), (1, .int p1)]) hx hb dX10_dawnLine_82 hl (k := 1) rfl rfl (by decide) rfl (fun ls hl => ?_)
            refine lv_goto (tgt := 30) hx hb dX10_dawnLine_85 (by decide) ?_
            exact ih30 (i2h30 + 1) o17 _ _ _ hF hP hD hS (lv_sub hl [0, 2, 3] rfl)
    exact loop30 200 0 (va_up (D_X10_isThere m0 (D_X10_in p1 0 (((m0 1) (8 : Int32).toNatClampNeg) - 1))).2 0 (upd ((D_X10_isThere m0 (D_X10_in p1 0 (((m0 1) (8 : Int32).toNatClampNeg) - 1))).2 0) 17 0)) _ _ _ hF hP hD hS (lv_sub hl [0, 1, 2] rfl)
  · replace hF := (if_pos h8).symm.trans hF
    refine lv_iconst (v := 0) hx hb dX10_dawnLine_21 (by decide) ?_
    cases hF
    exact hret _ _ _ _ _ _ hP hD hS rfl rfl dX10_dawnLine_22
def D_X10_character (m0 : Nat → Nat → Int32) (p1 : Int32) : Option (Int32 × (Nat → Nat → Int32)) := if (D_X10_in p1 0 (((m0 0) 17) - 1)) = 0 then (some (0, (D_X10_isThere m0 (D_X10_in p1 0 (((m0 0) 17) - 1))).2)) else (if inb p1 24 then (if isCh (((D_X10_isThere m0 (D_X10_in p1 0 (((m0 0) 17) - 1))).2 4) p1.toNatClampNeg) then (some ((((D_X10_isThere m0 (D_X10_in p1 0 (((m0 0) 17) - 1))).2 4) p1.toNatClampNeg), (D_X10_isThere m0 (D_X10_in p1 0 (((m0 0) 17) - 1))).2)) else none) else none)
abbrev rm_X10_character : Room := { frames := 1, cells := 0, slots := 0, locals := 22 }
set_option maxHeartbeats 4000000 in
set_option maxRecDepth 100000 in
theorem met_X10_character (l : Launch) (D : va_G) (cy : Nat → ClassId) (sz : Nat) (am : Nat → Nat) (m0 : Nat → Nat → Int32) (p1 : Int32)  (r : Int32) (t' : Nat → Nat → Int32) (hF : D_X10_character m0 p1 = some (r, t')) : MI l yX10_character cX10_character 2 (some .char) rm_X10_character D cy (mW cy am m0) sz (fun _ => True) [.ref (am 0), .int p1] r (mW cy am t') := by
  refine MC.of (by decide +kernel) (Nat.le_of_ble_eq_true rfl) ?_
  intro p e s m args below meth c A ls Q hAt _ hP hD hA hS hl hret
  obtain ⟨hx, hb, hr, hml, hown, hw, hlk, hK, hN⟩ := hAt
  have hown : s.vm.findClass "CloudDeedsModel" = some m.cls := hown
  have hl : lv_has ls 2 [(0, .ref (am 0)), (1, .int p1)] := hl
  refine lv_aload_n hx hb dX10_character_0 rfl (lv_at hl 0 rfl) ?_
  refine lv_iload_n hx hb dX10_character_1 rfl (lv_at hl 1 rfl) ?_
  refine lv_iconst (v := 0) hx hb dX10_character_2 (by decide) ?_
  refine lv_aload_n hx hb dX10_character_3 rfl (lv_at hl 0 rfl) ?_
  refine get' (ci := 12) (fs := mF am (m0 0)) (v := .int ((m0 0) 17)) hx hb hw inWX10 hown hK hP (gM (am := am) (r := 0) (m := m0) (f := (m0 0)) (by decide) rfl) rfl 17 (by decide) k_1587 rfl rfl dX10_character_4 ?_
  refine lv_iconst (v := 1) hx hb dX10_character_7 (by decide) ?_
  refine lv_isub hx hb dX10_character_8 ?_
  refine cS_i (As := [.int p1, .int 0, .int (((m0 0) 17) - 1)]) (rest := [.ref (am 0)]) hx hb hml hown hw hK hN hA hl.1 hP hD hS k_1656 k_1657 k_90 k_1658 (met_X10_in l D cy _ (mW cy am m0) p1 0 (((m0 0) 17) - 1) (D_X10_in p1 0 (((m0 0) 17) - 1)) rfl) (fun _ _ _ => trivial) Xok_T ⟨rfl, rfl⟩ (n := 3) (by decide +kernel) rfl ⟨Nat.le_of_ble_eq_true rfl, Nat.le_of_ble_eq_true rfl⟩ ⟨Nat.le_of_ble_eq_true rfl, Nat.le_of_ble_eq_true rfl⟩ (Nat.le_of_ble_eq_true rfl) rfl dX10_character_9 (fun H locs hP hD hS => ?_)
  refine cV_i (As := [.int (D_X10_in p1 0 (((m0 0) 17) - 1))]) (rest := []) hx hb hml hown hw hK hN hA hl.1 hP hD hS k_1633 k_1635 k_28 k_90 k_1636 (met_X10_isThere l D cy _ am m0 (D_X10_in p1 0 (((m0 0) 17) - 1)) (bz_X10_in ..) (D_X10_in p1 0 (((m0 0) 17) - 1)) (D_X10_isThere m0 (D_X10_in p1 0 (((m0 0) 17) - 1))).2 (rs_X10_isThere ..)) (fun _ _ _ => trivial) Xok_T (gM (am := am) (r := 0) (m := m0) (f := (m0 0)) (by decide) rfl) rfl ⟨rfl, rfl⟩ (n := 1) (by decide +kernel) rfl ⟨Nat.le_of_ble_eq_true rfl, Nat.le_of_ble_eq_true rfl⟩ ⟨Nat.le_of_ble_eq_true rfl, Nat.le_of_ble_eq_true rfl⟩ (Nat.le_of_ble_eq_true rfl) rfl dX10_character_12 (fun H locs hP hD hS => ?_)
  refine lv_if_eq (tgt := 27) hx hb dX10_character_15 (by decide) (fun h7 => ?_) (fun h7 => ?_)
  · replace hF := (if_pos h7).symm.trans hF
    refine lv_iconst (v := 0) hx hb dX10_character_27 (by decide) ?_
    cases hF
    exact hret _ _ _ _ _ _ hP hD hS rfl rfl rfl dX10_character_28
  · replace hF := (if_neg h7).symm.trans hF
    refine lv_aload_n hx hb dX10_character_18 rfl (lv_at hl 0 rfl) ?_
    refine get' (ci := 12) (fs := mF am ((D_X10_isThere m0 (D_X10_in p1 0 (((m0 0) 17) - 1))).2 0)) (v := .ref (am 4)) hx hb hw inWX10 hown hK hP (gM (am := am) (r := 0) (m := (D_X10_isThere m0 (D_X10_in p1 0 (((m0 0) 17) - 1))).2) (f := ((D_X10_isThere m0 (D_X10_in p1 0 (((m0 0) 17) - 1))).2 0)) (by decide) rfl) rfl 16 (by decide) k_1586 rfl rfl dX10_character_19 ?_
    refine lv_iload_n hx hb dX10_character_22 rfl (lv_at hl 1 rfl) ?_
    obtain ⟨h8, hF⟩ := ite_some hF
    refine va_cald (n := 24) (f := ((D_X10_isThere m0 (D_X10_in p1 0 (((m0 0) 17) - 1))).2 4)) hx hb hK hP _ 1 (gM (am := am) (r := 4) (m := (D_X10_isThere m0 (D_X10_in p1 0 (((m0 0) 17) - 1))).2) (f := ((D_X10_isThere m0 (D_X10_in p1 0 (((m0 0) 17) - 1))).2 4)) (by decide) rfl) rfl (vp_inb h8) dX10_character_23 ?_
    refine lv_goto (tgt := 28) hx hb dX10_character_24 (by decide) ?_
    obtain ⟨hg9, hF⟩ := ite_some hF
    cases hF
    exact hret _ _ _ _ _ _ hP hD hS rfl rfl (isCh_iff.mp hg9) dX10_character_28
def D_X10_undo (m0 : Nat → Nat → Int32) : Option (Int32 × (Nat → Nat → Int32)) := if ((m0 0) 2) ≤ 0 then (some (0, (D_X10_isThere m0 0).2)) else ((D_X10_copies (D_X10_isThere m0 1).2 (((D_X10_isThere m0 1).2 0) 2) 0).bind (fun o11 => some ((((o11 0) 2) - 1), (va_up o11 0 (upd (o11 0) 2 (((o11 0) 2) - 1))))))
abbrev rm_X10_undo : Room := { frames := 1, cells := 0, slots := 0, locals := 23 }
set_option maxHeartbeats 4000000 in
set_option maxRecDepth 100000 in
theorem met_X10_undo (l : Launch) (D : va_G) (cy : Nat → ClassId) (sz : Nat) (am : Nat → Nat) (m0 : Nat → Nat → Int32)  (r : Int32) (t' : Nat → Nat → Int32) (hF : D_X10_undo m0 = some (r, t')) : MI l yX10_undo cX10_undo 1 (some .int) rm_X10_undo D cy (mW cy am m0) sz (fun _ => True) [.ref (am 0)] r (mW cy am t') := by
  refine MI.of (by decide +kernel) (Nat.le_of_ble_eq_true rfl) ?_
  intro p e s m args below meth c A ls Q hAt _ hP hD hA hS hl hret
  obtain ⟨hx, hb, hr, hml, hown, hw, hlk, hK, hN⟩ := hAt
  have hown : s.vm.findClass "CloudDeedsModel" = some m.cls := hown
  have hl : lv_has ls 1 [(0, .ref (am 0))] := hl
  refine lv_aload_n hx hb dX10_undo_0 rfl (lv_at hl 0 rfl) ?_
  refine lv_aload_n hx hb dX10_undo_1 rfl (lv_at hl 0 rfl) ?_
  refine get' (ci := 12) (fs := mF am (m0 0)) (v := .int ((m0 0) 2)) hx hb hw inWX10 hown hK hP (gM (am := am) (r := 0) (m := m0) (f := (m0 0)) (by decide) rfl) rfl 2 (by decide) k_1572 rfl rfl dX10_undo_2 ?_
  refine lv_if_le (tgt := 12) hx hb dX10_undo_5 (by decide) (fun h1 => ?_) (fun h1 => ?_)
  · replace hF := (if_pos h1).symm.trans hF
    refine lv_iconst (v := 0) hx hb dX10_undo_12 (by decide) ?_
    refine cV_i (As := [.int 0]) (rest := []) hx hb hml hown hw hK hN hA hl.1 hP hD hS k_1633 k_1635 k_28 k_90 k_1636 (met_X10_isThere l D cy _ am m0 0 (Or.inl rfl) 0 (D_X10_isThere m0 0).2 (rs_X10_isThere ..)) (fun _ _ _ => trivial) Xok_T (gM (am := am) (r := 0) (m := m0) (f := (m0 0)) (by decide) rfl) rfl ⟨rfl, rfl⟩ (n := 1) (by decide +kernel) rfl ⟨Nat.le_of_ble_eq_true rfl, Nat.le_of_ble_eq_true rfl⟩ ⟨Nat.le_of_ble_eq_true rfl, Nat.le_of_ble_eq_true rfl⟩ (Nat.le_of_ble_eq_true rfl) rfl dX10_undo_13 (fun H locs hP hD hS => ?_)
    refine lv_if_ne (tgt := 21) hx hb dX10_undo_16 (by decide) (fun h => absurd h (by decide)) (fun _ => ?_)
    refine lv_iconst (v := 0) hx hb dX10_undo_19 (by decide) ?_
    cases hF
    exact hret _ _ _ _ _ _ hP hD hS rfl rfl dX10_undo_20
  · replace hF := (if_neg h1).symm.trans hF
    refine lv_iconst (v := 1) hx hb dX10_undo_8 (by decide) ?_
    refine lv_goto (tgt := 13) hx hb dX10_undo_9 (by decide) ?_
    refine cV_i (As := [.int 1]) (rest := []) hx hb hml hown hw hK hN hA hl.1 hP hD hS k_1633 k_1635 k_28 k_90 k_1636 (met_X10_isThere l D cy _ am m0 1 (Or.inr rfl) 1 (D_X10_isThere m0 1).2 (rs_X10_isThere ..)) (fun _ _ _ => trivial) Xok_T (gM (am := am) (r := 0) (m := m0) (f := (m0 0)) (by decide) rfl) rfl ⟨rfl, rfl⟩ (n := 1) (by decide +kernel) rfl ⟨Nat.le_of_ble_eq_true rfl, Nat.le_of_ble_eq_true rfl⟩ ⟨Nat.le_of_ble_eq_true rfl, Nat.le_of_ble_eq_true rfl⟩ (Nat.le_of_ble_eq_true rfl) rfl dX10_undo_13 (fun H locs hP hD hS => ?_)
    refine lv_if_ne (tgt := 21) hx hb dX10_undo_16 (by decide) (fun _ => ?_) (fun h => absurd h (by decide))
    refine lv_aload_n hx hb dX10_undo_21 rfl (lv_at hl 0 rfl) ?_
    refine lv_aload_n hx hb dX10_undo_22 rfl (lv_at hl 0 rfl) ?_
    refine get' (ci := 12) (fs := mF am ((D_X10_isThere m0 1).2 0)) (v := .int (((D_X10_isThere m0 1).2 0) 2)) hx hb hw inWX10 hown hK hP (gM (am := am) (r := 0) (m := (D_X10_isThere m0 1).2) (f := ((D_X10_isThere m0 1).2 0)) (by decide) rfl) rfl 2 (by decide) k_1572 rfl rfl dX10_undo_23 ?_
    refine lv_iconst (v := 0) hx hb dX10_undo_26 (by decide) ?_
    obtain ⟨o11, hc12, hF⟩ := bind_some hF
    try dsimp only at hF
    refine cV_v (As := [.int (((D_X10_isThere m0 1).2 0) 2), .int 0]) (rest := []) hx hb hml hown hw hK hN hA hl.1 hP hD hS k_1645 k_1647 k_30 k_90 k_1648 (met_X10_copies l D cy _ am (D_X10_isThere m0 1).2 (((D_X10_isThere m0 1).2 0) 2) 0 o11 hc12) (fun _ _ _ => trivial) Xok_T (gM (am := am) (r := 0) (m := (D_X10_isThere m0 1).2) (f := ((D_X10_isThere m0 1).2 0)) (by decide) rfl) rfl ⟨rfl, rfl⟩ (n := 2) (by decide +kernel) rfl ⟨Nat.le_of_ble_eq_true rfl, Nat.le_of_ble_eq_true rfl⟩ ⟨Nat.le_of_ble_eq_true rfl, Nat.le_of_ble_eq_true rfl⟩ (Nat.le_of_ble_eq_true rfl) rfl dX10_undo_27 (fun H locs hP hD hS => ?_)
    refine lv_aload_n hx hb dX10_undo_30 rfl (lv_at hl 0 rfl) ?_
    refine lv_dup hx hb dX10_undo_31 rfl ?_
    refine get' (ci := 12) (fs := mF am (o11 0)) (v := .int ((o11 0) 2)) hx hb hw inWX10 hown hK hP (gM (am := am) (r := 0) (m := o11) (f := (o11 0)) (by decide) rfl) rfl 2 (by decide) k_1572 rfl rfl dX10_undo_32 ?_
    refine lv_iconst (v := 1) hx hb dX10_undo_35 (by decide) ?_
    refine lv_isub hx hb dX10_undo_36 ?_
    refine put' (ci := 12) (fs := mF am (o11 0)) (v := .int (((o11 0) 2) - 1)) (ty := .int) (ws' := (mW cy am (va_up o11 0 (upd (o11 0) 2 (((o11 0) 2) - 1))))) hx hb hw inWX10 tyX10 tyX10_ok nmX10 hown hK hP hD hS (gM (am := am) (r := 0) (m := o11) (f := (o11 0)) (by decide) rfl) rfl 2 (by decide) k_1572 rfl rfl (by decide +kernel) rfl rfl (Nat.le_of_ble_eq_true rfl) dX10_undo_37 (sM (am := am) (r := 0) (m := o11) (g := (upd (o11 0) 2 (((o11 0) 2) - 1))) (by decide)) (fun H locs hP hD hS => ?_)
    refine lv_aload_n hx hb dX10_undo_40 rfl (lv_at hl 0 rfl) ?_
    refine get' (ci := 12) (fs := mF am (upd (o11 0) 2 (((o11 0) 2) - 1))) (v := .int (((o11 0) 2) - 1)) hx hb hw inWX10 hown hK hP (gM (am := am) (r := 0) (m := (va_up o11 0 (upd (o11 0) 2 (((o11 0) 2) - 1)))) (f := (upd (o11 0) 2 (((o11 0) 2) - 1))) (by decide) (va_up_self _ _ _)) rfl 2 (by decide) k_1572 rfl rfl dX10_undo_41 ?_
    cases hF
    exact hret _ _ _ _ _ _ hP hD hS rfl rfl dX10_undo_44
def D_X10_save (m0 : Nat → Nat → Int32) : Option (Int32 × (Nat → Nat → Int32)) := (D_X10_copies (va_up m0 0 (upd (upd (m0 0) 0 0) 3 1)) 0 9).bind (fun o2 => if inb 0 1152 then (some (((o2 1) (0 : Int32).toNatClampNeg), o2)) else none)
abbrev rm_X10_save : Room := { frames := 1, cells := 0, slots := 0, locals := 23 }
set_option maxHeartbeats 4000000 in
set_option maxRecDepth 100000 in
theorem met_X10_save (l : Launch) (D : va_G) (cy : Nat → ClassId) (sz : Nat) (am : Nat → Nat) (m0 : Nat → Nat → Int32)  (r : Int32) (t' : Nat → Nat → Int32) (hF : D_X10_save m0 = some (r, t')) : MI l yX10_save cX10_save 1 (some .int) rm_X10_save D cy (mW cy am m0) sz (fun _ => True) [.ref (am 0)] r (mW cy am t') := by
  refine MI.of (by decide +kernel) (Nat.le_of_ble_eq_true rfl) ?_
  intro p e s m args below meth c A ls Q hAt _ hP hD hA hS hl hret
  obtain ⟨hx, hb, hr, hml, hown, hw, hlk, hK, hN⟩ := hAt
  have hown : s.vm.findClass "CloudDeedsModel" = some m.cls := hown
  have hl : lv_has ls 1 [(0, .ref (am 0))] := hl
  refine lv_aload_n hx hb dX10_save_0 rfl (lv_at hl 0 rfl) ?_
  refine lv_iconst (v := 0) hx hb dX10_save_1 (by decide) ?_
  refine put' (ci := 12) (fs := mF am (m0 0)) (v := .int 0) (ty := .int) (ws' := (mW cy am (va_up m0 0 (upd (m0 0) 0 0)))) hx hb hw inWX10 tyX10 tyX10_ok nmX10 hown hK hP hD hS (gM (am := am) (r := 0) (m := m0) (f := (m0 0)) (by decide) rfl) rfl 0 (by decide) k_1570 rfl rfl (by decide +kernel) rfl rfl (Nat.le_of_ble_eq_true rfl) dX10_save_2 (sM (am := am) (r := 0) (m := m0) (g := (upd (m0 0) 0 0)) (by decide)) (fun H locs hP hD hS => ?_)
  refine lv_aload_n hx hb dX10_save_5 rfl (lv_at hl 0 rfl) ?_
  refine lv_iconst (v := 1) hx hb dX10_save_6 (by decide) ?_
  refine put' (ci := 12) (fs := mF am (upd (m0 0) 0 0)) (v := .int 1) (ty := .boolean) (ws' := (mW cy am (va_up m0 0 (upd (upd (m0 0) 0 0) 3 1)))) hx hb hw inWX10 tyX10 tyX10_ok nmX10 hown hK hP hD hS (gM (am := am) (r := 0) (m := (va_up m0 0 (upd (m0 0) 0 0))) (f := (upd (m0 0) 0 0)) (by decide) (va_up_self _ _ _)) rfl 3 (by decide) k_1573 rfl rfl (by decide +kernel) rfl rfl (Nat.le_of_ble_eq_true rfl) dX10_save_7 ((sM (am := am) (r := 0) (m := (va_up m0 0 (upd (m0 0) 0 0))) (g := (upd (upd (m0 0) 0 0) 3 1)) (by decide)).trans (congrArg (fun z => mW cy am z) (up_up _ _ _ _))) (fun H locs hP hD hS => ?_)
  refine lv_aload_n hx hb dX10_save_10 rfl (lv_at hl 0 rfl) ?_
  refine lv_iconst (v := 0) hx hb dX10_save_11 (by decide) ?_
  refine lv_bipush (v := 9) hx hb dX10_save_12 (by decide) ?_
  obtain ⟨o2, hc3, hF⟩ := bind_some hF
  try dsimp only at hF
  refine cV_v (As := [.int 0, .int 9]) (rest := []) hx hb hml hown hw hK hN hA hl.1 hP hD hS k_1645 k_1647 k_30 k_90 k_1648 (met_X10_copies l D cy _ am (va_up m0 0 (upd (upd (m0 0) 0 0) 3 1)) 0 9 o2 hc3) (fun _ _ _ => trivial) Xok_T (gM (am := am) (r := 0) (m := (va_up m0 0 (upd (upd (m0 0) 0 0) 3 1))) (f := (upd (upd (m0 0) 0 0) 3 1)) (by decide) (va_up_self _ _ _)) rfl ⟨rfl, rfl⟩ (n := 2) (by decide +kernel) rfl ⟨Nat.le_of_ble_eq_true rfl, Nat.le_of_ble_eq_true rfl⟩ ⟨Nat.le_of_ble_eq_true rfl, Nat.le_of_ble_eq_true rfl⟩ (Nat.le_of_ble_eq_true rfl) rfl dX10_save_14 (fun H locs hP hD hS => ?_)
  refine lv_aload_n hx hb dX10_save_17 rfl (lv_at hl 0 rfl) ?_
  refine get' (ci := 12) (fs := mF am (o2 0)) (v := .ref (am 1)) hx hb hw inWX10 hown hK hP (gM (am := am) (r := 0) (m := o2) (f := (o2 0)) (by decide) rfl) rfl 1 (by decide) k_1571 rfl rfl dX10_save_18 ?_
  refine lv_iconst (v := 0) hx hb dX10_save_21 (by decide) ?_
  obtain ⟨h4, hF⟩ := ite_some hF
  refine va_iald (n := 1152) (f := (o2 1)) hx hb hK hP _ 0 (gM (am := am) (r := 1) (m := o2) (f := (o2 1)) (by decide) rfl) rfl (vp_inb h4) dX10_save_22 ?_
  cases hF
  exact hret _ _ _ _ _ _ hP hD hS rfl rfl dX10_save_23
def D_X10_restore (m0 : Nat → Nat → Int32) : Option (Int32 × (Nat → Nat → Int32)) := if is01 ((m0 0) 3) then (if ((m0 0) 3) = 0 then (some (0, (D_X10_isThere m0 ((m0 0) 3)).2)) else ((D_X10_copies (D_X10_isThere m0 ((m0 0) 3)).2 9 0).bind (fun o7 => if inb 0 1152 then (some (((o7 1) (0 : Int32).toNatClampNeg), (va_up o7 0 (upd (o7 0) 2 0)))) else none))) else none
abbrev rm_X10_restore : Room := { frames := 1, cells := 0, slots := 0, locals := 23 }
set_option maxHeartbeats 4000000 in
set_option maxRecDepth 100000 in
theorem met_X10_restore (l : Launch) (D : va_G) (cy : Nat → ClassId) (sz : Nat) (am : Nat → Nat) (m0 : Nat → Nat → Int32)  (r : Int32) (t' : Nat → Nat → Int32) (hF : D_X10_restore m0 = some (r, t')) : MI l yX10_restore cX10_restore 1 (some .int) rm_X10_restore D cy (mW cy am m0) sz (fun _ => True) [.ref (am 0)] r (mW cy am t') := by
  refine MI.of (by decide +kernel) (Nat.le_of_ble_eq_true rfl) ?_
  intro p e s m args below meth c A ls Q hAt _ hP hD hA hS hl hret
  obtain ⟨hx, hb, hr, hml, hown, hw, hlk, hK, hN⟩ := hAt
  have hown : s.vm.findClass "CloudDeedsModel" = some m.cls := hown
  have hl : lv_has ls 1 [(0, .ref (am 0))] := hl
  refine lv_aload_n hx hb dX10_restore_0 rfl (lv_at hl 0 rfl) ?_
  refine lv_aload_n hx hb dX10_restore_1 rfl (lv_at hl 0 rfl) ?_
  refine get' (ci := 12) (fs := mF am (m0 0)) (v := .int ((m0 0) 3)) hx hb hw inWX10 hown hK hP (gM (am := am) (r := 0) (m := m0) (f := (m0 0)) (by decide) rfl) rfl 3 (by decide) k_1573 rfl rfl dX10_restore_2 ?_
  obtain ⟨hg1, hF⟩ := ite_some hF
  refine cV_i (As := [.int ((m0 0) 3)]) (rest := []) hx hb hml hown hw hK hN hA hl.1 hP hD hS k_1633 k_1635 k_28 k_90 k_1636 (met_X10_isThere l D cy _ am m0 ((m0 0) 3) (is01_iff.mp hg1) ((m0 0) 3) (D_X10_isThere m0 ((m0 0) 3)).2 (rs_X10_isThere ..)) (fun _ _ _ => trivial) Xok_T (gM (am := am) (r := 0) (m := m0) (f := (m0 0)) (by decide) rfl) rfl ⟨rfl, rfl⟩ (n := 1) (by decide +kernel) rfl ⟨Nat.le_of_ble_eq_true rfl, Nat.le_of_ble_eq_true rfl⟩ ⟨Nat.le_of_ble_eq_true rfl, Nat.le_of_ble_eq_true rfl⟩ (Nat.le_of_ble_eq_true rfl) rfl dX10_restore_5 (fun H locs hP hD hS => ?_)
  refine lv_if_ne (tgt := 13) hx hb dX10_restore_8 (by decide) (fun h5 => ?_) (fun h5 => ?_)
  · replace hF := (if_neg h5).symm.trans hF
    refine lv_aload_n hx hb dX10_restore_13 rfl (lv_at hl 0 rfl) ?_
    refine lv_bipush (v := 9) hx hb dX10_restore_14 (by decide) ?_
    refine lv_iconst (v := 0) hx hb dX10_restore_16 (by decide) ?_
    obtain ⟨o7, hc8, hF⟩ := bind_some hF
    try dsimp only at hF
    refine cV_v (As := [.int 9, .int 0]) (rest := []) hx hb hml hown hw hK hN hA hl.1 hP hD hS k_1645 k_1647 k_30 k_90 k_1648 (met_X10_copies l D cy _ am (D_X10_isThere m0 ((m0 0) 3)).2 9 0 o7 hc8) (fun _ _ _ => trivial) Xok_T (gM (am := am) (r := 0) (m := (D_X10_isThere m0 ((m0 0) 3)).2) (f := ((D_X10_isThere m0 ((m0 0) 3)).2 0)) (by decide) rfl) rfl ⟨rfl, rfl⟩ (n := 2) (by decide +kernel) rfl ⟨Nat.le_of_ble_eq_true rfl, Nat.le_of_ble_eq_true rfl⟩ ⟨Nat.le_of_ble_eq_true rfl, Nat.le_of_ble_eq_true rfl⟩ (Nat.le_of_ble_eq_true rfl) rfl dX10_restore_17 (fun H locs hP hD hS => ?_)
    refine lv_aload_n hx hb dX10_restore_20 rfl (lv_at hl 0 rfl) ?_
    refine lv_iconst (v := 0) hx hb dX10_restore_21 (by decide) ?_
    refine put' (ci := 12) (fs := mF am (o7 0)) (v := .int 0) (ty := .int) (ws' := (mW cy am (va_up o7 0 (upd (o7 0) 2 0)))) hx hb hw inWX10 tyX10 tyX10_ok nmX10 hown hK hP hD hS (gM (am := am) (r := 0) (m := o7) (f := (o7 0)) (by decide) rfl) rfl 2 (by decide) k_1572 rfl rfl (by decide +kernel) rfl rfl (Nat.le_of_ble_eq_true rfl) dX10_restore_22 (sM (am := am) (r := 0) (m := o7) (g := (upd (o7 0) 2 0)) (by decide)) (fun H locs hP hD hS => ?_)
    refine lv_aload_n hx hb dX10_restore_25 rfl (lv_at hl 0 rfl) ?_
    refine get' (ci := 12) (fs := mF am (upd (o7 0) 2 0)) (v := .ref (am 1)) hx hb hw inWX10 hown hK hP (gM (am := am) (r := 0) (m := (va_up o7 0 (upd (o7 0) 2 0))) (f := (upd (o7 0) 2 0)) (by decide) (va_up_self _ _ _)) rfl 1 (by decide) k_1571 rfl rfl dX10_restore_26 ?_
    refine lv_iconst (v := 0) hx hb dX10_restore_29 (by decide) ?_
    obtain ⟨h9, hF⟩ := ite_some hF
    refine va_iald (n := 1152) (f := (o7 1)) hx hb hK hP _ 0 (gM (am := am) (r := 1) (m := (va_up o7 0 (upd (o7 0) 2 0))) (f := (o7 1)) (by decide) ((va_up_ne _ _ (by decide)).trans rfl)) rfl (vp_inb h9) dX10_restore_30 ?_
    cases hF
    exact hret _ _ _ _ _ _ hP hD hS rfl rfl dX10_restore_31
  · replace hF := (if_pos h5).symm.trans hF
    refine lv_iconst (v := 0) hx hb dX10_restore_11 (by decide) ?_
    cases hF
    exact hret _ _ _ _ _ _ hP hD hS rfl rfl dX10_restore_12
def L_X10_comes_115 : Nat → (Nat → Nat → Int32) → (Int32) → (Int32) → (Int32) → (Int32) → (Nat → Nat → Int32) → Option (Int32 × (Nat → Nat → Int32))
  | 0, _, _, _, _, _, _ => none
  | n115 + 1, m0, p1, p2, p3, i5h115, s115 => if 7 ≤ i5h115 then ((D_X10_set s115 (((D_X10_refuses (D_X10_refuses (D_X10_refuses m0 0 2 p1).2 0 3 p2).2 0 3 p3).2 1) (0 : Int32).toNatClampNeg) 0 p1).bind (fun o35 => (D_X10_set o35 (((D_X10_refuses (D_X10_refuses (D_X10_refuses m0 0 2 p1).2 0 3 p2).2 0 3 p3).2 1) (0 : Int32).toNatClampNeg) 1 p2).bind (fun o38 => (D_X10_set o38 (((D_X10_refuses (D_X10_refuses (D_X10_refuses m0 0 2 p1).2 0 3 p2).2 0 3 p3).2 1) (0 : Int32).toNatClampNeg) 2 p3).bind (fun o41 => some (1, (va_up o41 0 (upd (o41 0) 4 (((D_X10_refuses (D_X10_refuses (D_X10_refuses m0 0 2 p1).2 0 3 p2).2 0 3 p3).2 1) (0 : Int32).toNatClampNeg)))))))) else ((D_X10_set s115 (((D_X10_refuses (D_X10_refuses (D_X10_refuses m0 0 2 p1).2 0 3 p2).2 0 3 p3).2 1) (0 : Int32).toNatClampNeg) i5h115 0).bind (fun o44 => L_X10_comes_115 n115 m0 p1 p2 p3 (i5h115 + 1) o44))
def D_X10_comes (m0 : Nat → Nat → Int32) (p1 : Int32) (p2 : Int32) (p3 : Int32) : Option (Int32 × (Nat → Nat → Int32)) := if (D_X10_isVine p1) = 0 then (some (0, (D_X10_refuses m0 1 2 p1).2)) else (if (D_X10_in p2 0 5) = 0 then (some (0, (D_X10_refuses (D_X10_refuses m0 0 2 p1).2 1 3 p2).2)) else (if (D_X10_in p3 1 9) = 0 then (some (0, (D_X10_refuses (D_X10_refuses (D_X10_refuses m0 0 2 p1).2 0 3 p2).2 1 3 p3).2)) else (if inb 0 1152 then (if (((D_X10_refuses (D_X10_refuses (D_X10_refuses m0 0 2 p1).2 0 3 p2).2 0 3 p3).2 1) (0 : Int32).toNatClampNeg) = 6 then (some (0, (D_X10_refuses (D_X10_refuses (D_X10_refuses (D_X10_refuses m0 0 2 p1).2 0 3 p2).2 0 3 p3).2 1 1 6).2)) else (if inb 0 1152 then (if inb 0 1152 then (L_X10_comes_115 200 m0 p1 p2 p3 0 (va_up (D_X10_refuses (D_X10_refuses (D_X10_refuses (D_X10_refuses m0 0 2 p1).2 0 3 p2).2 0 3 p3).2 0 1 6).2 1 (upd ((D_X10_refuses (D_X10_refuses (D_X10_refuses (D_X10_refuses m0 0 2 p1).2 0 3 p2).2 0 3 p3).2 0 1 6).2 1) ((0 : Int32).toNatClampNeg) ((((D_X10_refuses (D_X10_refuses (D_X10_refuses (D_X10_refuses m0 0 2 p1).2 0 3 p2).2 0 3 p3).2 0 1 6).2 1) (0 : Int32).toNatClampNeg) + 1)))) else none) else none)) else none)))
abbrev rm_X10_comes : Room := { frames := 2, cells := 0, slots := 0, locals := 42 }
set_option maxHeartbeats 4000000 in
set_option maxRecDepth 100000 in
theorem met_X10_comes (l : Launch) (D : va_G) (cy : Nat → ClassId) (sz : Nat) (am : Nat → Nat) (m0 : Nat → Nat → Int32) (p1 : Int32) (p2 : Int32) (p3 : Int32)  (r : Int32) (t' : Nat → Nat → Int32) (hF : D_X10_comes m0 p1 p2 p3 = some (r, t')) : MI l yX10_comes cX10_comes 6 (some .boolean) rm_X10_comes D cy (mW cy am m0) sz (fun _ => True) [.ref (am 0), .int p1, .int p2, .int p3] r (mW cy am t') := by
  refine MZ.of (by decide +kernel) (Nat.le_of_ble_eq_true rfl) ?_
  intro p e s m args below meth c A ls Q hAt _ hP hD hA hS hl hret
  obtain ⟨hx, hb, hr, hml, hown, hw, hlk, hK, hN⟩ := hAt
  have hown : s.vm.findClass "CloudDeedsModel" = some m.cls := hown
  have hl : lv_has ls 6 [(0, .ref (am 0)), (1, .int p1), (2, .int p2), (3, .int p3)] := hl
  refine lv_aload_n hx hb dX10_comes_0 rfl (lv_at hl 0 rfl) ?_
  refine lv_iload_n hx hb dX10_comes_1 rfl (lv_at hl 1 rfl) ?_
  refine cS_i (As := [.int p1]) (rest := [.ref (am 0)]) hx hb hml hown hw hK hN hA hl.1 hP hD hS k_1653 k_1654 k_90 k_1655 (met_X10_isVine l D cy _ (mW cy am m0) p1 (D_X10_isVine p1) rfl) (fun _ _ _ => trivial) Xok_T ⟨rfl, rfl⟩ (n := 1) (by decide +kernel) rfl ⟨Nat.le_of_ble_eq_true rfl, Nat.le_of_ble_eq_true rfl⟩ ⟨Nat.le_of_ble_eq_true rfl, Nat.le_of_ble_eq_true rfl⟩ (Nat.le_of_ble_eq_true rfl) rfl dX10_comes_2 (fun H locs hP hD hS => ?_)
  refine lv_if_ne (tgt := 12) hx hb dX10_comes_5 (by decide) (fun h4 => ?_) (fun h4 => ?_)
  · replace hF := (if_neg h4).symm.trans hF
    refine lv_iconst (v := 0) hx hb dX10_comes_12 (by decide) ?_
    refine lv_iconst (v := 2) hx hb dX10_comes_13 (by decide) ?_
    refine lv_iload_n hx hb dX10_comes_14 rfl (lv_at hl 1 rfl) ?_
    refine cV_i (As := [.int 0, .int 2, .int p1]) (rest := []) hx hb hml hown hw hK hN hA hl.1 hP hD hS k_1659 k_1661 k_32 k_90 k_1662 (met_X10_refuses l D cy _ am m0 0 2 p1 (Or.inl rfl) 0 (D_X10_refuses m0 0 2 p1).2 (rs_X10_refuses ..)) (fun _ _ _ => trivial) Xok_T (gM (am := am) (r := 0) (m := m0) (f := (m0 0)) (by decide) rfl) rfl ⟨rfl, rfl⟩ (n := 3) (by decide +kernel) rfl ⟨Nat.le_of_ble_eq_true rfl, Nat.le_of_ble_eq_true rfl⟩ ⟨Nat.le_of_ble_eq_true rfl, Nat.le_of_ble_eq_true rfl⟩ (Nat.le_of_ble_eq_true rfl) rfl dX10_comes_15 (fun H locs hP hD hS => ?_)
    refine lv_if_ne (tgt := 68) hx hb dX10_comes_18 (by decide) (fun h => absurd h (by decide)) (fun _ => ?_)
    refine lv_aload_n hx hb dX10_comes_21 rfl (lv_at hl 0 rfl) ?_
    refine lv_iload_n hx hb dX10_comes_22 rfl (lv_at hl 2 rfl) ?_
    refine lv_iconst (v := 0) hx hb dX10_comes_23 (by decide) ?_
    refine lv_iconst (v := 5) hx hb dX10_comes_24 (by decide) ?_
    refine cS_i (As := [.int p2, .int 0, .int 5]) (rest := [.ref (am 0)]) hx hb hml hown hw hK hN hA hl.1 hP hD hS k_1656 k_1657 k_90 k_1658 (met_X10_in l D cy _ (mW cy am (D_X10_refuses m0 0 2 p1).2) p2 0 5 (D_X10_in p2 0 5) rfl) (fun _ _ _ => trivial) Xok_T ⟨rfl, rfl⟩ (n := 3) (by decide +kernel) rfl ⟨Nat.le_of_ble_eq_true rfl, Nat.le_of_ble_eq_true rfl⟩ ⟨Nat.le_of_ble_eq_true rfl, Nat.le_of_ble_eq_true rfl⟩ (Nat.le_of_ble_eq_true rfl) rfl dX10_comes_25 (fun H locs hP hD hS => ?_)
    refine lv_if_ne (tgt := 35) hx hb dX10_comes_28 (by decide) (fun h12 => ?_) (fun h12 => ?_)
    · replace hF := (if_neg h12).symm.trans hF
      refine lv_iconst (v := 0) hx hb dX10_comes_35 (by decide) ?_
      refine lv_iconst (v := 3) hx hb dX10_comes_36 (by decide) ?_
      refine lv_iload_n hx hb dX10_comes_37 rfl (lv_at hl 2 rfl) ?_
      refine cV_i (As := [.int 0, .int 3, .int p2]) (rest := []) hx hb hml hown hw hK hN hA hl.1 hP hD hS k_1659 k_1661 k_32 k_90 k_1662 (met_X10_refuses l D cy _ am (D_X10_refuses m0 0 2 p1).2 0 3 p2 (Or.inl rfl) 0 (D_X10_refuses (D_X10_refuses m0 0 2 p1).2 0 3 p2).2 (rs_X10_refuses ..)) (fun _ _ _ => trivial) Xok_T (gM (am := am) (r := 0) (m := (D_X10_refuses m0 0 2 p1).2) (f := ((D_X10_refuses m0 0 2 p1).2 0)) (by decide) rfl) rfl ⟨rfl, rfl⟩ (n := 3) (by decide +kernel) rfl ⟨Nat.le_of_ble_eq_true rfl, Nat.le_of_ble_eq_true rfl⟩ ⟨Nat.le_of_ble_eq_true rfl, Nat.le_of_ble_eq_true rfl⟩ (Nat.le_of_ble_eq_true rfl) rfl dX10_comes_38 (fun H locs hP hD hS => ?_)
      refine lv_if_ne (tgt := 68) hx hb dX10_comes_41 (by decide) (fun h => absurd h (by decide)) (fun _ => ?_)
      refine lv_aload_n hx hb dX10_comes_44 rfl (lv_at hl 0 rfl) ?_
      refine lv_iload_n hx hb dX10_comes_45 rfl (lv_at hl 3 rfl) ?_
      refine lv_iconst (v := 1) hx hb dX10_comes_46 (by decide) ?_
      refine lv_bipush (v := 9) hx hb dX10_comes_47 (by decide) ?_
      refine cS_i (As := [.int p3, .int 1, .int 9]) (rest := [.ref (am 0)]) hx hb hml hown hw hK hN hA hl.1 hP hD hS k_1656 k_1657 k_90 k_1658 (met_X10_in l D cy _ (mW cy am (D_X10_refuses (D_X10_refuses m0 0 2 p1).2 0 3 p2).2) p3 1 9 (D_X10_in p3 1 9) rfl) (fun _ _ _ => trivial) Xok_T ⟨rfl, rfl⟩ (n := 3) (by decide +kernel) rfl ⟨Nat.le_of_ble_eq_true rfl, Nat.le_of_ble_eq_true rfl⟩ ⟨Nat.le_of_ble_eq_true rfl, Nat.le_of_ble_eq_true rfl⟩ (Nat.le_of_ble_eq_true rfl) rfl dX10_comes_49 (fun H locs hP hD hS => ?_)
      refine lv_if_ne (tgt := 59) hx hb dX10_comes_52 (by decide) (fun h20 => ?_) (fun h20 => ?_)
      · replace hF := (if_neg h20).symm.trans hF
        refine lv_iconst (v := 0) hx hb dX10_comes_59 (by decide) ?_
        refine lv_iconst (v := 3) hx hb dX10_comes_60 (by decide) ?_
        refine lv_iload_n hx hb dX10_comes_61 rfl (lv_at hl 3 rfl) ?_
        refine cV_i (As := [.int 0, .int 3, .int p3]) (rest := []) hx hb hml hown hw hK hN hA hl.1 hP hD hS k_1659 k_1661 k_32 k_90 k_1662 (met_X10_refuses l D cy _ am (D_X10_refuses (D_X10_refuses m0 0 2 p1).2 0 3 p2).2 0 3 p3 (Or.inl rfl) 0 (D_X10_refuses (D_X10_refuses (D_X10_refuses m0 0 2 p1).2 0 3 p2).2 0 3 p3).2 (rs_X10_refuses ..)) (fun _ _ _ => trivial) Xok_T (gM (am := am) (r := 0) (m := (D_X10_refuses (D_X10_refuses m0 0 2 p1).2 0 3 p2).2) (f := ((D_X10_refuses (D_X10_refuses m0 0 2 p1).2 0 3 p2).2 0)) (by decide) rfl) rfl ⟨rfl, rfl⟩ (n := 3) (by decide +kernel) rfl ⟨Nat.le_of_ble_eq_true rfl, Nat.le_of_ble_eq_true rfl⟩ ⟨Nat.le_of_ble_eq_true rfl, Nat.le_of_ble_eq_true rfl⟩ (Nat.le_of_ble_eq_true rfl) rfl dX10_comes_62 (fun H locs hP hD hS => ?_)
        refine lv_if_eq (tgt := 70) hx hb dX10_comes_65 (by decide) (fun _ => ?_) (fun h => absurd h (by decide))
        refine lv_aload_n hx hb dX10_comes_70 rfl (lv_at hl 0 rfl) ?_
        refine get' (ci := 12) (fs := mF am ((D_X10_refuses (D_X10_refuses (D_X10_refuses m0 0 2 p1).2 0 3 p2).2 0 3 p3).2 0)) (v := .ref (am 1)) hx hb hw inWX10 hown hK hP (gM (am := am) (r := 0) (m := (D_X10_refuses (D_X10_refuses (D_X10_refuses m0 0 2 p1).2 0 3 p2).2 0 3 p3).2) (f := ((D_X10_refuses (D_X10_refuses (D_X10_refuses m0 0 2 p1).2 0 3 p2).2 0 3 p3).2 0)) (by decide) rfl) rfl 1 (by decide) k_1571 rfl rfl dX10_comes_71 ?_
        refine lv_iconst (v := 0) hx hb dX10_comes_74 (by decide) ?_
        obtain ⟨h25, hF⟩ := ite_some hF
        refine va_iald (n := 1152) (f := ((D_X10_refuses (D_X10_refuses (D_X10_refuses m0 0 2 p1).2 0 3 p2).2 0 3 p3).2 1)) hx hb hK hP _ 0 (gM (am := am) (r := 1) (m := (D_X10_refuses (D_X10_refuses (D_X10_refuses m0 0 2 p1).2 0 3 p2).2 0 3 p3).2) (f := ((D_X10_refuses (D_X10_refuses (D_X10_refuses m0 0 2 p1).2 0 3 p2).2 0 3 p3).2 1)) (by decide) rfl) rfl (vp_inb h25) dX10_comes_75 ?_
        refine lv_istore (lv' := [(4, .int (((D_X10_refuses (D_X10_refuses (D_X10_refuses m0 0 2 p1).2 0 3 p2).2 0 3 p3).2 1) (0 : Int32).toNatClampNeg)), (0, .ref (am 0)), (1, .int p1), (2, .int p2), (3, .int p3)]) hx hb dX10_comes_76 hl (by decide) rfl (fun ls hl => ?_)
        refine lv_aload_n hx hb dX10_comes_78 rfl (lv_at hl 1 rfl) ?_
        refine lv_iload hx hb dX10_comes_79 (lv_at hl 0 rfl) ?_
        refine lv_bipush (v := 6) hx hb dX10_comes_81 (by decide) ?_
        refine lv_icmp_ne (tgt := 90) hx hb dX10_comes_83 (by decide) (fun h26 => ?_) (fun h26 => ?_)
        · replace hF := (if_neg h26).symm.trans hF
          refine lv_iconst (v := 0) hx hb dX10_comes_90 (by decide) ?_
          refine lv_iconst (v := 1) hx hb dX10_comes_91 (by decide) ?_
          refine lv_bipush (v := 6) hx hb dX10_comes_92 (by decide) ?_
          refine cV_i (As := [.int 0, .int 1, .int 6]) (rest := []) hx hb hml hown hw hK hN hA hl.1 hP hD hS k_1659 k_1661 k_32 k_90 k_1662 (met_X10_refuses l D cy _ am (D_X10_refuses (D_X10_refuses (D_X10_refuses m0 0 2 p1).2 0 3 p2).2 0 3 p3).2 0 1 6 (Or.inl rfl) 0 (D_X10_refuses (D_X10_refuses (D_X10_refuses (D_X10_refuses m0 0 2 p1).2 0 3 p2).2 0 3 p3).2 0 1 6).2 (rs_X10_refuses ..)) (fun _ _ _ => trivial) Xok_T (gM (am := am) (r := 0) (m := (D_X10_refuses (D_X10_refuses (D_X10_refuses m0 0 2 p1).2 0 3 p2).2 0 3 p3).2) (f := ((D_X10_refuses (D_X10_refuses (D_X10_refuses m0 0 2 p1).2 0 3 p2).2 0 3 p3).2 0)) (by decide) rfl) rfl ⟨rfl, rfl⟩ (n := 3) (by decide +kernel) rfl ⟨Nat.le_of_ble_eq_true rfl, Nat.le_of_ble_eq_true rfl⟩ ⟨Nat.le_of_ble_eq_true rfl, Nat.le_of_ble_eq_true rfl⟩ (Nat.le_of_ble_eq_true rfl) rfl dX10_comes_94 (fun H locs hP hD hS => ?_)
          refine lv_if_eq (tgt := 102) hx hb dX10_comes_97 (by decide) (fun _ => ?_) (fun h => absurd h (by decide))
          refine lv_aload_n hx hb dX10_comes_102 rfl (lv_at hl 1 rfl) ?_
          refine get' (ci := 12) (fs := mF am ((D_X10_refuses (D_X10_refuses (D_X10_refuses (D_X10_refuses m0 0 2 p1).2 0 3 p2).2 0 3 p3).2 0 1 6).2 0)) (v := .ref (am 1)) hx hb hw inWX10 hown hK hP (gM (am := am) (r := 0) (m := (D_X10_refuses (D_X10_refuses (D_X10_refuses (D_X10_refuses m0 0 2 p1).2 0 3 p2).2 0 3 p3).2 0 1 6).2) (f := ((D_X10_refuses (D_X10_refuses (D_X10_refuses (D_X10_refuses m0 0 2 p1).2 0 3 p2).2 0 3 p3).2 0 1 6).2 0)) (by decide) rfl) rfl 1 (by decide) k_1571 rfl rfl dX10_comes_103 ?_
          refine lv_iconst (v := 0) hx hb dX10_comes_106 (by decide) ?_
          refine lv_dup2_11 hx hb dX10_comes_107 rfl rfl ?_
          obtain ⟨h31, hF⟩ := ite_some hF
          refine va_iald (n := 1152) (f := ((D_X10_refuses (D_X10_refuses (D_X10_refuses (D_X10_refuses m0 0 2 p1).2 0 3 p2).2 0 3 p3).2 0 1 6).2 1)) hx hb hK hP _ 0 (gM (am := am) (r := 1) (m := (D_X10_refuses (D_X10_refuses (D_X10_refuses (D_X10_refuses m0 0 2 p1).2 0 3 p2).2 0 3 p3).2 0 1 6).2) (f := ((D_X10_refuses (D_X10_refuses (D_X10_refuses (D_X10_refuses m0 0 2 p1).2 0 3 p2).2 0 3 p3).2 0 1 6).2 1)) (by decide) rfl) rfl (vp_inb h31) dX10_comes_108 ?_
          refine lv_iconst (v := 1) hx hb dX10_comes_109 (by decide) ?_
          refine lv_iadd hx hb dX10_comes_110 ?_
          obtain ⟨h32, hF⟩ := ite_some hF
          refine iast' (n := 1152) (f := ((D_X10_refuses (D_X10_refuses (D_X10_refuses (D_X10_refuses m0 0 2 p1).2 0 3 p2).2 0 3 p3).2 0 1 6).2 1)) (ws' := (mW cy am (va_up (D_X10_refuses (D_X10_refuses (D_X10_refuses (D_X10_refuses m0 0 2 p1).2 0 3 p2).2 0 3 p3).2 0 1 6).2 1 (upd ((D_X10_refuses (D_X10_refuses (D_X10_refuses (D_X10_refuses m0 0 2 p1).2 0 3 p2).2 0 3 p3).2 0 1 6).2 1) ((0 : Int32).toNatClampNeg) ((((D_X10_refuses (D_X10_refuses (D_X10_refuses (D_X10_refuses m0 0 2 p1).2 0 3 p2).2 0 3 p3).2 0 1 6).2 1) (0 : Int32).toNatClampNeg) + 1))))) hx hb hK hP hD hS (gM (am := am) (r := 1) (m := (D_X10_refuses (D_X10_refuses (D_X10_refuses (D_X10_refuses m0 0 2 p1).2 0 3 p2).2 0 3 p3).2 0 1 6).2) (f := ((D_X10_refuses (D_X10_refuses (D_X10_refuses (D_X10_refuses m0 0 2 p1).2 0 3 p2).2 0 3 p3).2 0 1 6).2 1)) (by decide) rfl) (t0 := 0) rfl (vp_inb h32) dX10_comes_111 (sM (am := am) (r := 1) (m := (D_X10_refuses (D_X10_refuses (D_X10_refuses (D_X10_refuses m0 0 2 p1).2 0 3 p2).2 0 3 p3).2 0 1 6).2) (g := (upd ((D_X10_refuses (D_X10_refuses (D_X10_refuses (D_X10_refuses m0 0 2 p1).2 0 3 p2).2 0 3 p3).2 0 1 6).2 1) ((0 : Int32).toNatClampNeg) ((((D_X10_refuses (D_X10_refuses (D_X10_refuses (D_X10_refuses m0 0 2 p1).2 0 3 p2).2 0 3 p3).2 0 1 6).2 1) (0 : Int32).toNatClampNeg) + 1))) (by decide)) (fun H locs hP hD hS => ?_)
          refine lv_iconst (v := 0) hx hb dX10_comes_112 (by decide) ?_
          refine lv_istore (lv' := [(5, .int 0), (4, .int (((D_X10_refuses (D_X10_refuses (D_X10_refuses m0 0 2 p1).2 0 3 p2).2 0 3 p3).2 1) (0 : Int32).toNatClampNeg)), (0, .ref (am 0)), (1, .int p1), (2, .int p2), (3, .int p3)]) hx hb dX10_comes_113 hl (by decide) rfl (fun ls hl => ?_)
          have loop115 : ∀ (n : Nat) (i5h115 : Int32) (s115 : Nat → Nat → Int32) (H : Heap) (locs : List Loc) (ls : Array Slot), L_X10_comes_115 n m0 p1 p2 p3 i5h115 s115 = some (r, t') → va_P D vwCl (mW cy am s115) H → va_D A (mW cy am s115) → va_S A s.heap H locs → lv_has ls 6 [(5, .int i5h115), (4, .int (((D_X10_refuses (D_X10_refuses (D_X10_refuses m0 0 2 p1).2 0 3 p2).2 0 3 p3).2 1) (0 : Int32).toNatClampNeg)), (0, .ref (am 0)), (1, .int p1), (2, .int p2), (3, .int p3)] → W p l e rm_X10_comes s m args below meth c H locs 0 0 Q (F0 m 115 ls []) := by
            intro n
            induction n with
            | zero => intro i5h115 s115 H locs ls hF _ _ _ _; exact absurd hF (by simp [L_X10_comes_115])
            | succ n115 ih115 =>
              intro i5h115 s115 H locs ls hF hP hD hS hl
              refine lv_iload hx hb dX10_comes_115 (lv_at hl 0 rfl) ?_
              refine lv_bipush (v := 7) hx hb dX10_comes_117 (by decide) ?_
              refine lv_icmp_ge (tgt := 137) hx hb dX10_comes_119 (by decide) (fun h33 => ?_) (fun h33 => ?_)
              · replace hF := (if_pos h33).symm.trans hF
                refine lv_aload_n hx hb dX10_comes_137 rfl (lv_at hl 2 rfl) ?_
                refine lv_iload hx hb dX10_comes_138 (lv_at hl 1 rfl) ?_
                refine lv_iconst (v := 0) hx hb dX10_comes_140 (by decide) ?_
                refine lv_iload_n hx hb dX10_comes_141 rfl (lv_at hl 3 rfl) ?_
                obtain ⟨o35, hc36, hF⟩ := bind_some hF
                try dsimp only at hF
                refine cV_v (As := [.int (((D_X10_refuses (D_X10_refuses (D_X10_refuses m0 0 2 p1).2 0 3 p2).2 0 3 p3).2 1) (0 : Int32).toNatClampNeg), .int 0, .int p1]) (rest := []) hx hb hml hown hw hK hN hA hl.1 hP hD hS k_1663 k_1665 k_33 k_90 k_1666 (met_X10_set l D cy _ am s115 (((D_X10_refuses (D_X10_refuses (D_X10_refuses m0 0 2 p1).2 0 3 p2).2 0 3 p3).2 1) (0 : Int32).toNatClampNeg) 0 p1 o35 hc36) (fun _ _ _ => trivial) Xok_T (gM (am := am) (r := 0) (m := s115) (f := (s115 0)) (by decide) rfl) rfl ⟨rfl, rfl⟩ (n := 3) (by decide +kernel) rfl ⟨Nat.le_of_ble_eq_true rfl, Nat.le_of_ble_eq_true rfl⟩ ⟨Nat.le_of_ble_eq_true rfl, Nat.le_of_ble_eq_true rfl⟩ (Nat.le_of_ble_eq_true rfl) rfl dX10_comes_142 (fun H locs hP hD hS => ?_)
                refine lv_aload_n hx hb dX10_comes_145 rfl (lv_at hl 2 rfl) ?_
                refine lv_iload hx hb dX10_comes_146 (lv_at hl 1 rfl) ?_
                refine lv_iconst (v := 1) hx hb dX10_comes_148 (by decide) ?_
                refine lv_iload_n hx hb dX10_comes_149 rfl (lv_at hl 4 rfl) ?_
                obtain ⟨o38, hc39, hF⟩ := bind_some hF
                try dsimp only at hF
                refine cV_v (As := [.int (((D_X10_refuses (D_X10_refuses (D_X10_refuses m0 0 2 p1).2 0 3 p2).2 0 3 p3).2 1) (0 : Int32).toNatClampNeg), .int 1, .int p2]) (rest := []) hx hb hml hown hw hK hN hA hl.1 hP hD hS k_1663 k_1665 k_33 k_90 k_1666 (met_X10_set l D cy _ am o35 (((D_X10_refuses (D_X10_refuses (D_X10_refuses m0 0 2 p1).2 0 3 p2).2 0 3 p3).2 1) (0 : Int32).toNatClampNeg) 1 p2 o38 hc39) (fun _ _ _ => trivial) Xok_T (gM (am := am) (r := 0) (m := o35) (f := (o35 0)) (by decide) rfl) rfl ⟨rfl, rfl⟩ (n := 3) (by decide +kernel) rfl ⟨Nat.le_of_ble_eq_true rfl, Nat.le_of_ble_eq_true rfl⟩ ⟨Nat.le_of_ble_eq_true rfl, Nat.le_of_ble_eq_true rfl⟩ (Nat.le_of_ble_eq_true rfl) rfl dX10_comes_150 (fun H locs hP hD hS => ?_)
                refine lv_aload_n hx hb dX10_comes_153 rfl (lv_at hl 2 rfl) ?_
                refine lv_iload hx hb dX10_comes_154 (lv_at hl 1 rfl) ?_
                refine lv_iconst (v := 2) hx hb dX10_comes_156 (by decide) ?_
                refine lv_iload_n hx hb dX10_comes_157 rfl (lv_at hl 5 rfl) ?_
                obtain ⟨o41, hc42, hF⟩ := bind_some hF
                try dsimp only at hF
                refine cV_v (As := [.int (((D_X10_refuses (D_X10_refuses (D_X10_refuses m0 0 2 p1).2 0 3 p2).2 0 3 p3).2 1) (0 : Int32).toNatClampNeg), .int 2, .int p3]) (rest := []) hx hb hml hown hw hK hN hA hl.1 hP hD hS k_1663 k_1665 k_33 k_90 k_1666 (met_X10_set l D cy _ am o38 (((D_X10_refuses (D_X10_refuses (D_X10_refuses m0 0 2 p1).2 0 3 p2).2 0 3 p3).2 1) (0 : Int32).toNatClampNeg) 2 p3 o41 hc42) (fun _ _ _ => trivial) Xok_T (gM (am := am) (r := 0) (m := o38) (f := (o38 0)) (by decide) rfl) rfl ⟨rfl, rfl⟩ (n := 3) (by decide +kernel) rfl ⟨Nat.le_of_ble_eq_true rfl, Nat.le_of_ble_eq_true rfl⟩ ⟨Nat.le_of_ble_eq_true rfl, Nat.le_of_ble_eq_true rfl⟩ (Nat.le_of_ble_eq_true rfl) rfl dX10_comes_158 (fun H locs hP hD hS => ?_)
                refine lv_aload_n hx hb dX10_comes_161 rfl (lv_at hl 2 rfl) ?_
                refine lv_iload hx hb dX10_comes_162 (lv_at hl 1 rfl) ?_
                refine put' (ci := 12) (fs := mF am (o41 0)) (v := .int (((D_X10_refuses (D_X10_refuses (D_X10_refuses m0 0 2 p1).2 0 3 p2).2 0 3 p3).2 1) (0 : Int32).toNatClampNeg)) (ty := .int) (ws' := (mW cy am (va_up o41 0 (upd (o41 0) 4 (((D_X10_refuses (D_X10_refuses (D_X10_refuses m0 0 2 p1).2 0 3 p2).2 0 3 p3).2 1) (0 : Int32).toNatClampNeg))))) hx hb hw inWX10 tyX10 tyX10_ok nmX10 hown hK hP hD hS (gM (am := am) (r := 0) (m := o41) (f := (o41 0)) (by decide) rfl) rfl 4 (by decide) k_1574 rfl rfl (by decide +kernel) rfl rfl (Nat.le_of_ble_eq_true rfl) dX10_comes_164 (sM (am := am) (r := 0) (m := o41) (g := (upd (o41 0) 4 (((D_X10_refuses (D_X10_refuses (D_X10_refuses m0 0 2 p1).2 0 3 p2).2 0 3 p3).2 1) (0 : Int32).toNatClampNeg))) (by decide)) (fun H locs hP hD hS => ?_)
                refine lv_iconst (v := 1) hx hb dX10_comes_167 (by decide) ?_
                cases hF
                exact hret _ _ _ _ _ _ hP hD hS rfl rfl rfl dX10_comes_168
              · replace hF := (if_neg h33).symm.trans hF
                refine lv_aload_n hx hb dX10_comes_122 rfl (lv_at hl 2 rfl) ?_
                refine lv_iload hx hb dX10_comes_123 (lv_at hl 1 rfl) ?_
                refine lv_iload hx hb dX10_comes_125 (lv_at hl 0 rfl) ?_
                refine lv_iconst (v := 0) hx hb dX10_comes_127 (by decide) ?_
                obtain ⟨o44, hc45, hF⟩ := bind_some hF
                try dsimp only at hF
                refine cV_v (As := [.int (((D_X10_refuses (D_X10_refuses (D_X10_refuses m0 0 2 p1).2 0 3 p2).2 0 3 p3).2 1) (0 : Int32).toNatClampNeg), .int i5h115, .int 0]) (rest := []) hx hb hml hown hw hK hN hA hl.1 hP hD hS k_1663 k_1665 k_33 k_90 k_1666 (met_X10_set l D cy _ am s115 (((D_X10_refuses (D_X10_refuses (D_X10_refuses m0 0 2 p1).2 0 3 p2).2 0 3 p3).2 1) (0 : Int32).toNatClampNeg) i5h115 0 o44 hc45) (fun _ _ _ => trivial) Xok_T (gM (am := am) (r := 0) (m := s115) (f := (s115 0)) (by decide) rfl) rfl ⟨rfl, rfl⟩ (n := 3) (by decide +kernel) rfl ⟨Nat.le_of_ble_eq_true rfl, Nat.le_of_ble_eq_true rfl⟩ ⟨Nat.le_of_ble_eq_true rfl, Nat.le_of_ble_eq_true rfl⟩ (Nat.le_of_ble_eq_true rfl) rfl dX10_comes_128 (fun H locs hP hD hS => ?_)
                refine lv_iinc (v := (i5h115 + 1)) (lv' := [(5, .int (i5h115 + 1)), (4, .int (((D_X10_refuses (D_X10_refuses (D_X10_refuses m0 0 2 p1).2 0 3 p2).2 0 3 p3).2 1) (0 : Int32).toNatClampNeg)), (0, .ref (am 0)), (1, .int p1), (2, .int p2), (3, .int p3)]) hx hb dX10_comes_131 hl (k := 0) rfl rfl (by decide) rfl (fun ls hl => ?_)
                refine lv_goto (tgt := 115) hx hb dX10_comes_134 (by decide) ?_
                exact ih115 (i5h115 + 1) o44 _ _ _ hF hP hD hS (lv_sub hl [0, 1, 2, 3, 4, 5] rfl)
          exact loop115 200 0 (va_up (D_X10_refuses (D_X10_refuses (D_X10_refuses (D_X10_refuses m0 0 2 p1).2 0 3 p2).2 0 3 p3).2 0 1 6).2 1 (upd ((D_X10_refuses (D_X10_refuses (D_X10_refuses (D_X10_refuses m0 0 2 p1).2 0 3 p2).2 0 3 p3).2 0 1 6).2 1) ((0 : Int32).toNatClampNeg) ((((D_X10_refuses (D_X10_refuses (D_X10_refuses (D_X10_refuses m0 0 2 p1).2 0 3 p2).2 0 3 p3).2 0 1 6).2 1) (0 : Int32).toNatClampNeg) + 1))) _ _ _ hF hP hD hS (lv_sub hl [0, 1, 2, 3, 4, 5] rfl)
        · replace hF := (if_pos h26).symm.trans hF
          refine lv_iconst (v := 1) hx hb dX10_comes_86 (by decide) ?_
          refine lv_goto (tgt := 91) hx hb dX10_comes_87 (by decide) ?_
          refine lv_iconst (v := 1) hx hb dX10_comes_91 (by decide) ?_
          refine lv_bipush (v := 6) hx hb dX10_comes_92 (by decide) ?_
          refine cV_i (As := [.int 1, .int 1, .int 6]) (rest := []) hx hb hml hown hw hK hN hA hl.1 hP hD hS k_1659 k_1661 k_32 k_90 k_1662 (met_X10_refuses l D cy _ am (D_X10_refuses (D_X10_refuses (D_X10_refuses m0 0 2 p1).2 0 3 p2).2 0 3 p3).2 1 1 6 (Or.inr rfl) 1 (D_X10_refuses (D_X10_refuses (D_X10_refuses (D_X10_refuses m0 0 2 p1).2 0 3 p2).2 0 3 p3).2 1 1 6).2 (rs_X10_refuses ..)) (fun _ _ _ => trivial) Xok_T (gM (am := am) (r := 0) (m := (D_X10_refuses (D_X10_refuses (D_X10_refuses m0 0 2 p1).2 0 3 p2).2 0 3 p3).2) (f := ((D_X10_refuses (D_X10_refuses (D_X10_refuses m0 0 2 p1).2 0 3 p2).2 0 3 p3).2 0)) (by decide) rfl) rfl ⟨rfl, rfl⟩ (n := 3) (by decide +kernel) rfl ⟨Nat.le_of_ble_eq_true rfl, Nat.le_of_ble_eq_true rfl⟩ ⟨Nat.le_of_ble_eq_true rfl, Nat.le_of_ble_eq_true rfl⟩ (Nat.le_of_ble_eq_true rfl) rfl dX10_comes_94 (fun H locs hP hD hS => ?_)
          refine lv_if_eq (tgt := 102) hx hb dX10_comes_97 (by decide) (fun h => absurd h (by decide)) (fun _ => ?_)
          refine lv_iconst (v := 0) hx hb dX10_comes_100 (by decide) ?_
          cases hF
          exact hret _ _ _ _ _ _ hP hD hS rfl rfl rfl dX10_comes_101
      · replace hF := (if_pos h20).symm.trans hF
        refine lv_iconst (v := 1) hx hb dX10_comes_55 (by decide) ?_
        refine lv_goto (tgt := 60) hx hb dX10_comes_56 (by decide) ?_
        refine lv_iconst (v := 3) hx hb dX10_comes_60 (by decide) ?_
        refine lv_iload_n hx hb dX10_comes_61 rfl (lv_at hl 3 rfl) ?_
        refine cV_i (As := [.int 1, .int 3, .int p3]) (rest := []) hx hb hml hown hw hK hN hA hl.1 hP hD hS k_1659 k_1661 k_32 k_90 k_1662 (met_X10_refuses l D cy _ am (D_X10_refuses (D_X10_refuses m0 0 2 p1).2 0 3 p2).2 1 3 p3 (Or.inr rfl) 1 (D_X10_refuses (D_X10_refuses (D_X10_refuses m0 0 2 p1).2 0 3 p2).2 1 3 p3).2 (rs_X10_refuses ..)) (fun _ _ _ => trivial) Xok_T (gM (am := am) (r := 0) (m := (D_X10_refuses (D_X10_refuses m0 0 2 p1).2 0 3 p2).2) (f := ((D_X10_refuses (D_X10_refuses m0 0 2 p1).2 0 3 p2).2 0)) (by decide) rfl) rfl ⟨rfl, rfl⟩ (n := 3) (by decide +kernel) rfl ⟨Nat.le_of_ble_eq_true rfl, Nat.le_of_ble_eq_true rfl⟩ ⟨Nat.le_of_ble_eq_true rfl, Nat.le_of_ble_eq_true rfl⟩ (Nat.le_of_ble_eq_true rfl) rfl dX10_comes_62 (fun H locs hP hD hS => ?_)
        refine lv_if_eq (tgt := 70) hx hb dX10_comes_65 (by decide) (fun h => absurd h (by decide)) (fun _ => ?_)
        refine lv_iconst (v := 0) hx hb dX10_comes_68 (by decide) ?_
        cases hF
        exact hret _ _ _ _ _ _ hP hD hS rfl rfl rfl dX10_comes_69
    · replace hF := (if_pos h12).symm.trans hF
      refine lv_iconst (v := 1) hx hb dX10_comes_31 (by decide) ?_
      refine lv_goto (tgt := 36) hx hb dX10_comes_32 (by decide) ?_
      refine lv_iconst (v := 3) hx hb dX10_comes_36 (by decide) ?_
      refine lv_iload_n hx hb dX10_comes_37 rfl (lv_at hl 2 rfl) ?_
      refine cV_i (As := [.int 1, .int 3, .int p2]) (rest := []) hx hb hml hown hw hK hN hA hl.1 hP hD hS k_1659 k_1661 k_32 k_90 k_1662 (met_X10_refuses l D cy _ am (D_X10_refuses m0 0 2 p1).2 1 3 p2 (Or.inr rfl) 1 (D_X10_refuses (D_X10_refuses m0 0 2 p1).2 1 3 p2).2 (rs_X10_refuses ..)) (fun _ _ _ => trivial) Xok_T (gM (am := am) (r := 0) (m := (D_X10_refuses m0 0 2 p1).2) (f := ((D_X10_refuses m0 0 2 p1).2 0)) (by decide) rfl) rfl ⟨rfl, rfl⟩ (n := 3) (by decide +kernel) rfl ⟨Nat.le_of_ble_eq_true rfl, Nat.le_of_ble_eq_true rfl⟩ ⟨Nat.le_of_ble_eq_true rfl, Nat.le_of_ble_eq_true rfl⟩ (Nat.le_of_ble_eq_true rfl) rfl dX10_comes_38 (fun H locs hP hD hS => ?_)
      refine lv_if_ne (tgt := 68) hx hb dX10_comes_41 (by decide) (fun _ => ?_) (fun h => absurd h (by decide))
      refine lv_iconst (v := 0) hx hb dX10_comes_68 (by decide) ?_
      cases hF
      exact hret _ _ _ _ _ _ hP hD hS rfl rfl rfl dX10_comes_69
  · replace hF := (if_pos h4).symm.trans hF
    refine lv_iconst (v := 1) hx hb dX10_comes_8 (by decide) ?_
    refine lv_goto (tgt := 13) hx hb dX10_comes_9 (by decide) ?_
    refine lv_iconst (v := 2) hx hb dX10_comes_13 (by decide) ?_
    refine lv_iload_n hx hb dX10_comes_14 rfl (lv_at hl 1 rfl) ?_
    refine cV_i (As := [.int 1, .int 2, .int p1]) (rest := []) hx hb hml hown hw hK hN hA hl.1 hP hD hS k_1659 k_1661 k_32 k_90 k_1662 (met_X10_refuses l D cy _ am m0 1 2 p1 (Or.inr rfl) 1 (D_X10_refuses m0 1 2 p1).2 (rs_X10_refuses ..)) (fun _ _ _ => trivial) Xok_T (gM (am := am) (r := 0) (m := m0) (f := (m0 0)) (by decide) rfl) rfl ⟨rfl, rfl⟩ (n := 3) (by decide +kernel) rfl ⟨Nat.le_of_ble_eq_true rfl, Nat.le_of_ble_eq_true rfl⟩ ⟨Nat.le_of_ble_eq_true rfl, Nat.le_of_ble_eq_true rfl⟩ (Nat.le_of_ble_eq_true rfl) rfl dX10_comes_15 (fun H locs hP hD hS => ?_)
    refine lv_if_ne (tgt := 68) hx hb dX10_comes_18 (by decide) (fun _ => ?_) (fun h => absurd h (by decide))
    refine lv_iconst (v := 0) hx hb dX10_comes_68 (by decide) ?_
    cases hF
    exact hret _ _ _ _ _ _ hP hD hS rfl rfl rfl dX10_comes_69
def D_X10_belongs (m0 : Nat → Nat → Int32) (p1 : Int32) (p2 : Int32) : Option (Int32 × (Nat → Nat → Int32)) := if (D_X10_isVine p1) = 0 then (some (0, (D_X10_refuses m0 1 2 p1).2)) else (if (D_X10_in p2 (-1) 3) = 0 then (some (0, (D_X10_refuses (D_X10_refuses m0 0 2 p1).2 1 2 p2).2)) else (if inb (13 + p1) 1152 then (if (((D_X10_refuses (D_X10_refuses m0 0 2 p1).2 0 2 p2).2 1) (13 + p1).toNatClampNeg) = (p2 + 1) then (some (0, (D_X10_refuses (D_X10_refuses (D_X10_refuses m0 0 2 p1).2 0 2 p2).2 1 4 p2).2)) else (if inb (13 + p1) 1152 then ((D_X10_owned (va_up (D_X10_refuses (D_X10_refuses (D_X10_refuses m0 0 2 p1).2 0 2 p2).2 0 4 p2).2 1 (upd ((D_X10_refuses (D_X10_refuses (D_X10_refuses m0 0 2 p1).2 0 2 p2).2 0 4 p2).2 1) ((13 + p1).toNatClampNeg) (p2 + 1)))).bind (fun r24 => some (1, (va_up (va_up (D_X10_refuses (D_X10_refuses (D_X10_refuses m0 0 2 p1).2 0 2 p2).2 0 4 p2).2 1 (upd ((D_X10_refuses (D_X10_refuses (D_X10_refuses m0 0 2 p1).2 0 2 p2).2 0 4 p2).2 1) ((13 + p1).toNatClampNeg) (p2 + 1))) 0 (upd ((D_X10_refuses (D_X10_refuses (D_X10_refuses m0 0 2 p1).2 0 2 p2).2 0 4 p2).2 0) 4 r24))))) else none)) else none))
abbrev rm_X10_belongs : Room := { frames := 2, cells := 0, slots := 0, locals := 42 }
set_option maxHeartbeats 4000000 in
set_option maxRecDepth 100000 in
theorem met_X10_belongs (l : Launch) (D : va_G) (cy : Nat → ClassId) (sz : Nat) (am : Nat → Nat) (m0 : Nat → Nat → Int32) (p1 : Int32) (p2 : Int32)  (r : Int32) (t' : Nat → Nat → Int32) (hF : D_X10_belongs m0 p1 p2 = some (r, t')) : MI l yX10_belongs cX10_belongs 3 (some .boolean) rm_X10_belongs D cy (mW cy am m0) sz (fun _ => True) [.ref (am 0), .int p1, .int p2] r (mW cy am t') := by
  refine MZ.of (by decide +kernel) (Nat.le_of_ble_eq_true rfl) ?_
  intro p e s m args below meth c A ls Q hAt _ hP hD hA hS hl hret
  obtain ⟨hx, hb, hr, hml, hown, hw, hlk, hK, hN⟩ := hAt
  have hown : s.vm.findClass "CloudDeedsModel" = some m.cls := hown
  have hl : lv_has ls 3 [(0, .ref (am 0)), (1, .int p1), (2, .int p2)] := hl
  refine lv_aload_n hx hb dX10_belongs_0 rfl (lv_at hl 0 rfl) ?_
  refine lv_iload_n hx hb dX10_belongs_1 rfl (lv_at hl 1 rfl) ?_
  refine cS_i (As := [.int p1]) (rest := [.ref (am 0)]) hx hb hml hown hw hK hN hA hl.1 hP hD hS k_1653 k_1654 k_90 k_1655 (met_X10_isVine l D cy _ (mW cy am m0) p1 (D_X10_isVine p1) rfl) (fun _ _ _ => trivial) Xok_T ⟨rfl, rfl⟩ (n := 1) (by decide +kernel) rfl ⟨Nat.le_of_ble_eq_true rfl, Nat.le_of_ble_eq_true rfl⟩ ⟨Nat.le_of_ble_eq_true rfl, Nat.le_of_ble_eq_true rfl⟩ (Nat.le_of_ble_eq_true rfl) rfl dX10_belongs_2 (fun H locs hP hD hS => ?_)
  refine lv_if_ne (tgt := 12) hx hb dX10_belongs_5 (by decide) (fun h4 => ?_) (fun h4 => ?_)
  · replace hF := (if_neg h4).symm.trans hF
    refine lv_iconst (v := 0) hx hb dX10_belongs_12 (by decide) ?_
    refine lv_iconst (v := 2) hx hb dX10_belongs_13 (by decide) ?_
    refine lv_iload_n hx hb dX10_belongs_14 rfl (lv_at hl 1 rfl) ?_
    refine cV_i (As := [.int 0, .int 2, .int p1]) (rest := []) hx hb hml hown hw hK hN hA hl.1 hP hD hS k_1659 k_1661 k_32 k_90 k_1662 (met_X10_refuses l D cy _ am m0 0 2 p1 (Or.inl rfl) 0 (D_X10_refuses m0 0 2 p1).2 (rs_X10_refuses ..)) (fun _ _ _ => trivial) Xok_T (gM (am := am) (r := 0) (m := m0) (f := (m0 0)) (by decide) rfl) rfl ⟨rfl, rfl⟩ (n := 3) (by decide +kernel) rfl ⟨Nat.le_of_ble_eq_true rfl, Nat.le_of_ble_eq_true rfl⟩ ⟨Nat.le_of_ble_eq_true rfl, Nat.le_of_ble_eq_true rfl⟩ (Nat.le_of_ble_eq_true rfl) rfl dX10_belongs_15 (fun H locs hP hD hS => ?_)
    refine lv_if_ne (tgt := 73) hx hb dX10_belongs_18 (by decide) (fun h => absurd h (by decide)) (fun _ => ?_)
    refine lv_aload_n hx hb dX10_belongs_21 rfl (lv_at hl 0 rfl) ?_
    refine lv_iload_n hx hb dX10_belongs_22 rfl (lv_at hl 2 rfl) ?_
    refine lv_iconst (v := (-1)) hx hb dX10_belongs_23 (by decide) ?_
    refine lv_iconst (v := 3) hx hb dX10_belongs_24 (by decide) ?_
    refine cS_i (As := [.int p2, .int (-1), .int 3]) (rest := [.ref (am 0)]) hx hb hml hown hw hK hN hA hl.1 hP hD hS k_1656 k_1657 k_90 k_1658 (met_X10_in l D cy _ (mW cy am (D_X10_refuses m0 0 2 p1).2) p2 (-1) 3 (D_X10_in p2 (-1) 3) rfl) (fun _ _ _ => trivial) Xok_T ⟨rfl, rfl⟩ (n := 3) (by decide +kernel) rfl ⟨Nat.le_of_ble_eq_true rfl, Nat.le_of_ble_eq_true rfl⟩ ⟨Nat.le_of_ble_eq_true rfl, Nat.le_of_ble_eq_true rfl⟩ (Nat.le_of_ble_eq_true rfl) rfl dX10_belongs_25 (fun H locs hP hD hS => ?_)
    refine lv_if_ne (tgt := 35) hx hb dX10_belongs_28 (by decide) (fun h12 => ?_) (fun h12 => ?_)
    · replace hF := (if_neg h12).symm.trans hF
      refine lv_iconst (v := 0) hx hb dX10_belongs_35 (by decide) ?_
      refine lv_iconst (v := 2) hx hb dX10_belongs_36 (by decide) ?_
      refine lv_iload_n hx hb dX10_belongs_37 rfl (lv_at hl 2 rfl) ?_
      refine cV_i (As := [.int 0, .int 2, .int p2]) (rest := []) hx hb hml hown hw hK hN hA hl.1 hP hD hS k_1659 k_1661 k_32 k_90 k_1662 (met_X10_refuses l D cy _ am (D_X10_refuses m0 0 2 p1).2 0 2 p2 (Or.inl rfl) 0 (D_X10_refuses (D_X10_refuses m0 0 2 p1).2 0 2 p2).2 (rs_X10_refuses ..)) (fun _ _ _ => trivial) Xok_T (gM (am := am) (r := 0) (m := (D_X10_refuses m0 0 2 p1).2) (f := ((D_X10_refuses m0 0 2 p1).2 0)) (by decide) rfl) rfl ⟨rfl, rfl⟩ (n := 3) (by decide +kernel) rfl ⟨Nat.le_of_ble_eq_true rfl, Nat.le_of_ble_eq_true rfl⟩ ⟨Nat.le_of_ble_eq_true rfl, Nat.le_of_ble_eq_true rfl⟩ (Nat.le_of_ble_eq_true rfl) rfl dX10_belongs_38 (fun H locs hP hD hS => ?_)
      refine lv_if_ne (tgt := 73) hx hb dX10_belongs_41 (by decide) (fun h => absurd h (by decide)) (fun _ => ?_)
      refine lv_aload_n hx hb dX10_belongs_44 rfl (lv_at hl 0 rfl) ?_
      refine lv_aload_n hx hb dX10_belongs_45 rfl (lv_at hl 0 rfl) ?_
      refine get' (ci := 12) (fs := mF am ((D_X10_refuses (D_X10_refuses m0 0 2 p1).2 0 2 p2).2 0)) (v := .ref (am 1)) hx hb hw inWX10 hown hK hP (gM (am := am) (r := 0) (m := (D_X10_refuses (D_X10_refuses m0 0 2 p1).2 0 2 p2).2) (f := ((D_X10_refuses (D_X10_refuses m0 0 2 p1).2 0 2 p2).2 0)) (by decide) rfl) rfl 1 (by decide) k_1571 rfl rfl dX10_belongs_46 ?_
      refine lv_bipush (v := 13) hx hb dX10_belongs_49 (by decide) ?_
      refine lv_iload_n hx hb dX10_belongs_51 rfl (lv_at hl 1 rfl) ?_
      refine lv_iadd hx hb dX10_belongs_52 ?_
      obtain ⟨h17, hF⟩ := ite_some hF
      refine va_iald (n := 1152) (f := ((D_X10_refuses (D_X10_refuses m0 0 2 p1).2 0 2 p2).2 1)) hx hb hK hP _ 0 (gM (am := am) (r := 1) (m := (D_X10_refuses (D_X10_refuses m0 0 2 p1).2 0 2 p2).2) (f := ((D_X10_refuses (D_X10_refuses m0 0 2 p1).2 0 2 p2).2 1)) (by decide) rfl) rfl (vp_inb h17) dX10_belongs_53 ?_
      refine lv_iload_n hx hb dX10_belongs_54 rfl (lv_at hl 2 rfl) ?_
      refine lv_iconst (v := 1) hx hb dX10_belongs_55 (by decide) ?_
      refine lv_iadd hx hb dX10_belongs_56 ?_
      refine lv_icmp_ne (tgt := 64) hx hb dX10_belongs_57 (by decide) (fun h18 => ?_) (fun h18 => ?_)
      · replace hF := (if_neg h18).symm.trans hF
        refine lv_iconst (v := 0) hx hb dX10_belongs_64 (by decide) ?_
        refine lv_iconst (v := 4) hx hb dX10_belongs_65 (by decide) ?_
        refine lv_iload_n hx hb dX10_belongs_66 rfl (lv_at hl 2 rfl) ?_
        refine cV_i (As := [.int 0, .int 4, .int p2]) (rest := []) hx hb hml hown hw hK hN hA hl.1 hP hD hS k_1659 k_1661 k_32 k_90 k_1662 (met_X10_refuses l D cy _ am (D_X10_refuses (D_X10_refuses m0 0 2 p1).2 0 2 p2).2 0 4 p2 (Or.inl rfl) 0 (D_X10_refuses (D_X10_refuses (D_X10_refuses m0 0 2 p1).2 0 2 p2).2 0 4 p2).2 (rs_X10_refuses ..)) (fun _ _ _ => trivial) Xok_T (gM (am := am) (r := 0) (m := (D_X10_refuses (D_X10_refuses m0 0 2 p1).2 0 2 p2).2) (f := ((D_X10_refuses (D_X10_refuses m0 0 2 p1).2 0 2 p2).2 0)) (by decide) rfl) rfl ⟨rfl, rfl⟩ (n := 3) (by decide +kernel) rfl ⟨Nat.le_of_ble_eq_true rfl, Nat.le_of_ble_eq_true rfl⟩ ⟨Nat.le_of_ble_eq_true rfl, Nat.le_of_ble_eq_true rfl⟩ (Nat.le_of_ble_eq_true rfl) rfl dX10_belongs_67 (fun H locs hP hD hS => ?_)
        refine lv_if_eq (tgt := 75) hx hb dX10_belongs_70 (by decide) (fun _ => ?_) (fun h => absurd h (by decide))
        refine lv_aload_n hx hb dX10_belongs_75 rfl (lv_at hl 0 rfl) ?_
        refine get' (ci := 12) (fs := mF am ((D_X10_refuses (D_X10_refuses (D_X10_refuses m0 0 2 p1).2 0 2 p2).2 0 4 p2).2 0)) (v := .ref (am 1)) hx hb hw inWX10 hown hK hP (gM (am := am) (r := 0) (m := (D_X10_refuses (D_X10_refuses (D_X10_refuses m0 0 2 p1).2 0 2 p2).2 0 4 p2).2) (f := ((D_X10_refuses (D_X10_refuses (D_X10_refuses m0 0 2 p1).2 0 2 p2).2 0 4 p2).2 0)) (by decide) rfl) rfl 1 (by decide) k_1571 rfl rfl dX10_belongs_76 ?_
        refine lv_bipush (v := 13) hx hb dX10_belongs_79 (by decide) ?_
        refine lv_iload_n hx hb dX10_belongs_81 rfl (lv_at hl 1 rfl) ?_
        refine lv_iadd hx hb dX10_belongs_82 ?_
        refine lv_iload_n hx hb dX10_belongs_83 rfl (lv_at hl 2 rfl) ?_
        refine lv_iconst (v := 1) hx hb dX10_belongs_84 (by decide) ?_
        refine lv_iadd hx hb dX10_belongs_85 ?_
        obtain ⟨h23, hF⟩ := ite_some hF
        refine iast' (n := 1152) (f := ((D_X10_refuses (D_X10_refuses (D_X10_refuses m0 0 2 p1).2 0 2 p2).2 0 4 p2).2 1)) (ws' := (mW cy am (va_up (D_X10_refuses (D_X10_refuses (D_X10_refuses m0 0 2 p1).2 0 2 p2).2 0 4 p2).2 1 (upd ((D_X10_refuses (D_X10_refuses (D_X10_refuses m0 0 2 p1).2 0 2 p2).2 0 4 p2).2 1) ((13 + p1).toNatClampNeg) (p2 + 1))))) hx hb hK hP hD hS (gM (am := am) (r := 1) (m := (D_X10_refuses (D_X10_refuses (D_X10_refuses m0 0 2 p1).2 0 2 p2).2 0 4 p2).2) (f := ((D_X10_refuses (D_X10_refuses (D_X10_refuses m0 0 2 p1).2 0 2 p2).2 0 4 p2).2 1)) (by decide) rfl) (t0 := 0) rfl (vp_inb h23) dX10_belongs_86 (sM (am := am) (r := 1) (m := (D_X10_refuses (D_X10_refuses (D_X10_refuses m0 0 2 p1).2 0 2 p2).2 0 4 p2).2) (g := (upd ((D_X10_refuses (D_X10_refuses (D_X10_refuses m0 0 2 p1).2 0 2 p2).2 0 4 p2).2 1) ((13 + p1).toNatClampNeg) (p2 + 1))) (by decide)) (fun H locs hP hD hS => ?_)
        refine lv_aload_n hx hb dX10_belongs_87 rfl (lv_at hl 0 rfl) ?_
        refine lv_aload_n hx hb dX10_belongs_88 rfl (lv_at hl 0 rfl) ?_
        obtain ⟨r24, hc26, hF⟩ := bind_some hF
        try dsimp only at hF
        refine cV_i (As := []) (rest := [.ref (am 0)]) hx hb hml hown hw hK hN hA hl.1 hP hD hS k_1679 k_1681 k_36 k_90 k_1682 (met_X10_owned l D cy _ am (va_up (D_X10_refuses (D_X10_refuses (D_X10_refuses m0 0 2 p1).2 0 2 p2).2 0 4 p2).2 1 (upd ((D_X10_refuses (D_X10_refuses (D_X10_refuses m0 0 2 p1).2 0 2 p2).2 0 4 p2).2 1) ((13 + p1).toNatClampNeg) (p2 + 1))) r24 hc26) (fun _ _ _ => trivial) Xok_T (gM (am := am) (r := 0) (m := (va_up (D_X10_refuses (D_X10_refuses (D_X10_refuses m0 0 2 p1).2 0 2 p2).2 0 4 p2).2 1 (upd ((D_X10_refuses (D_X10_refuses (D_X10_refuses m0 0 2 p1).2 0 2 p2).2 0 4 p2).2 1) ((13 + p1).toNatClampNeg) (p2 + 1)))) (f := ((D_X10_refuses (D_X10_refuses (D_X10_refuses m0 0 2 p1).2 0 2 p2).2 0 4 p2).2 0)) (by decide) ((va_up_ne _ _ (by decide)).trans rfl)) rfl ⟨rfl, rfl⟩ (n := 0) (by decide +kernel) rfl ⟨Nat.le_of_ble_eq_true rfl, Nat.le_of_ble_eq_true rfl⟩ ⟨Nat.le_of_ble_eq_true rfl, Nat.le_of_ble_eq_true rfl⟩ (Nat.le_of_ble_eq_true rfl) rfl dX10_belongs_89 (fun H locs hP hD hS => ?_)
        refine put' (ci := 12) (fs := mF am ((D_X10_refuses (D_X10_refuses (D_X10_refuses m0 0 2 p1).2 0 2 p2).2 0 4 p2).2 0)) (v := .int r24) (ty := .int) (ws' := (mW cy am (va_up (va_up (D_X10_refuses (D_X10_refuses (D_X10_refuses m0 0 2 p1).2 0 2 p2).2 0 4 p2).2 1 (upd ((D_X10_refuses (D_X10_refuses (D_X10_refuses m0 0 2 p1).2 0 2 p2).2 0 4 p2).2 1) ((13 + p1).toNatClampNeg) (p2 + 1))) 0 (upd ((D_X10_refuses (D_X10_refuses (D_X10_refuses m0 0 2 p1).2 0 2 p2).2 0 4 p2).2 0) 4 r24)))) hx hb hw inWX10 tyX10 tyX10_ok nmX10 hown hK hP hD hS (gM (am := am) (r := 0) (m := (va_up (D_X10_refuses (D_X10_refuses (D_X10_refuses m0 0 2 p1).2 0 2 p2).2 0 4 p2).2 1 (upd ((D_X10_refuses (D_X10_refuses (D_X10_refuses m0 0 2 p1).2 0 2 p2).2 0 4 p2).2 1) ((13 + p1).toNatClampNeg) (p2 + 1)))) (f := ((D_X10_refuses (D_X10_refuses (D_X10_refuses m0 0 2 p1).2 0 2 p2).2 0 4 p2).2 0)) (by decide) ((va_up_ne _ _ (by decide)).trans rfl)) rfl 4 (by decide) k_1574 rfl rfl (by decide +kernel) rfl rfl (Nat.le_of_ble_eq_true rfl) dX10_belongs_92 (sM (am := am) (r := 0) (m := (va_up (D_X10_refuses (D_X10_refuses (D_X10_refuses m0 0 2 p1).2 0 2 p2).2 0 4 p2).2 1 (upd ((D_X10_refuses (D_X10_refuses (D_X10_refuses m0 0 2 p1).2 0 2 p2).2 0 4 p2).2 1) ((13 + p1).toNatClampNeg) (p2 + 1)))) (g := (upd ((D_X10_refuses (D_X10_refuses (D_X10_refuses m0 0 2 p1).2 0 2 p2).2 0 4 p2).2 0) 4 r24)) (by decide)) (fun H locs hP hD hS => ?_)
        refine lv_iconst (v := 1) hx hb dX10_belongs_95 (by decide) ?_
        cases hF
        exact hret _ _ _ _ _ _ hP hD hS rfl rfl rfl dX10_belongs_96
      · replace hF := (if_pos h18).symm.trans hF
        refine lv_iconst (v := 1) hx hb dX10_belongs_60 (by decide) ?_
        refine lv_goto (tgt := 65) hx hb dX10_belongs_61 (by decide) ?_
        refine lv_iconst (v := 4) hx hb dX10_belongs_65 (by decide) ?_
        refine lv_iload_n hx hb dX10_belongs_66 rfl (lv_at hl 2 rfl) ?_
        refine cV_i (As := [.int 1, .int 4, .int p2]) (rest := []) hx hb hml hown hw hK hN hA hl.1 hP hD hS k_1659 k_1661 k_32 k_90 k_1662 (met_X10_refuses l D cy _ am (D_X10_refuses (D_X10_refuses m0 0 2 p1).2 0 2 p2).2 1 4 p2 (Or.inr rfl) 1 (D_X10_refuses (D_X10_refuses (D_X10_refuses m0 0 2 p1).2 0 2 p2).2 1 4 p2).2 (rs_X10_refuses ..)) (fun _ _ _ => trivial) Xok_T (gM (am := am) (r := 0) (m := (D_X10_refuses (D_X10_refuses m0 0 2 p1).2 0 2 p2).2) (f := ((D_X10_refuses (D_X10_refuses m0 0 2 p1).2 0 2 p2).2 0)) (by decide) rfl) rfl ⟨rfl, rfl⟩ (n := 3) (by decide +kernel) rfl ⟨Nat.le_of_ble_eq_true rfl, Nat.le_of_ble_eq_true rfl⟩ ⟨Nat.le_of_ble_eq_true rfl, Nat.le_of_ble_eq_true rfl⟩ (Nat.le_of_ble_eq_true rfl) rfl dX10_belongs_67 (fun H locs hP hD hS => ?_)
        refine lv_if_eq (tgt := 75) hx hb dX10_belongs_70 (by decide) (fun h => absurd h (by decide)) (fun _ => ?_)
        refine lv_iconst (v := 0) hx hb dX10_belongs_73 (by decide) ?_
        cases hF
        exact hret _ _ _ _ _ _ hP hD hS rfl rfl rfl dX10_belongs_74
    · replace hF := (if_pos h12).symm.trans hF
      refine lv_iconst (v := 1) hx hb dX10_belongs_31 (by decide) ?_
      refine lv_goto (tgt := 36) hx hb dX10_belongs_32 (by decide) ?_
      refine lv_iconst (v := 2) hx hb dX10_belongs_36 (by decide) ?_
      refine lv_iload_n hx hb dX10_belongs_37 rfl (lv_at hl 2 rfl) ?_
      refine cV_i (As := [.int 1, .int 2, .int p2]) (rest := []) hx hb hml hown hw hK hN hA hl.1 hP hD hS k_1659 k_1661 k_32 k_90 k_1662 (met_X10_refuses l D cy _ am (D_X10_refuses m0 0 2 p1).2 1 2 p2 (Or.inr rfl) 1 (D_X10_refuses (D_X10_refuses m0 0 2 p1).2 1 2 p2).2 (rs_X10_refuses ..)) (fun _ _ _ => trivial) Xok_T (gM (am := am) (r := 0) (m := (D_X10_refuses m0 0 2 p1).2) (f := ((D_X10_refuses m0 0 2 p1).2 0)) (by decide) rfl) rfl ⟨rfl, rfl⟩ (n := 3) (by decide +kernel) rfl ⟨Nat.le_of_ble_eq_true rfl, Nat.le_of_ble_eq_true rfl⟩ ⟨Nat.le_of_ble_eq_true rfl, Nat.le_of_ble_eq_true rfl⟩ (Nat.le_of_ble_eq_true rfl) rfl dX10_belongs_38 (fun H locs hP hD hS => ?_)
      refine lv_if_ne (tgt := 73) hx hb dX10_belongs_41 (by decide) (fun _ => ?_) (fun h => absurd h (by decide))
      refine lv_iconst (v := 0) hx hb dX10_belongs_73 (by decide) ?_
      cases hF
      exact hret _ _ _ _ _ _ hP hD hS rfl rfl rfl dX10_belongs_74
  · replace hF := (if_pos h4).symm.trans hF
    refine lv_iconst (v := 1) hx hb dX10_belongs_8 (by decide) ?_
    refine lv_goto (tgt := 13) hx hb dX10_belongs_9 (by decide) ?_
    refine lv_iconst (v := 2) hx hb dX10_belongs_13 (by decide) ?_
    refine lv_iload_n hx hb dX10_belongs_14 rfl (lv_at hl 1 rfl) ?_
    refine cV_i (As := [.int 1, .int 2, .int p1]) (rest := []) hx hb hml hown hw hK hN hA hl.1 hP hD hS k_1659 k_1661 k_32 k_90 k_1662 (met_X10_refuses l D cy _ am m0 1 2 p1 (Or.inr rfl) 1 (D_X10_refuses m0 1 2 p1).2 (rs_X10_refuses ..)) (fun _ _ _ => trivial) Xok_T (gM (am := am) (r := 0) (m := m0) (f := (m0 0)) (by decide) rfl) rfl ⟨rfl, rfl⟩ (n := 3) (by decide +kernel) rfl ⟨Nat.le_of_ble_eq_true rfl, Nat.le_of_ble_eq_true rfl⟩ ⟨Nat.le_of_ble_eq_true rfl, Nat.le_of_ble_eq_true rfl⟩ (Nat.le_of_ble_eq_true rfl) rfl dX10_belongs_15 (fun H locs hP hD hS => ?_)
    refine lv_if_ne (tgt := 73) hx hb dX10_belongs_18 (by decide) (fun _ => ?_) (fun h => absurd h (by decide))
    refine lv_iconst (v := 0) hx hb dX10_belongs_73 (by decide) ?_
    cases hF
    exact hret _ _ _ _ _ _ hP hD hS rfl rfl rfl dX10_belongs_74
def D_X10_entitles (m0 : Nat → Nat → Int32) (p1 : Int32) (p2 : Int32) : Option (Int32 × (Nat → Nat → Int32)) := (D_X10_isCloud m0 p1).bind (fun r1 => if r1 = 0 then (some (0, (D_X10_refuses m0 1 2 p1).2)) else (if (D_X10_isOwner p2) = 0 then (some (0, (D_X10_refuses (D_X10_refuses m0 0 2 p1).2 1 2 p2).2)) else ((D_X10_ownerAt (D_X10_refuses (D_X10_refuses m0 0 2 p1).2 0 2 p2).2 p1).bind (fun r17 => if r17 < 0 then ((D_X10_ownerAt (D_X10_refuses (D_X10_refuses m0 0 2 p1).2 0 2 p2).2 p1).bind (fun r21 => (D_X10_c (D_X10_refuses (D_X10_refuses (D_X10_refuses m0 0 2 p1).2 0 2 p2).2 0 5 r21).2 p1 2).bind (fun r28 => (D_X10_coinsAt (D_X10_refuses (D_X10_refuses (D_X10_refuses m0 0 2 p1).2 0 2 p2).2 0 5 r21).2 p2).bind (fun r31 => if r28 ≤ r31 then ((D_X10_coinsAt (D_X10_refuses (D_X10_refuses (D_X10_refuses m0 0 2 p1).2 0 2 p2).2 0 5 r21).2 p2).bind (fun r35 => (D_X10_pays (D_X10_refuses (D_X10_refuses (D_X10_refuses (D_X10_refuses m0 0 2 p1).2 0 2 p2).2 0 5 r21).2 0 7 r35).2 p2 r28).bind (fun o43 => if inb 6 1152 then (if inb 6 1152 then ((D_X10_gets (va_up o43 1 (upd (o43 1) ((6 : Int32).toNatClampNeg) (((o43 1) (6 : Int32).toNatClampNeg) + r28))) p1 p2).bind (fun o48 => (D_X10_coinsAt o48 p2).bind (fun r50 => some (1, (va_up o48 0 (upd (o48 0) 4 r50)))))) else none) else none))) else ((D_X10_coinsAt (D_X10_refuses (D_X10_refuses (D_X10_refuses m0 0 2 p1).2 0 2 p2).2 0 5 r21).2 p2).bind (fun r53 => some (0, (D_X10_refuses (D_X10_refuses (D_X10_refuses (D_X10_refuses m0 0 2 p1).2 0 2 p2).2 0 5 r21).2 1 7 r53).2))))))) else ((D_X10_ownerAt (D_X10_refuses (D_X10_refuses m0 0 2 p1).2 0 2 p2).2 p1).bind (fun r60 => some (0, (D_X10_refuses (D_X10_refuses (D_X10_refuses m0 0 2 p1).2 0 2 p2).2 1 5 r60).2)))))))
abbrev rm_X10_entitles : Room := { frames := 2, cells := 0, slots := 0, locals := 45 }
set_option maxHeartbeats 4000000 in
set_option maxRecDepth 100000 in
theorem met_X10_entitles (l : Launch) (D : va_G) (cy : Nat → ClassId) (sz : Nat) (am : Nat → Nat) (m0 : Nat → Nat → Int32) (p1 : Int32) (p2 : Int32)  (r : Int32) (t' : Nat → Nat → Int32) (hF : D_X10_entitles m0 p1 p2 = some (r, t')) : MI l yX10_entitles cX10_entitles 4 (some .boolean) rm_X10_entitles D cy (mW cy am m0) sz (fun _ => True) [.ref (am 0), .int p1, .int p2] r (mW cy am t') := by
  refine MZ.of (by decide +kernel) (Nat.le_of_ble_eq_true rfl) ?_
  intro p e s m args below meth c A ls Q hAt _ hP hD hA hS hl hret
  obtain ⟨hx, hb, hr, hml, hown, hw, hlk, hK, hN⟩ := hAt
  have hown : s.vm.findClass "CloudDeedsModel" = some m.cls := hown
  have hl : lv_has ls 4 [(0, .ref (am 0)), (1, .int p1), (2, .int p2)] := hl
  refine lv_aload_n hx hb dX10_entitles_0 rfl (lv_at hl 0 rfl) ?_
  refine lv_aload_n hx hb dX10_entitles_1 rfl (lv_at hl 0 rfl) ?_
  refine lv_iload_n hx hb dX10_entitles_2 rfl (lv_at hl 1 rfl) ?_
  obtain ⟨r1, hc3, hF⟩ := bind_some hF
  try dsimp only at hF
  refine cV_i (As := [.int p1]) (rest := [.ref (am 0)]) hx hb hml hown hw hK hN hA hl.1 hP hD hS k_1691 k_1693 k_38 k_90 k_1694 (met_X10_isCloud l D cy _ am m0 p1 r1 hc3) (fun _ _ _ => trivial) Xok_T (gM (am := am) (r := 0) (m := m0) (f := (m0 0)) (by decide) rfl) rfl ⟨rfl, rfl⟩ (n := 1) (by decide +kernel) rfl ⟨Nat.le_of_ble_eq_true rfl, Nat.le_of_ble_eq_true rfl⟩ ⟨Nat.le_of_ble_eq_true rfl, Nat.le_of_ble_eq_true rfl⟩ (Nat.le_of_ble_eq_true rfl) rfl dX10_entitles_3 (fun H locs hP hD hS => ?_)
  refine lv_if_ne (tgt := 13) hx hb dX10_entitles_6 (by decide) (fun h4 => ?_) (fun h4 => ?_)
  · replace hF := (if_neg h4).symm.trans hF
    refine lv_iconst (v := 0) hx hb dX10_entitles_13 (by decide) ?_
    refine lv_iconst (v := 2) hx hb dX10_entitles_14 (by decide) ?_
    refine lv_iload_n hx hb dX10_entitles_15 rfl (lv_at hl 1 rfl) ?_
    refine cV_i (As := [.int 0, .int 2, .int p1]) (rest := []) hx hb hml hown hw hK hN hA hl.1 hP hD hS k_1659 k_1661 k_32 k_90 k_1662 (met_X10_refuses l D cy _ am m0 0 2 p1 (Or.inl rfl) 0 (D_X10_refuses m0 0 2 p1).2 (rs_X10_refuses ..)) (fun _ _ _ => trivial) Xok_T (gM (am := am) (r := 0) (m := m0) (f := (m0 0)) (by decide) rfl) rfl ⟨rfl, rfl⟩ (n := 3) (by decide +kernel) rfl ⟨Nat.le_of_ble_eq_true rfl, Nat.le_of_ble_eq_true rfl⟩ ⟨Nat.le_of_ble_eq_true rfl, Nat.le_of_ble_eq_true rfl⟩ (Nat.le_of_ble_eq_true rfl) rfl dX10_entitles_16 (fun H locs hP hD hS => ?_)
    refine lv_if_ne (tgt := 69) hx hb dX10_entitles_19 (by decide) (fun h => absurd h (by decide)) (fun _ => ?_)
    refine lv_aload_n hx hb dX10_entitles_22 rfl (lv_at hl 0 rfl) ?_
    refine lv_iload_n hx hb dX10_entitles_23 rfl (lv_at hl 2 rfl) ?_
    refine cS_i (As := [.int p2]) (rest := [.ref (am 0)]) hx hb hml hown hw hK hN hA hl.1 hP hD hS k_1695 k_1696 k_90 k_1697 (met_X10_isOwner l D cy _ (mW cy am (D_X10_refuses m0 0 2 p1).2) p2 (D_X10_isOwner p2) rfl) (fun _ _ _ => trivial) Xok_T ⟨rfl, rfl⟩ (n := 1) (by decide +kernel) rfl ⟨Nat.le_of_ble_eq_true rfl, Nat.le_of_ble_eq_true rfl⟩ ⟨Nat.le_of_ble_eq_true rfl, Nat.le_of_ble_eq_true rfl⟩ (Nat.le_of_ble_eq_true rfl) rfl dX10_entitles_24 (fun H locs hP hD hS => ?_)
    refine lv_if_ne (tgt := 34) hx hb dX10_entitles_27 (by decide) (fun h12 => ?_) (fun h12 => ?_)
    · replace hF := (if_neg h12).symm.trans hF
      refine lv_iconst (v := 0) hx hb dX10_entitles_34 (by decide) ?_
      refine lv_iconst (v := 2) hx hb dX10_entitles_35 (by decide) ?_
      refine lv_iload_n hx hb dX10_entitles_36 rfl (lv_at hl 2 rfl) ?_
      refine cV_i (As := [.int 0, .int 2, .int p2]) (rest := []) hx hb hml hown hw hK hN hA hl.1 hP hD hS k_1659 k_1661 k_32 k_90 k_1662 (met_X10_refuses l D cy _ am (D_X10_refuses m0 0 2 p1).2 0 2 p2 (Or.inl rfl) 0 (D_X10_refuses (D_X10_refuses m0 0 2 p1).2 0 2 p2).2 (rs_X10_refuses ..)) (fun _ _ _ => trivial) Xok_T (gM (am := am) (r := 0) (m := (D_X10_refuses m0 0 2 p1).2) (f := ((D_X10_refuses m0 0 2 p1).2 0)) (by decide) rfl) rfl ⟨rfl, rfl⟩ (n := 3) (by decide +kernel) rfl ⟨Nat.le_of_ble_eq_true rfl, Nat.le_of_ble_eq_true rfl⟩ ⟨Nat.le_of_ble_eq_true rfl, Nat.le_of_ble_eq_true rfl⟩ (Nat.le_of_ble_eq_true rfl) rfl dX10_entitles_37 (fun H locs hP hD hS => ?_)
      refine lv_if_ne (tgt := 69) hx hb dX10_entitles_40 (by decide) (fun h => absurd h (by decide)) (fun _ => ?_)
      refine lv_aload_n hx hb dX10_entitles_43 rfl (lv_at hl 0 rfl) ?_
      refine lv_aload_n hx hb dX10_entitles_44 rfl (lv_at hl 0 rfl) ?_
      refine lv_iload_n hx hb dX10_entitles_45 rfl (lv_at hl 1 rfl) ?_
      obtain ⟨r17, hc19, hF⟩ := bind_some hF
      try dsimp only at hF
      refine cV_i (As := [.int p1]) (rest := [.ref (am 0)]) hx hb hml hown hw hK hN hA hl.1 hP hD hS k_1698 k_1700 k_39 k_90 k_1701 (met_X10_ownerAt l D cy _ am (D_X10_refuses (D_X10_refuses m0 0 2 p1).2 0 2 p2).2 p1 r17 hc19) (fun _ _ _ => trivial) Xok_T (gM (am := am) (r := 0) (m := (D_X10_refuses (D_X10_refuses m0 0 2 p1).2 0 2 p2).2) (f := ((D_X10_refuses (D_X10_refuses m0 0 2 p1).2 0 2 p2).2 0)) (by decide) rfl) rfl ⟨rfl, rfl⟩ (n := 1) (by decide +kernel) rfl ⟨Nat.le_of_ble_eq_true rfl, Nat.le_of_ble_eq_true rfl⟩ ⟨Nat.le_of_ble_eq_true rfl, Nat.le_of_ble_eq_true rfl⟩ (Nat.le_of_ble_eq_true rfl) rfl dX10_entitles_46 (fun H locs hP hD hS => ?_)
      refine lv_if_lt (tgt := 56) hx hb dX10_entitles_49 (by decide) (fun h20 => ?_) (fun h20 => ?_)
      · replace hF := (if_pos h20).symm.trans hF
        refine lv_iconst (v := 0) hx hb dX10_entitles_56 (by decide) ?_
        refine lv_iconst (v := 5) hx hb dX10_entitles_57 (by decide) ?_
        refine lv_aload_n hx hb dX10_entitles_58 rfl (lv_at hl 0 rfl) ?_
        refine lv_iload_n hx hb dX10_entitles_59 rfl (lv_at hl 1 rfl) ?_
        obtain ⟨r21, hc23, hF⟩ := bind_some hF
        try dsimp only at hF
        refine cV_i (As := [.int p1]) (rest := [.int 5, .int 0, .ref (am 0)]) hx hb hml hown hw hK hN hA hl.1 hP hD hS k_1698 k_1700 k_39 k_90 k_1701 (met_X10_ownerAt l D cy _ am (D_X10_refuses (D_X10_refuses m0 0 2 p1).2 0 2 p2).2 p1 r21 hc23) (fun _ _ _ => trivial) Xok_T (gM (am := am) (r := 0) (m := (D_X10_refuses (D_X10_refuses m0 0 2 p1).2 0 2 p2).2) (f := ((D_X10_refuses (D_X10_refuses m0 0 2 p1).2 0 2 p2).2 0)) (by decide) rfl) rfl ⟨rfl, rfl⟩ (n := 1) (by decide +kernel) rfl ⟨Nat.le_of_ble_eq_true rfl, Nat.le_of_ble_eq_true rfl⟩ ⟨Nat.le_of_ble_eq_true rfl, Nat.le_of_ble_eq_true rfl⟩ (Nat.le_of_ble_eq_true rfl) rfl dX10_entitles_60 (fun H locs hP hD hS => ?_)
        refine cV_i (As := [.int 0, .int 5, .int r21]) (rest := []) hx hb hml hown hw hK hN hA hl.1 hP hD hS k_1659 k_1661 k_32 k_90 k_1662 (met_X10_refuses l D cy _ am (D_X10_refuses (D_X10_refuses m0 0 2 p1).2 0 2 p2).2 0 5 r21 (Or.inl rfl) 0 (D_X10_refuses (D_X10_refuses (D_X10_refuses m0 0 2 p1).2 0 2 p2).2 0 5 r21).2 (rs_X10_refuses ..)) (fun _ _ _ => trivial) Xok_T (gM (am := am) (r := 0) (m := (D_X10_refuses (D_X10_refuses m0 0 2 p1).2 0 2 p2).2) (f := ((D_X10_refuses (D_X10_refuses m0 0 2 p1).2 0 2 p2).2 0)) (by decide) rfl) rfl ⟨rfl, rfl⟩ (n := 3) (by decide +kernel) rfl ⟨Nat.le_of_ble_eq_true rfl, Nat.le_of_ble_eq_true rfl⟩ ⟨Nat.le_of_ble_eq_true rfl, Nat.le_of_ble_eq_true rfl⟩ (Nat.le_of_ble_eq_true rfl) rfl dX10_entitles_63 (fun H locs hP hD hS => ?_)
        refine lv_if_eq (tgt := 71) hx hb dX10_entitles_66 (by decide) (fun _ => ?_) (fun h => absurd h (by decide))
        refine lv_aload_n hx hb dX10_entitles_71 rfl (lv_at hl 0 rfl) ?_
        refine lv_iload_n hx hb dX10_entitles_72 rfl (lv_at hl 1 rfl) ?_
        refine lv_iconst (v := 2) hx hb dX10_entitles_73 (by decide) ?_
        obtain ⟨r28, hc30, hF⟩ := bind_some hF
        try dsimp only at hF
        refine cV_i (As := [.int p1, .int 2]) (rest := []) hx hb hml hown hw hK hN hA hl.1 hP hD hS k_1702 k_1704 k_40 k_90 k_1705 (met_X10_c l D cy _ am (D_X10_refuses (D_X10_refuses (D_X10_refuses m0 0 2 p1).2 0 2 p2).2 0 5 r21).2 p1 2 r28 hc30) (fun _ _ _ => trivial) Xok_T (gM (am := am) (r := 0) (m := (D_X10_refuses (D_X10_refuses (D_X10_refuses m0 0 2 p1).2 0 2 p2).2 0 5 r21).2) (f := ((D_X10_refuses (D_X10_refuses (D_X10_refuses m0 0 2 p1).2 0 2 p2).2 0 5 r21).2 0)) (by decide) rfl) rfl ⟨rfl, rfl⟩ (n := 2) (by decide +kernel) rfl ⟨Nat.le_of_ble_eq_true rfl, Nat.le_of_ble_eq_true rfl⟩ ⟨Nat.le_of_ble_eq_true rfl, Nat.le_of_ble_eq_true rfl⟩ (Nat.le_of_ble_eq_true rfl) rfl dX10_entitles_74 (fun H locs hP hD hS => ?_)
        refine lv_istore_n (lv' := [(3, .int r28), (0, .ref (am 0)), (1, .int p1), (2, .int p2)]) hx hb dX10_entitles_77 rfl hl (by decide) rfl (fun ls hl => ?_)
        refine lv_aload_n hx hb dX10_entitles_78 rfl (lv_at hl 1 rfl) ?_
        refine lv_aload_n hx hb dX10_entitles_79 rfl (lv_at hl 1 rfl) ?_
        refine lv_iload_n hx hb dX10_entitles_80 rfl (lv_at hl 3 rfl) ?_
        obtain ⟨r31, hc33, hF⟩ := bind_some hF
        try dsimp only at hF
        refine cV_i (As := [.int p2]) (rest := [.ref (am 0)]) hx hb hml hown hw hK hN hA hl.1 hP hD hS k_1706 k_1708 k_41 k_90 k_1709 (met_X10_coinsAt l D cy _ am (D_X10_refuses (D_X10_refuses (D_X10_refuses m0 0 2 p1).2 0 2 p2).2 0 5 r21).2 p2 r31 hc33) (fun _ _ _ => trivial) Xok_T (gM (am := am) (r := 0) (m := (D_X10_refuses (D_X10_refuses (D_X10_refuses m0 0 2 p1).2 0 2 p2).2 0 5 r21).2) (f := ((D_X10_refuses (D_X10_refuses (D_X10_refuses m0 0 2 p1).2 0 2 p2).2 0 5 r21).2 0)) (by decide) rfl) rfl ⟨rfl, rfl⟩ (n := 1) (by decide +kernel) rfl ⟨Nat.le_of_ble_eq_true rfl, Nat.le_of_ble_eq_true rfl⟩ ⟨Nat.le_of_ble_eq_true rfl, Nat.le_of_ble_eq_true rfl⟩ (Nat.le_of_ble_eq_true rfl) rfl dX10_entitles_81 (fun H locs hP hD hS => ?_)
        refine lv_iload_n hx hb dX10_entitles_84 rfl (lv_at hl 0 rfl) ?_
        refine lv_icmp_ge (tgt := 92) hx hb dX10_entitles_85 (by decide) (fun h34 => ?_) (fun h34 => ?_)
        · replace hF := (if_pos h34).symm.trans hF
          refine lv_iconst (v := 0) hx hb dX10_entitles_92 (by decide) ?_
          refine lv_bipush (v := 7) hx hb dX10_entitles_93 (by decide) ?_
          refine lv_aload_n hx hb dX10_entitles_95 rfl (lv_at hl 1 rfl) ?_
          refine lv_iload_n hx hb dX10_entitles_96 rfl (lv_at hl 3 rfl) ?_
          obtain ⟨r35, hc37, hF⟩ := bind_some hF
          try dsimp only at hF
          refine cV_i (As := [.int p2]) (rest := [.int 7, .int 0, .ref (am 0)]) hx hb hml hown hw hK hN hA hl.1 hP hD hS k_1706 k_1708 k_41 k_90 k_1709 (met_X10_coinsAt l D cy _ am (D_X10_refuses (D_X10_refuses (D_X10_refuses m0 0 2 p1).2 0 2 p2).2 0 5 r21).2 p2 r35 hc37) (fun _ _ _ => trivial) Xok_T (gM (am := am) (r := 0) (m := (D_X10_refuses (D_X10_refuses (D_X10_refuses m0 0 2 p1).2 0 2 p2).2 0 5 r21).2) (f := ((D_X10_refuses (D_X10_refuses (D_X10_refuses m0 0 2 p1).2 0 2 p2).2 0 5 r21).2 0)) (by decide) rfl) rfl ⟨rfl, rfl⟩ (n := 1) (by decide +kernel) rfl ⟨Nat.le_of_ble_eq_true rfl, Nat.le_of_ble_eq_true rfl⟩ ⟨Nat.le_of_ble_eq_true rfl, Nat.le_of_ble_eq_true rfl⟩ (Nat.le_of_ble_eq_true rfl) rfl dX10_entitles_97 (fun H locs hP hD hS => ?_)
          refine cV_i (As := [.int 0, .int 7, .int r35]) (rest := []) hx hb hml hown hw hK hN hA hl.1 hP hD hS k_1659 k_1661 k_32 k_90 k_1662 (met_X10_refuses l D cy _ am (D_X10_refuses (D_X10_refuses (D_X10_refuses m0 0 2 p1).2 0 2 p2).2 0 5 r21).2 0 7 r35 (Or.inl rfl) 0 (D_X10_refuses (D_X10_refuses (D_X10_refuses (D_X10_refuses m0 0 2 p1).2 0 2 p2).2 0 5 r21).2 0 7 r35).2 (rs_X10_refuses ..)) (fun _ _ _ => trivial) Xok_T (gM (am := am) (r := 0) (m := (D_X10_refuses (D_X10_refuses (D_X10_refuses m0 0 2 p1).2 0 2 p2).2 0 5 r21).2) (f := ((D_X10_refuses (D_X10_refuses (D_X10_refuses m0 0 2 p1).2 0 2 p2).2 0 5 r21).2 0)) (by decide) rfl) rfl ⟨rfl, rfl⟩ (n := 3) (by decide +kernel) rfl ⟨Nat.le_of_ble_eq_true rfl, Nat.le_of_ble_eq_true rfl⟩ ⟨Nat.le_of_ble_eq_true rfl, Nat.le_of_ble_eq_true rfl⟩ (Nat.le_of_ble_eq_true rfl) rfl dX10_entitles_100 (fun H locs hP hD hS => ?_)
          refine lv_if_eq (tgt := 108) hx hb dX10_entitles_103 (by decide) (fun _ => ?_) (fun h => absurd h (by decide))
          refine lv_aload_n hx hb dX10_entitles_108 rfl (lv_at hl 1 rfl) ?_
          refine lv_iload_n hx hb dX10_entitles_109 rfl (lv_at hl 3 rfl) ?_
          refine lv_iload_n hx hb dX10_entitles_110 rfl (lv_at hl 0 rfl) ?_
          obtain ⟨o43, hc44, hF⟩ := bind_some hF
          try dsimp only at hF
          refine cV_v (As := [.int p2, .int r28]) (rest := []) hx hb hml hown hw hK hN hA hl.1 hP hD hS k_1710 k_1712 k_42 k_90 k_1713 (met_X10_pays l D cy _ am (D_X10_refuses (D_X10_refuses (D_X10_refuses (D_X10_refuses m0 0 2 p1).2 0 2 p2).2 0 5 r21).2 0 7 r35).2 p2 r28 o43 hc44) (fun _ _ _ => trivial) Xok_T (gM (am := am) (r := 0) (m := (D_X10_refuses (D_X10_refuses (D_X10_refuses (D_X10_refuses m0 0 2 p1).2 0 2 p2).2 0 5 r21).2 0 7 r35).2) (f := ((D_X10_refuses (D_X10_refuses (D_X10_refuses (D_X10_refuses m0 0 2 p1).2 0 2 p2).2 0 5 r21).2 0 7 r35).2 0)) (by decide) rfl) rfl ⟨rfl, rfl⟩ (n := 2) (by decide +kernel) rfl ⟨Nat.le_of_ble_eq_true rfl, Nat.le_of_ble_eq_true rfl⟩ ⟨Nat.le_of_ble_eq_true rfl, Nat.le_of_ble_eq_true rfl⟩ (Nat.le_of_ble_eq_true rfl) rfl dX10_entitles_111 (fun H locs hP hD hS => ?_)
          refine lv_aload_n hx hb dX10_entitles_114 rfl (lv_at hl 1 rfl) ?_
          refine get' (ci := 12) (fs := mF am (o43 0)) (v := .ref (am 1)) hx hb hw inWX10 hown hK hP (gM (am := am) (r := 0) (m := o43) (f := (o43 0)) (by decide) rfl) rfl 1 (by decide) k_1571 rfl rfl dX10_entitles_115 ?_
          refine lv_bipush (v := 6) hx hb dX10_entitles_118 (by decide) ?_
          refine lv_dup2_11 hx hb dX10_entitles_120 rfl rfl ?_
          obtain ⟨h45, hF⟩ := ite_some hF
          refine va_iald (n := 1152) (f := (o43 1)) hx hb hK hP _ 0 (gM (am := am) (r := 1) (m := o43) (f := (o43 1)) (by decide) rfl) rfl (vp_inb h45) dX10_entitles_121 ?_
          refine lv_iload_n hx hb dX10_entitles_122 rfl (lv_at hl 0 rfl) ?_
          refine lv_iadd hx hb dX10_entitles_123 ?_
          obtain ⟨h46, hF⟩ := ite_some hF
          refine iast' (n := 1152) (f := (o43 1)) (ws' := (mW cy am (va_up o43 1 (upd (o43 1) ((6 : Int32).toNatClampNeg) (((o43 1) (6 : Int32).toNatClampNeg) + r28))))) hx hb hK hP hD hS (gM (am := am) (r := 1) (m := o43) (f := (o43 1)) (by decide) rfl) (t0 := 0) rfl (vp_inb h46) dX10_entitles_124 (sM (am := am) (r := 1) (m := o43) (g := (upd (o43 1) ((6 : Int32).toNatClampNeg) (((o43 1) (6 : Int32).toNatClampNeg) + r28))) (by decide)) (fun H locs hP hD hS => ?_)
          refine lv_aload_n hx hb dX10_entitles_125 rfl (lv_at hl 1 rfl) ?_
          refine lv_iload_n hx hb dX10_entitles_126 rfl (lv_at hl 2 rfl) ?_
          refine lv_iload_n hx hb dX10_entitles_127 rfl (lv_at hl 3 rfl) ?_
          obtain ⟨o48, hc49, hF⟩ := bind_some hF
          try dsimp only at hF
          refine cV_v (As := [.int p1, .int p2]) (rest := []) hx hb hml hown hw hK hN hA hl.1 hP hD hS k_1714 k_1716 k_43 k_90 k_1717 (met_X10_gets l D cy _ am (va_up o43 1 (upd (o43 1) ((6 : Int32).toNatClampNeg) (((o43 1) (6 : Int32).toNatClampNeg) + r28))) p1 p2 o48 hc49) (fun _ _ _ => trivial) Xok_T (gM (am := am) (r := 0) (m := (va_up o43 1 (upd (o43 1) ((6 : Int32).toNatClampNeg) (((o43 1) (6 : Int32).toNatClampNeg) + r28)))) (f := (o43 0)) (by decide) ((va_up_ne _ _ (by decide)).trans rfl)) rfl ⟨rfl, rfl⟩ (n := 2) (by decide +kernel) rfl ⟨Nat.le_of_ble_eq_true rfl, Nat.le_of_ble_eq_true rfl⟩ ⟨Nat.le_of_ble_eq_true rfl, Nat.le_of_ble_eq_true rfl⟩ (Nat.le_of_ble_eq_true rfl) rfl dX10_entitles_128 (fun H locs hP hD hS => ?_)
          refine lv_aload_n hx hb dX10_entitles_131 rfl (lv_at hl 1 rfl) ?_
          refine lv_aload_n hx hb dX10_entitles_132 rfl (lv_at hl 1 rfl) ?_
          refine lv_iload_n hx hb dX10_entitles_133 rfl (lv_at hl 3 rfl) ?_
          obtain ⟨r50, hc52, hF⟩ := bind_some hF
          try dsimp only at hF
          refine cV_i (As := [.int p2]) (rest := [.ref (am 0)]) hx hb hml hown hw hK hN hA hl.1 hP hD hS k_1706 k_1708 k_41 k_90 k_1709 (met_X10_coinsAt l D cy _ am o48 p2 r50 hc52) (fun _ _ _ => trivial) Xok_T (gM (am := am) (r := 0) (m := o48) (f := (o48 0)) (by decide) rfl) rfl ⟨rfl, rfl⟩ (n := 1) (by decide +kernel) rfl ⟨Nat.le_of_ble_eq_true rfl, Nat.le_of_ble_eq_true rfl⟩ ⟨Nat.le_of_ble_eq_true rfl, Nat.le_of_ble_eq_true rfl⟩ (Nat.le_of_ble_eq_true rfl) rfl dX10_entitles_134 (fun H locs hP hD hS => ?_)
          refine put' (ci := 12) (fs := mF am (o48 0)) (v := .int r50) (ty := .int) (ws' := (mW cy am (va_up o48 0 (upd (o48 0) 4 r50)))) hx hb hw inWX10 tyX10 tyX10_ok nmX10 hown hK hP hD hS (gM (am := am) (r := 0) (m := o48) (f := (o48 0)) (by decide) rfl) rfl 4 (by decide) k_1574 rfl rfl (by decide +kernel) rfl rfl (Nat.le_of_ble_eq_true rfl) dX10_entitles_137 (sM (am := am) (r := 0) (m := o48) (g := (upd (o48 0) 4 r50)) (by decide)) (fun H locs hP hD hS => ?_)
          refine lv_iconst (v := 1) hx hb dX10_entitles_140 (by decide) ?_
          cases hF
          exact hret _ _ _ _ _ _ hP hD hS rfl rfl rfl dX10_entitles_141
        · replace hF := (if_neg h34).symm.trans hF
          refine lv_iconst (v := 1) hx hb dX10_entitles_88 (by decide) ?_
          refine lv_goto (tgt := 93) hx hb dX10_entitles_89 (by decide) ?_
          refine lv_bipush (v := 7) hx hb dX10_entitles_93 (by decide) ?_
          refine lv_aload_n hx hb dX10_entitles_95 rfl (lv_at hl 1 rfl) ?_
          refine lv_iload_n hx hb dX10_entitles_96 rfl (lv_at hl 3 rfl) ?_
          obtain ⟨r53, hc55, hF⟩ := bind_some hF
          try dsimp only at hF
          refine cV_i (As := [.int p2]) (rest := [.int 7, .int 1, .ref (am 0)]) hx hb hml hown hw hK hN hA hl.1 hP hD hS k_1706 k_1708 k_41 k_90 k_1709 (met_X10_coinsAt l D cy _ am (D_X10_refuses (D_X10_refuses (D_X10_refuses m0 0 2 p1).2 0 2 p2).2 0 5 r21).2 p2 r53 hc55) (fun _ _ _ => trivial) Xok_T (gM (am := am) (r := 0) (m := (D_X10_refuses (D_X10_refuses (D_X10_refuses m0 0 2 p1).2 0 2 p2).2 0 5 r21).2) (f := ((D_X10_refuses (D_X10_refuses (D_X10_refuses m0 0 2 p1).2 0 2 p2).2 0 5 r21).2 0)) (by decide) rfl) rfl ⟨rfl, rfl⟩ (n := 1) (by decide +kernel) rfl ⟨Nat.le_of_ble_eq_true rfl, Nat.le_of_ble_eq_true rfl⟩ ⟨Nat.le_of_ble_eq_true rfl, Nat.le_of_ble_eq_true rfl⟩ (Nat.le_of_ble_eq_true rfl) rfl dX10_entitles_97 (fun H locs hP hD hS => ?_)
          refine cV_i (As := [.int 1, .int 7, .int r53]) (rest := []) hx hb hml hown hw hK hN hA hl.1 hP hD hS k_1659 k_1661 k_32 k_90 k_1662 (met_X10_refuses l D cy _ am (D_X10_refuses (D_X10_refuses (D_X10_refuses m0 0 2 p1).2 0 2 p2).2 0 5 r21).2 1 7 r53 (Or.inr rfl) 1 (D_X10_refuses (D_X10_refuses (D_X10_refuses (D_X10_refuses m0 0 2 p1).2 0 2 p2).2 0 5 r21).2 1 7 r53).2 (rs_X10_refuses ..)) (fun _ _ _ => trivial) Xok_T (gM (am := am) (r := 0) (m := (D_X10_refuses (D_X10_refuses (D_X10_refuses m0 0 2 p1).2 0 2 p2).2 0 5 r21).2) (f := ((D_X10_refuses (D_X10_refuses (D_X10_refuses m0 0 2 p1).2 0 2 p2).2 0 5 r21).2 0)) (by decide) rfl) rfl ⟨rfl, rfl⟩ (n := 3) (by decide +kernel) rfl ⟨Nat.le_of_ble_eq_true rfl, Nat.le_of_ble_eq_true rfl⟩ ⟨Nat.le_of_ble_eq_true rfl, Nat.le_of_ble_eq_true rfl⟩ (Nat.le_of_ble_eq_true rfl) rfl dX10_entitles_100 (fun H locs hP hD hS => ?_)
          refine lv_if_eq (tgt := 108) hx hb dX10_entitles_103 (by decide) (fun h => absurd h (by decide)) (fun _ => ?_)
          refine lv_iconst (v := 0) hx hb dX10_entitles_106 (by decide) ?_
          cases hF
          exact hret _ _ _ _ _ _ hP hD hS rfl rfl rfl dX10_entitles_107
      · replace hF := (if_neg h20).symm.trans hF
        refine lv_iconst (v := 1) hx hb dX10_entitles_52 (by decide) ?_
        refine lv_goto (tgt := 57) hx hb dX10_entitles_53 (by decide) ?_
        refine lv_iconst (v := 5) hx hb dX10_entitles_57 (by decide) ?_
        refine lv_aload_n hx hb dX10_entitles_58 rfl (lv_at hl 0 rfl) ?_
        refine lv_iload_n hx hb dX10_entitles_59 rfl (lv_at hl 1 rfl) ?_
        obtain ⟨r60, hc62, hF⟩ := bind_some hF
        try dsimp only at hF
        refine cV_i (As := [.int p1]) (rest := [.int 5, .int 1, .ref (am 0)]) hx hb hml hown hw hK hN hA hl.1 hP hD hS k_1698 k_1700 k_39 k_90 k_1701 (met_X10_ownerAt l D cy _ am (D_X10_refuses (D_X10_refuses m0 0 2 p1).2 0 2 p2).2 p1 r60 hc62) (fun _ _ _ => trivial) Xok_T (gM (am := am) (r := 0) (m := (D_X10_refuses (D_X10_refuses m0 0 2 p1).2 0 2 p2).2) (f := ((D_X10_refuses (D_X10_refuses m0 0 2 p1).2 0 2 p2).2 0)) (by decide) rfl) rfl ⟨rfl, rfl⟩ (n := 1) (by decide +kernel) rfl ⟨Nat.le_of_ble_eq_true rfl, Nat.le_of_ble_eq_true rfl⟩ ⟨Nat.le_of_ble_eq_true rfl, Nat.le_of_ble_eq_true rfl⟩ (Nat.le_of_ble_eq_true rfl) rfl dX10_entitles_60 (fun H locs hP hD hS => ?_)
        refine cV_i (As := [.int 1, .int 5, .int r60]) (rest := []) hx hb hml hown hw hK hN hA hl.1 hP hD hS k_1659 k_1661 k_32 k_90 k_1662 (met_X10_refuses l D cy _ am (D_X10_refuses (D_X10_refuses m0 0 2 p1).2 0 2 p2).2 1 5 r60 (Or.inr rfl) 1 (D_X10_refuses (D_X10_refuses (D_X10_refuses m0 0 2 p1).2 0 2 p2).2 1 5 r60).2 (rs_X10_refuses ..)) (fun _ _ _ => trivial) Xok_T (gM (am := am) (r := 0) (m := (D_X10_refuses (D_X10_refuses m0 0 2 p1).2 0 2 p2).2) (f := ((D_X10_refuses (D_X10_refuses m0 0 2 p1).2 0 2 p2).2 0)) (by decide) rfl) rfl ⟨rfl, rfl⟩ (n := 3) (by decide +kernel) rfl ⟨Nat.le_of_ble_eq_true rfl, Nat.le_of_ble_eq_true rfl⟩ ⟨Nat.le_of_ble_eq_true rfl, Nat.le_of_ble_eq_true rfl⟩ (Nat.le_of_ble_eq_true rfl) rfl dX10_entitles_63 (fun H locs hP hD hS => ?_)
        refine lv_if_eq (tgt := 71) hx hb dX10_entitles_66 (by decide) (fun h => absurd h (by decide)) (fun _ => ?_)
        refine lv_iconst (v := 0) hx hb dX10_entitles_69 (by decide) ?_
        cases hF
        exact hret _ _ _ _ _ _ hP hD hS rfl rfl rfl dX10_entitles_70
    · replace hF := (if_pos h12).symm.trans hF
      refine lv_iconst (v := 1) hx hb dX10_entitles_30 (by decide) ?_
      refine lv_goto (tgt := 35) hx hb dX10_entitles_31 (by decide) ?_
      refine lv_iconst (v := 2) hx hb dX10_entitles_35 (by decide) ?_
      refine lv_iload_n hx hb dX10_entitles_36 rfl (lv_at hl 2 rfl) ?_
      refine cV_i (As := [.int 1, .int 2, .int p2]) (rest := []) hx hb hml hown hw hK hN hA hl.1 hP hD hS k_1659 k_1661 k_32 k_90 k_1662 (met_X10_refuses l D cy _ am (D_X10_refuses m0 0 2 p1).2 1 2 p2 (Or.inr rfl) 1 (D_X10_refuses (D_X10_refuses m0 0 2 p1).2 1 2 p2).2 (rs_X10_refuses ..)) (fun _ _ _ => trivial) Xok_T (gM (am := am) (r := 0) (m := (D_X10_refuses m0 0 2 p1).2) (f := ((D_X10_refuses m0 0 2 p1).2 0)) (by decide) rfl) rfl ⟨rfl, rfl⟩ (n := 3) (by decide +kernel) rfl ⟨Nat.le_of_ble_eq_true rfl, Nat.le_of_ble_eq_true rfl⟩ ⟨Nat.le_of_ble_eq_true rfl, Nat.le_of_ble_eq_true rfl⟩ (Nat.le_of_ble_eq_true rfl) rfl dX10_entitles_37 (fun H locs hP hD hS => ?_)
      refine lv_if_ne (tgt := 69) hx hb dX10_entitles_40 (by decide) (fun _ => ?_) (fun h => absurd h (by decide))
      refine lv_iconst (v := 0) hx hb dX10_entitles_69 (by decide) ?_
      cases hF
      exact hret _ _ _ _ _ _ hP hD hS rfl rfl rfl dX10_entitles_70
  · replace hF := (if_pos h4).symm.trans hF
    refine lv_iconst (v := 1) hx hb dX10_entitles_9 (by decide) ?_
    refine lv_goto (tgt := 14) hx hb dX10_entitles_10 (by decide) ?_
    refine lv_iconst (v := 2) hx hb dX10_entitles_14 (by decide) ?_
    refine lv_iload_n hx hb dX10_entitles_15 rfl (lv_at hl 1 rfl) ?_
    refine cV_i (As := [.int 1, .int 2, .int p1]) (rest := []) hx hb hml hown hw hK hN hA hl.1 hP hD hS k_1659 k_1661 k_32 k_90 k_1662 (met_X10_refuses l D cy _ am m0 1 2 p1 (Or.inr rfl) 1 (D_X10_refuses m0 1 2 p1).2 (rs_X10_refuses ..)) (fun _ _ _ => trivial) Xok_T (gM (am := am) (r := 0) (m := m0) (f := (m0 0)) (by decide) rfl) rfl ⟨rfl, rfl⟩ (n := 3) (by decide +kernel) rfl ⟨Nat.le_of_ble_eq_true rfl, Nat.le_of_ble_eq_true rfl⟩ ⟨Nat.le_of_ble_eq_true rfl, Nat.le_of_ble_eq_true rfl⟩ (Nat.le_of_ble_eq_true rfl) rfl dX10_entitles_16 (fun H locs hP hD hS => ?_)
    refine lv_if_ne (tgt := 69) hx hb dX10_entitles_19 (by decide) (fun _ => ?_) (fun h => absurd h (by decide))
    refine lv_iconst (v := 0) hx hb dX10_entitles_69 (by decide) ?_
    cases hF
    exact hret _ _ _ _ _ _ hP hD hS rfl rfl rfl dX10_entitles_70
def D_X10_isHeld (m0 : Nat → Nat → Int32) (p1 : Int32) (p2 : Int32) (p3 : Int32) : Option (Int32 × (Nat → Nat → Int32)) := (D_X10_ownerAt m0 p1).bind (fun r1 => if 0 ≤ r1 then ((D_X10_ownerAt (D_X10_refuses m0 0 6 p1).2 p1).bind (fun r9 => if r9 = p2 then (some (1, (D_X10_refuses (D_X10_refuses m0 0 6 p1).2 1 4 p2).2)) else ((D_X10_lenderAt (D_X10_refuses (D_X10_refuses m0 0 6 p1).2 0 4 p2).2 p1).bind (fun r17 => if r17 < 0 then ((D_X10_lenderAt (D_X10_refuses (D_X10_refuses m0 0 6 p1).2 0 4 p2).2 p1).bind (fun r21 => (D_X10_coinsAt (D_X10_refuses (D_X10_refuses (D_X10_refuses m0 0 6 p1).2 0 4 p2).2 0 8 r21).2 p2).bind (fun r28 => if p3 ≤ r28 then ((D_X10_coinsAt (D_X10_refuses (D_X10_refuses (D_X10_refuses m0 0 6 p1).2 0 4 p2).2 0 8 r21).2 p2).bind (fun r32 => some (0, (D_X10_refuses (D_X10_refuses (D_X10_refuses (D_X10_refuses m0 0 6 p1).2 0 4 p2).2 0 8 r21).2 0 7 r32).2))) else ((D_X10_coinsAt (D_X10_refuses (D_X10_refuses (D_X10_refuses m0 0 6 p1).2 0 4 p2).2 0 8 r21).2 p2).bind (fun r39 => some (1, (D_X10_refuses (D_X10_refuses (D_X10_refuses (D_X10_refuses m0 0 6 p1).2 0 4 p2).2 0 8 r21).2 1 7 r39).2)))))) else ((D_X10_lenderAt (D_X10_refuses (D_X10_refuses m0 0 6 p1).2 0 4 p2).2 p1).bind (fun r46 => some (1, (D_X10_refuses (D_X10_refuses (D_X10_refuses m0 0 6 p1).2 0 4 p2).2 1 8 r46).2))))))) else (some (1, (D_X10_refuses m0 1 6 p1).2)))
abbrev rm_X10_isHeld : Room := { frames := 2, cells := 0, slots := 0, locals := 43 }
set_option maxHeartbeats 4000000 in
set_option maxRecDepth 100000 in
theorem met_X10_isHeld (l : Launch) (D : va_G) (cy : Nat → ClassId) (sz : Nat) (am : Nat → Nat) (m0 : Nat → Nat → Int32) (p1 : Int32) (p2 : Int32) (p3 : Int32)  (r : Int32) (t' : Nat → Nat → Int32) (hF : D_X10_isHeld m0 p1 p2 p3 = some (r, t')) : MI l yX10_isHeld cX10_isHeld 4 (some .boolean) rm_X10_isHeld D cy (mW cy am m0) sz (fun _ => True) [.ref (am 0), .int p1, .int p2, .int p3] r (mW cy am t') := by
  refine MZ.of (by decide +kernel) (Nat.le_of_ble_eq_true rfl) ?_
  intro p e s m args below meth c A ls Q hAt _ hP hD hA hS hl hret
  obtain ⟨hx, hb, hr, hml, hown, hw, hlk, hK, hN⟩ := hAt
  have hown : s.vm.findClass "CloudDeedsModel" = some m.cls := hown
  have hl : lv_has ls 4 [(0, .ref (am 0)), (1, .int p1), (2, .int p2), (3, .int p3)] := hl
  refine lv_aload_n hx hb dX10_isHeld_0 rfl (lv_at hl 0 rfl) ?_
  refine lv_aload_n hx hb dX10_isHeld_1 rfl (lv_at hl 0 rfl) ?_
  refine lv_iload_n hx hb dX10_isHeld_2 rfl (lv_at hl 1 rfl) ?_
  obtain ⟨r1, hc3, hF⟩ := bind_some hF
  try dsimp only at hF
  refine cV_i (As := [.int p1]) (rest := [.ref (am 0)]) hx hb hml hown hw hK hN hA hl.1 hP hD hS k_1698 k_1700 k_39 k_90 k_1701 (met_X10_ownerAt l D cy _ am m0 p1 r1 hc3) (fun _ _ _ => trivial) Xok_T (gM (am := am) (r := 0) (m := m0) (f := (m0 0)) (by decide) rfl) rfl ⟨rfl, rfl⟩ (n := 1) (by decide +kernel) rfl ⟨Nat.le_of_ble_eq_true rfl, Nat.le_of_ble_eq_true rfl⟩ ⟨Nat.le_of_ble_eq_true rfl, Nat.le_of_ble_eq_true rfl⟩ (Nat.le_of_ble_eq_true rfl) rfl dX10_isHeld_3 (fun H locs hP hD hS => ?_)
  refine lv_if_ge (tgt := 13) hx hb dX10_isHeld_6 (by decide) (fun h4 => ?_) (fun h4 => ?_)
  · replace hF := (if_pos h4).symm.trans hF
    refine lv_iconst (v := 0) hx hb dX10_isHeld_13 (by decide) ?_
    refine lv_bipush (v := 6) hx hb dX10_isHeld_14 (by decide) ?_
    refine lv_iload_n hx hb dX10_isHeld_16 rfl (lv_at hl 1 rfl) ?_
    refine cV_i (As := [.int 0, .int 6, .int p1]) (rest := []) hx hb hml hown hw hK hN hA hl.1 hP hD hS k_1659 k_1661 k_32 k_90 k_1662 (met_X10_refuses l D cy _ am m0 0 6 p1 (Or.inl rfl) 0 (D_X10_refuses m0 0 6 p1).2 (rs_X10_refuses ..)) (fun _ _ _ => trivial) Xok_T (gM (am := am) (r := 0) (m := m0) (f := (m0 0)) (by decide) rfl) rfl ⟨rfl, rfl⟩ (n := 3) (by decide +kernel) rfl ⟨Nat.le_of_ble_eq_true rfl, Nat.le_of_ble_eq_true rfl⟩ ⟨Nat.le_of_ble_eq_true rfl, Nat.le_of_ble_eq_true rfl⟩ (Nat.le_of_ble_eq_true rfl) rfl dX10_isHeld_17 (fun H locs hP hD hS => ?_)
    refine lv_if_ne (tgt := 101) hx hb dX10_isHeld_20 (by decide) (fun h => absurd h (by decide)) (fun _ => ?_)
    refine lv_aload_n hx hb dX10_isHeld_23 rfl (lv_at hl 0 rfl) ?_
    refine lv_aload_n hx hb dX10_isHeld_24 rfl (lv_at hl 0 rfl) ?_
    refine lv_iload_n hx hb dX10_isHeld_25 rfl (lv_at hl 1 rfl) ?_
    obtain ⟨r9, hc11, hF⟩ := bind_some hF
    try dsimp only at hF
    refine cV_i (As := [.int p1]) (rest := [.ref (am 0)]) hx hb hml hown hw hK hN hA hl.1 hP hD hS k_1698 k_1700 k_39 k_90 k_1701 (met_X10_ownerAt l D cy _ am (D_X10_refuses m0 0 6 p1).2 p1 r9 hc11) (fun _ _ _ => trivial) Xok_T (gM (am := am) (r := 0) (m := (D_X10_refuses m0 0 6 p1).2) (f := ((D_X10_refuses m0 0 6 p1).2 0)) (by decide) rfl) rfl ⟨rfl, rfl⟩ (n := 1) (by decide +kernel) rfl ⟨Nat.le_of_ble_eq_true rfl, Nat.le_of_ble_eq_true rfl⟩ ⟨Nat.le_of_ble_eq_true rfl, Nat.le_of_ble_eq_true rfl⟩ (Nat.le_of_ble_eq_true rfl) rfl dX10_isHeld_26 (fun H locs hP hD hS => ?_)
    refine lv_iload_n hx hb dX10_isHeld_29 rfl (lv_at hl 2 rfl) ?_
    refine lv_icmp_ne (tgt := 37) hx hb dX10_isHeld_30 (by decide) (fun h12 => ?_) (fun h12 => ?_)
    · replace hF := (if_neg h12).symm.trans hF
      refine lv_iconst (v := 0) hx hb dX10_isHeld_37 (by decide) ?_
      refine lv_iconst (v := 4) hx hb dX10_isHeld_38 (by decide) ?_
      refine lv_iload_n hx hb dX10_isHeld_39 rfl (lv_at hl 2 rfl) ?_
      refine cV_i (As := [.int 0, .int 4, .int p2]) (rest := []) hx hb hml hown hw hK hN hA hl.1 hP hD hS k_1659 k_1661 k_32 k_90 k_1662 (met_X10_refuses l D cy _ am (D_X10_refuses m0 0 6 p1).2 0 4 p2 (Or.inl rfl) 0 (D_X10_refuses (D_X10_refuses m0 0 6 p1).2 0 4 p2).2 (rs_X10_refuses ..)) (fun _ _ _ => trivial) Xok_T (gM (am := am) (r := 0) (m := (D_X10_refuses m0 0 6 p1).2) (f := ((D_X10_refuses m0 0 6 p1).2 0)) (by decide) rfl) rfl ⟨rfl, rfl⟩ (n := 3) (by decide +kernel) rfl ⟨Nat.le_of_ble_eq_true rfl, Nat.le_of_ble_eq_true rfl⟩ ⟨Nat.le_of_ble_eq_true rfl, Nat.le_of_ble_eq_true rfl⟩ (Nat.le_of_ble_eq_true rfl) rfl dX10_isHeld_40 (fun H locs hP hD hS => ?_)
      refine lv_if_ne (tgt := 101) hx hb dX10_isHeld_43 (by decide) (fun h => absurd h (by decide)) (fun _ => ?_)
      refine lv_aload_n hx hb dX10_isHeld_46 rfl (lv_at hl 0 rfl) ?_
      refine lv_aload_n hx hb dX10_isHeld_47 rfl (lv_at hl 0 rfl) ?_
      refine lv_iload_n hx hb dX10_isHeld_48 rfl (lv_at hl 1 rfl) ?_
      obtain ⟨r17, hc19, hF⟩ := bind_some hF
      try dsimp only at hF
      refine cV_i (As := [.int p1]) (rest := [.ref (am 0)]) hx hb hml hown hw hK hN hA hl.1 hP hD hS k_1730 k_1732 k_46 k_90 k_1733 (met_X10_lenderAt l D cy _ am (D_X10_refuses (D_X10_refuses m0 0 6 p1).2 0 4 p2).2 p1 r17 hc19) (fun _ _ _ => trivial) Xok_T (gM (am := am) (r := 0) (m := (D_X10_refuses (D_X10_refuses m0 0 6 p1).2 0 4 p2).2) (f := ((D_X10_refuses (D_X10_refuses m0 0 6 p1).2 0 4 p2).2 0)) (by decide) rfl) rfl ⟨rfl, rfl⟩ (n := 1) (by decide +kernel) rfl ⟨Nat.le_of_ble_eq_true rfl, Nat.le_of_ble_eq_true rfl⟩ ⟨Nat.le_of_ble_eq_true rfl, Nat.le_of_ble_eq_true rfl⟩ (Nat.le_of_ble_eq_true rfl) rfl dX10_isHeld_49 (fun H locs hP hD hS => ?_)
      refine lv_if_lt (tgt := 59) hx hb dX10_isHeld_52 (by decide) (fun h20 => ?_) (fun h20 => ?_)
      · replace hF := (if_pos h20).symm.trans hF
        refine lv_iconst (v := 0) hx hb dX10_isHeld_59 (by decide) ?_
        refine lv_bipush (v := 8) hx hb dX10_isHeld_60 (by decide) ?_
        refine lv_aload_n hx hb dX10_isHeld_62 rfl (lv_at hl 0 rfl) ?_
        refine lv_iload_n hx hb dX10_isHeld_63 rfl (lv_at hl 1 rfl) ?_
        obtain ⟨r21, hc23, hF⟩ := bind_some hF
        try dsimp only at hF
        refine cV_i (As := [.int p1]) (rest := [.int 8, .int 0, .ref (am 0)]) hx hb hml hown hw hK hN hA hl.1 hP hD hS k_1730 k_1732 k_46 k_90 k_1733 (met_X10_lenderAt l D cy _ am (D_X10_refuses (D_X10_refuses m0 0 6 p1).2 0 4 p2).2 p1 r21 hc23) (fun _ _ _ => trivial) Xok_T (gM (am := am) (r := 0) (m := (D_X10_refuses (D_X10_refuses m0 0 6 p1).2 0 4 p2).2) (f := ((D_X10_refuses (D_X10_refuses m0 0 6 p1).2 0 4 p2).2 0)) (by decide) rfl) rfl ⟨rfl, rfl⟩ (n := 1) (by decide +kernel) rfl ⟨Nat.le_of_ble_eq_true rfl, Nat.le_of_ble_eq_true rfl⟩ ⟨Nat.le_of_ble_eq_true rfl, Nat.le_of_ble_eq_true rfl⟩ (Nat.le_of_ble_eq_true rfl) rfl dX10_isHeld_64 (fun H locs hP hD hS => ?_)
        refine cV_i (As := [.int 0, .int 8, .int r21]) (rest := []) hx hb hml hown hw hK hN hA hl.1 hP hD hS k_1659 k_1661 k_32 k_90 k_1662 (met_X10_refuses l D cy _ am (D_X10_refuses (D_X10_refuses m0 0 6 p1).2 0 4 p2).2 0 8 r21 (Or.inl rfl) 0 (D_X10_refuses (D_X10_refuses (D_X10_refuses m0 0 6 p1).2 0 4 p2).2 0 8 r21).2 (rs_X10_refuses ..)) (fun _ _ _ => trivial) Xok_T (gM (am := am) (r := 0) (m := (D_X10_refuses (D_X10_refuses m0 0 6 p1).2 0 4 p2).2) (f := ((D_X10_refuses (D_X10_refuses m0 0 6 p1).2 0 4 p2).2 0)) (by decide) rfl) rfl ⟨rfl, rfl⟩ (n := 3) (by decide +kernel) rfl ⟨Nat.le_of_ble_eq_true rfl, Nat.le_of_ble_eq_true rfl⟩ ⟨Nat.le_of_ble_eq_true rfl, Nat.le_of_ble_eq_true rfl⟩ (Nat.le_of_ble_eq_true rfl) rfl dX10_isHeld_67 (fun H locs hP hD hS => ?_)
        refine lv_if_ne (tgt := 101) hx hb dX10_isHeld_70 (by decide) (fun h => absurd h (by decide)) (fun _ => ?_)
        refine lv_aload_n hx hb dX10_isHeld_73 rfl (lv_at hl 0 rfl) ?_
        refine lv_aload_n hx hb dX10_isHeld_74 rfl (lv_at hl 0 rfl) ?_
        refine lv_iload_n hx hb dX10_isHeld_75 rfl (lv_at hl 2 rfl) ?_
        obtain ⟨r28, hc30, hF⟩ := bind_some hF
        try dsimp only at hF
        refine cV_i (As := [.int p2]) (rest := [.ref (am 0)]) hx hb hml hown hw hK hN hA hl.1 hP hD hS k_1706 k_1708 k_41 k_90 k_1709 (met_X10_coinsAt l D cy _ am (D_X10_refuses (D_X10_refuses (D_X10_refuses m0 0 6 p1).2 0 4 p2).2 0 8 r21).2 p2 r28 hc30) (fun _ _ _ => trivial) Xok_T (gM (am := am) (r := 0) (m := (D_X10_refuses (D_X10_refuses (D_X10_refuses m0 0 6 p1).2 0 4 p2).2 0 8 r21).2) (f := ((D_X10_refuses (D_X10_refuses (D_X10_refuses m0 0 6 p1).2 0 4 p2).2 0 8 r21).2 0)) (by decide) rfl) rfl ⟨rfl, rfl⟩ (n := 1) (by decide +kernel) rfl ⟨Nat.le_of_ble_eq_true rfl, Nat.le_of_ble_eq_true rfl⟩ ⟨Nat.le_of_ble_eq_true rfl, Nat.le_of_ble_eq_true rfl⟩ (Nat.le_of_ble_eq_true rfl) rfl dX10_isHeld_76 (fun H locs hP hD hS => ?_)
        refine lv_iload_n hx hb dX10_isHeld_79 rfl (lv_at hl 3 rfl) ?_
        refine lv_icmp_ge (tgt := 87) hx hb dX10_isHeld_80 (by decide) (fun h31 => ?_) (fun h31 => ?_)
        · replace hF := (if_pos h31).symm.trans hF
          refine lv_iconst (v := 0) hx hb dX10_isHeld_87 (by decide) ?_
          refine lv_bipush (v := 7) hx hb dX10_isHeld_88 (by decide) ?_
          refine lv_aload_n hx hb dX10_isHeld_90 rfl (lv_at hl 0 rfl) ?_
          refine lv_iload_n hx hb dX10_isHeld_91 rfl (lv_at hl 2 rfl) ?_
          obtain ⟨r32, hc34, hF⟩ := bind_some hF
          try dsimp only at hF
          refine cV_i (As := [.int p2]) (rest := [.int 7, .int 0, .ref (am 0)]) hx hb hml hown hw hK hN hA hl.1 hP hD hS k_1706 k_1708 k_41 k_90 k_1709 (met_X10_coinsAt l D cy _ am (D_X10_refuses (D_X10_refuses (D_X10_refuses m0 0 6 p1).2 0 4 p2).2 0 8 r21).2 p2 r32 hc34) (fun _ _ _ => trivial) Xok_T (gM (am := am) (r := 0) (m := (D_X10_refuses (D_X10_refuses (D_X10_refuses m0 0 6 p1).2 0 4 p2).2 0 8 r21).2) (f := ((D_X10_refuses (D_X10_refuses (D_X10_refuses m0 0 6 p1).2 0 4 p2).2 0 8 r21).2 0)) (by decide) rfl) rfl ⟨rfl, rfl⟩ (n := 1) (by decide +kernel) rfl ⟨Nat.le_of_ble_eq_true rfl, Nat.le_of_ble_eq_true rfl⟩ ⟨Nat.le_of_ble_eq_true rfl, Nat.le_of_ble_eq_true rfl⟩ (Nat.le_of_ble_eq_true rfl) rfl dX10_isHeld_92 (fun H locs hP hD hS => ?_)
          refine cV_i (As := [.int 0, .int 7, .int r32]) (rest := []) hx hb hml hown hw hK hN hA hl.1 hP hD hS k_1659 k_1661 k_32 k_90 k_1662 (met_X10_refuses l D cy _ am (D_X10_refuses (D_X10_refuses (D_X10_refuses m0 0 6 p1).2 0 4 p2).2 0 8 r21).2 0 7 r32 (Or.inl rfl) 0 (D_X10_refuses (D_X10_refuses (D_X10_refuses (D_X10_refuses m0 0 6 p1).2 0 4 p2).2 0 8 r21).2 0 7 r32).2 (rs_X10_refuses ..)) (fun _ _ _ => trivial) Xok_T (gM (am := am) (r := 0) (m := (D_X10_refuses (D_X10_refuses (D_X10_refuses m0 0 6 p1).2 0 4 p2).2 0 8 r21).2) (f := ((D_X10_refuses (D_X10_refuses (D_X10_refuses m0 0 6 p1).2 0 4 p2).2 0 8 r21).2 0)) (by decide) rfl) rfl ⟨rfl, rfl⟩ (n := 3) (by decide +kernel) rfl ⟨Nat.le_of_ble_eq_true rfl, Nat.le_of_ble_eq_true rfl⟩ ⟨Nat.le_of_ble_eq_true rfl, Nat.le_of_ble_eq_true rfl⟩ (Nat.le_of_ble_eq_true rfl) rfl dX10_isHeld_95 (fun H locs hP hD hS => ?_)
          refine lv_if_eq (tgt := 105) hx hb dX10_isHeld_98 (by decide) (fun _ => ?_) (fun h => absurd h (by decide))
          refine lv_iconst (v := 0) hx hb dX10_isHeld_105 (by decide) ?_
          cases hF
          exact hret _ _ _ _ _ _ hP hD hS rfl rfl rfl dX10_isHeld_106
        · replace hF := (if_neg h31).symm.trans hF
          refine lv_iconst (v := 1) hx hb dX10_isHeld_83 (by decide) ?_
          refine lv_goto (tgt := 88) hx hb dX10_isHeld_84 (by decide) ?_
          refine lv_bipush (v := 7) hx hb dX10_isHeld_88 (by decide) ?_
          refine lv_aload_n hx hb dX10_isHeld_90 rfl (lv_at hl 0 rfl) ?_
          refine lv_iload_n hx hb dX10_isHeld_91 rfl (lv_at hl 2 rfl) ?_
          obtain ⟨r39, hc41, hF⟩ := bind_some hF
          try dsimp only at hF
          refine cV_i (As := [.int p2]) (rest := [.int 7, .int 1, .ref (am 0)]) hx hb hml hown hw hK hN hA hl.1 hP hD hS k_1706 k_1708 k_41 k_90 k_1709 (met_X10_coinsAt l D cy _ am (D_X10_refuses (D_X10_refuses (D_X10_refuses m0 0 6 p1).2 0 4 p2).2 0 8 r21).2 p2 r39 hc41) (fun _ _ _ => trivial) Xok_T (gM (am := am) (r := 0) (m := (D_X10_refuses (D_X10_refuses (D_X10_refuses m0 0 6 p1).2 0 4 p2).2 0 8 r21).2) (f := ((D_X10_refuses (D_X10_refuses (D_X10_refuses m0 0 6 p1).2 0 4 p2).2 0 8 r21).2 0)) (by decide) rfl) rfl ⟨rfl, rfl⟩ (n := 1) (by decide +kernel) rfl ⟨Nat.le_of_ble_eq_true rfl, Nat.le_of_ble_eq_true rfl⟩ ⟨Nat.le_of_ble_eq_true rfl, Nat.le_of_ble_eq_true rfl⟩ (Nat.le_of_ble_eq_true rfl) rfl dX10_isHeld_92 (fun H locs hP hD hS => ?_)
          refine cV_i (As := [.int 1, .int 7, .int r39]) (rest := []) hx hb hml hown hw hK hN hA hl.1 hP hD hS k_1659 k_1661 k_32 k_90 k_1662 (met_X10_refuses l D cy _ am (D_X10_refuses (D_X10_refuses (D_X10_refuses m0 0 6 p1).2 0 4 p2).2 0 8 r21).2 1 7 r39 (Or.inr rfl) 1 (D_X10_refuses (D_X10_refuses (D_X10_refuses (D_X10_refuses m0 0 6 p1).2 0 4 p2).2 0 8 r21).2 1 7 r39).2 (rs_X10_refuses ..)) (fun _ _ _ => trivial) Xok_T (gM (am := am) (r := 0) (m := (D_X10_refuses (D_X10_refuses (D_X10_refuses m0 0 6 p1).2 0 4 p2).2 0 8 r21).2) (f := ((D_X10_refuses (D_X10_refuses (D_X10_refuses m0 0 6 p1).2 0 4 p2).2 0 8 r21).2 0)) (by decide) rfl) rfl ⟨rfl, rfl⟩ (n := 3) (by decide +kernel) rfl ⟨Nat.le_of_ble_eq_true rfl, Nat.le_of_ble_eq_true rfl⟩ ⟨Nat.le_of_ble_eq_true rfl, Nat.le_of_ble_eq_true rfl⟩ (Nat.le_of_ble_eq_true rfl) rfl dX10_isHeld_95 (fun H locs hP hD hS => ?_)
          refine lv_if_eq (tgt := 105) hx hb dX10_isHeld_98 (by decide) (fun h => absurd h (by decide)) (fun _ => ?_)
          refine lv_iconst (v := 1) hx hb dX10_isHeld_101 (by decide) ?_
          refine lv_goto (tgt := 106) hx hb dX10_isHeld_102 (by decide) ?_
          cases hF
          exact hret _ _ _ _ _ _ hP hD hS rfl rfl rfl dX10_isHeld_106
      · replace hF := (if_neg h20).symm.trans hF
        refine lv_iconst (v := 1) hx hb dX10_isHeld_55 (by decide) ?_
        refine lv_goto (tgt := 60) hx hb dX10_isHeld_56 (by decide) ?_
        refine lv_bipush (v := 8) hx hb dX10_isHeld_60 (by decide) ?_
        refine lv_aload_n hx hb dX10_isHeld_62 rfl (lv_at hl 0 rfl) ?_
        refine lv_iload_n hx hb dX10_isHeld_63 rfl (lv_at hl 1 rfl) ?_
        obtain ⟨r46, hc48, hF⟩ := bind_some hF
        try dsimp only at hF
        refine cV_i (As := [.int p1]) (rest := [.int 8, .int 1, .ref (am 0)]) hx hb hml hown hw hK hN hA hl.1 hP hD hS k_1730 k_1732 k_46 k_90 k_1733 (met_X10_lenderAt l D cy _ am (D_X10_refuses (D_X10_refuses m0 0 6 p1).2 0 4 p2).2 p1 r46 hc48) (fun _ _ _ => trivial) Xok_T (gM (am := am) (r := 0) (m := (D_X10_refuses (D_X10_refuses m0 0 6 p1).2 0 4 p2).2) (f := ((D_X10_refuses (D_X10_refuses m0 0 6 p1).2 0 4 p2).2 0)) (by decide) rfl) rfl ⟨rfl, rfl⟩ (n := 1) (by decide +kernel) rfl ⟨Nat.le_of_ble_eq_true rfl, Nat.le_of_ble_eq_true rfl⟩ ⟨Nat.le_of_ble_eq_true rfl, Nat.le_of_ble_eq_true rfl⟩ (Nat.le_of_ble_eq_true rfl) rfl dX10_isHeld_64 (fun H locs hP hD hS => ?_)
        refine cV_i (As := [.int 1, .int 8, .int r46]) (rest := []) hx hb hml hown hw hK hN hA hl.1 hP hD hS k_1659 k_1661 k_32 k_90 k_1662 (met_X10_refuses l D cy _ am (D_X10_refuses (D_X10_refuses m0 0 6 p1).2 0 4 p2).2 1 8 r46 (Or.inr rfl) 1 (D_X10_refuses (D_X10_refuses (D_X10_refuses m0 0 6 p1).2 0 4 p2).2 1 8 r46).2 (rs_X10_refuses ..)) (fun _ _ _ => trivial) Xok_T (gM (am := am) (r := 0) (m := (D_X10_refuses (D_X10_refuses m0 0 6 p1).2 0 4 p2).2) (f := ((D_X10_refuses (D_X10_refuses m0 0 6 p1).2 0 4 p2).2 0)) (by decide) rfl) rfl ⟨rfl, rfl⟩ (n := 3) (by decide +kernel) rfl ⟨Nat.le_of_ble_eq_true rfl, Nat.le_of_ble_eq_true rfl⟩ ⟨Nat.le_of_ble_eq_true rfl, Nat.le_of_ble_eq_true rfl⟩ (Nat.le_of_ble_eq_true rfl) rfl dX10_isHeld_67 (fun H locs hP hD hS => ?_)
        refine lv_if_ne (tgt := 101) hx hb dX10_isHeld_70 (by decide) (fun _ => ?_) (fun h => absurd h (by decide))
        refine lv_iconst (v := 1) hx hb dX10_isHeld_101 (by decide) ?_
        refine lv_goto (tgt := 106) hx hb dX10_isHeld_102 (by decide) ?_
        cases hF
        exact hret _ _ _ _ _ _ hP hD hS rfl rfl rfl dX10_isHeld_106
    · replace hF := (if_pos h12).symm.trans hF
      refine lv_iconst (v := 1) hx hb dX10_isHeld_33 (by decide) ?_
      refine lv_goto (tgt := 38) hx hb dX10_isHeld_34 (by decide) ?_
      refine lv_iconst (v := 4) hx hb dX10_isHeld_38 (by decide) ?_
      refine lv_iload_n hx hb dX10_isHeld_39 rfl (lv_at hl 2 rfl) ?_
      refine cV_i (As := [.int 1, .int 4, .int p2]) (rest := []) hx hb hml hown hw hK hN hA hl.1 hP hD hS k_1659 k_1661 k_32 k_90 k_1662 (met_X10_refuses l D cy _ am (D_X10_refuses m0 0 6 p1).2 1 4 p2 (Or.inr rfl) 1 (D_X10_refuses (D_X10_refuses m0 0 6 p1).2 1 4 p2).2 (rs_X10_refuses ..)) (fun _ _ _ => trivial) Xok_T (gM (am := am) (r := 0) (m := (D_X10_refuses m0 0 6 p1).2) (f := ((D_X10_refuses m0 0 6 p1).2 0)) (by decide) rfl) rfl ⟨rfl, rfl⟩ (n := 3) (by decide +kernel) rfl ⟨Nat.le_of_ble_eq_true rfl, Nat.le_of_ble_eq_true rfl⟩ ⟨Nat.le_of_ble_eq_true rfl, Nat.le_of_ble_eq_true rfl⟩ (Nat.le_of_ble_eq_true rfl) rfl dX10_isHeld_40 (fun H locs hP hD hS => ?_)
      refine lv_if_ne (tgt := 101) hx hb dX10_isHeld_43 (by decide) (fun _ => ?_) (fun h => absurd h (by decide))
      refine lv_iconst (v := 1) hx hb dX10_isHeld_101 (by decide) ?_
      refine lv_goto (tgt := 106) hx hb dX10_isHeld_102 (by decide) ?_
      cases hF
      exact hret _ _ _ _ _ _ hP hD hS rfl rfl rfl dX10_isHeld_106
  · replace hF := (if_neg h4).symm.trans hF
    refine lv_iconst (v := 1) hx hb dX10_isHeld_9 (by decide) ?_
    refine lv_goto (tgt := 14) hx hb dX10_isHeld_10 (by decide) ?_
    refine lv_bipush (v := 6) hx hb dX10_isHeld_14 (by decide) ?_
    refine lv_iload_n hx hb dX10_isHeld_16 rfl (lv_at hl 1 rfl) ?_
    refine cV_i (As := [.int 1, .int 6, .int p1]) (rest := []) hx hb hml hown hw hK hN hA hl.1 hP hD hS k_1659 k_1661 k_32 k_90 k_1662 (met_X10_refuses l D cy _ am m0 1 6 p1 (Or.inr rfl) 1 (D_X10_refuses m0 1 6 p1).2 (rs_X10_refuses ..)) (fun _ _ _ => trivial) Xok_T (gM (am := am) (r := 0) (m := m0) (f := (m0 0)) (by decide) rfl) rfl ⟨rfl, rfl⟩ (n := 3) (by decide +kernel) rfl ⟨Nat.le_of_ble_eq_true rfl, Nat.le_of_ble_eq_true rfl⟩ ⟨Nat.le_of_ble_eq_true rfl, Nat.le_of_ble_eq_true rfl⟩ (Nat.le_of_ble_eq_true rfl) rfl dX10_isHeld_17 (fun H locs hP hD hS => ?_)
    refine lv_if_ne (tgt := 101) hx hb dX10_isHeld_20 (by decide) (fun _ => ?_) (fun h => absurd h (by decide))
    refine lv_iconst (v := 1) hx hb dX10_isHeld_101 (by decide) ?_
    refine lv_goto (tgt := 106) hx hb dX10_isHeld_102 (by decide) ?_
    cases hF
    exact hret _ _ _ _ _ _ hP hD hS rfl rfl rfl dX10_isHeld_106
def D_X10_toRedeem (m0 : Nat → Nat → Int32) (p1 : Int32) : Option (Int32) := (D_X10_lenderAt m0 p1).bind (fun r1 => if 0 ≤ r1 then ((D_X10_c m0 p1 6).bind (fun r5 => some ((2 * r5) + 1))) else (some 0))
abbrev rm_X10_toRedeem : Room := { frames := 2, cells := 0, slots := 0, locals := 43 }
set_option maxHeartbeats 4000000 in
set_option maxRecDepth 100000 in
theorem met_X10_toRedeem (l : Launch) (D : va_G) (cy : Nat → ClassId) (sz : Nat) (am : Nat → Nat) (m0 : Nat → Nat → Int32) (p1 : Int32)  (r : Int32) (hF : D_X10_toRedeem m0 p1 = some r) : MI l yX10_toRedeem cX10_toRedeem 2 (some .int) rm_X10_toRedeem D cy (mW cy am m0) sz (fun _ => True) [.ref (am 0), .int p1] r (mW cy am m0) := by
  refine MI.of (by decide +kernel) (Nat.le_of_ble_eq_true rfl) ?_
  intro p e s m args below meth c A ls Q hAt _ hP hD hA hS hl hret
  obtain ⟨hx, hb, hr, hml, hown, hw, hlk, hK, hN⟩ := hAt
  have hown : s.vm.findClass "CloudDeedsModel" = some m.cls := hown
  have hl : lv_has ls 2 [(0, .ref (am 0)), (1, .int p1)] := hl
  refine lv_aload_n hx hb dX10_toRedeem_0 rfl (lv_at hl 0 rfl) ?_
  refine lv_iload_n hx hb dX10_toRedeem_1 rfl (lv_at hl 1 rfl) ?_
  obtain ⟨r1, hc3, hF⟩ := bind_some hF
  try dsimp only at hF
  refine cV_i (As := [.int p1]) (rest := []) hx hb hml hown hw hK hN hA hl.1 hP hD hS k_1730 k_1732 k_46 k_90 k_1733 (met_X10_lenderAt l D cy _ am m0 p1 r1 hc3) (fun _ _ _ => trivial) Xok_T (gM (am := am) (r := 0) (m := m0) (f := (m0 0)) (by decide) rfl) rfl ⟨rfl, rfl⟩ (n := 1) (by decide +kernel) rfl ⟨Nat.le_of_ble_eq_true rfl, Nat.le_of_ble_eq_true rfl⟩ ⟨Nat.le_of_ble_eq_true rfl, Nat.le_of_ble_eq_true rfl⟩ (Nat.le_of_ble_eq_true rfl) rfl dX10_toRedeem_2 (fun H locs hP hD hS => ?_)
  refine lv_if_ge (tgt := 12) hx hb dX10_toRedeem_5 (by decide) (fun h4 => ?_) (fun h4 => ?_)
  · replace hF := (if_pos h4).symm.trans hF
    refine lv_iconst (v := 2) hx hb dX10_toRedeem_12 (by decide) ?_
    refine lv_aload_n hx hb dX10_toRedeem_13 rfl (lv_at hl 0 rfl) ?_
    refine lv_iload_n hx hb dX10_toRedeem_14 rfl (lv_at hl 1 rfl) ?_
    refine lv_bipush (v := 6) hx hb dX10_toRedeem_15 (by decide) ?_
    obtain ⟨r5, hc7, hF⟩ := bind_some hF
    try dsimp only at hF
    refine cV_i (As := [.int p1, .int 6]) (rest := [.int 2]) hx hb hml hown hw hK hN hA hl.1 hP hD hS k_1702 k_1704 k_40 k_90 k_1705 (met_X10_c l D cy _ am m0 p1 6 r5 hc7) (fun _ _ _ => trivial) Xok_T (gM (am := am) (r := 0) (m := m0) (f := (m0 0)) (by decide) rfl) rfl ⟨rfl, rfl⟩ (n := 2) (by decide +kernel) rfl ⟨Nat.le_of_ble_eq_true rfl, Nat.le_of_ble_eq_true rfl⟩ ⟨Nat.le_of_ble_eq_true rfl, Nat.le_of_ble_eq_true rfl⟩ (Nat.le_of_ble_eq_true rfl) rfl dX10_toRedeem_17 (fun H locs hP hD hS => ?_)
    refine lv_imul hx hb dX10_toRedeem_20 ?_
    refine lv_iconst (v := 1) hx hb dX10_toRedeem_21 (by decide) ?_
    refine lv_iadd hx hb dX10_toRedeem_22 ?_
    cases hF
    exact hret _ _ _ _ _ _ hP hD hS rfl rfl dX10_toRedeem_23
  · replace hF := (if_neg h4).symm.trans hF
    refine lv_iconst (v := 0) hx hb dX10_toRedeem_8 (by decide) ?_
    refine lv_goto (tgt := 23) hx hb dX10_toRedeem_9 (by decide) ?_
    cases hF
    exact hret _ _ _ _ _ _ hP hD hS rfl rfl dX10_toRedeem_23
def D_X10_isOther (m0 : Nat → Nat → Int32) (p1 : Int32) : Option (Int32) := (D_X10_ownerAt m0 p1).bind (fun r1 => if r1 < 0 then (some 0) else ((D_X10_c m0 p1 4).bind (fun r5 => (D_X10_c m0 p1 1).bind (fun r8 => if r5 = r8 then (some 0) else (some 1)))))
abbrev rm_X10_isOther : Room := { frames := 2, cells := 0, slots := 0, locals := 43 }
set_option maxHeartbeats 4000000 in
set_option maxRecDepth 100000 in
theorem met_X10_isOther (l : Launch) (D : va_G) (cy : Nat → ClassId) (sz : Nat) (am : Nat → Nat) (m0 : Nat → Nat → Int32) (p1 : Int32)  (r : Int32) (hF : D_X10_isOther m0 p1 = some r) : MI l yX10_isOther cX10_isOther 2 (some .boolean) rm_X10_isOther D cy (mW cy am m0) sz (fun _ => True) [.ref (am 0), .int p1] r (mW cy am m0) := by
  refine MZ.of (by decide +kernel) (Nat.le_of_ble_eq_true rfl) ?_
  intro p e s m args below meth c A ls Q hAt _ hP hD hA hS hl hret
  obtain ⟨hx, hb, hr, hml, hown, hw, hlk, hK, hN⟩ := hAt
  have hown : s.vm.findClass "CloudDeedsModel" = some m.cls := hown
  have hl : lv_has ls 2 [(0, .ref (am 0)), (1, .int p1)] := hl
  refine lv_aload_n hx hb dX10_isOther_0 rfl (lv_at hl 0 rfl) ?_
  refine lv_iload_n hx hb dX10_isOther_1 rfl (lv_at hl 1 rfl) ?_
  obtain ⟨r1, hc3, hF⟩ := bind_some hF
  try dsimp only at hF
  refine cV_i (As := [.int p1]) (rest := []) hx hb hml hown hw hK hN hA hl.1 hP hD hS k_1698 k_1700 k_39 k_90 k_1701 (met_X10_ownerAt l D cy _ am m0 p1 r1 hc3) (fun _ _ _ => trivial) Xok_T (gM (am := am) (r := 0) (m := m0) (f := (m0 0)) (by decide) rfl) rfl ⟨rfl, rfl⟩ (n := 1) (by decide +kernel) rfl ⟨Nat.le_of_ble_eq_true rfl, Nat.le_of_ble_eq_true rfl⟩ ⟨Nat.le_of_ble_eq_true rfl, Nat.le_of_ble_eq_true rfl⟩ (Nat.le_of_ble_eq_true rfl) rfl dX10_isOther_2 (fun H locs hP hD hS => ?_)
  refine lv_if_lt (tgt := 27) hx hb dX10_isOther_5 (by decide) (fun h4 => ?_) (fun h4 => ?_)
  · replace hF := (if_pos h4).symm.trans hF
    refine lv_iconst (v := 0) hx hb dX10_isOther_27 (by decide) ?_
    cases hF
    exact hret _ _ _ _ _ _ hP hD hS rfl rfl rfl dX10_isOther_28
  · replace hF := (if_neg h4).symm.trans hF
    refine lv_aload_n hx hb dX10_isOther_8 rfl (lv_at hl 0 rfl) ?_
    refine lv_iload_n hx hb dX10_isOther_9 rfl (lv_at hl 1 rfl) ?_
    refine lv_iconst (v := 4) hx hb dX10_isOther_10 (by decide) ?_
    obtain ⟨r5, hc7, hF⟩ := bind_some hF
    try dsimp only at hF
    refine cV_i (As := [.int p1, .int 4]) (rest := []) hx hb hml hown hw hK hN hA hl.1 hP hD hS k_1702 k_1704 k_40 k_90 k_1705 (met_X10_c l D cy _ am m0 p1 4 r5 hc7) (fun _ _ _ => trivial) Xok_T (gM (am := am) (r := 0) (m := m0) (f := (m0 0)) (by decide) rfl) rfl ⟨rfl, rfl⟩ (n := 2) (by decide +kernel) rfl ⟨Nat.le_of_ble_eq_true rfl, Nat.le_of_ble_eq_true rfl⟩ ⟨Nat.le_of_ble_eq_true rfl, Nat.le_of_ble_eq_true rfl⟩ (Nat.le_of_ble_eq_true rfl) rfl dX10_isOther_11 (fun H locs hP hD hS => ?_)
    refine lv_aload_n hx hb dX10_isOther_14 rfl (lv_at hl 0 rfl) ?_
    refine lv_iload_n hx hb dX10_isOther_15 rfl (lv_at hl 1 rfl) ?_
    refine lv_iconst (v := 1) hx hb dX10_isOther_16 (by decide) ?_
    obtain ⟨r8, hc10, hF⟩ := bind_some hF
    try dsimp only at hF
    refine cV_i (As := [.int p1, .int 1]) (rest := [.int r5]) hx hb hml hown hw hK hN hA hl.1 hP hD hS k_1702 k_1704 k_40 k_90 k_1705 (met_X10_c l D cy _ am m0 p1 1 r8 hc10) (fun _ _ _ => trivial) Xok_T (gM (am := am) (r := 0) (m := m0) (f := (m0 0)) (by decide) rfl) rfl ⟨rfl, rfl⟩ (n := 2) (by decide +kernel) rfl ⟨Nat.le_of_ble_eq_true rfl, Nat.le_of_ble_eq_true rfl⟩ ⟨Nat.le_of_ble_eq_true rfl, Nat.le_of_ble_eq_true rfl⟩ (Nat.le_of_ble_eq_true rfl) rfl dX10_isOther_17 (fun H locs hP hD hS => ?_)
    refine lv_icmp_eq (tgt := 27) hx hb dX10_isOther_20 (by decide) (fun h11 => ?_) (fun h11 => ?_)
    · replace hF := (if_pos h11).symm.trans hF
      refine lv_iconst (v := 0) hx hb dX10_isOther_27 (by decide) ?_
      cases hF
      exact hret _ _ _ _ _ _ hP hD hS rfl rfl rfl dX10_isOther_28
    · replace hF := (if_neg h11).symm.trans hF
      refine lv_iconst (v := 1) hx hb dX10_isOther_23 (by decide) ?_
      refine lv_goto (tgt := 28) hx hb dX10_isOther_24 (by decide) ?_
      cases hF
      exact hret _ _ _ _ _ _ hP hD hS rfl rfl rfl dX10_isOther_28
def L_X10_hails_37 : Nat → (Nat → Nat → Int32) → (Int32) → (Int32) → (Nat → Nat → Int32) → Option (Int32 × (Nat → Nat → Int32))
  | 0, _, _, _, _ => none
  | n37 + 1, m0, p1, i2h37, s37 => if i2h37 < 0 then (if inb 4 1152 then (if inb 4 1152 then (some (1, (va_up s37 1 (upd (s37 1) ((4 : Int32).toNatClampNeg) (((s37 1) (4 : Int32).toNatClampNeg) + ((s37 0) 4)))))) else none) else none) else ((D_X10_c s37 i2h37 0).bind (fun r13 => if r13 = p1 then ((D_X10_lenderAt s37 i2h37).bind (fun r17 => if r17 < 0 then ((D_X10_c s37 i2h37 2).bind (fun r21 => (D_X10_set s37 i2h37 2 (r21 - 1)).bind (fun o25 => (D_X10_c o25 i2h37 2).bind (fun r27 => if r27 = 0 then ((D_X10_goes o25 i2h37).bind (fun o32 => L_X10_hails_37 n37 m0 p1 (i2h37 + (-1)) o32)) else (L_X10_hails_37 n37 m0 p1 (i2h37 + (-1)) o25))))) else ((D_X10_lenderAt s37 i2h37).bind (fun r34 => (D_X10_gets s37 i2h37 r34).bind (fun o38 => (D_X10_frees o38 i2h37).bind (fun o41 => L_X10_hails_37 n37 m0 p1 (i2h37 + (-1)) (va_up o41 0 (upd (o41 0) 4 (((o41 0) 4) + 1))))))))) else (L_X10_hails_37 n37 m0 p1 (i2h37 + (-1)) s37)))
def D_X10_hails (m0 : Nat → Nat → Int32) (p1 : Int32) : Option (Int32 × (Nat → Nat → Int32)) := if (D_X10_isVine p1) = 0 then (some (0, (D_X10_refuses m0 1 2 p1).2)) else (if inb 0 1152 then (L_X10_hails_37 200 m0 p1 ((((D_X10_refuses m0 0 2 p1).2 1) (0 : Int32).toNatClampNeg) - 1) (va_up (D_X10_refuses m0 0 2 p1).2 0 (upd ((D_X10_refuses m0 0 2 p1).2 0) 4 0))) else none)
abbrev rm_X10_hails : Room := { frames := 2, cells := 0, slots := 0, locals := 45 }
set_option maxHeartbeats 4000000 in
set_option maxRecDepth 100000 in
theorem met_X10_hails (l : Launch) (D : va_G) (cy : Nat → ClassId) (sz : Nat) (am : Nat → Nat) (m0 : Nat → Nat → Int32) (p1 : Int32)  (r : Int32) (t' : Nat → Nat → Int32) (hF : D_X10_hails m0 p1 = some (r, t')) : MI l yX10_hails cX10_hails 3 (some .boolean) rm_X10_hails D cy (mW cy am m0) sz (fun _ => True) [.ref (am 0), .int p1] r (mW cy am t') := by
  refine MZ.of (by decide +kernel) (Nat.le_of_ble_eq_true rfl) ?_
  intro p e s m args below meth c A ls Q hAt _ hP hD hA hS hl hret
  obtain ⟨hx, hb, hr, hml, hown, hw, hlk, hK, hN⟩ := hAt
  have hown : s.vm.findClass "CloudDeedsModel" = some m.cls := hown
  have hl : lv_has ls 3 [(0, .ref (am 0)), (1, .int p1)] := hl
  refine lv_aload_n hx hb dX10_hails_0 rfl (lv_at hl 0 rfl) ?_
  refine lv_iload_n hx hb dX10_hails_1 rfl (lv_at hl 1 rfl) ?_
  refine cS_i (As := [.int p1]) (rest := [.ref (am 0)]) hx hb hml hown hw hK hN hA hl.1 hP hD hS k_1653 k_1654 k_90 k_1655 (met_X10_isVine l D cy _ (mW cy am m0) p1 (D_X10_isVine p1) rfl) (fun _ _ _ => trivial) Xok_T ⟨rfl, rfl⟩ (n := 1) (by decide +kernel) rfl ⟨Nat.le_of_ble_eq_true rfl, Nat.le_of_ble_eq_true rfl⟩ ⟨Nat.le_of_ble_eq_true rfl, Nat.le_of_ble_eq_true rfl⟩ (Nat.le_of_ble_eq_true rfl) rfl dX10_hails_2 (fun H locs hP hD hS => ?_)
  refine lv_if_ne (tgt := 12) hx hb dX10_hails_5 (by decide) (fun h4 => ?_) (fun h4 => ?_)
  · replace hF := (if_neg h4).symm.trans hF
    refine lv_iconst (v := 0) hx hb dX10_hails_12 (by decide) ?_
    refine lv_iconst (v := 2) hx hb dX10_hails_13 (by decide) ?_
    refine lv_iload_n hx hb dX10_hails_14 rfl (lv_at hl 1 rfl) ?_
    refine cV_i (As := [.int 0, .int 2, .int p1]) (rest := []) hx hb hml hown hw hK hN hA hl.1 hP hD hS k_1659 k_1661 k_32 k_90 k_1662 (met_X10_refuses l D cy _ am m0 0 2 p1 (Or.inl rfl) 0 (D_X10_refuses m0 0 2 p1).2 (rs_X10_refuses ..)) (fun _ _ _ => trivial) Xok_T (gM (am := am) (r := 0) (m := m0) (f := (m0 0)) (by decide) rfl) rfl ⟨rfl, rfl⟩ (n := 3) (by decide +kernel) rfl ⟨Nat.le_of_ble_eq_true rfl, Nat.le_of_ble_eq_true rfl⟩ ⟨Nat.le_of_ble_eq_true rfl, Nat.le_of_ble_eq_true rfl⟩ (Nat.le_of_ble_eq_true rfl) rfl dX10_hails_15 (fun H locs hP hD hS => ?_)
    refine lv_if_eq (tgt := 23) hx hb dX10_hails_18 (by decide) (fun _ => ?_) (fun h => absurd h (by decide))
    refine lv_aload_n hx hb dX10_hails_23 rfl (lv_at hl 0 rfl) ?_
    refine lv_iconst (v := 0) hx hb dX10_hails_24 (by decide) ?_
    refine put' (ci := 12) (fs := mF am ((D_X10_refuses m0 0 2 p1).2 0)) (v := .int 0) (ty := .int) (ws' := (mW cy am (va_up (D_X10_refuses m0 0 2 p1).2 0 (upd ((D_X10_refuses m0 0 2 p1).2 0) 4 0)))) hx hb hw inWX10 tyX10 tyX10_ok nmX10 hown hK hP hD hS (gM (am := am) (r := 0) (m := (D_X10_refuses m0 0 2 p1).2) (f := ((D_X10_refuses m0 0 2 p1).2 0)) (by decide) rfl) rfl 4 (by decide) k_1574 rfl rfl (by decide +kernel) rfl rfl (Nat.le_of_ble_eq_true rfl) dX10_hails_25 (sM (am := am) (r := 0) (m := (D_X10_refuses m0 0 2 p1).2) (g := (upd ((D_X10_refuses m0 0 2 p1).2 0) 4 0)) (by decide)) (fun H locs hP hD hS => ?_)
    refine lv_aload_n hx hb dX10_hails_28 rfl (lv_at hl 0 rfl) ?_
    refine get' (ci := 12) (fs := mF am (upd ((D_X10_refuses m0 0 2 p1).2 0) 4 0)) (v := .ref (am 1)) hx hb hw inWX10 hown hK hP (gM (am := am) (r := 0) (m := (va_up (D_X10_refuses m0 0 2 p1).2 0 (upd ((D_X10_refuses m0 0 2 p1).2 0) 4 0))) (f := (upd ((D_X10_refuses m0 0 2 p1).2 0) 4 0)) (by decide) (va_up_self _ _ _)) rfl 1 (by decide) k_1571 rfl rfl dX10_hails_29 ?_
    refine lv_iconst (v := 0) hx hb dX10_hails_32 (by decide) ?_
    obtain ⟨h9, hF⟩ := ite_some hF
    refine va_iald (n := 1152) (f := ((D_X10_refuses m0 0 2 p1).2 1)) hx hb hK hP _ 0 (gM (am := am) (r := 1) (m := (va_up (D_X10_refuses m0 0 2 p1).2 0 (upd ((D_X10_refuses m0 0 2 p1).2 0) 4 0))) (f := ((D_X10_refuses m0 0 2 p1).2 1)) (by decide) ((va_up_ne _ _ (by decide)).trans rfl)) rfl (vp_inb h9) dX10_hails_33 ?_
    refine lv_iconst (v := 1) hx hb dX10_hails_34 (by decide) ?_
    refine lv_isub hx hb dX10_hails_35 ?_
    refine lv_istore_n (lv' := [(2, .int ((((D_X10_refuses m0 0 2 p1).2 1) (0 : Int32).toNatClampNeg) - 1)), (0, .ref (am 0)), (1, .int p1)]) hx hb dX10_hails_36 rfl hl (by decide) rfl (fun ls hl => ?_)
    have loop37 : ∀ (n : Nat) (i2h37 : Int32) (s37 : Nat → Nat → Int32) (H : Heap) (locs : List Loc) (ls : Array Slot), L_X10_hails_37 n m0 p1 i2h37 s37 = some (r, t') → va_P D vwCl (mW cy am s37) H → va_D A (mW cy am s37) → va_S A s.heap H locs → lv_has ls 3 [(2, .int i2h37), (0, .ref (am 0)), (1, .int p1)] → W p l e rm_X10_hails s m args below meth c H locs 0 0 Q (F0 m 37 ls []) := by
      intro n
      induction n with
      | zero => intro i2h37 s37 H locs ls hF _ _ _ _; exact absurd hF (by simp [L_X10_hails_37])
      | succ n37 ih37 =>
        intro i2h37 s37 H locs ls hF hP hD hS hl
        refine lv_iload_n hx hb dX10_hails_37 rfl (lv_at hl 0 rfl) ?_
        refine lv_if_lt (tgt := 124) hx hb dX10_hails_38 (by decide) (fun h10 => ?_) (fun h10 => ?_)
        · replace hF := (if_pos h10).symm.trans hF
          refine lv_aload_n hx hb dX10_hails_124 rfl (lv_at hl 1 rfl) ?_
          refine get' (ci := 12) (fs := mF am (s37 0)) (v := .ref (am 1)) hx hb hw inWX10 hown hK hP (gM (am := am) (r := 0) (m := s37) (f := (s37 0)) (by decide) rfl) rfl 1 (by decide) k_1571 rfl rfl dX10_hails_125 ?_
          refine lv_iconst (v := 4) hx hb dX10_hails_128 (by decide) ?_
          refine lv_dup2_11 hx hb dX10_hails_129 rfl rfl ?_
          obtain ⟨h11, hF⟩ := ite_some hF
          refine va_iald (n := 1152) (f := (s37 1)) hx hb hK hP _ 0 (gM (am := am) (r := 1) (m := s37) (f := (s37 1)) (by decide) rfl) rfl (vp_inb h11) dX10_hails_130 ?_
          refine lv_aload_n hx hb dX10_hails_131 rfl (lv_at hl 1 rfl) ?_
          refine get' (ci := 12) (fs := mF am (s37 0)) (v := .int ((s37 0) 4)) hx hb hw inWX10 hown hK hP (gM (am := am) (r := 0) (m := s37) (f := (s37 0)) (by decide) rfl) rfl 4 (by decide) k_1574 rfl rfl dX10_hails_132 ?_
          refine lv_iadd hx hb dX10_hails_135 ?_
          obtain ⟨h12, hF⟩ := ite_some hF
          refine iast' (n := 1152) (f := (s37 1)) (ws' := (mW cy am (va_up s37 1 (upd (s37 1) ((4 : Int32).toNatClampNeg) (((s37 1) (4 : Int32).toNatClampNeg) + ((s37 0) 4)))))) hx hb hK hP hD hS (gM (am := am) (r := 1) (m := s37) (f := (s37 1)) (by decide) rfl) (t0 := 0) rfl (vp_inb h12) dX10_hails_136 (sM (am := am) (r := 1) (m := s37) (g := (upd (s37 1) ((4 : Int32).toNatClampNeg) (((s37 1) (4 : Int32).toNatClampNeg) + ((s37 0) 4)))) (by decide)) (fun H locs hP hD hS => ?_)
          refine lv_iconst (v := 1) hx hb dX10_hails_137 (by decide) ?_
          cases hF
          exact hret _ _ _ _ _ _ hP hD hS rfl rfl rfl dX10_hails_138
        · replace hF := (if_neg h10).symm.trans hF
          refine lv_aload_n hx hb dX10_hails_41 rfl (lv_at hl 1 rfl) ?_
          refine lv_iload_n hx hb dX10_hails_42 rfl (lv_at hl 0 rfl) ?_
          refine lv_iconst (v := 0) hx hb dX10_hails_43 (by decide) ?_
          obtain ⟨r13, hc15, hF⟩ := bind_some hF
          try dsimp only at hF
          refine cV_i (As := [.int i2h37, .int 0]) (rest := []) hx hb hml hown hw hK hN hA hl.1 hP hD hS k_1702 k_1704 k_40 k_90 k_1705 (met_X10_c l D cy _ am s37 i2h37 0 r13 hc15) (fun _ _ _ => trivial) Xok_T (gM (am := am) (r := 0) (m := s37) (f := (s37 0)) (by decide) rfl) rfl ⟨rfl, rfl⟩ (n := 2) (by decide +kernel) rfl ⟨Nat.le_of_ble_eq_true rfl, Nat.le_of_ble_eq_true rfl⟩ ⟨Nat.le_of_ble_eq_true rfl, Nat.le_of_ble_eq_true rfl⟩ (Nat.le_of_ble_eq_true rfl) rfl dX10_hails_44 (fun H locs hP hD hS => ?_)
          refine lv_iload_n hx hb dX10_hails_47 rfl (lv_at hl 2 rfl) ?_
          refine lv_icmp_eq (tgt := 54) hx hb dX10_hails_48 (by decide) (fun h16 => ?_) (fun h16 => ?_)
          · replace hF := (if_pos h16).symm.trans hF
            refine lv_aload_n hx hb dX10_hails_54 rfl (lv_at hl 1 rfl) ?_
            refine lv_iload_n hx hb dX10_hails_55 rfl (lv_at hl 0 rfl) ?_
            obtain ⟨r17, hc19, hF⟩ := bind_some hF
            try dsimp only at hF
            refine cV_i (As := [.int i2h37]) (rest := []) hx hb hml hown hw hK hN hA hl.1 hP hD hS k_1730 k_1732 k_46 k_90 k_1733 (met_X10_lenderAt l D cy _ am s37 i2h37 r17 hc19) (fun _ _ _ => trivial) Xok_T (gM (am := am) (r := 0) (m := s37) (f := (s37 0)) (by decide) rfl) rfl ⟨rfl, rfl⟩ (n := 1) (by decide +kernel) rfl ⟨Nat.le_of_ble_eq_true rfl, Nat.le_of_ble_eq_true rfl⟩ ⟨Nat.le_of_ble_eq_true rfl, Nat.le_of_ble_eq_true rfl⟩ (Nat.le_of_ble_eq_true rfl) rfl dX10_hails_56 (fun H locs hP hD hS => ?_)
            refine lv_if_lt (tgt := 90) hx hb dX10_hails_59 (by decide) (fun h20 => ?_) (fun h20 => ?_)
            · replace hF := (if_pos h20).symm.trans hF
              refine lv_aload_n hx hb dX10_hails_90 rfl (lv_at hl 1 rfl) ?_
              refine lv_iload_n hx hb dX10_hails_91 rfl (lv_at hl 0 rfl) ?_
              refine lv_iconst (v := 2) hx hb dX10_hails_92 (by decide) ?_
              refine lv_aload_n hx hb dX10_hails_93 rfl (lv_at hl 1 rfl) ?_
              refine lv_iload_n hx hb dX10_hails_94 rfl (lv_at hl 0 rfl) ?_
              refine lv_iconst (v := 2) hx hb dX10_hails_95 (by decide) ?_
              obtain ⟨r21, hc23, hF⟩ := bind_some hF
              try dsimp only at hF
              refine cV_i (As := [.int i2h37, .int 2]) (rest := [.int 2, .int i2h37, .ref (am 0)]) hx hb hml hown hw hK hN hA hl.1 hP hD hS k_1702 k_1704 k_40 k_90 k_1705 (met_X10_c l D cy _ am s37 i2h37 2 r21 hc23) (fun _ _ _ => trivial) Xok_T (gM (am := am) (r := 0) (m := s37) (f := (s37 0)) (by decide) rfl) rfl ⟨rfl, rfl⟩ (n := 2) (by decide +kernel) rfl ⟨Nat.le_of_ble_eq_true rfl, Nat.le_of_ble_eq_true rfl⟩ ⟨Nat.le_of_ble_eq_true rfl, Nat.le_of_ble_eq_true rfl⟩ (Nat.le_of_ble_eq_true rfl) rfl dX10_hails_96 (fun H locs hP hD hS => ?_)
              refine lv_iconst (v := 1) hx hb dX10_hails_99 (by decide) ?_
              refine lv_isub hx hb dX10_hails_100 ?_
              obtain ⟨o25, hc26, hF⟩ := bind_some hF
              try dsimp only at hF
              refine cV_v (As := [.int i2h37, .int 2, .int (r21 - 1)]) (rest := []) hx hb hml hown hw hK hN hA hl.1 hP hD hS k_1663 k_1665 k_33 k_90 k_1666 (met_X10_set l D cy _ am s37 i2h37 2 (r21 - 1) o25 hc26) (fun _ _ _ => trivial) Xok_T (gM (am := am) (r := 0) (m := s37) (f := (s37 0)) (by decide) rfl) rfl ⟨rfl, rfl⟩ (n := 3) (by decide +kernel) rfl ⟨Nat.le_of_ble_eq_true rfl, Nat.le_of_ble_eq_true rfl⟩ ⟨Nat.le_of_ble_eq_true rfl, Nat.le_of_ble_eq_true rfl⟩ (Nat.le_of_ble_eq_true rfl) rfl dX10_hails_101 (fun H locs hP hD hS => ?_)
              refine lv_aload_n hx hb dX10_hails_104 rfl (lv_at hl 1 rfl) ?_
              refine lv_iload_n hx hb dX10_hails_105 rfl (lv_at hl 0 rfl) ?_
              refine lv_iconst (v := 2) hx hb dX10_hails_106 (by decide) ?_
              obtain ⟨r27, hc29, hF⟩ := bind_some hF
              try dsimp only at hF
              refine cV_i (As := [.int i2h37, .int 2]) (rest := []) hx hb hml hown hw hK hN hA hl.1 hP hD hS k_1702 k_1704 k_40 k_90 k_1705 (met_X10_c l D cy _ am o25 i2h37 2 r27 hc29) (fun _ _ _ => trivial) Xok_T (gM (am := am) (r := 0) (m := o25) (f := (o25 0)) (by decide) rfl) rfl ⟨rfl, rfl⟩ (n := 2) (by decide +kernel) rfl ⟨Nat.le_of_ble_eq_true rfl, Nat.le_of_ble_eq_true rfl⟩ ⟨Nat.le_of_ble_eq_true rfl, Nat.le_of_ble_eq_true rfl⟩ (Nat.le_of_ble_eq_true rfl) rfl dX10_hails_107 (fun H locs hP hD hS => ?_)
              refine lv_if_ne (tgt := 118) hx hb dX10_hails_110 (by decide) (fun h30 => ?_) (fun h30 => ?_)
              · replace hF := (if_neg h30).symm.trans hF
                refine lv_iinc (v := (i2h37 + (-1))) (lv' := [(2, .int (i2h37 + (-1))), (0, .ref (am 0)), (1, .int p1)]) hx hb dX10_hails_118 hl (k := 0) rfl rfl (by decide) rfl (fun ls hl => ?_)
                refine lv_goto (tgt := 37) hx hb dX10_hails_121 (by decide) ?_
                exact ih37 (i2h37 + (-1)) o25 _ _ _ hF hP hD hS (lv_sub hl [0, 1, 2] rfl)
              · replace hF := (if_pos h30).symm.trans hF
                refine lv_aload_n hx hb dX10_hails_113 rfl (lv_at hl 1 rfl) ?_
                refine lv_iload_n hx hb dX10_hails_114 rfl (lv_at hl 0 rfl) ?_
                obtain ⟨o32, hc33, hF⟩ := bind_some hF
                try dsimp only at hF
                refine cV_v (As := [.int i2h37]) (rest := []) hx hb hml hown hw hK hN hA hl.1 hP hD hS k_1782 k_1784 k_55 k_90 k_1785 (met_X10_goes l D cy _ am o25 i2h37 o32 hc33) (fun _ _ _ => trivial) Xok_T (gM (am := am) (r := 0) (m := o25) (f := (o25 0)) (by decide) rfl) rfl ⟨rfl, rfl⟩ (n := 1) (by decide +kernel) rfl ⟨Nat.le_of_ble_eq_true rfl, Nat.le_of_ble_eq_true rfl⟩ ⟨Nat.le_of_ble_eq_true rfl, Nat.le_of_ble_eq_true rfl⟩ (Nat.le_of_ble_eq_true rfl) rfl dX10_hails_115 (fun H locs hP hD hS => ?_)
                refine lv_iinc (v := (i2h37 + (-1))) (lv' := [(2, .int (i2h37 + (-1))), (0, .ref (am 0)), (1, .int p1)]) hx hb dX10_hails_118 hl (k := 0) rfl rfl (by decide) rfl (fun ls hl => ?_)
                refine lv_goto (tgt := 37) hx hb dX10_hails_121 (by decide) ?_
                exact ih37 (i2h37 + (-1)) o32 _ _ _ hF hP hD hS (lv_sub hl [0, 1, 2] rfl)
            · replace hF := (if_neg h20).symm.trans hF
              refine lv_aload_n hx hb dX10_hails_62 rfl (lv_at hl 1 rfl) ?_
              refine lv_iload_n hx hb dX10_hails_63 rfl (lv_at hl 0 rfl) ?_
              refine lv_aload_n hx hb dX10_hails_64 rfl (lv_at hl 1 rfl) ?_
              refine lv_iload_n hx hb dX10_hails_65 rfl (lv_at hl 0 rfl) ?_
              obtain ⟨r34, hc36, hF⟩ := bind_some hF
              try dsimp only at hF
              refine cV_i (As := [.int i2h37]) (rest := [.int i2h37, .ref (am 0)]) hx hb hml hown hw hK hN hA hl.1 hP hD hS k_1730 k_1732 k_46 k_90 k_1733 (met_X10_lenderAt l D cy _ am s37 i2h37 r34 hc36) (fun _ _ _ => trivial) Xok_T (gM (am := am) (r := 0) (m := s37) (f := (s37 0)) (by decide) rfl) rfl ⟨rfl, rfl⟩ (n := 1) (by decide +kernel) rfl ⟨Nat.le_of_ble_eq_true rfl, Nat.le_of_ble_eq_true rfl⟩ ⟨Nat.le_of_ble_eq_true rfl, Nat.le_of_ble_eq_true rfl⟩ (Nat.le_of_ble_eq_true rfl) rfl dX10_hails_66 (fun H locs hP hD hS => ?_)
              obtain ⟨o38, hc39, hF⟩ := bind_some hF
              try dsimp only at hF
              refine cV_v (As := [.int i2h37, .int r34]) (rest := []) hx hb hml hown hw hK hN hA hl.1 hP hD hS k_1714 k_1716 k_43 k_90 k_1717 (met_X10_gets l D cy _ am s37 i2h37 r34 o38 hc39) (fun _ _ _ => trivial) Xok_T (gM (am := am) (r := 0) (m := s37) (f := (s37 0)) (by decide) rfl) rfl ⟨rfl, rfl⟩ (n := 2) (by decide +kernel) rfl ⟨Nat.le_of_ble_eq_true rfl, Nat.le_of_ble_eq_true rfl⟩ ⟨Nat.le_of_ble_eq_true rfl, Nat.le_of_ble_eq_true rfl⟩ (Nat.le_of_ble_eq_true rfl) rfl dX10_hails_69 (fun H locs hP hD hS => ?_)
              refine lv_aload_n hx hb dX10_hails_72 rfl (lv_at hl 1 rfl) ?_
              refine lv_iload_n hx hb dX10_hails_73 rfl (lv_at hl 0 rfl) ?_
              obtain ⟨o41, hc42, hF⟩ := bind_some hF
              try dsimp only at hF
              refine cV_v (As := [.int i2h37]) (rest := []) hx hb hml hown hw hK hN hA hl.1 hP hD hS k_1754 k_1756 k_50 k_90 k_1757 (met_X10_frees l D cy _ am o38 i2h37 o41 hc42) (fun _ _ _ => trivial) Xok_T (gM (am := am) (r := 0) (m := o38) (f := (o38 0)) (by decide) rfl) rfl ⟨rfl, rfl⟩ (n := 1) (by decide +kernel) rfl ⟨Nat.le_of_ble_eq_true rfl, Nat.le_of_ble_eq_true rfl⟩ ⟨Nat.le_of_ble_eq_true rfl, Nat.le_of_ble_eq_true rfl⟩ (Nat.le_of_ble_eq_true rfl) rfl dX10_hails_74 (fun H locs hP hD hS => ?_)
              refine lv_aload_n hx hb dX10_hails_77 rfl (lv_at hl 1 rfl) ?_
              refine lv_dup hx hb dX10_hails_78 rfl ?_
              refine get' (ci := 12) (fs := mF am (o41 0)) (v := .int ((o41 0) 4)) hx hb hw inWX10 hown hK hP (gM (am := am) (r := 0) (m := o41) (f := (o41 0)) (by decide) rfl) rfl 4 (by decide) k_1574 rfl rfl dX10_hails_79 ?_
              refine lv_iconst (v := 1) hx hb dX10_hails_82 (by decide) ?_
              refine lv_iadd hx hb dX10_hails_83 ?_
              refine put' (ci := 12) (fs := mF am (o41 0)) (v := .int (((o41 0) 4) + 1)) (ty := .int) (ws' := (mW cy am (va_up o41 0 (upd (o41 0) 4 (((o41 0) 4) + 1))))) hx hb hw inWX10 tyX10 tyX10_ok nmX10 hown hK hP hD hS (gM (am := am) (r := 0) (m := o41) (f := (o41 0)) (by decide) rfl) rfl 4 (by decide) k_1574 rfl rfl (by decide +kernel) rfl rfl (Nat.le_of_ble_eq_true rfl) dX10_hails_84 (sM (am := am) (r := 0) (m := o41) (g := (upd (o41 0) 4 (((o41 0) 4) + 1))) (by decide)) (fun H locs hP hD hS => ?_)
              refine lv_goto (tgt := 118) hx hb dX10_hails_87 (by decide) ?_
              refine lv_iinc (v := (i2h37 + (-1))) (lv' := [(2, .int (i2h37 + (-1))), (0, .ref (am 0)), (1, .int p1)]) hx hb dX10_hails_118 hl (k := 0) rfl rfl (by decide) rfl (fun ls hl => ?_)
              refine lv_goto (tgt := 37) hx hb dX10_hails_121 (by decide) ?_
              exact ih37 (i2h37 + (-1)) (va_up o41 0 (upd (o41 0) 4 (((o41 0) 4) + 1))) _ _ _ hF hP hD hS (lv_sub hl [0, 1, 2] rfl)
          · replace hF := (if_neg h16).symm.trans hF
            refine lv_goto (tgt := 118) hx hb dX10_hails_51 (by decide) ?_
            refine lv_iinc (v := (i2h37 + (-1))) (lv' := [(2, .int (i2h37 + (-1))), (0, .ref (am 0)), (1, .int p1)]) hx hb dX10_hails_118 hl (k := 0) rfl rfl (by decide) rfl (fun ls hl => ?_)
            refine lv_goto (tgt := 37) hx hb dX10_hails_121 (by decide) ?_
            exact ih37 (i2h37 + (-1)) s37 _ _ _ hF hP hD hS (lv_sub hl [0, 1, 2] rfl)
    exact loop37 200 ((((D_X10_refuses m0 0 2 p1).2 1) (0 : Int32).toNatClampNeg) - 1) (va_up (D_X10_refuses m0 0 2 p1).2 0 (upd ((D_X10_refuses m0 0 2 p1).2 0) 4 0)) _ _ _ hF hP hD hS (lv_sub hl [0, 1, 2] rfl)
  · replace hF := (if_pos h4).symm.trans hF
    refine lv_iconst (v := 1) hx hb dX10_hails_8 (by decide) ?_
    refine lv_goto (tgt := 13) hx hb dX10_hails_9 (by decide) ?_
    refine lv_iconst (v := 2) hx hb dX10_hails_13 (by decide) ?_
    refine lv_iload_n hx hb dX10_hails_14 rfl (lv_at hl 1 rfl) ?_
    refine cV_i (As := [.int 1, .int 2, .int p1]) (rest := []) hx hb hml hown hw hK hN hA hl.1 hP hD hS k_1659 k_1661 k_32 k_90 k_1662 (met_X10_refuses l D cy _ am m0 1 2 p1 (Or.inr rfl) 1 (D_X10_refuses m0 1 2 p1).2 (rs_X10_refuses ..)) (fun _ _ _ => trivial) Xok_T (gM (am := am) (r := 0) (m := m0) (f := (m0 0)) (by decide) rfl) rfl ⟨rfl, rfl⟩ (n := 3) (by decide +kernel) rfl ⟨Nat.le_of_ble_eq_true rfl, Nat.le_of_ble_eq_true rfl⟩ ⟨Nat.le_of_ble_eq_true rfl, Nat.le_of_ble_eq_true rfl⟩ (Nat.le_of_ble_eq_true rfl) rfl dX10_hails_15 (fun H locs hP hD hS => ?_)
    refine lv_if_eq (tgt := 23) hx hb dX10_hails_18 (by decide) (fun h => absurd h (by decide)) (fun _ => ?_)
    refine lv_iconst (v := 0) hx hb dX10_hails_21 (by decide) ?_
    cases hF
    exact hret _ _ _ _ _ _ hP hD hS rfl rfl rfl dX10_hails_22
def L_X10_ofOwner_5 : Nat → (Nat → Nat → Int32) → (Int32) → (Int32) → (Int32) → (Int32) → Option (Int32)
  | 0, _, _, _, _, _ => none
  | n5 + 1, m0, p1, p2, i4h5, i3h5 => if inb 0 1152 then (if ((m0 1) (0 : Int32).toNatClampNeg) ≤ i4h5 then (some i3h5) else ((D_X10_ownerAt m0 i4h5).bind (fun r3 => if r3 = p1 then (if p2 = 2 then ((D_X10_lenderAt m0 i4h5).bind (fun r24 => if r24 = p1 then (L_X10_ofOwner_5 n5 m0 p1 p2 (i4h5 + 1) (i3h5 + 1)) else (L_X10_ofOwner_5 n5 m0 p1 p2 (i4h5 + 1) (i3h5 + 0)))) else (if p2 = 4 then ((D_X10_c m0 i4h5 2).bind (fun r21 => L_X10_ofOwner_5 n5 m0 p1 p2 (i4h5 + 1) (i3h5 + r21))) else (if p2 = 5 then (L_X10_ofOwner_5 n5 m0 p1 p2 (i4h5 + 1) (i3h5 + 1)) else ((D_X10_lenderAt m0 i4h5).bind (fun r17 => if r17 < 0 then (L_X10_ofOwner_5 n5 m0 p1 p2 (i4h5 + 1) (i3h5 + 0)) else (L_X10_ofOwner_5 n5 m0 p1 p2 (i4h5 + 1) (i3h5 + 1))))))) else (if p2 = 2 then ((D_X10_lenderAt m0 i4h5).bind (fun r9 => if r9 = p1 then (L_X10_ofOwner_5 n5 m0 p1 p2 (i4h5 + 1) (i3h5 + 1)) else (L_X10_ofOwner_5 n5 m0 p1 p2 (i4h5 + 1) (i3h5 + 0)))) else (L_X10_ofOwner_5 n5 m0 p1 p2 (i4h5 + 1) (i3h5 + 0)))))) else none
def D_X10_ofOwner (m0 : Nat → Nat → Int32) (p1 : Int32) (p2 : Int32) : Option (Int32) := L_X10_ofOwner_5 200 m0 p1 p2 0 0
abbrev rm_X10_ofOwner : Room := { frames := 2, cells := 0, slots := 0, locals := 43 }
set_option maxHeartbeats 4000000 in
set_option maxRecDepth 100000 in
theorem met_X10_ofOwner (l : Launch) (D : va_G) (cy : Nat → ClassId) (sz : Nat) (am : Nat → Nat) (m0 : Nat → Nat → Int32) (p1 : Int32) (p2 : Int32)  (r : Int32) (hF : D_X10_ofOwner m0 p1 p2 = some r) : MI l yX10_ofOwner cX10_ofOwner 6 (some .int) rm_X10_ofOwner D cy (mW cy am m0) sz (fun _ => True) [.ref (am 0), .int p1, .int p2] r (mW cy am m0) := by
  refine MI.of (by decide +kernel) (Nat.le_of_ble_eq_true rfl) ?_
  intro p e s m args below meth c A ls Q hAt _ hP hD hA hS hl hret
  obtain ⟨hx, hb, hr, hml, hown, hw, hlk, hK, hN⟩ := hAt
  have hown : s.vm.findClass "CloudDeedsModel" = some m.cls := hown
  have hl : lv_has ls 6 [(0, .ref (am 0)), (1, .int p1), (2, .int p2)] := hl
  refine lv_iconst (v := 0) hx hb dX10_ofOwner_0 (by decide) ?_
  refine lv_istore_n (lv' := [(3, .int 0), (0, .ref (am 0)), (1, .int p1), (2, .int p2)]) hx hb dX10_ofOwner_1 rfl hl (by decide) rfl (fun ls hl => ?_)
  refine lv_iconst (v := 0) hx hb dX10_ofOwner_2 (by decide) ?_
  refine lv_istore (lv' := [(4, .int 0), (3, .int 0), (0, .ref (am 0)), (1, .int p1), (2, .int p2)]) hx hb dX10_ofOwner_3 hl (by decide) rfl (fun ls hl => ?_)
  have loop5 : ∀ (n : Nat) (i4h5 : Int32) (i3h5 : Int32) (H : Heap) (locs : List Loc) (ls : Array Slot), L_X10_ofOwner_5 n m0 p1 p2 i4h5 i3h5 = some r → va_P D vwCl (mW cy am m0) H → va_D A (mW cy am m0) → va_S A s.heap H locs → lv_has ls 6 [(4, .int i4h5), (3, .int i3h5), (0, .ref (am 0)), (1, .int p1), (2, .int p2)] → W p l e rm_X10_ofOwner s m args below meth c H locs 0 0 Q (F0 m 5 ls []) := by
    intro n
    induction n with
    | zero => intro i4h5 i3h5 H locs ls hF _ _ _ _; exact absurd hF (by simp [L_X10_ofOwner_5])
    | succ n5 ih5 =>
      intro i4h5 i3h5 H locs ls hF hP hD hS hl
      refine lv_iload hx hb dX10_ofOwner_5 (lv_at hl 0 rfl) ?_
      refine lv_aload_n hx hb dX10_ofOwner_7 rfl (lv_at hl 2 rfl) ?_
      refine get' (ci := 12) (fs := mF am (m0 0)) (v := .ref (am 1)) hx hb hw inWX10 hown hK hP (gM (am := am) (r := 0) (m := m0) (f := (m0 0)) (by decide) rfl) rfl 1 (by decide) k_1571 rfl rfl dX10_ofOwner_8 ?_
      refine lv_iconst (v := 0) hx hb dX10_ofOwner_11 (by decide) ?_
      obtain ⟨h1, hF⟩ := ite_some hF
      refine va_iald (n := 1152) (f := (m0 1)) hx hb hK hP _ 0 (gM (am := am) (r := 1) (m := m0) (f := (m0 1)) (by decide) rfl) rfl (vp_inb h1) dX10_ofOwner_12 ?_
      refine lv_icmp_ge (tgt := 108) hx hb dX10_ofOwner_13 (by decide) (fun h2 => ?_) (fun h2 => ?_)
      · replace hF := (if_pos h2).symm.trans hF
        refine lv_iload_n hx hb dX10_ofOwner_108 rfl (lv_at hl 1 rfl) ?_
        cases hF
        exact hret _ _ _ _ _ _ hP hD hS rfl rfl dX10_ofOwner_109
      · replace hF := (if_neg h2).symm.trans hF
        refine lv_aload_n hx hb dX10_ofOwner_16 rfl (lv_at hl 2 rfl) ?_
        refine lv_iload hx hb dX10_ofOwner_17 (lv_at hl 0 rfl) ?_
        obtain ⟨r3, hc5, hF⟩ := bind_some hF
        try dsimp only at hF
        refine cV_i (As := [.int i4h5]) (rest := []) hx hb hml hown hw hK hN hA hl.1 hP hD hS k_1698 k_1700 k_39 k_90 k_1701 (met_X10_ownerAt l D cy _ am m0 i4h5 r3 hc5) (fun _ _ _ => trivial) Xok_T (gM (am := am) (r := 0) (m := m0) (f := (m0 0)) (by decide) rfl) rfl ⟨rfl, rfl⟩ (n := 1) (by decide +kernel) rfl ⟨Nat.le_of_ble_eq_true rfl, Nat.le_of_ble_eq_true rfl⟩ ⟨Nat.le_of_ble_eq_true rfl, Nat.le_of_ble_eq_true rfl⟩ (Nat.le_of_ble_eq_true rfl) rfl dX10_ofOwner_19 (fun H locs hP hD hS => ?_)
        refine lv_iload_n hx hb dX10_ofOwner_22 rfl (lv_at hl 3 rfl) ?_
        refine lv_icmp_ne (tgt := 30) hx hb dX10_ofOwner_23 (by decide) (fun h6 => ?_) (fun h6 => ?_)
        · replace hF := (if_neg h6).symm.trans hF
          refine lv_iconst (v := 0) hx hb dX10_ofOwner_30 (by decide) ?_
          refine lv_istore (lv' := [(5, .int 0), (4, .int i4h5), (3, .int i3h5), (0, .ref (am 0)), (1, .int p1), (2, .int p2)]) hx hb dX10_ofOwner_31 hl (by decide) rfl (fun ls hl => ?_)
          refine lv_iload_n hx hb dX10_ofOwner_33 rfl (lv_at hl 2 rfl) ?_
          refine lv_iload_n hx hb dX10_ofOwner_34 rfl (lv_at hl 5 rfl) ?_
          refine lv_iconst (v := 2) hx hb dX10_ofOwner_35 (by decide) ?_
          refine lv_icmp_ne (tgt := 57) hx hb dX10_ofOwner_36 (by decide) (fun h7 => ?_) (fun h7 => ?_)
          · replace hF := (if_neg h7).symm.trans hF
            refine lv_iload hx hb dX10_ofOwner_57 (lv_at hl 0 rfl) ?_
            refine lv_if_ne (tgt := 66) hx hb dX10_ofOwner_59 (by decide) (fun h => absurd h (by decide)) (fun _ => ?_)
            refine lv_iconst (v := 0) hx hb dX10_ofOwner_62 (by decide) ?_
            refine lv_goto (tgt := 100) hx hb dX10_ofOwner_63 (by decide) ?_
            refine lv_iadd hx hb dX10_ofOwner_100 ?_
            refine lv_istore_n (lv' := [(3, .int (i3h5 + 0)), (5, .int 0), (4, .int i4h5), (0, .ref (am 0)), (1, .int p1), (2, .int p2)]) hx hb dX10_ofOwner_101 rfl hl (by decide) rfl (fun ls hl => ?_)
            refine lv_iinc (v := (i4h5 + 1)) (lv' := [(4, .int (i4h5 + 1)), (3, .int (i3h5 + 0)), (5, .int 0), (0, .ref (am 0)), (1, .int p1), (2, .int p2)]) hx hb dX10_ofOwner_102 hl (k := 2) rfl rfl (by decide) rfl (fun ls hl => ?_)
            refine lv_goto (tgt := 5) hx hb dX10_ofOwner_105 (by decide) ?_
            exact ih5 (i4h5 + 1) (i3h5 + 0)  _ _ _ hF hP hD hS (lv_sub hl [0, 1, 3, 4, 5] rfl)
          · replace hF := (if_pos h7).symm.trans hF
            refine lv_aload_n hx hb dX10_ofOwner_39 rfl (lv_at hl 3 rfl) ?_
            refine lv_iload hx hb dX10_ofOwner_40 (lv_at hl 1 rfl) ?_
            obtain ⟨r9, hc11, hF⟩ := bind_some hF
            try dsimp only at hF
            refine cV_i (As := [.int i4h5]) (rest := [.int i3h5]) hx hb hml hown hw hK hN hA hl.1 hP hD hS k_1730 k_1732 k_46 k_90 k_1733 (met_X10_lenderAt l D cy _ am m0 i4h5 r9 hc11) (fun _ _ _ => trivial) Xok_T (gM (am := am) (r := 0) (m := m0) (f := (m0 0)) (by decide) rfl) rfl ⟨rfl, rfl⟩ (n := 1) (by decide +kernel) rfl ⟨Nat.le_of_ble_eq_true rfl, Nat.le_of_ble_eq_true rfl⟩ ⟨Nat.le_of_ble_eq_true rfl, Nat.le_of_ble_eq_true rfl⟩ (Nat.le_of_ble_eq_true rfl) rfl dX10_ofOwner_42 (fun H locs hP hD hS => ?_)
            refine lv_iload_n hx hb dX10_ofOwner_45 rfl (lv_at hl 4 rfl) ?_
            refine lv_icmp_ne (tgt := 53) hx hb dX10_ofOwner_46 (by decide) (fun h12 => ?_) (fun h12 => ?_)
            · replace hF := (if_neg h12).symm.trans hF
              refine lv_iconst (v := 0) hx hb dX10_ofOwner_53 (by decide) ?_
              refine lv_goto (tgt := 100) hx hb dX10_ofOwner_54 (by decide) ?_
              refine lv_iadd hx hb dX10_ofOwner_100 ?_
              refine lv_istore_n (lv' := [(3, .int (i3h5 + 0)), (5, .int 0), (4, .int i4h5), (0, .ref (am 0)), (1, .int p1), (2, .int p2)]) hx hb dX10_ofOwner_101 rfl hl (by decide) rfl (fun ls hl => ?_)
              refine lv_iinc (v := (i4h5 + 1)) (lv' := [(4, .int (i4h5 + 1)), (3, .int (i3h5 + 0)), (5, .int 0), (0, .ref (am 0)), (1, .int p1), (2, .int p2)]) hx hb dX10_ofOwner_102 hl (k := 2) rfl rfl (by decide) rfl (fun ls hl => ?_)
              refine lv_goto (tgt := 5) hx hb dX10_ofOwner_105 (by decide) ?_
              exact ih5 (i4h5 + 1) (i3h5 + 0)  _ _ _ hF hP hD hS (lv_sub hl [0, 1, 3, 4, 5] rfl)
            · replace hF := (if_pos h12).symm.trans hF
              refine lv_iconst (v := 1) hx hb dX10_ofOwner_49 (by decide) ?_
              refine lv_goto (tgt := 100) hx hb dX10_ofOwner_50 (by decide) ?_
              refine lv_iadd hx hb dX10_ofOwner_100 ?_
              refine lv_istore_n (lv' := [(3, .int (i3h5 + 1)), (5, .int 0), (4, .int i4h5), (0, .ref (am 0)), (1, .int p1), (2, .int p2)]) hx hb dX10_ofOwner_101 rfl hl (by decide) rfl (fun ls hl => ?_)
              refine lv_iinc (v := (i4h5 + 1)) (lv' := [(4, .int (i4h5 + 1)), (3, .int (i3h5 + 1)), (5, .int 0), (0, .ref (am 0)), (1, .int p1), (2, .int p2)]) hx hb dX10_ofOwner_102 hl (k := 2) rfl rfl (by decide) rfl (fun ls hl => ?_)
              refine lv_goto (tgt := 5) hx hb dX10_ofOwner_105 (by decide) ?_
              exact ih5 (i4h5 + 1) (i3h5 + 1)  _ _ _ hF hP hD hS (lv_sub hl [0, 1, 3, 4, 5] rfl)
        · replace hF := (if_pos h6).symm.trans hF
          refine lv_iconst (v := 1) hx hb dX10_ofOwner_26 (by decide) ?_
          refine lv_goto (tgt := 31) hx hb dX10_ofOwner_27 (by decide) ?_
          refine lv_istore (lv' := [(5, .int 1), (4, .int i4h5), (3, .int i3h5), (0, .ref (am 0)), (1, .int p1), (2, .int p2)]) hx hb dX10_ofOwner_31 hl (by decide) rfl (fun ls hl => ?_)
          refine lv_iload_n hx hb dX10_ofOwner_33 rfl (lv_at hl 2 rfl) ?_
          refine lv_iload_n hx hb dX10_ofOwner_34 rfl (lv_at hl 5 rfl) ?_
          refine lv_iconst (v := 2) hx hb dX10_ofOwner_35 (by decide) ?_
          refine lv_icmp_ne (tgt := 57) hx hb dX10_ofOwner_36 (by decide) (fun h13 => ?_) (fun h13 => ?_)
          · replace hF := (if_neg h13).symm.trans hF
            refine lv_iload hx hb dX10_ofOwner_57 (lv_at hl 0 rfl) ?_
            refine lv_if_ne (tgt := 66) hx hb dX10_ofOwner_59 (by decide) (fun _ => ?_) (fun h => absurd h (by decide))
            refine lv_iload_n hx hb dX10_ofOwner_66 rfl (lv_at hl 5 rfl) ?_
            refine lv_iconst (v := 4) hx hb dX10_ofOwner_67 (by decide) ?_
            refine lv_icmp_ne (tgt := 81) hx hb dX10_ofOwner_68 (by decide) (fun h15 => ?_) (fun h15 => ?_)
            · replace hF := (if_neg h15).symm.trans hF
              refine lv_iload_n hx hb dX10_ofOwner_81 rfl (lv_at hl 5 rfl) ?_
              refine lv_iconst (v := 5) hx hb dX10_ofOwner_82 (by decide) ?_
              refine lv_icmp_eq (tgt := 95) hx hb dX10_ofOwner_83 (by decide) (fun h16 => ?_) (fun h16 => ?_)
              · replace hF := (if_pos h16).symm.trans hF
                refine lv_iconst (v := 1) hx hb dX10_ofOwner_95 (by decide) ?_
                refine lv_goto (tgt := 100) hx hb dX10_ofOwner_96 (by decide) ?_
                refine lv_iadd hx hb dX10_ofOwner_100 ?_
                refine lv_istore_n (lv' := [(3, .int (i3h5 + 1)), (5, .int 1), (4, .int i4h5), (0, .ref (am 0)), (1, .int p1), (2, .int p2)]) hx hb dX10_ofOwner_101 rfl hl (by decide) rfl (fun ls hl => ?_)
                refine lv_iinc (v := (i4h5 + 1)) (lv' := [(4, .int (i4h5 + 1)), (3, .int (i3h5 + 1)), (5, .int 1), (0, .ref (am 0)), (1, .int p1), (2, .int p2)]) hx hb dX10_ofOwner_102 hl (k := 2) rfl rfl (by decide) rfl (fun ls hl => ?_)
                refine lv_goto (tgt := 5) hx hb dX10_ofOwner_105 (by decide) ?_
                exact ih5 (i4h5 + 1) (i3h5 + 1)  _ _ _ hF hP hD hS (lv_sub hl [0, 1, 3, 4, 5] rfl)
              · replace hF := (if_neg h16).symm.trans hF
                refine lv_aload_n hx hb dX10_ofOwner_86 rfl (lv_at hl 3 rfl) ?_
                refine lv_iload hx hb dX10_ofOwner_87 (lv_at hl 1 rfl) ?_
                obtain ⟨r17, hc19, hF⟩ := bind_some hF
                try dsimp only at hF
                refine cV_i (As := [.int i4h5]) (rest := [.int i3h5]) hx hb hml hown hw hK hN hA hl.1 hP hD hS k_1730 k_1732 k_46 k_90 k_1733 (met_X10_lenderAt l D cy _ am m0 i4h5 r17 hc19) (fun _ _ _ => trivial) Xok_T (gM (am := am) (r := 0) (m := m0) (f := (m0 0)) (by decide) rfl) rfl ⟨rfl, rfl⟩ (n := 1) (by decide +kernel) rfl ⟨Nat.le_of_ble_eq_true rfl, Nat.le_of_ble_eq_true rfl⟩ ⟨Nat.le_of_ble_eq_true rfl, Nat.le_of_ble_eq_true rfl⟩ (Nat.le_of_ble_eq_true rfl) rfl dX10_ofOwner_89 (fun H locs hP hD hS => ?_)
                refine lv_if_lt (tgt := 99) hx hb dX10_ofOwner_92 (by decide) (fun h20 => ?_) (fun h20 => ?_)
                · replace hF := (if_pos h20).symm.trans hF
                  refine lv_iconst (v := 0) hx hb dX10_ofOwner_99 (by decide) ?_
                  refine lv_iadd hx hb dX10_ofOwner_100 ?_
                  refine lv_istore_n (lv' := [(3, .int (i3h5 + 0)), (5, .int 1), (4, .int i4h5), (0, .ref (am 0)), (1, .int p1), (2, .int p2)]) hx hb dX10_ofOwner_101 rfl hl (by decide) rfl (fun ls hl => ?_)
                  refine lv_iinc (v := (i4h5 + 1)) (lv' := [(4, .int (i4h5 + 1)), (3, .int (i3h5 + 0)), (5, .int 1), (0, .ref (am 0)), (1, .int p1), (2, .int p2)]) hx hb dX10_ofOwner_102 hl (k := 2) rfl rfl (by decide) rfl (fun ls hl => ?_)
                  refine lv_goto (tgt := 5) hx hb dX10_ofOwner_105 (by decide) ?_
                  exact ih5 (i4h5 + 1) (i3h5 + 0)  _ _ _ hF hP hD hS (lv_sub hl [0, 1, 3, 4, 5] rfl)
                · replace hF := (if_neg h20).symm.trans hF
                  refine lv_iconst (v := 1) hx hb dX10_ofOwner_95 (by decide) ?_
                  refine lv_goto (tgt := 100) hx hb dX10_ofOwner_96 (by decide) ?_
                  refine lv_iadd hx hb dX10_ofOwner_100 ?_
                  refine lv_istore_n (lv' := [(3, .int (i3h5 + 1)), (5, .int 1), (4, .int i4h5), (0, .ref (am 0)), (1, .int p1), (2, .int p2)]) hx hb dX10_ofOwner_101 rfl hl (by decide) rfl (fun ls hl => ?_)
                  refine lv_iinc (v := (i4h5 + 1)) (lv' := [(4, .int (i4h5 + 1)), (3, .int (i3h5 + 1)), (5, .int 1), (0, .ref (am 0)), (1, .int p1), (2, .int p2)]) hx hb dX10_ofOwner_102 hl (k := 2) rfl rfl (by decide) rfl (fun ls hl => ?_)
                  refine lv_goto (tgt := 5) hx hb dX10_ofOwner_105 (by decide) ?_
                  exact ih5 (i4h5 + 1) (i3h5 + 1)  _ _ _ hF hP hD hS (lv_sub hl [0, 1, 3, 4, 5] rfl)
            · replace hF := (if_pos h15).symm.trans hF
              refine lv_aload_n hx hb dX10_ofOwner_71 rfl (lv_at hl 3 rfl) ?_
              refine lv_iload hx hb dX10_ofOwner_72 (lv_at hl 1 rfl) ?_
              refine lv_iconst (v := 2) hx hb dX10_ofOwner_74 (by decide) ?_
              obtain ⟨r21, hc23, hF⟩ := bind_some hF
              try dsimp only at hF
              refine cV_i (As := [.int i4h5, .int 2]) (rest := [.int i3h5]) hx hb hml hown hw hK hN hA hl.1 hP hD hS k_1702 k_1704 k_40 k_90 k_1705 (met_X10_c l D cy _ am m0 i4h5 2 r21 hc23) (fun _ _ _ => trivial) Xok_T (gM (am := am) (r := 0) (m := m0) (f := (m0 0)) (by decide) rfl) rfl ⟨rfl, rfl⟩ (n := 2) (by decide +kernel) rfl ⟨Nat.le_of_ble_eq_true rfl, Nat.le_of_ble_eq_true rfl⟩ ⟨Nat.le_of_ble_eq_true rfl, Nat.le_of_ble_eq_true rfl⟩ (Nat.le_of_ble_eq_true rfl) rfl dX10_ofOwner_75 (fun H locs hP hD hS => ?_)
              refine lv_goto (tgt := 100) hx hb dX10_ofOwner_78 (by decide) ?_
              refine lv_iadd hx hb dX10_ofOwner_100 ?_
              refine lv_istore_n (lv' := [(3, .int (i3h5 + r21)), (5, .int 1), (4, .int i4h5), (0, .ref (am 0)), (1, .int p1), (2, .int p2)]) hx hb dX10_ofOwner_101 rfl hl (by decide) rfl (fun ls hl => ?_)
              refine lv_iinc (v := (i4h5 + 1)) (lv' := [(4, .int (i4h5 + 1)), (3, .int (i3h5 + r21)), (5, .int 1), (0, .ref (am 0)), (1, .int p1), (2, .int p2)]) hx hb dX10_ofOwner_102 hl (k := 2) rfl rfl (by decide) rfl (fun ls hl => ?_)
              refine lv_goto (tgt := 5) hx hb dX10_ofOwner_105 (by decide) ?_
              exact ih5 (i4h5 + 1) (i3h5 + r21)  _ _ _ hF hP hD hS (lv_sub hl [0, 1, 3, 4, 5] rfl)
          · replace hF := (if_pos h13).symm.trans hF
            refine lv_aload_n hx hb dX10_ofOwner_39 rfl (lv_at hl 3 rfl) ?_
            refine lv_iload hx hb dX10_ofOwner_40 (lv_at hl 1 rfl) ?_
            obtain ⟨r24, hc26, hF⟩ := bind_some hF
            try dsimp only at hF
            refine cV_i (As := [.int i4h5]) (rest := [.int i3h5]) hx hb hml hown hw hK hN hA hl.1 hP hD hS k_1730 k_1732 k_46 k_90 k_1733 (met_X10_lenderAt l D cy _ am m0 i4h5 r24 hc26) (fun _ _ _ => trivial) Xok_T (gM (am := am) (r := 0) (m := m0) (f := (m0 0)) (by decide) rfl) rfl ⟨rfl, rfl⟩ (n := 1) (by decide +kernel) rfl ⟨Nat.le_of_ble_eq_true rfl, Nat.le_of_ble_eq_true rfl⟩ ⟨Nat.le_of_ble_eq_true rfl, Nat.le_of_ble_eq_true rfl⟩ (Nat.le_of_ble_eq_true rfl) rfl dX10_ofOwner_42 (fun H locs hP hD hS => ?_)
            refine lv_iload_n hx hb dX10_ofOwner_45 rfl (lv_at hl 4 rfl) ?_
            refine lv_icmp_ne (tgt := 53) hx hb dX10_ofOwner_46 (by decide) (fun h27 => ?_) (fun h27 => ?_)
            · replace hF := (if_neg h27).symm.trans hF
              refine lv_iconst (v := 0) hx hb dX10_ofOwner_53 (by decide) ?_
              refine lv_goto (tgt := 100) hx hb dX10_ofOwner_54 (by decide) ?_
              refine lv_iadd hx hb dX10_ofOwner_100 ?_
              refine lv_istore_n (lv' := [(3, .int (i3h5 + 0)), (5, .int 1), (4, .int i4h5), (0, .ref (am 0)), (1, .int p1), (2, .int p2)]) hx hb dX10_ofOwner_101 rfl hl (by decide) rfl (fun ls hl => ?_)
              refine lv_iinc (v := (i4h5 + 1)) (lv' := [(4, .int (i4h5 + 1)), (3, .int (i3h5 + 0)), (5, .int 1), (0, .ref (am 0)), (1, .int p1), (2, .int p2)]) hx hb dX10_ofOwner_102 hl (k := 2) rfl rfl (by decide) rfl (fun ls hl => ?_)
              refine lv_goto (tgt := 5) hx hb dX10_ofOwner_105 (by decide) ?_
              exact ih5 (i4h5 + 1) (i3h5 + 0)  _ _ _ hF hP hD hS (lv_sub hl [0, 1, 3, 4, 5] rfl)
            · replace hF := (if_pos h27).symm.trans hF
              refine lv_iconst (v := 1) hx hb dX10_ofOwner_49 (by decide) ?_
              refine lv_goto (tgt := 100) hx hb dX10_ofOwner_50 (by decide) ?_
              refine lv_iadd hx hb dX10_ofOwner_100 ?_
              refine lv_istore_n (lv' := [(3, .int (i3h5 + 1)), (5, .int 1), (4, .int i4h5), (0, .ref (am 0)), (1, .int p1), (2, .int p2)]) hx hb dX10_ofOwner_101 rfl hl (by decide) rfl (fun ls hl => ?_)
              refine lv_iinc (v := (i4h5 + 1)) (lv' := [(4, .int (i4h5 + 1)), (3, .int (i3h5 + 1)), (5, .int 1), (0, .ref (am 0)), (1, .int p1), (2, .int p2)]) hx hb dX10_ofOwner_102 hl (k := 2) rfl rfl (by decide) rfl (fun ls hl => ?_)
              refine lv_goto (tgt := 5) hx hb dX10_ofOwner_105 (by decide) ?_
              exact ih5 (i4h5 + 1) (i3h5 + 1)  _ _ _ hF hP hD hS (lv_sub hl [0, 1, 3, 4, 5] rfl)
  exact loop5 200 0 0  _ _ _ hF hP hD hS (lv_sub hl [0, 1, 2, 3, 4] rfl)
def L_X10_vineyardOf_59 : Nat → (Nat → Nat → Int32) → (Int32) → (Int32) → (Int32) → (Int32) → Option (Int32 × (Nat → Nat → Int32))
  | 0, _, _, _, _, _ => none
  | n59 + 1, m0, p1, p2, i4h59, i3h59 => if inb 0 1152 then (if ((m0 1) (0 : Int32).toNatClampNeg) ≤ i4h59 then (some (i3h59, (va_up m0 0 (upd (m0 0) 0 0)))) else ((D_X10_c (va_up m0 0 (upd (m0 0) 0 0)) i4h59 0).bind (fun r14 => if r14 = p1 then (if p2 = 1 then (L_X10_vineyardOf_59 n59 m0 p1 p2 (i4h59 + 1) (i3h59 + 1)) else ((D_X10_c (va_up m0 0 (upd (m0 0) 0 0)) i4h59 2).bind (fun r19 => L_X10_vineyardOf_59 n59 m0 p1 p2 (i4h59 + 1) (i3h59 + r19)))) else (L_X10_vineyardOf_59 n59 m0 p1 p2 (i4h59 + 1) (i3h59 + 0))))) else none
def D_X10_vineyardOf (m0 : Nat → Nat → Int32) (p1 : Int32) (p2 : Int32) : Option (Int32 × (Nat → Nat → Int32)) := if (D_X10_isVine p1) = 0 then (some (0, (va_up m0 0 (upd (m0 0) 0 1)))) else (if (D_X10_in p2 0 2) = 0 then (some (0, (va_up m0 0 (upd (m0 0) 0 2)))) else (if p2 = 0 then (if inb (13 + p1) 1152 then (some ((((m0 1) (13 + p1).toNatClampNeg) - 1), (va_up m0 0 (upd (m0 0) 0 0)))) else none) else (L_X10_vineyardOf_59 200 m0 p1 p2 0 0)))
abbrev rm_X10_vineyardOf : Room := { frames := 2, cells := 0, slots := 0, locals := 42 }
set_option maxHeartbeats 4000000 in
set_option maxRecDepth 100000 in
theorem met_X10_vineyardOf (l : Launch) (D : va_G) (cy : Nat → ClassId) (sz : Nat) (am : Nat → Nat) (m0 : Nat → Nat → Int32) (p1 : Int32) (p2 : Int32)  (r : Int32) (t' : Nat → Nat → Int32) (hF : D_X10_vineyardOf m0 p1 p2 = some (r, t')) : MI l yX10_vineyardOf cX10_vineyardOf 5 (some .int) rm_X10_vineyardOf D cy (mW cy am m0) sz (fun _ => True) [.ref (am 0), .int p1, .int p2] r (mW cy am t') := by
  refine MI.of (by decide +kernel) (Nat.le_of_ble_eq_true rfl) ?_
  intro p e s m args below meth c A ls Q hAt _ hP hD hA hS hl hret
  obtain ⟨hx, hb, hr, hml, hown, hw, hlk, hK, hN⟩ := hAt
  have hown : s.vm.findClass "CloudDeedsModel" = some m.cls := hown
  have hl : lv_has ls 5 [(0, .ref (am 0)), (1, .int p1), (2, .int p2)] := hl
  refine lv_aload_n hx hb dX10_vineyardOf_0 rfl (lv_at hl 0 rfl) ?_
  refine lv_iload_n hx hb dX10_vineyardOf_1 rfl (lv_at hl 1 rfl) ?_
  refine cS_i (As := [.int p1]) (rest := [.ref (am 0)]) hx hb hml hown hw hK hN hA hl.1 hP hD hS k_1653 k_1654 k_90 k_1655 (met_X10_isVine l D cy _ (mW cy am m0) p1 (D_X10_isVine p1) rfl) (fun _ _ _ => trivial) Xok_T ⟨rfl, rfl⟩ (n := 1) (by decide +kernel) rfl ⟨Nat.le_of_ble_eq_true rfl, Nat.le_of_ble_eq_true rfl⟩ ⟨Nat.le_of_ble_eq_true rfl, Nat.le_of_ble_eq_true rfl⟩ (Nat.le_of_ble_eq_true rfl) rfl dX10_vineyardOf_2 (fun H locs hP hD hS => ?_)
  refine lv_if_ne (tgt := 12) hx hb dX10_vineyardOf_5 (by decide) (fun h4 => ?_) (fun h4 => ?_)
  · replace hF := (if_neg h4).symm.trans hF
    refine lv_iload_n hx hb dX10_vineyardOf_12 rfl (lv_at hl 2 rfl) ?_
    refine lv_iconst (v := 0) hx hb dX10_vineyardOf_13 (by decide) ?_
    refine lv_iconst (v := 2) hx hb dX10_vineyardOf_14 (by decide) ?_
    refine cS_i (As := [.int p2, .int 0, .int 2]) (rest := [.ref (am 0)]) hx hb hml hown hw hK hN hA hl.1 hP hD hS k_1656 k_1657 k_90 k_1658 (met_X10_in l D cy _ (mW cy am m0) p2 0 2 (D_X10_in p2 0 2) rfl) (fun _ _ _ => trivial) Xok_T ⟨rfl, rfl⟩ (n := 3) (by decide +kernel) rfl ⟨Nat.le_of_ble_eq_true rfl, Nat.le_of_ble_eq_true rfl⟩ ⟨Nat.le_of_ble_eq_true rfl, Nat.le_of_ble_eq_true rfl⟩ (Nat.le_of_ble_eq_true rfl) rfl dX10_vineyardOf_15 (fun H locs hP hD hS => ?_)
    refine lv_if_eq (tgt := 25) hx hb dX10_vineyardOf_18 (by decide) (fun h8 => ?_) (fun h8 => ?_)
    · replace hF := (if_pos h8).symm.trans hF
      refine lv_iconst (v := 2) hx hb dX10_vineyardOf_25 (by decide) ?_
      refine put' (ci := 12) (fs := mF am (m0 0)) (v := .int 2) (ty := .int) (ws' := (mW cy am (va_up m0 0 (upd (m0 0) 0 2)))) hx hb hw inWX10 tyX10 tyX10_ok nmX10 hown hK hP hD hS (gM (am := am) (r := 0) (m := m0) (f := (m0 0)) (by decide) rfl) rfl 0 (by decide) k_1570 rfl rfl (by decide +kernel) rfl rfl (Nat.le_of_ble_eq_true rfl) dX10_vineyardOf_26 (sM (am := am) (r := 0) (m := m0) (g := (upd (m0 0) 0 2)) (by decide)) (fun H locs hP hD hS => ?_)
      refine lv_aload_n hx hb dX10_vineyardOf_29 rfl (lv_at hl 0 rfl) ?_
      refine get' (ci := 12) (fs := mF am (upd (m0 0) 0 2)) (v := .int 2) hx hb hw inWX10 hown hK hP (gM (am := am) (r := 0) (m := (va_up m0 0 (upd (m0 0) 0 2))) (f := (upd (m0 0) 0 2)) (by decide) (va_up_self _ _ _)) rfl 0 (by decide) k_1570 rfl rfl dX10_vineyardOf_30 ?_
      refine lv_if_eq (tgt := 38) hx hb dX10_vineyardOf_33 (by decide) (fun h => absurd h (by decide)) (fun _ => ?_)
      refine lv_iconst (v := 0) hx hb dX10_vineyardOf_36 (by decide) ?_
      cases hF
      exact hret _ _ _ _ _ _ hP hD hS rfl rfl dX10_vineyardOf_37
    · replace hF := (if_neg h8).symm.trans hF
      refine lv_iconst (v := 0) hx hb dX10_vineyardOf_21 (by decide) ?_
      refine lv_goto (tgt := 26) hx hb dX10_vineyardOf_22 (by decide) ?_
      refine put' (ci := 12) (fs := mF am (m0 0)) (v := .int 0) (ty := .int) (ws' := (mW cy am (va_up m0 0 (upd (m0 0) 0 0)))) hx hb hw inWX10 tyX10 tyX10_ok nmX10 hown hK hP hD hS (gM (am := am) (r := 0) (m := m0) (f := (m0 0)) (by decide) rfl) rfl 0 (by decide) k_1570 rfl rfl (by decide +kernel) rfl rfl (Nat.le_of_ble_eq_true rfl) dX10_vineyardOf_26 (sM (am := am) (r := 0) (m := m0) (g := (upd (m0 0) 0 0)) (by decide)) (fun H locs hP hD hS => ?_)
      refine lv_aload_n hx hb dX10_vineyardOf_29 rfl (lv_at hl 0 rfl) ?_
      refine get' (ci := 12) (fs := mF am (upd (m0 0) 0 0)) (v := .int 0) hx hb hw inWX10 hown hK hP (gM (am := am) (r := 0) (m := (va_up m0 0 (upd (m0 0) 0 0))) (f := (upd (m0 0) 0 0)) (by decide) (va_up_self _ _ _)) rfl 0 (by decide) k_1570 rfl rfl dX10_vineyardOf_30 ?_
      refine lv_if_eq (tgt := 38) hx hb dX10_vineyardOf_33 (by decide) (fun _ => ?_) (fun h => absurd h (by decide))
      refine lv_iload_n hx hb dX10_vineyardOf_38 rfl (lv_at hl 2 rfl) ?_
      refine lv_if_ne (tgt := 54) hx hb dX10_vineyardOf_39 (by decide) (fun h11 => ?_) (fun h11 => ?_)
      · replace hF := (if_neg h11).symm.trans hF
        refine lv_iconst (v := 0) hx hb dX10_vineyardOf_54 (by decide) ?_
        refine lv_istore_n (lv' := [(3, .int 0), (0, .ref (am 0)), (1, .int p1), (2, .int p2)]) hx hb dX10_vineyardOf_55 rfl hl (by decide) rfl (fun ls hl => ?_)
        refine lv_iconst (v := 0) hx hb dX10_vineyardOf_56 (by decide) ?_
        refine lv_istore (lv' := [(4, .int 0), (3, .int 0), (0, .ref (am 0)), (1, .int p1), (2, .int p2)]) hx hb dX10_vineyardOf_57 hl (by decide) rfl (fun ls hl => ?_)
        have loop59 : ∀ (n : Nat) (i4h59 : Int32) (i3h59 : Int32) (H : Heap) (locs : List Loc) (ls : Array Slot), L_X10_vineyardOf_59 n m0 p1 p2 i4h59 i3h59 = some (r, t') → va_P D vwCl (mW cy am (va_up m0 0 (upd (m0 0) 0 0))) H → va_D A (mW cy am (va_up m0 0 (upd (m0 0) 0 0))) → va_S A s.heap H locs → lv_has ls 5 [(4, .int i4h59), (3, .int i3h59), (0, .ref (am 0)), (1, .int p1), (2, .int p2)] → W p l e rm_X10_vineyardOf s m args below meth c H locs 0 0 Q (F0 m 59 ls []) := by
          intro n
          induction n with
          | zero => intro i4h59 i3h59 H locs ls hF _ _ _ _; exact absurd hF (by simp [L_X10_vineyardOf_59])
          | succ n59 ih59 =>
            intro i4h59 i3h59 H locs ls hF hP hD hS hl
            refine lv_iload hx hb dX10_vineyardOf_59 (lv_at hl 0 rfl) ?_
            refine lv_aload_n hx hb dX10_vineyardOf_61 rfl (lv_at hl 2 rfl) ?_
            refine get' (ci := 12) (fs := mF am (upd (m0 0) 0 0)) (v := .ref (am 1)) hx hb hw inWX10 hown hK hP (gM (am := am) (r := 0) (m := (va_up m0 0 (upd (m0 0) 0 0))) (f := (upd (m0 0) 0 0)) (by decide) (va_up_self _ _ _)) rfl 1 (by decide) k_1571 rfl rfl dX10_vineyardOf_62 ?_
            refine lv_iconst (v := 0) hx hb dX10_vineyardOf_65 (by decide) ?_
            obtain ⟨h12, hF⟩ := ite_some hF
            refine va_iald (n := 1152) (f := (m0 1)) hx hb hK hP _ 0 (gM (am := am) (r := 1) (m := (va_up m0 0 (upd (m0 0) 0 0))) (f := (m0 1)) (by decide) ((va_up_ne _ _ (by decide)).trans rfl)) rfl (vp_inb h12) dX10_vineyardOf_66 ?_
            refine lv_icmp_ge (tgt := 110) hx hb dX10_vineyardOf_67 (by decide) (fun h13 => ?_) (fun h13 => ?_)
            · replace hF := (if_pos h13).symm.trans hF
              refine lv_iload_n hx hb dX10_vineyardOf_110 rfl (lv_at hl 1 rfl) ?_
              cases hF
              exact hret _ _ _ _ _ _ hP hD hS rfl rfl dX10_vineyardOf_111
            · replace hF := (if_neg h13).symm.trans hF
              refine lv_iload_n hx hb dX10_vineyardOf_70 rfl (lv_at hl 1 rfl) ?_
              refine lv_aload_n hx hb dX10_vineyardOf_71 rfl (lv_at hl 2 rfl) ?_
              refine lv_iload hx hb dX10_vineyardOf_72 (lv_at hl 0 rfl) ?_
              refine lv_iconst (v := 0) hx hb dX10_vineyardOf_74 (by decide) ?_
              obtain ⟨r14, hc16, hF⟩ := bind_some hF
              try dsimp only at hF
              refine cV_i (As := [.int i4h59, .int 0]) (rest := [.int i3h59]) hx hb hml hown hw hK hN hA hl.1 hP hD hS k_1702 k_1704 k_40 k_90 k_1705 (met_X10_c l D cy _ am (va_up m0 0 (upd (m0 0) 0 0)) i4h59 0 r14 hc16) (fun _ _ _ => trivial) Xok_T (gM (am := am) (r := 0) (m := (va_up m0 0 (upd (m0 0) 0 0))) (f := (upd (m0 0) 0 0)) (by decide) (va_up_self _ _ _)) rfl ⟨rfl, rfl⟩ (n := 2) (by decide +kernel) rfl ⟨Nat.le_of_ble_eq_true rfl, Nat.le_of_ble_eq_true rfl⟩ ⟨Nat.le_of_ble_eq_true rfl, Nat.le_of_ble_eq_true rfl⟩ (Nat.le_of_ble_eq_true rfl) rfl dX10_vineyardOf_75 (fun H locs hP hD hS => ?_)
              refine lv_iload_n hx hb dX10_vineyardOf_78 rfl (lv_at hl 3 rfl) ?_
              refine lv_icmp_eq (tgt := 86) hx hb dX10_vineyardOf_79 (by decide) (fun h17 => ?_) (fun h17 => ?_)
              · replace hF := (if_pos h17).symm.trans hF
                refine lv_iload_n hx hb dX10_vineyardOf_86 rfl (lv_at hl 4 rfl) ?_
                refine lv_iconst (v := 1) hx hb dX10_vineyardOf_87 (by decide) ?_
                refine lv_icmp_ne (tgt := 95) hx hb dX10_vineyardOf_88 (by decide) (fun h18 => ?_) (fun h18 => ?_)
                · replace hF := (if_neg h18).symm.trans hF
                  refine lv_aload_n hx hb dX10_vineyardOf_95 rfl (lv_at hl 2 rfl) ?_
                  refine lv_iload hx hb dX10_vineyardOf_96 (lv_at hl 0 rfl) ?_
                  refine lv_iconst (v := 2) hx hb dX10_vineyardOf_98 (by decide) ?_
                  obtain ⟨r19, hc21, hF⟩ := bind_some hF
                  try dsimp only at hF
                  refine cV_i (As := [.int i4h59, .int 2]) (rest := [.int i3h59]) hx hb hml hown hw hK hN hA hl.1 hP hD hS k_1702 k_1704 k_40 k_90 k_1705 (met_X10_c l D cy _ am (va_up m0 0 (upd (m0 0) 0 0)) i4h59 2 r19 hc21) (fun _ _ _ => trivial) Xok_T (gM (am := am) (r := 0) (m := (va_up m0 0 (upd (m0 0) 0 0))) (f := (upd (m0 0) 0 0)) (by decide) (va_up_self _ _ _)) rfl ⟨rfl, rfl⟩ (n := 2) (by decide +kernel) rfl ⟨Nat.le_of_ble_eq_true rfl, Nat.le_of_ble_eq_true rfl⟩ ⟨Nat.le_of_ble_eq_true rfl, Nat.le_of_ble_eq_true rfl⟩ (Nat.le_of_ble_eq_true rfl) rfl dX10_vineyardOf_99 (fun H locs hP hD hS => ?_)
                  refine lv_iadd hx hb dX10_vineyardOf_102 ?_
                  refine lv_istore_n (lv' := [(3, .int (i3h59 + r19)), (4, .int i4h59), (0, .ref (am 0)), (1, .int p1), (2, .int p2)]) hx hb dX10_vineyardOf_103 rfl hl (by decide) rfl (fun ls hl => ?_)
                  refine lv_iinc (v := (i4h59 + 1)) (lv' := [(4, .int (i4h59 + 1)), (3, .int (i3h59 + r19)), (0, .ref (am 0)), (1, .int p1), (2, .int p2)]) hx hb dX10_vineyardOf_104 hl (k := 1) rfl rfl (by decide) rfl (fun ls hl => ?_)
                  refine lv_goto (tgt := 59) hx hb dX10_vineyardOf_107 (by decide) ?_
                  exact ih59 (i4h59 + 1) (i3h59 + r19)  _ _ _ hF hP hD hS (lv_sub hl [0, 1, 2, 3, 4] rfl)
                · replace hF := (if_pos h18).symm.trans hF
                  refine lv_iconst (v := 1) hx hb dX10_vineyardOf_91 (by decide) ?_
                  refine lv_goto (tgt := 102) hx hb dX10_vineyardOf_92 (by decide) ?_
                  refine lv_iadd hx hb dX10_vineyardOf_102 ?_
                  refine lv_istore_n (lv' := [(3, .int (i3h59 + 1)), (4, .int i4h59), (0, .ref (am 0)), (1, .int p1), (2, .int p2)]) hx hb dX10_vineyardOf_103 rfl hl (by decide) rfl (fun ls hl => ?_)
                  refine lv_iinc (v := (i4h59 + 1)) (lv' := [(4, .int (i4h59 + 1)), (3, .int (i3h59 + 1)), (0, .ref (am 0)), (1, .int p1), (2, .int p2)]) hx hb dX10_vineyardOf_104 hl (k := 1) rfl rfl (by decide) rfl (fun ls hl => ?_)
                  refine lv_goto (tgt := 59) hx hb dX10_vineyardOf_107 (by decide) ?_
                  exact ih59 (i4h59 + 1) (i3h59 + 1)  _ _ _ hF hP hD hS (lv_sub hl [0, 1, 2, 3, 4] rfl)
              · replace hF := (if_neg h17).symm.trans hF
                refine lv_iconst (v := 0) hx hb dX10_vineyardOf_82 (by decide) ?_
                refine lv_goto (tgt := 102) hx hb dX10_vineyardOf_83 (by decide) ?_
                refine lv_iadd hx hb dX10_vineyardOf_102 ?_
                refine lv_istore_n (lv' := [(3, .int (i3h59 + 0)), (4, .int i4h59), (0, .ref (am 0)), (1, .int p1), (2, .int p2)]) hx hb dX10_vineyardOf_103 rfl hl (by decide) rfl (fun ls hl => ?_)
                refine lv_iinc (v := (i4h59 + 1)) (lv' := [(4, .int (i4h59 + 1)), (3, .int (i3h59 + 0)), (0, .ref (am 0)), (1, .int p1), (2, .int p2)]) hx hb dX10_vineyardOf_104 hl (k := 1) rfl rfl (by decide) rfl (fun ls hl => ?_)
                refine lv_goto (tgt := 59) hx hb dX10_vineyardOf_107 (by decide) ?_
                exact ih59 (i4h59 + 1) (i3h59 + 0)  _ _ _ hF hP hD hS (lv_sub hl [0, 1, 2, 3, 4] rfl)
        exact loop59 200 0 0  _ _ _ hF hP hD hS (lv_sub hl [0, 1, 2, 3, 4] rfl)
      · replace hF := (if_pos h11).symm.trans hF
        refine lv_aload_n hx hb dX10_vineyardOf_42 rfl (lv_at hl 0 rfl) ?_
        refine get' (ci := 12) (fs := mF am (upd (m0 0) 0 0)) (v := .ref (am 1)) hx hb hw inWX10 hown hK hP (gM (am := am) (r := 0) (m := (va_up m0 0 (upd (m0 0) 0 0))) (f := (upd (m0 0) 0 0)) (by decide) (va_up_self _ _ _)) rfl 1 (by decide) k_1571 rfl rfl dX10_vineyardOf_43 ?_
        refine lv_bipush (v := 13) hx hb dX10_vineyardOf_46 (by decide) ?_
        refine lv_iload_n hx hb dX10_vineyardOf_48 rfl (lv_at hl 1 rfl) ?_
        refine lv_iadd hx hb dX10_vineyardOf_49 ?_
        obtain ⟨h22, hF⟩ := ite_some hF
        refine va_iald (n := 1152) (f := (m0 1)) hx hb hK hP _ 0 (gM (am := am) (r := 1) (m := (va_up m0 0 (upd (m0 0) 0 0))) (f := (m0 1)) (by decide) ((va_up_ne _ _ (by decide)).trans rfl)) rfl (vp_inb h22) dX10_vineyardOf_50 ?_
        refine lv_iconst (v := 1) hx hb dX10_vineyardOf_51 (by decide) ?_
        refine lv_isub hx hb dX10_vineyardOf_52 ?_
        cases hF
        exact hret _ _ _ _ _ _ hP hD hS rfl rfl dX10_vineyardOf_53
  · replace hF := (if_pos h4).symm.trans hF
    refine lv_iconst (v := 1) hx hb dX10_vineyardOf_8 (by decide) ?_
    refine lv_goto (tgt := 26) hx hb dX10_vineyardOf_9 (by decide) ?_
    refine put' (ci := 12) (fs := mF am (m0 0)) (v := .int 1) (ty := .int) (ws' := (mW cy am (va_up m0 0 (upd (m0 0) 0 1)))) hx hb hw inWX10 tyX10 tyX10_ok nmX10 hown hK hP hD hS (gM (am := am) (r := 0) (m := m0) (f := (m0 0)) (by decide) rfl) rfl 0 (by decide) k_1570 rfl rfl (by decide +kernel) rfl rfl (Nat.le_of_ble_eq_true rfl) dX10_vineyardOf_26 (sM (am := am) (r := 0) (m := m0) (g := (upd (m0 0) 0 1)) (by decide)) (fun H locs hP hD hS => ?_)
    refine lv_aload_n hx hb dX10_vineyardOf_29 rfl (lv_at hl 0 rfl) ?_
    refine get' (ci := 12) (fs := mF am (upd (m0 0) 0 1)) (v := .int 1) hx hb hw inWX10 hown hK hP (gM (am := am) (r := 0) (m := (va_up m0 0 (upd (m0 0) 0 1))) (f := (upd (m0 0) 0 1)) (by decide) (va_up_self _ _ _)) rfl 0 (by decide) k_1570 rfl rfl dX10_vineyardOf_30 ?_
    refine lv_if_eq (tgt := 38) hx hb dX10_vineyardOf_33 (by decide) (fun h => absurd h (by decide)) (fun _ => ?_)
    refine lv_iconst (v := 0) hx hb dX10_vineyardOf_36 (by decide) ?_
    cases hF
    exact hret _ _ _ _ _ _ hP hD hS rfl rfl dX10_vineyardOf_37
def D_X10_windTo (m0 : Nat → Nat → Int32) (p1 : Int32) (p2 : Int32) : Option (Int32 × (Nat → Nat → Int32)) := (D_X10_isCloud m0 p1).bind (fun r1 => if r1 = 0 then (some (0, (D_X10_isThere m0 0).2)) else (if (D_X10_isVine p2) = 0 then (some (0, (D_X10_isThere m0 0).2)) else ((D_X10_c (D_X10_isThere m0 1).2 p1 0).bind (fun r21 => if (((p2 - r21) + 6) - ((p2 - r21) + 6) / 6 * 6) ≤ 3 then (some ((((p2 - r21) + 6) - ((p2 - r21) + 6) / 6 * 6), (D_X10_isThere m0 1).2)) else (some (((((p2 - r21) + 6) - ((p2 - r21) + 6) / 6 * 6) - 6), (D_X10_isThere m0 1).2))))))
abbrev rm_X10_windTo : Room := { frames := 2, cells := 0, slots := 0, locals := 43 }
set_option maxHeartbeats 4000000 in
set_option maxRecDepth 100000 in
theorem met_X10_windTo (l : Launch) (D : va_G) (cy : Nat → ClassId) (sz : Nat) (am : Nat → Nat) (m0 : Nat → Nat → Int32) (p1 : Int32) (p2 : Int32)  (r : Int32) (t' : Nat → Nat → Int32) (hF : D_X10_windTo m0 p1 p2 = some (r, t')) : MI l yX10_windTo cX10_windTo 4 (some .int) rm_X10_windTo D cy (mW cy am m0) sz (fun _ => True) [.ref (am 0), .int p1, .int p2] r (mW cy am t') := by
  refine MI.of (by decide +kernel) (Nat.le_of_ble_eq_true rfl) ?_
  intro p e s m args below meth c A ls Q hAt _ hP hD hA hS hl hret
  obtain ⟨hx, hb, hr, hml, hown, hw, hlk, hK, hN⟩ := hAt
  have hown : s.vm.findClass "CloudDeedsModel" = some m.cls := hown
  have hl : lv_has ls 4 [(0, .ref (am 0)), (1, .int p1), (2, .int p2)] := hl
  refine lv_aload_n hx hb dX10_windTo_0 rfl (lv_at hl 0 rfl) ?_
  refine lv_aload_n hx hb dX10_windTo_1 rfl (lv_at hl 0 rfl) ?_
  refine lv_iload_n hx hb dX10_windTo_2 rfl (lv_at hl 1 rfl) ?_
  obtain ⟨r1, hc3, hF⟩ := bind_some hF
  try dsimp only at hF
  refine cV_i (As := [.int p1]) (rest := [.ref (am 0)]) hx hb hml hown hw hK hN hA hl.1 hP hD hS k_1691 k_1693 k_38 k_90 k_1694 (met_X10_isCloud l D cy _ am m0 p1 r1 hc3) (fun _ _ _ => trivial) Xok_T (gM (am := am) (r := 0) (m := m0) (f := (m0 0)) (by decide) rfl) rfl ⟨rfl, rfl⟩ (n := 1) (by decide +kernel) rfl ⟨Nat.le_of_ble_eq_true rfl, Nat.le_of_ble_eq_true rfl⟩ ⟨Nat.le_of_ble_eq_true rfl, Nat.le_of_ble_eq_true rfl⟩ (Nat.le_of_ble_eq_true rfl) rfl dX10_windTo_3 (fun H locs hP hD hS => ?_)
  refine lv_if_eq (tgt := 20) hx hb dX10_windTo_6 (by decide) (fun h4 => ?_) (fun h4 => ?_)
  · replace hF := (if_pos h4).symm.trans hF
    refine lv_iconst (v := 0) hx hb dX10_windTo_20 (by decide) ?_
    refine cV_i (As := [.int 0]) (rest := []) hx hb hml hown hw hK hN hA hl.1 hP hD hS k_1633 k_1635 k_28 k_90 k_1636 (met_X10_isThere l D cy _ am m0 0 (Or.inl rfl) 0 (D_X10_isThere m0 0).2 (rs_X10_isThere ..)) (fun _ _ _ => trivial) Xok_T (gM (am := am) (r := 0) (m := m0) (f := (m0 0)) (by decide) rfl) rfl ⟨rfl, rfl⟩ (n := 1) (by decide +kernel) rfl ⟨Nat.le_of_ble_eq_true rfl, Nat.le_of_ble_eq_true rfl⟩ ⟨Nat.le_of_ble_eq_true rfl, Nat.le_of_ble_eq_true rfl⟩ (Nat.le_of_ble_eq_true rfl) rfl dX10_windTo_21 (fun H locs hP hD hS => ?_)
    refine lv_if_ne (tgt := 29) hx hb dX10_windTo_24 (by decide) (fun h => absurd h (by decide)) (fun _ => ?_)
    refine lv_iconst (v := 0) hx hb dX10_windTo_27 (by decide) ?_
    cases hF
    exact hret _ _ _ _ _ _ hP hD hS rfl rfl dX10_windTo_28
  · replace hF := (if_neg h4).symm.trans hF
    refine lv_iload_n hx hb dX10_windTo_9 rfl (lv_at hl 2 rfl) ?_
    refine cS_i (As := [.int p2]) (rest := [.ref (am 0)]) hx hb hml hown hw hK hN hA hl.1 hP hD hS k_1653 k_1654 k_90 k_1655 (met_X10_isVine l D cy _ (mW cy am m0) p2 (D_X10_isVine p2) rfl) (fun _ _ _ => trivial) Xok_T ⟨rfl, rfl⟩ (n := 1) (by decide +kernel) rfl ⟨Nat.le_of_ble_eq_true rfl, Nat.le_of_ble_eq_true rfl⟩ ⟨Nat.le_of_ble_eq_true rfl, Nat.le_of_ble_eq_true rfl⟩ (Nat.le_of_ble_eq_true rfl) rfl dX10_windTo_10 (fun H locs hP hD hS => ?_)
    refine lv_if_eq (tgt := 20) hx hb dX10_windTo_13 (by decide) (fun h12 => ?_) (fun h12 => ?_)
    · replace hF := (if_pos h12).symm.trans hF
      refine lv_iconst (v := 0) hx hb dX10_windTo_20 (by decide) ?_
      refine cV_i (As := [.int 0]) (rest := []) hx hb hml hown hw hK hN hA hl.1 hP hD hS k_1633 k_1635 k_28 k_90 k_1636 (met_X10_isThere l D cy _ am m0 0 (Or.inl rfl) 0 (D_X10_isThere m0 0).2 (rs_X10_isThere ..)) (fun _ _ _ => trivial) Xok_T (gM (am := am) (r := 0) (m := m0) (f := (m0 0)) (by decide) rfl) rfl ⟨rfl, rfl⟩ (n := 1) (by decide +kernel) rfl ⟨Nat.le_of_ble_eq_true rfl, Nat.le_of_ble_eq_true rfl⟩ ⟨Nat.le_of_ble_eq_true rfl, Nat.le_of_ble_eq_true rfl⟩ (Nat.le_of_ble_eq_true rfl) rfl dX10_windTo_21 (fun H locs hP hD hS => ?_)
      refine lv_if_ne (tgt := 29) hx hb dX10_windTo_24 (by decide) (fun h => absurd h (by decide)) (fun _ => ?_)
      refine lv_iconst (v := 0) hx hb dX10_windTo_27 (by decide) ?_
      cases hF
      exact hret _ _ _ _ _ _ hP hD hS rfl rfl dX10_windTo_28
    · replace hF := (if_neg h12).symm.trans hF
      refine lv_iconst (v := 1) hx hb dX10_windTo_16 (by decide) ?_
      refine lv_goto (tgt := 21) hx hb dX10_windTo_17 (by decide) ?_
      refine cV_i (As := [.int 1]) (rest := []) hx hb hml hown hw hK hN hA hl.1 hP hD hS k_1633 k_1635 k_28 k_90 k_1636 (met_X10_isThere l D cy _ am m0 1 (Or.inr rfl) 1 (D_X10_isThere m0 1).2 (rs_X10_isThere ..)) (fun _ _ _ => trivial) Xok_T (gM (am := am) (r := 0) (m := m0) (f := (m0 0)) (by decide) rfl) rfl ⟨rfl, rfl⟩ (n := 1) (by decide +kernel) rfl ⟨Nat.le_of_ble_eq_true rfl, Nat.le_of_ble_eq_true rfl⟩ ⟨Nat.le_of_ble_eq_true rfl, Nat.le_of_ble_eq_true rfl⟩ (Nat.le_of_ble_eq_true rfl) rfl dX10_windTo_21 (fun H locs hP hD hS => ?_)
      refine lv_if_ne (tgt := 29) hx hb dX10_windTo_24 (by decide) (fun _ => ?_) (fun h => absurd h (by decide))
      refine lv_iload_n hx hb dX10_windTo_29 rfl (lv_at hl 2 rfl) ?_
      refine lv_aload_n hx hb dX10_windTo_30 rfl (lv_at hl 0 rfl) ?_
      refine lv_iload_n hx hb dX10_windTo_31 rfl (lv_at hl 1 rfl) ?_
      refine lv_iconst (v := 0) hx hb dX10_windTo_32 (by decide) ?_
      obtain ⟨r21, hc23, hF⟩ := bind_some hF
      try dsimp only at hF
      refine cV_i (As := [.int p1, .int 0]) (rest := [.int p2]) hx hb hml hown hw hK hN hA hl.1 hP hD hS k_1702 k_1704 k_40 k_90 k_1705 (met_X10_c l D cy _ am (D_X10_isThere m0 1).2 p1 0 r21 hc23) (fun _ _ _ => trivial) Xok_T (gM (am := am) (r := 0) (m := (D_X10_isThere m0 1).2) (f := ((D_X10_isThere m0 1).2 0)) (by decide) rfl) rfl ⟨rfl, rfl⟩ (n := 2) (by decide +kernel) rfl ⟨Nat.le_of_ble_eq_true rfl, Nat.le_of_ble_eq_true rfl⟩ ⟨Nat.le_of_ble_eq_true rfl, Nat.le_of_ble_eq_true rfl⟩ (Nat.le_of_ble_eq_true rfl) rfl dX10_windTo_33 (fun H locs hP hD hS => ?_)
      refine lv_isub hx hb dX10_windTo_36 ?_
      refine lv_bipush (v := 6) hx hb dX10_windTo_37 (by decide) ?_
      refine lv_iadd hx hb dX10_windTo_39 ?_
      refine lv_bipush (v := 6) hx hb dX10_windTo_40 (by decide) ?_
      refine lv_irem hx hb dX10_windTo_42 (by decide) ?_
      refine lv_istore_n (lv' := [(3, .int (((p2 - r21) + 6) - ((p2 - r21) + 6) / 6 * 6)), (0, .ref (am 0)), (1, .int p1), (2, .int p2)]) hx hb dX10_windTo_43 rfl hl (by decide) rfl (fun ls hl => ?_)
      refine lv_iload_n hx hb dX10_windTo_44 rfl (lv_at hl 0 rfl) ?_
      refine lv_iconst (v := 3) hx hb dX10_windTo_45 (by decide) ?_
      refine lv_icmp_le (tgt := 56) hx hb dX10_windTo_46 (by decide) (fun h24 => ?_) (fun h24 => ?_)
      · replace hF := (if_pos h24).symm.trans hF
        refine lv_iload_n hx hb dX10_windTo_56 rfl (lv_at hl 0 rfl) ?_
        cases hF
        exact hret _ _ _ _ _ _ hP hD hS rfl rfl dX10_windTo_57
      · replace hF := (if_neg h24).symm.trans hF
        refine lv_iload_n hx hb dX10_windTo_49 rfl (lv_at hl 0 rfl) ?_
        refine lv_bipush (v := 6) hx hb dX10_windTo_50 (by decide) ?_
        refine lv_isub hx hb dX10_windTo_52 ?_
        refine lv_goto (tgt := 57) hx hb dX10_windTo_53 (by decide) ?_
        cases hF
        exact hret _ _ _ _ _ _ hP hD hS rfl rfl dX10_windTo_57
def L_X10_greatest_17 : Nat → (Nat → Nat → Int32) → (Int32) → (Int32) → (Nat → Nat → Int32) → (Int32) → (Int32) → (Int32 → Int32 → Option (Int32 × (Nat → Nat → Int32))) → Option (Int32 × (Nat → Nat → Int32))
  | 0, _, _, _, _, _, _, _ => none
  | n17 + 1, m0, p1, i2h2, s2, i4h17, i3h17, kont17 => if inb 0 1152 then (if ((s2 1) (0 : Int32).toNatClampNeg) ≤ i4h17 then (kont17 i4h17 i3h17) else ((D_X10_c s2 i4h17 2).bind (fun r5 => (D_X10_c s2 i2h2 2).bind (fun r8 => (D_X10_ownerAt s2 i4h17).bind (fun r11 => if 0 ≤ r11 then ((D_X10_ownerAt s2 i2h2).bind (fun r15 => if 0 ≤ r15 then (if 0 < (r5 - r8) then (L_X10_greatest_17 n17 m0 p1 i2h2 s2 (i4h17 + 1) (i3h17 + 1) kont17) else (if (r5 - r8) = 0 then (if i2h2 ≤ i4h17 then (L_X10_greatest_17 n17 m0 p1 i2h2 s2 (i4h17 + 1) (i3h17 + 0) kont17) else (L_X10_greatest_17 n17 m0 p1 i2h2 s2 (i4h17 + 1) (i3h17 + 1) kont17)) else (L_X10_greatest_17 n17 m0 p1 i2h2 s2 (i4h17 + 1) (i3h17 + 0) kont17))) else (if 0 < (r5 - r8) then (L_X10_greatest_17 n17 m0 p1 i2h2 s2 (i4h17 + 1) (i3h17 + 1) kont17) else (if (r5 - r8) = 0 then (L_X10_greatest_17 n17 m0 p1 i2h2 s2 (i4h17 + 1) (i3h17 + 1) kont17) else (L_X10_greatest_17 n17 m0 p1 i2h2 s2 (i4h17 + 1) (i3h17 + 0) kont17))))) else ((D_X10_ownerAt s2 i2h2).bind (fun r27 => if 0 ≤ r27 then (if 0 < (r5 - r8) then (L_X10_greatest_17 n17 m0 p1 i2h2 s2 (i4h17 + 1) (i3h17 + 1) kont17) else (if (r5 - r8) = 0 then (L_X10_greatest_17 n17 m0 p1 i2h2 s2 (i4h17 + 1) (i3h17 + 0) kont17) else (L_X10_greatest_17 n17 m0 p1 i2h2 s2 (i4h17 + 1) (i3h17 + 0) kont17))) else (if 0 < (r5 - r8) then (L_X10_greatest_17 n17 m0 p1 i2h2 s2 (i4h17 + 1) (i3h17 + 1) kont17) else (if (r5 - r8) = 0 then (if i2h2 ≤ i4h17 then (L_X10_greatest_17 n17 m0 p1 i2h2 s2 (i4h17 + 1) (i3h17 + 0) kont17) else (L_X10_greatest_17 n17 m0 p1 i2h2 s2 (i4h17 + 1) (i3h17 + 1) kont17)) else (L_X10_greatest_17 n17 m0 p1 i2h2 s2 (i4h17 + 1) (i3h17 + 0) kont17)))))))))) else none
def L_X10_greatest_2 : Nat → (Nat → Nat → Int32) → (Int32) → (Int32) → (Nat → Nat → Int32) → Option (Int32 × (Nat → Nat → Int32))
  | 0, _, _, _, _ => none
  | n2 + 1, m0, p1, i2h2, s2 => if inb 0 1152 then (if ((s2 1) (0 : Int32).toNatClampNeg) ≤ i2h2 then (some (0, (va_up s2 0 (upd (s2 0) 0 1)))) else (L_X10_greatest_17 200 m0 p1 i2h2 s2 0 0 (fun i4h17 i3h17 => if i3h17 = p1 then (some (i2h2, (D_X10_isThere s2 1).2)) else (L_X10_greatest_2 n2 m0 p1 (i2h2 + 1) (D_X10_isThere s2 0).2)))) else none
def D_X10_greatest (m0 : Nat → Nat → Int32) (p1 : Int32) : Option (Int32 × (Nat → Nat → Int32)) := L_X10_greatest_2 200 m0 p1 0 m0
abbrev rm_X10_greatest : Room := { frames := 2, cells := 0, slots := 0, locals := 43 }
set_option maxHeartbeats 4000000 in
set_option maxRecDepth 100000 in
theorem met_X10_greatest (l : Launch) (D : va_G) (cy : Nat → ClassId) (sz : Nat) (am : Nat → Nat) (m0 : Nat → Nat → Int32) (p1 : Int32)  (r : Int32) (t' : Nat → Nat → Int32) (hF : D_X10_greatest m0 p1 = some (r, t')) : MI l yX10_greatest cX10_greatest 7 (some .int) rm_X10_greatest D cy (mW cy am m0) sz (fun _ => True) [.ref (am 0), .int p1] r (mW cy am t') := by
  refine MI.of (by decide +kernel) (Nat.le_of_ble_eq_true rfl) ?_
  intro p e s m args below meth c A ls Q hAt _ hP hD hA hS hl hret
  obtain ⟨hx, hb, hr, hml, hown, hw, hlk, hK, hN⟩ := hAt
  have hown : s.vm.findClass "CloudDeedsModel" = some m.cls := hown
  have hl : lv_has ls 7 [(0, .ref (am 0)), (1, .int p1)] := hl
  refine lv_iconst (v := 0) hx hb dX10_greatest_0 (by decide) ?_
  refine lv_istore_n (lv' := [(2, .int 0), (0, .ref (am 0)), (1, .int p1)]) hx hb dX10_greatest_1 rfl hl (by decide) rfl (fun ls hl => ?_)
  have loop2 : ∀ (n : Nat) (i2h2 : Int32) (s2 : Nat → Nat → Int32) (H : Heap) (locs : List Loc) (ls : Array Slot), L_X10_greatest_2 n m0 p1 i2h2 s2 = some (r, t') → va_P D vwCl (mW cy am s2) H → va_D A (mW cy am s2) → va_S A s.heap H locs → lv_has ls 7 [(2, .int i2h2), (0, .ref (am 0)), (1, .int p1)] → W p l e rm_X10_greatest s m args below meth c H locs 0 0 Q (F0 m 2 ls []) := by
    intro n
    induction n with
    | zero => intro i2h2 s2 H locs ls hF _ _ _ _; exact absurd hF (by simp [L_X10_greatest_2])
    | succ n2 ih2 =>
      intro i2h2 s2 H locs ls hF hP hD hS hl
      refine lv_iload_n hx hb dX10_greatest_2 rfl (lv_at hl 0 rfl) ?_
      refine lv_aload_n hx hb dX10_greatest_3 rfl (lv_at hl 1 rfl) ?_
      refine get' (ci := 12) (fs := mF am (s2 0)) (v := .ref (am 1)) hx hb hw inWX10 hown hK hP (gM (am := am) (r := 0) (m := s2) (f := (s2 0)) (by decide) rfl) rfl 1 (by decide) k_1571 rfl rfl dX10_greatest_4 ?_
      refine lv_iconst (v := 0) hx hb dX10_greatest_7 (by decide) ?_
      obtain ⟨h1, hF⟩ := ite_some hF
      refine va_iald (n := 1152) (f := (s2 1)) hx hb hK hP _ 0 (gM (am := am) (r := 1) (m := s2) (f := (s2 1)) (by decide) rfl) rfl (vp_inb h1) dX10_greatest_8 ?_
      refine lv_icmp_ge (tgt := 139) hx hb dX10_greatest_9 (by decide) (fun h2 => ?_) (fun h2 => ?_)
      · replace hF := (if_pos h2).symm.trans hF
        refine lv_aload_n hx hb dX10_greatest_139 rfl (lv_at hl 1 rfl) ?_
        refine lv_iconst (v := 1) hx hb dX10_greatest_140 (by decide) ?_
        refine put' (ci := 12) (fs := mF am (s2 0)) (v := .int 1) (ty := .int) (ws' := (mW cy am (va_up s2 0 (upd (s2 0) 0 1)))) hx hb hw inWX10 tyX10 tyX10_ok nmX10 hown hK hP hD hS (gM (am := am) (r := 0) (m := s2) (f := (s2 0)) (by decide) rfl) rfl 0 (by decide) k_1570 rfl rfl (by decide +kernel) rfl rfl (Nat.le_of_ble_eq_true rfl) dX10_greatest_141 (sM (am := am) (r := 0) (m := s2) (g := (upd (s2 0) 0 1)) (by decide)) (fun H locs hP hD hS => ?_)
        refine lv_iconst (v := 0) hx hb dX10_greatest_144 (by decide) ?_
        cases hF
        exact hret _ _ _ _ _ _ hP hD hS rfl rfl dX10_greatest_145
      · replace hF := (if_neg h2).symm.trans hF
        refine lv_iconst (v := 0) hx hb dX10_greatest_12 (by decide) ?_
        refine lv_istore_n (lv' := [(3, .int 0), (2, .int i2h2), (0, .ref (am 0)), (1, .int p1)]) hx hb dX10_greatest_13 rfl hl (by decide) rfl (fun ls hl => ?_)
        refine lv_iconst (v := 0) hx hb dX10_greatest_14 (by decide) ?_
        refine lv_istore (lv' := [(4, .int 0), (3, .int 0), (2, .int i2h2), (0, .ref (am 0)), (1, .int p1)]) hx hb dX10_greatest_15 hl (by decide) rfl (fun ls hl => ?_)
        have kont17 : ∀ (i4h17 : Int32) (i3h17 : Int32) (H : Heap) (locs : List Loc) (ls : Array Slot), (if i3h17 = p1 then (some (i2h2, (D_X10_isThere s2 1).2)) else (L_X10_greatest_2 n2 m0 p1 (i2h2 + 1) (D_X10_isThere s2 0).2)) = some (r, t') → va_P D vwCl (mW cy am s2) H → va_D A (mW cy am s2) → va_S A s.heap H locs → lv_has ls 7 [(4, .int i4h17), (3, .int i3h17), (2, .int i2h2), (0, .ref (am 0)), (1, .int p1)] → W p l e rm_X10_greatest s m args below meth c H locs 0 0 Q (F0 m 114 ls []) := by
          intro i4h17 i3h17 H locs ls hF hP hD hS hl
          refine lv_aload_n hx hb dX10_greatest_114 rfl (lv_at hl 3 rfl) ?_
          refine lv_iload_n hx hb dX10_greatest_115 rfl (lv_at hl 1 rfl) ?_
          refine lv_iload_n hx hb dX10_greatest_116 rfl (lv_at hl 4 rfl) ?_
          refine lv_icmp_ne (tgt := 124) hx hb dX10_greatest_117 (by decide) (fun h40 => ?_) (fun h40 => ?_)
          · replace hF := (if_neg h40).symm.trans hF
            refine lv_iconst (v := 0) hx hb dX10_greatest_124 (by decide) ?_
            refine cV_i (As := [.int 0]) (rest := []) hx hb hml hown hw hK hN hA hl.1 hP hD hS k_1633 k_1635 k_28 k_90 k_1636 (met_X10_isThere l D cy _ am s2 0 (Or.inl rfl) 0 (D_X10_isThere s2 0).2 (rs_X10_isThere ..)) (fun _ _ _ => trivial) Xok_T (gM (am := am) (r := 0) (m := s2) (f := (s2 0)) (by decide) rfl) rfl ⟨rfl, rfl⟩ (n := 1) (by decide +kernel) rfl ⟨Nat.le_of_ble_eq_true rfl, Nat.le_of_ble_eq_true rfl⟩ ⟨Nat.le_of_ble_eq_true rfl, Nat.le_of_ble_eq_true rfl⟩ (Nat.le_of_ble_eq_true rfl) rfl dX10_greatest_125 (fun H locs hP hD hS => ?_)
            refine lv_if_eq (tgt := 133) hx hb dX10_greatest_128 (by decide) (fun _ => ?_) (fun h => absurd h (by decide))
            refine lv_iinc (v := (i2h2 + 1)) (lv' := [(2, .int (i2h2 + 1)), (4, .int i4h17), (3, .int i3h17), (0, .ref (am 0)), (1, .int p1)]) hx hb dX10_greatest_133 hl (k := 2) rfl rfl (by decide) rfl (fun ls hl => ?_)
            refine lv_goto (tgt := 2) hx hb dX10_greatest_136 (by decide) ?_
            exact ih2 (i2h2 + 1) (D_X10_isThere s2 0).2 _ _ _ hF hP hD hS (lv_sub hl [0, 3, 4] rfl)
          · replace hF := (if_pos h40).symm.trans hF
            refine lv_iconst (v := 1) hx hb dX10_greatest_120 (by decide) ?_
            refine lv_goto (tgt := 125) hx hb dX10_greatest_121 (by decide) ?_
            refine cV_i (As := [.int 1]) (rest := []) hx hb hml hown hw hK hN hA hl.1 hP hD hS k_1633 k_1635 k_28 k_90 k_1636 (met_X10_isThere l D cy _ am s2 1 (Or.inr rfl) 1 (D_X10_isThere s2 1).2 (rs_X10_isThere ..)) (fun _ _ _ => trivial) Xok_T (gM (am := am) (r := 0) (m := s2) (f := (s2 0)) (by decide) rfl) rfl ⟨rfl, rfl⟩ (n := 1) (by decide +kernel) rfl ⟨Nat.le_of_ble_eq_true rfl, Nat.le_of_ble_eq_true rfl⟩ ⟨Nat.le_of_ble_eq_true rfl, Nat.le_of_ble_eq_true rfl⟩ (Nat.le_of_ble_eq_true rfl) rfl dX10_greatest_125 (fun H locs hP hD hS => ?_)
            refine lv_if_eq (tgt := 133) hx hb dX10_greatest_128 (by decide) (fun h => absurd h (by decide)) (fun _ => ?_)
            refine lv_iload_n hx hb dX10_greatest_131 rfl (lv_at hl 2 rfl) ?_
            cases hF
            exact hret _ _ _ _ _ _ hP hD hS rfl rfl dX10_greatest_132
        have loop17 : ∀ (n : Nat) (i4h17 : Int32) (i3h17 : Int32) (H : Heap) (locs : List Loc) (ls : Array Slot), L_X10_greatest_17 n m0 p1 i2h2 s2 i4h17 i3h17 (fun i4h17 i3h17 => if i3h17 = p1 then (some (i2h2, (D_X10_isThere s2 1).2)) else (L_X10_greatest_2 n2 m0 p1 (i2h2 + 1) (D_X10_isThere s2 0).2)) = some (r, t') → va_P D vwCl (mW cy am s2) H → va_D A (mW cy am s2) → va_S A s.heap H locs → lv_has ls 7 [(4, .int i4h17), (3, .int i3h17), (2, .int i2h2), (0, .ref (am 0)), (1, .int p1)] → W p l e rm_X10_greatest s m args below meth c H locs 0 0 Q (F0 m 17 ls []) := by
          intro n
          induction n with
          | zero => intro i4h17 i3h17 H locs ls hF _ _ _ _; exact absurd hF (by simp [L_X10_greatest_17])
          | succ n17 ih17 =>
            intro i4h17 i3h17 H locs ls hF hP hD hS hl
            refine lv_iload hx hb dX10_greatest_17 (lv_at hl 0 rfl) ?_
            refine lv_aload_n hx hb dX10_greatest_19 rfl (lv_at hl 3 rfl) ?_
            refine get' (ci := 12) (fs := mF am (s2 0)) (v := .ref (am 1)) hx hb hw inWX10 hown hK hP (gM (am := am) (r := 0) (m := s2) (f := (s2 0)) (by decide) rfl) rfl 1 (by decide) k_1571 rfl rfl dX10_greatest_20 ?_
            refine lv_iconst (v := 0) hx hb dX10_greatest_23 (by decide) ?_
            obtain ⟨h3, hF⟩ := ite_some hF
            refine va_iald (n := 1152) (f := (s2 1)) hx hb hK hP _ 0 (gM (am := am) (r := 1) (m := s2) (f := (s2 1)) (by decide) rfl) rfl (vp_inb h3) dX10_greatest_24 ?_
            refine lv_icmp_ge (tgt := 114) hx hb dX10_greatest_25 (by decide) (fun h4 => ?_) (fun h4 => ?_)
            · replace hF := (if_pos h4).symm.trans hF
              exact kont17 i4h17 i3h17 _ _ _ hF hP hD hS (lv_sub hl [0, 1, 2, 3, 4] rfl)
            · replace hF := (if_neg h4).symm.trans hF
              refine lv_aload_n hx hb dX10_greatest_28 rfl (lv_at hl 3 rfl) ?_
              refine lv_iload hx hb dX10_greatest_29 (lv_at hl 0 rfl) ?_
              refine lv_iconst (v := 2) hx hb dX10_greatest_31 (by decide) ?_
              obtain ⟨r5, hc7, hF⟩ := bind_some hF
              try dsimp only at hF
              refine cV_i (As := [.int i4h17, .int 2]) (rest := []) hx hb hml hown hw hK hN hA hl.1 hP hD hS k_1702 k_1704 k_40 k_90 k_1705 (met_X10_c l D cy _ am s2 i4h17 2 r5 hc7) (fun _ _ _ => trivial) Xok_T (gM (am := am) (r := 0) (m := s2) (f := (s2 0)) (by decide) rfl) rfl ⟨rfl, rfl⟩ (n := 2) (by decide +kernel) rfl ⟨Nat.le_of_ble_eq_true rfl, Nat.le_of_ble_eq_true rfl⟩ ⟨Nat.le_of_ble_eq_true rfl, Nat.le_of_ble_eq_true rfl⟩ (Nat.le_of_ble_eq_true rfl) rfl dX10_greatest_32 (fun H locs hP hD hS => ?_)
              refine lv_aload_n hx hb dX10_greatest_35 rfl (lv_at hl 3 rfl) ?_
              refine lv_iload_n hx hb dX10_greatest_36 rfl (lv_at hl 2 rfl) ?_
              refine lv_iconst (v := 2) hx hb dX10_greatest_37 (by decide) ?_
              obtain ⟨r8, hc10, hF⟩ := bind_some hF
              try dsimp only at hF
              refine cV_i (As := [.int i2h2, .int 2]) (rest := [.int r5]) hx hb hml hown hw hK hN hA hl.1 hP hD hS k_1702 k_1704 k_40 k_90 k_1705 (met_X10_c l D cy _ am s2 i2h2 2 r8 hc10) (fun _ _ _ => trivial) Xok_T (gM (am := am) (r := 0) (m := s2) (f := (s2 0)) (by decide) rfl) rfl ⟨rfl, rfl⟩ (n := 2) (by decide +kernel) rfl ⟨Nat.le_of_ble_eq_true rfl, Nat.le_of_ble_eq_true rfl⟩ ⟨Nat.le_of_ble_eq_true rfl, Nat.le_of_ble_eq_true rfl⟩ (Nat.le_of_ble_eq_true rfl) rfl dX10_greatest_38 (fun H locs hP hD hS => ?_)
              refine lv_isub hx hb dX10_greatest_41 ?_
              refine lv_istore (lv' := [(5, .int (r5 - r8)), (4, .int i4h17), (3, .int i3h17), (2, .int i2h2), (0, .ref (am 0)), (1, .int p1)]) hx hb dX10_greatest_42 hl (by decide) rfl (fun ls hl => ?_)
              refine lv_aload_n hx hb dX10_greatest_44 rfl (lv_at hl 4 rfl) ?_
              refine lv_iload hx hb dX10_greatest_45 (lv_at hl 1 rfl) ?_
              obtain ⟨r11, hc13, hF⟩ := bind_some hF
              try dsimp only at hF
              refine cV_i (As := [.int i4h17]) (rest := []) hx hb hml hown hw hK hN hA hl.1 hP hD hS k_1698 k_1700 k_39 k_90 k_1701 (met_X10_ownerAt l D cy _ am s2 i4h17 r11 hc13) (fun _ _ _ => trivial) Xok_T (gM (am := am) (r := 0) (m := s2) (f := (s2 0)) (by decide) rfl) rfl ⟨rfl, rfl⟩ (n := 1) (by decide +kernel) rfl ⟨Nat.le_of_ble_eq_true rfl, Nat.le_of_ble_eq_true rfl⟩ ⟨Nat.le_of_ble_eq_true rfl, Nat.le_of_ble_eq_true rfl⟩ (Nat.le_of_ble_eq_true rfl) rfl dX10_greatest_47 (fun H locs hP hD hS => ?_)
              refine lv_if_ge (tgt := 57) hx hb dX10_greatest_50 (by decide) (fun h14 => ?_) (fun h14 => ?_)
              · replace hF := (if_pos h14).symm.trans hF
                refine lv_iconst (v := 1) hx hb dX10_greatest_57 (by decide) ?_
                refine lv_aload_n hx hb dX10_greatest_58 rfl (lv_at hl 4 rfl) ?_
                refine lv_iload_n hx hb dX10_greatest_59 rfl (lv_at hl 3 rfl) ?_
                obtain ⟨r15, hc17, hF⟩ := bind_some hF
                try dsimp only at hF
                refine cV_i (As := [.int i2h2]) (rest := [.int 1]) hx hb hml hown hw hK hN hA hl.1 hP hD hS k_1698 k_1700 k_39 k_90 k_1701 (met_X10_ownerAt l D cy _ am s2 i2h2 r15 hc17) (fun _ _ _ => trivial) Xok_T (gM (am := am) (r := 0) (m := s2) (f := (s2 0)) (by decide) rfl) rfl ⟨rfl, rfl⟩ (n := 1) (by decide +kernel) rfl ⟨Nat.le_of_ble_eq_true rfl, Nat.le_of_ble_eq_true rfl⟩ ⟨Nat.le_of_ble_eq_true rfl, Nat.le_of_ble_eq_true rfl⟩ (Nat.le_of_ble_eq_true rfl) rfl dX10_greatest_60 (fun H locs hP hD hS => ?_)
                refine lv_if_ge (tgt := 70) hx hb dX10_greatest_63 (by decide) (fun h18 => ?_) (fun h18 => ?_)
                · replace hF := (if_pos h18).symm.trans hF
                  refine lv_iconst (v := 1) hx hb dX10_greatest_70 (by decide) ?_
                  refine lv_isub hx hb dX10_greatest_71 ?_
                  refine lv_istore (lv' := [(6, .int (1 - 1)), (5, .int (r5 - r8)), (4, .int i4h17), (3, .int i3h17), (2, .int i2h2), (0, .ref (am 0)), (1, .int p1)]) hx hb dX10_greatest_72 hl (by decide) rfl (fun ls hl => ?_)
                  refine lv_iload_n hx hb dX10_greatest_74 rfl (lv_at hl 3 rfl) ?_
                  refine lv_iload hx hb dX10_greatest_75 (lv_at hl 1 rfl) ?_
                  refine lv_if_gt (tgt := 101) hx hb dX10_greatest_77 (by decide) (fun h19 => ?_) (fun h19 => ?_)
                  · replace hF := (if_pos h19).symm.trans hF
                    refine lv_iconst (v := 1) hx hb dX10_greatest_101 (by decide) ?_
                    refine lv_goto (tgt := 106) hx hb dX10_greatest_102 (by decide) ?_
                    refine lv_iadd hx hb dX10_greatest_106 ?_
                    refine lv_istore_n (lv' := [(3, .int (i3h17 + 1)), (6, .int (1 - 1)), (5, .int (r5 - r8)), (4, .int i4h17), (2, .int i2h2), (0, .ref (am 0)), (1, .int p1)]) hx hb dX10_greatest_107 rfl hl (by decide) rfl (fun ls hl => ?_)
                    refine lv_iinc (v := (i4h17 + 1)) (lv' := [(4, .int (i4h17 + 1)), (3, .int (i3h17 + 1)), (6, .int (1 - 1)), (5, .int (r5 - r8)), (2, .int i2h2), (0, .ref (am 0)), (1, .int p1)]) hx hb dX10_greatest_108 hl (k := 3) rfl rfl (by decide) rfl (fun ls hl => ?_)
                    refine lv_goto (tgt := 17) hx hb dX10_greatest_111 (by decide) ?_
                    exact ih17 (i4h17 + 1) (i3h17 + 1)  _ _ _ hF hP hD hS (lv_sub hl [0, 1, 4, 5, 6] rfl)
                  · replace hF := (if_neg h19).symm.trans hF
                    refine lv_iload hx hb dX10_greatest_80 (lv_at hl 1 rfl) ?_
                    refine lv_if_ne (tgt := 105) hx hb dX10_greatest_82 (by decide) (fun h20 => ?_) (fun h20 => ?_)
                    · replace hF := (if_neg h20).symm.trans hF
                      refine lv_iconst (v := 0) hx hb dX10_greatest_105 (by decide) ?_
                      refine lv_iadd hx hb dX10_greatest_106 ?_
                      refine lv_istore_n (lv' := [(3, .int (i3h17 + 0)), (6, .int (1 - 1)), (5, .int (r5 - r8)), (4, .int i4h17), (2, .int i2h2), (0, .ref (am 0)), (1, .int p1)]) hx hb dX10_greatest_107 rfl hl (by decide) rfl (fun ls hl => ?_)
                      refine lv_iinc (v := (i4h17 + 1)) (lv' := [(4, .int (i4h17 + 1)), (3, .int (i3h17 + 0)), (6, .int (1 - 1)), (5, .int (r5 - r8)), (2, .int i2h2), (0, .ref (am 0)), (1, .int p1)]) hx hb dX10_greatest_108 hl (k := 3) rfl rfl (by decide) rfl (fun ls hl => ?_)
                      refine lv_goto (tgt := 17) hx hb dX10_greatest_111 (by decide) ?_
                      exact ih17 (i4h17 + 1) (i3h17 + 0)  _ _ _ hF hP hD hS (lv_sub hl [0, 1, 4, 5, 6] rfl)
                    · replace hF := (if_pos h20).symm.trans hF
                      refine lv_iload hx hb dX10_greatest_85 (lv_at hl 0 rfl) ?_
                      refine lv_if_gt (tgt := 101) hx hb dX10_greatest_87 (by decide) (fun h => absurd h (by decide)) (fun _ => ?_)
                      refine lv_iload hx hb dX10_greatest_90 (lv_at hl 0 rfl) ?_
                      refine lv_if_ne (tgt := 105) hx hb dX10_greatest_92 (by decide) (fun h => absurd h (by decide)) (fun _ => ?_)
                      refine lv_iload hx hb dX10_greatest_95 (lv_at hl 2 rfl) ?_
                      refine lv_iload_n hx hb dX10_greatest_97 rfl (lv_at hl 4 rfl) ?_
                      refine lv_icmp_ge (tgt := 105) hx hb dX10_greatest_98 (by decide) (fun h23 => ?_) (fun h23 => ?_)
                      · replace hF := (if_pos h23).symm.trans hF
                        refine lv_iconst (v := 0) hx hb dX10_greatest_105 (by decide) ?_
                        refine lv_iadd hx hb dX10_greatest_106 ?_
                        refine lv_istore_n (lv' := [(3, .int (i3h17 + 0)), (6, .int (1 - 1)), (5, .int (r5 - r8)), (4, .int i4h17), (2, .int i2h2), (0, .ref (am 0)), (1, .int p1)]) hx hb dX10_greatest_107 rfl hl (by decide) rfl (fun ls hl => ?_)
                        refine lv_iinc (v := (i4h17 + 1)) (lv' := [(4, .int (i4h17 + 1)), (3, .int (i3h17 + 0)), (6, .int (1 - 1)), (5, .int (r5 - r8)), (2, .int i2h2), (0, .ref (am 0)), (1, .int p1)]) hx hb dX10_greatest_108 hl (k := 3) rfl rfl (by decide) rfl (fun ls hl => ?_)
                        refine lv_goto (tgt := 17) hx hb dX10_greatest_111 (by decide) ?_
                        exact ih17 (i4h17 + 1) (i3h17 + 0)  _ _ _ hF hP hD hS (lv_sub hl [0, 1, 4, 5, 6] rfl)
                      · replace hF := (if_neg h23).symm.trans hF
                        refine lv_iconst (v := 1) hx hb dX10_greatest_101 (by decide) ?_
                        refine lv_goto (tgt := 106) hx hb dX10_greatest_102 (by decide) ?_
                        refine lv_iadd hx hb dX10_greatest_106 ?_
                        refine lv_istore_n (lv' := [(3, .int (i3h17 + 1)), (6, .int (1 - 1)), (5, .int (r5 - r8)), (4, .int i4h17), (2, .int i2h2), (0, .ref (am 0)), (1, .int p1)]) hx hb dX10_greatest_107 rfl hl (by decide) rfl (fun ls hl => ?_)
                        refine lv_iinc (v := (i4h17 + 1)) (lv' := [(4, .int (i4h17 + 1)), (3, .int (i3h17 + 1)), (6, .int (1 - 1)), (5, .int (r5 - r8)), (2, .int i2h2), (0, .ref (am 0)), (1, .int p1)]) hx hb dX10_greatest_108 hl (k := 3) rfl rfl (by decide) rfl (fun ls hl => ?_)
                        refine lv_goto (tgt := 17) hx hb dX10_greatest_111 (by decide) ?_
                        exact ih17 (i4h17 + 1) (i3h17 + 1)  _ _ _ hF hP hD hS (lv_sub hl [0, 1, 4, 5, 6] rfl)
                · replace hF := (if_neg h18).symm.trans hF
                  refine lv_iconst (v := 0) hx hb dX10_greatest_66 (by decide) ?_
                  refine lv_goto (tgt := 71) hx hb dX10_greatest_67 (by decide) ?_
                  refine lv_isub hx hb dX10_greatest_71 ?_
                  refine lv_istore (lv' := [(6, .int (1 - 0)), (5, .int (r5 - r8)), (4, .int i4h17), (3, .int i3h17), (2, .int i2h2), (0, .ref (am 0)), (1, .int p1)]) hx hb dX10_greatest_72 hl (by decide) rfl (fun ls hl => ?_)
                  refine lv_iload_n hx hb dX10_greatest_74 rfl (lv_at hl 3 rfl) ?_
                  refine lv_iload hx hb dX10_greatest_75 (lv_at hl 1 rfl) ?_
                  refine lv_if_gt (tgt := 101) hx hb dX10_greatest_77 (by decide) (fun h24 => ?_) (fun h24 => ?_)
                  · replace hF := (if_pos h24).symm.trans hF
                    refine lv_iconst (v := 1) hx hb dX10_greatest_101 (by decide) ?_
                    refine lv_goto (tgt := 106) hx hb dX10_greatest_102 (by decide) ?_
                    refine lv_iadd hx hb dX10_greatest_106 ?_
                    refine lv_istore_n (lv' := [(3, .int (i3h17 + 1)), (6, .int (1 - 0)), (5, .int (r5 - r8)), (4, .int i4h17), (2, .int i2h2), (0, .ref (am 0)), (1, .int p1)]) hx hb dX10_greatest_107 rfl hl (by decide) rfl (fun ls hl => ?_)
                    refine lv_iinc (v := (i4h17 + 1)) (lv' := [(4, .int (i4h17 + 1)), (3, .int (i3h17 + 1)), (6, .int (1 - 0)), (5, .int (r5 - r8)), (2, .int i2h2), (0, .ref (am 0)), (1, .int p1)]) hx hb dX10_greatest_108 hl (k := 3) rfl rfl (by decide) rfl (fun ls hl => ?_)
                    refine lv_goto (tgt := 17) hx hb dX10_greatest_111 (by decide) ?_
                    exact ih17 (i4h17 + 1) (i3h17 + 1)  _ _ _ hF hP hD hS (lv_sub hl [0, 1, 4, 5, 6] rfl)
                  · replace hF := (if_neg h24).symm.trans hF
                    refine lv_iload hx hb dX10_greatest_80 (lv_at hl 1 rfl) ?_
                    refine lv_if_ne (tgt := 105) hx hb dX10_greatest_82 (by decide) (fun h25 => ?_) (fun h25 => ?_)
                    · replace hF := (if_neg h25).symm.trans hF
                      refine lv_iconst (v := 0) hx hb dX10_greatest_105 (by decide) ?_
                      refine lv_iadd hx hb dX10_greatest_106 ?_
                      refine lv_istore_n (lv' := [(3, .int (i3h17 + 0)), (6, .int (1 - 0)), (5, .int (r5 - r8)), (4, .int i4h17), (2, .int i2h2), (0, .ref (am 0)), (1, .int p1)]) hx hb dX10_greatest_107 rfl hl (by decide) rfl (fun ls hl => ?_)
                      refine lv_iinc (v := (i4h17 + 1)) (lv' := [(4, .int (i4h17 + 1)), (3, .int (i3h17 + 0)), (6, .int (1 - 0)), (5, .int (r5 - r8)), (2, .int i2h2), (0, .ref (am 0)), (1, .int p1)]) hx hb dX10_greatest_108 hl (k := 3) rfl rfl (by decide) rfl (fun ls hl => ?_)
                      refine lv_goto (tgt := 17) hx hb dX10_greatest_111 (by decide) ?_
                      exact ih17 (i4h17 + 1) (i3h17 + 0)  _ _ _ hF hP hD hS (lv_sub hl [0, 1, 4, 5, 6] rfl)
                    · replace hF := (if_pos h25).symm.trans hF
                      refine lv_iload hx hb dX10_greatest_85 (lv_at hl 0 rfl) ?_
                      refine lv_if_gt (tgt := 101) hx hb dX10_greatest_87 (by decide) (fun _ => ?_) (fun h => absurd h (by decide))
                      refine lv_iconst (v := 1) hx hb dX10_greatest_101 (by decide) ?_
                      refine lv_goto (tgt := 106) hx hb dX10_greatest_102 (by decide) ?_
                      refine lv_iadd hx hb dX10_greatest_106 ?_
                      refine lv_istore_n (lv' := [(3, .int (i3h17 + 1)), (6, .int (1 - 0)), (5, .int (r5 - r8)), (4, .int i4h17), (2, .int i2h2), (0, .ref (am 0)), (1, .int p1)]) hx hb dX10_greatest_107 rfl hl (by decide) rfl (fun ls hl => ?_)
                      refine lv_iinc (v := (i4h17 + 1)) (lv' := [(4, .int (i4h17 + 1)), (3, .int (i3h17 + 1)), (6, .int (1 - 0)), (5, .int (r5 - r8)), (2, .int i2h2), (0, .ref (am 0)), (1, .int p1)]) hx hb dX10_greatest_108 hl (k := 3) rfl rfl (by decide) rfl (fun ls hl => ?_)
                      refine lv_goto (tgt := 17) hx hb dX10_greatest_111 (by decide) ?_
                      exact ih17 (i4h17 + 1) (i3h17 + 1)  _ _ _ hF hP hD hS (lv_sub hl [0, 1, 4, 5, 6] rfl)
              · replace hF := (if_neg h14).symm.trans hF
                refine lv_iconst (v := 0) hx hb dX10_greatest_53 (by decide) ?_
                refine lv_goto (tgt := 58) hx hb dX10_greatest_54 (by decide) ?_
                refine lv_aload_n hx hb dX10_greatest_58 rfl (lv_at hl 4 rfl) ?_
                refine lv_iload_n hx hb dX10_greatest_59 rfl (lv_at hl 3 rfl) ?_
                obtain ⟨r27, hc29, hF⟩ := bind_some hF
                try dsimp only at hF
                refine cV_i (As := [.int i2h2]) (rest := [.int 0]) hx hb hml hown hw hK hN hA hl.1 hP hD hS k_1698 k_1700 k_39 k_90 k_1701 (met_X10_ownerAt l D cy _ am s2 i2h2 r27 hc29) (fun _ _ _ => trivial) Xok_T (gM (am := am) (r := 0) (m := s2) (f := (s2 0)) (by decide) rfl) rfl ⟨rfl, rfl⟩ (n := 1) (by decide +kernel) rfl ⟨Nat.le_of_ble_eq_true rfl, Nat.le_of_ble_eq_true rfl⟩ ⟨Nat.le_of_ble_eq_true rfl, Nat.le_of_ble_eq_true rfl⟩ (Nat.le_of_ble_eq_true rfl) rfl dX10_greatest_60 (fun H locs hP hD hS => ?_)
                refine lv_if_ge (tgt := 70) hx hb dX10_greatest_63 (by decide) (fun h30 => ?_) (fun h30 => ?_)
                · replace hF := (if_pos h30).symm.trans hF
                  refine lv_iconst (v := 1) hx hb dX10_greatest_70 (by decide) ?_
                  refine lv_isub hx hb dX10_greatest_71 ?_
                  refine lv_istore (lv' := [(6, .int (0 - 1)), (5, .int (r5 - r8)), (4, .int i4h17), (3, .int i3h17), (2, .int i2h2), (0, .ref (am 0)), (1, .int p1)]) hx hb dX10_greatest_72 hl (by decide) rfl (fun ls hl => ?_)
                  refine lv_iload_n hx hb dX10_greatest_74 rfl (lv_at hl 3 rfl) ?_
                  refine lv_iload hx hb dX10_greatest_75 (lv_at hl 1 rfl) ?_
                  refine lv_if_gt (tgt := 101) hx hb dX10_greatest_77 (by decide) (fun h31 => ?_) (fun h31 => ?_)
                  · replace hF := (if_pos h31).symm.trans hF
                    refine lv_iconst (v := 1) hx hb dX10_greatest_101 (by decide) ?_
                    refine lv_goto (tgt := 106) hx hb dX10_greatest_102 (by decide) ?_
                    refine lv_iadd hx hb dX10_greatest_106 ?_
                    refine lv_istore_n (lv' := [(3, .int (i3h17 + 1)), (6, .int (0 - 1)), (5, .int (r5 - r8)), (4, .int i4h17), (2, .int i2h2), (0, .ref (am 0)), (1, .int p1)]) hx hb dX10_greatest_107 rfl hl (by decide) rfl (fun ls hl => ?_)
                    refine lv_iinc (v := (i4h17 + 1)) (lv' := [(4, .int (i4h17 + 1)), (3, .int (i3h17 + 1)), (6, .int (0 - 1)), (5, .int (r5 - r8)), (2, .int i2h2), (0, .ref (am 0)), (1, .int p1)]) hx hb dX10_greatest_108 hl (k := 3) rfl rfl (by decide) rfl (fun ls hl => ?_)
                    refine lv_goto (tgt := 17) hx hb dX10_greatest_111 (by decide) ?_
                    exact ih17 (i4h17 + 1) (i3h17 + 1)  _ _ _ hF hP hD hS (lv_sub hl [0, 1, 4, 5, 6] rfl)
                  · replace hF := (if_neg h31).symm.trans hF
                    refine lv_iload hx hb dX10_greatest_80 (lv_at hl 1 rfl) ?_
                    refine lv_if_ne (tgt := 105) hx hb dX10_greatest_82 (by decide) (fun h32 => ?_) (fun h32 => ?_)
                    · replace hF := (if_neg h32).symm.trans hF
                      refine lv_iconst (v := 0) hx hb dX10_greatest_105 (by decide) ?_
                      refine lv_iadd hx hb dX10_greatest_106 ?_
                      refine lv_istore_n (lv' := [(3, .int (i3h17 + 0)), (6, .int (0 - 1)), (5, .int (r5 - r8)), (4, .int i4h17), (2, .int i2h2), (0, .ref (am 0)), (1, .int p1)]) hx hb dX10_greatest_107 rfl hl (by decide) rfl (fun ls hl => ?_)
                      refine lv_iinc (v := (i4h17 + 1)) (lv' := [(4, .int (i4h17 + 1)), (3, .int (i3h17 + 0)), (6, .int (0 - 1)), (5, .int (r5 - r8)), (2, .int i2h2), (0, .ref (am 0)), (1, .int p1)]) hx hb dX10_greatest_108 hl (k := 3) rfl rfl (by decide) rfl (fun ls hl => ?_)
                      refine lv_goto (tgt := 17) hx hb dX10_greatest_111 (by decide) ?_
                      exact ih17 (i4h17 + 1) (i3h17 + 0)  _ _ _ hF hP hD hS (lv_sub hl [0, 1, 4, 5, 6] rfl)
                    · replace hF := (if_pos h32).symm.trans hF
                      refine lv_iload hx hb dX10_greatest_85 (lv_at hl 0 rfl) ?_
                      refine lv_if_gt (tgt := 101) hx hb dX10_greatest_87 (by decide) (fun h => absurd h (by decide)) (fun _ => ?_)
                      refine lv_iload hx hb dX10_greatest_90 (lv_at hl 0 rfl) ?_
                      refine lv_if_ne (tgt := 105) hx hb dX10_greatest_92 (by decide) (fun _ => ?_) (fun h => absurd h (by decide))
                      refine lv_iconst (v := 0) hx hb dX10_greatest_105 (by decide) ?_
                      refine lv_iadd hx hb dX10_greatest_106 ?_
                      refine lv_istore_n (lv' := [(3, .int (i3h17 + 0)), (6, .int (0 - 1)), (5, .int (r5 - r8)), (4, .int i4h17), (2, .int i2h2), (0, .ref (am 0)), (1, .int p1)]) hx hb dX10_greatest_107 rfl hl (by decide) rfl (fun ls hl => ?_)
                      refine lv_iinc (v := (i4h17 + 1)) (lv' := [(4, .int (i4h17 + 1)), (3, .int (i3h17 + 0)), (6, .int (0 - 1)), (5, .int (r5 - r8)), (2, .int i2h2), (0, .ref (am 0)), (1, .int p1)]) hx hb dX10_greatest_108 hl (k := 3) rfl rfl (by decide) rfl (fun ls hl => ?_)
                      refine lv_goto (tgt := 17) hx hb dX10_greatest_111 (by decide) ?_
                      exact ih17 (i4h17 + 1) (i3h17 + 0)  _ _ _ hF hP hD hS (lv_sub hl [0, 1, 4, 5, 6] rfl)
                · replace hF := (if_neg h30).symm.trans hF
                  refine lv_iconst (v := 0) hx hb dX10_greatest_66 (by decide) ?_
                  refine lv_goto (tgt := 71) hx hb dX10_greatest_67 (by decide) ?_
                  refine lv_isub hx hb dX10_greatest_71 ?_
                  refine lv_istore (lv' := [(6, .int (0 - 0)), (5, .int (r5 - r8)), (4, .int i4h17), (3, .int i3h17), (2, .int i2h2), (0, .ref (am 0)), (1, .int p1)]) hx hb dX10_greatest_72 hl (by decide) rfl (fun ls hl => ?_)
                  refine lv_iload_n hx hb dX10_greatest_74 rfl (lv_at hl 3 rfl) ?_
                  refine lv_iload hx hb dX10_greatest_75 (lv_at hl 1 rfl) ?_
                  refine lv_if_gt (tgt := 101) hx hb dX10_greatest_77 (by decide) (fun h35 => ?_) (fun h35 => ?_)
                  · replace hF := (if_pos h35).symm.trans hF
                    refine lv_iconst (v := 1) hx hb dX10_greatest_101 (by decide) ?_
                    refine lv_goto (tgt := 106) hx hb dX10_greatest_102 (by decide) ?_
                    refine lv_iadd hx hb dX10_greatest_106 ?_
                    refine lv_istore_n (lv' := [(3, .int (i3h17 + 1)), (6, .int (0 - 0)), (5, .int (r5 - r8)), (4, .int i4h17), (2, .int i2h2), (0, .ref (am 0)), (1, .int p1)]) hx hb dX10_greatest_107 rfl hl (by decide) rfl (fun ls hl => ?_)
                    refine lv_iinc (v := (i4h17 + 1)) (lv' := [(4, .int (i4h17 + 1)), (3, .int (i3h17 + 1)), (6, .int (0 - 0)), (5, .int (r5 - r8)), (2, .int i2h2), (0, .ref (am 0)), (1, .int p1)]) hx hb dX10_greatest_108 hl (k := 3) rfl rfl (by decide) rfl (fun ls hl => ?_)
                    refine lv_goto (tgt := 17) hx hb dX10_greatest_111 (by decide) ?_
                    exact ih17 (i4h17 + 1) (i3h17 + 1)  _ _ _ hF hP hD hS (lv_sub hl [0, 1, 4, 5, 6] rfl)
                  · replace hF := (if_neg h35).symm.trans hF
                    refine lv_iload hx hb dX10_greatest_80 (lv_at hl 1 rfl) ?_
                    refine lv_if_ne (tgt := 105) hx hb dX10_greatest_82 (by decide) (fun h36 => ?_) (fun h36 => ?_)
                    · replace hF := (if_neg h36).symm.trans hF
                      refine lv_iconst (v := 0) hx hb dX10_greatest_105 (by decide) ?_
                      refine lv_iadd hx hb dX10_greatest_106 ?_
                      refine lv_istore_n (lv' := [(3, .int (i3h17 + 0)), (6, .int (0 - 0)), (5, .int (r5 - r8)), (4, .int i4h17), (2, .int i2h2), (0, .ref (am 0)), (1, .int p1)]) hx hb dX10_greatest_107 rfl hl (by decide) rfl (fun ls hl => ?_)
                      refine lv_iinc (v := (i4h17 + 1)) (lv' := [(4, .int (i4h17 + 1)), (3, .int (i3h17 + 0)), (6, .int (0 - 0)), (5, .int (r5 - r8)), (2, .int i2h2), (0, .ref (am 0)), (1, .int p1)]) hx hb dX10_greatest_108 hl (k := 3) rfl rfl (by decide) rfl (fun ls hl => ?_)
                      refine lv_goto (tgt := 17) hx hb dX10_greatest_111 (by decide) ?_
                      exact ih17 (i4h17 + 1) (i3h17 + 0)  _ _ _ hF hP hD hS (lv_sub hl [0, 1, 4, 5, 6] rfl)
                    · replace hF := (if_pos h36).symm.trans hF
                      refine lv_iload hx hb dX10_greatest_85 (lv_at hl 0 rfl) ?_
                      refine lv_if_gt (tgt := 101) hx hb dX10_greatest_87 (by decide) (fun h => absurd h (by decide)) (fun _ => ?_)
                      refine lv_iload hx hb dX10_greatest_90 (lv_at hl 0 rfl) ?_
                      refine lv_if_ne (tgt := 105) hx hb dX10_greatest_92 (by decide) (fun h => absurd h (by decide)) (fun _ => ?_)
                      refine lv_iload hx hb dX10_greatest_95 (lv_at hl 2 rfl) ?_
                      refine lv_iload_n hx hb dX10_greatest_97 rfl (lv_at hl 4 rfl) ?_
                      refine lv_icmp_ge (tgt := 105) hx hb dX10_greatest_98 (by decide) (fun h39 => ?_) (fun h39 => ?_)
                      · replace hF := (if_pos h39).symm.trans hF
                        refine lv_iconst (v := 0) hx hb dX10_greatest_105 (by decide) ?_
                        refine lv_iadd hx hb dX10_greatest_106 ?_
                        refine lv_istore_n (lv' := [(3, .int (i3h17 + 0)), (6, .int (0 - 0)), (5, .int (r5 - r8)), (4, .int i4h17), (2, .int i2h2), (0, .ref (am 0)), (1, .int p1)]) hx hb dX10_greatest_107 rfl hl (by decide) rfl (fun ls hl => ?_)
                        refine lv_iinc (v := (i4h17 + 1)) (lv' := [(4, .int (i4h17 + 1)), (3, .int (i3h17 + 0)), (6, .int (0 - 0)), (5, .int (r5 - r8)), (2, .int i2h2), (0, .ref (am 0)), (1, .int p1)]) hx hb dX10_greatest_108 hl (k := 3) rfl rfl (by decide) rfl (fun ls hl => ?_)
                        refine lv_goto (tgt := 17) hx hb dX10_greatest_111 (by decide) ?_
                        exact ih17 (i4h17 + 1) (i3h17 + 0)  _ _ _ hF hP hD hS (lv_sub hl [0, 1, 4, 5, 6] rfl)
                      · replace hF := (if_neg h39).symm.trans hF
                        refine lv_iconst (v := 1) hx hb dX10_greatest_101 (by decide) ?_
                        refine lv_goto (tgt := 106) hx hb dX10_greatest_102 (by decide) ?_
                        refine lv_iadd hx hb dX10_greatest_106 ?_
                        refine lv_istore_n (lv' := [(3, .int (i3h17 + 1)), (6, .int (0 - 0)), (5, .int (r5 - r8)), (4, .int i4h17), (2, .int i2h2), (0, .ref (am 0)), (1, .int p1)]) hx hb dX10_greatest_107 rfl hl (by decide) rfl (fun ls hl => ?_)
                        refine lv_iinc (v := (i4h17 + 1)) (lv' := [(4, .int (i4h17 + 1)), (3, .int (i3h17 + 1)), (6, .int (0 - 0)), (5, .int (r5 - r8)), (2, .int i2h2), (0, .ref (am 0)), (1, .int p1)]) hx hb dX10_greatest_108 hl (k := 3) rfl rfl (by decide) rfl (fun ls hl => ?_)
                        refine lv_goto (tgt := 17) hx hb dX10_greatest_111 (by decide) ?_
                        exact ih17 (i4h17 + 1) (i3h17 + 1)  _ _ _ hF hP hD hS (lv_sub hl [0, 1, 4, 5, 6] rfl)
        exact loop17 200 0 0  _ _ _ hF hP hD hS (lv_sub hl [0, 1, 2, 3, 4] rfl)
  exact loop2 200 0 m0 _ _ _ hF hP hD hS (lv_sub hl [0, 1, 2] rfl)
def D_X10_signs (m0 : Nat → Nat → Int32) (p1 : Int32) (p2 : Int32) (p3 : Int32) : Option ((Nat → Nat → Int32)) := (D_X10_needs m0 p1).bind (fun o2 => (D_X10_needs o2 p2).bind (fun o5 => if p3 = 0 then (some o5) else ((D_X10_needs o5 p3).bind (fun o9 => some o9))))
abbrev rm_X10_signs : Room := { frames := 2, cells := 0, slots := 0, locals := 41 }
set_option maxHeartbeats 4000000 in
set_option maxRecDepth 100000 in
theorem met_X10_signs (l : Launch) (D : va_G) (cy : Nat → ClassId) (sz : Nat) (am : Nat → Nat) (m0 : Nat → Nat → Int32) (p1 : Int32) (p2 : Int32) (p3 : Int32)  (t' : Nat → Nat → Int32) (hF : D_X10_signs m0 p1 p2 p3 = some t') : MV l yX10_signs cX10_signs 4 rm_X10_signs D cy (mW cy am m0) sz (fun _ => True) [.ref (am 0), .int p1, .int p2, .int p3] (mW cy am t') := by
  refine MV.of (by decide +kernel) (Nat.le_of_ble_eq_true rfl) ?_
  intro p e s m args below meth c A ls Q hAt _ hP hD hA hS hl hret
  obtain ⟨hx, hb, hr, hml, hown, hw, hlk, hK, hN⟩ := hAt
  have hown : s.vm.findClass "CloudDeedsModel" = some m.cls := hown
  have hl : lv_has ls 4 [(0, .ref (am 0)), (1, .int p1), (2, .int p2), (3, .int p3)] := hl
  refine lv_aload_n hx hb dX10_signs_0 rfl (lv_at hl 0 rfl) ?_
  refine lv_iload_n hx hb dX10_signs_1 rfl (lv_at hl 1 rfl) ?_
  obtain ⟨o2, hc3, hF⟩ := bind_some hF
  try dsimp only at hF
  refine cV_v (As := [.int p1]) (rest := []) hx hb hml hown hw hK hN hA hl.1 hP hD hS k_1900 k_1902 k_66 k_90 k_1903 (met_X10_needs l D cy _ am m0 p1 o2 hc3) (fun _ _ _ => trivial) Xok_T (gM (am := am) (r := 0) (m := m0) (f := (m0 0)) (by decide) rfl) rfl ⟨rfl, rfl⟩ (n := 1) (by decide +kernel) rfl ⟨Nat.le_of_ble_eq_true rfl, Nat.le_of_ble_eq_true rfl⟩ ⟨Nat.le_of_ble_eq_true rfl, Nat.le_of_ble_eq_true rfl⟩ (Nat.le_of_ble_eq_true rfl) rfl dX10_signs_2 (fun H locs hP hD hS => ?_)
  refine lv_aload_n hx hb dX10_signs_5 rfl (lv_at hl 0 rfl) ?_
  refine lv_iload_n hx hb dX10_signs_6 rfl (lv_at hl 2 rfl) ?_
  obtain ⟨o5, hc6, hF⟩ := bind_some hF
  try dsimp only at hF
  refine cV_v (As := [.int p2]) (rest := []) hx hb hml hown hw hK hN hA hl.1 hP hD hS k_1900 k_1902 k_66 k_90 k_1903 (met_X10_needs l D cy _ am o2 p2 o5 hc6) (fun _ _ _ => trivial) Xok_T (gM (am := am) (r := 0) (m := o2) (f := (o2 0)) (by decide) rfl) rfl ⟨rfl, rfl⟩ (n := 1) (by decide +kernel) rfl ⟨Nat.le_of_ble_eq_true rfl, Nat.le_of_ble_eq_true rfl⟩ ⟨Nat.le_of_ble_eq_true rfl, Nat.le_of_ble_eq_true rfl⟩ (Nat.le_of_ble_eq_true rfl) rfl dX10_signs_7 (fun H locs hP hD hS => ?_)
  refine lv_iload_n hx hb dX10_signs_10 rfl (lv_at hl 3 rfl) ?_
  refine lv_if_eq (tgt := 19) hx hb dX10_signs_11 (by decide) (fun h7 => ?_) (fun h7 => ?_)
  · replace hF := (if_pos h7).symm.trans hF
    cases hF
    exact hret _ _ _ _ _ hP hD hS rfl dX10_signs_19
  · replace hF := (if_neg h7).symm.trans hF
    refine lv_aload_n hx hb dX10_signs_14 rfl (lv_at hl 0 rfl) ?_
    refine lv_iload_n hx hb dX10_signs_15 rfl (lv_at hl 3 rfl) ?_
    obtain ⟨o9, hc10, hF⟩ := bind_some hF
    try dsimp only at hF
    refine cV_v (As := [.int p3]) (rest := []) hx hb hml hown hw hK hN hA hl.1 hP hD hS k_1900 k_1902 k_66 k_90 k_1903 (met_X10_needs l D cy _ am o5 p3 o9 hc10) (fun _ _ _ => trivial) Xok_T (gM (am := am) (r := 0) (m := o5) (f := (o5 0)) (by decide) rfl) rfl ⟨rfl, rfl⟩ (n := 1) (by decide +kernel) rfl ⟨Nat.le_of_ble_eq_true rfl, Nat.le_of_ble_eq_true rfl⟩ ⟨Nat.le_of_ble_eq_true rfl, Nat.le_of_ble_eq_true rfl⟩ (Nat.le_of_ble_eq_true rfl) rfl dX10_signs_16 (fun H locs hP hD hS => ?_)
    cases hF
    exact hret _ _ _ _ _ hP hD hS rfl dX10_signs_19
def D_X10_behind (m0 : Nat → Nat → Int32) (p1 : Int32) (p2 : Int32) : Option (Int32 × (Nat → Nat → Int32)) := (D_X10_needs m0 p1).bind (fun o2 => (D_X10_number o2 p2).bind (fun (r4, o5) => some (r4, o5)))
abbrev rm_X10_behind : Room := { frames := 2, cells := 0, slots := 0, locals := 45 }
set_option maxHeartbeats 4000000 in
set_option maxRecDepth 100000 in
theorem met_X10_behind (l : Launch) (D : va_G) (cy : Nat → ClassId) (sz : Nat) (am : Nat → Nat) (m0 : Nat → Nat → Int32) (p1 : Int32) (p2 : Int32)  (r : Int32) (t' : Nat → Nat → Int32) (hF : D_X10_behind m0 p1 p2 = some (r, t')) : MI l yX10_behind cX10_behind 3 (some .int) rm_X10_behind D cy (mW cy am m0) sz (fun _ => True) [.ref (am 0), .int p1, .int p2] r (mW cy am t') := by
  refine MI.of (by decide +kernel) (Nat.le_of_ble_eq_true rfl) ?_
  intro p e s m args below meth c A ls Q hAt _ hP hD hA hS hl hret
  obtain ⟨hx, hb, hr, hml, hown, hw, hlk, hK, hN⟩ := hAt
  have hown : s.vm.findClass "CloudDeedsModel" = some m.cls := hown
  have hl : lv_has ls 3 [(0, .ref (am 0)), (1, .int p1), (2, .int p2)] := hl
  refine lv_aload_n hx hb dX10_behind_0 rfl (lv_at hl 0 rfl) ?_
  refine lv_iload_n hx hb dX10_behind_1 rfl (lv_at hl 1 rfl) ?_
  obtain ⟨o2, hc3, hF⟩ := bind_some hF
  try dsimp only at hF
  refine cV_v (As := [.int p1]) (rest := []) hx hb hml hown hw hK hN hA hl.1 hP hD hS k_1900 k_1902 k_66 k_90 k_1903 (met_X10_needs l D cy _ am m0 p1 o2 hc3) (fun _ _ _ => trivial) Xok_T (gM (am := am) (r := 0) (m := m0) (f := (m0 0)) (by decide) rfl) rfl ⟨rfl, rfl⟩ (n := 1) (by decide +kernel) rfl ⟨Nat.le_of_ble_eq_true rfl, Nat.le_of_ble_eq_true rfl⟩ ⟨Nat.le_of_ble_eq_true rfl, Nat.le_of_ble_eq_true rfl⟩ (Nat.le_of_ble_eq_true rfl) rfl dX10_behind_2 (fun H locs hP hD hS => ?_)
  refine lv_aload_n hx hb dX10_behind_5 rfl (lv_at hl 0 rfl) ?_
  refine lv_iload_n hx hb dX10_behind_6 rfl (lv_at hl 2 rfl) ?_
  obtain ⟨⟨r4, o5⟩, hc6, hF⟩ := bind_some hF
  try dsimp only at hF
  refine cV_i (As := [.int p2]) (rest := []) hx hb hml hown hw hK hN hA hl.1 hP hD hS k_1908 k_1910 k_68 k_90 k_1911 (met_X10_number l D cy _ am o2 p2 r4 o5 hc6) (fun _ _ _ => trivial) Xok_T (gM (am := am) (r := 0) (m := o2) (f := (o2 0)) (by decide) rfl) rfl ⟨rfl, rfl⟩ (n := 1) (by decide +kernel) rfl ⟨Nat.le_of_ble_eq_true rfl, Nat.le_of_ble_eq_true rfl⟩ ⟨Nat.le_of_ble_eq_true rfl, Nat.le_of_ble_eq_true rfl⟩ (Nat.le_of_ble_eq_true rfl) rfl dX10_behind_7 (fun H locs hP hD hS => ?_)
  cases hF
  exact hret _ _ _ _ _ _ hP hD hS rfl rfl dX10_behind_10
def D_X10_windNow (m0 : Nat → Nat → Int32) : Option (Int32 × (Nat → Nat → Int32)) := (D_X10_needs m0 32).bind (fun o2 => if 0 ≤ ((o2 0) 12) then ((D_X10_number o2 1).bind (fun (r5, o6) => some (r5, o6))) else ((D_X10_sign o2).bind (fun r8 => if r8 = 45 then ((D_X10_number (va_up o2 0 (upd (o2 0) 11 (((o2 0) 11) + 1))) 1).bind (fun (r15, o16) => some ((-r15), o16))) else ((D_X10_number o2 1).bind (fun (r12, o13) => some (r12, o13))))))
abbrev rm_X10_windNow : Room := { frames := 2, cells := 0, slots := 0, locals := 45 }
set_option maxHeartbeats 4000000 in
set_option maxRecDepth 100000 in
theorem met_X10_windNow (l : Launch) (D : va_G) (cy : Nat → ClassId) (sz : Nat) (am : Nat → Nat) (m0 : Nat → Nat → Int32)  (r : Int32) (t' : Nat → Nat → Int32) (hF : D_X10_windNow m0 = some (r, t')) : MI l yX10_windNow cX10_windNow 1 (some .int) rm_X10_windNow D cy (mW cy am m0) sz (fun _ => True) [.ref (am 0)] r (mW cy am t') := by
  refine MI.of (by decide +kernel) (Nat.le_of_ble_eq_true rfl) ?_
  intro p e s m args below meth c A ls Q hAt _ hP hD hA hS hl hret
  obtain ⟨hx, hb, hr, hml, hown, hw, hlk, hK, hN⟩ := hAt
  have hown : s.vm.findClass "CloudDeedsModel" = some m.cls := hown
  have hl : lv_has ls 1 [(0, .ref (am 0))] := hl
  refine lv_aload_n hx hb dX10_windNow_0 rfl (lv_at hl 0 rfl) ?_
  refine lv_bipush (v := 32) hx hb dX10_windNow_1 (by decide) ?_
  obtain ⟨o2, hc3, hF⟩ := bind_some hF
  try dsimp only at hF
  refine cV_v (As := [.int 32]) (rest := []) hx hb hml hown hw hK hN hA hl.1 hP hD hS k_1900 k_1902 k_66 k_90 k_1903 (met_X10_needs l D cy _ am m0 32 o2 hc3) (fun _ _ _ => trivial) Xok_T (gM (am := am) (r := 0) (m := m0) (f := (m0 0)) (by decide) rfl) rfl ⟨rfl, rfl⟩ (n := 1) (by decide +kernel) rfl ⟨Nat.le_of_ble_eq_true rfl, Nat.le_of_ble_eq_true rfl⟩ ⟨Nat.le_of_ble_eq_true rfl, Nat.le_of_ble_eq_true rfl⟩ (Nat.le_of_ble_eq_true rfl) rfl dX10_windNow_3 (fun H locs hP hD hS => ?_)
  refine lv_aload_n hx hb dX10_windNow_6 rfl (lv_at hl 0 rfl) ?_
  refine get' (ci := 12) (fs := mF am (o2 0)) (v := .int ((o2 0) 12)) hx hb hw inWX10 hown hK hP (gM (am := am) (r := 0) (m := o2) (f := (o2 0)) (by decide) rfl) rfl 12 (by decide) k_1582 rfl rfl dX10_windNow_7 ?_
  refine lv_if_ge (tgt := 39) hx hb dX10_windNow_10 (by decide) (fun h4 => ?_) (fun h4 => ?_)
  · replace hF := (if_pos h4).symm.trans hF
    refine lv_aload_n hx hb dX10_windNow_39 rfl (lv_at hl 0 rfl) ?_
    refine lv_iconst (v := 1) hx hb dX10_windNow_40 (by decide) ?_
    obtain ⟨⟨r5, o6⟩, hc7, hF⟩ := bind_some hF
    try dsimp only at hF
    refine cV_i (As := [.int 1]) (rest := []) hx hb hml hown hw hK hN hA hl.1 hP hD hS k_1908 k_1910 k_68 k_90 k_1911 (met_X10_number l D cy _ am o2 1 r5 o6 hc7) (fun _ _ _ => trivial) Xok_T (gM (am := am) (r := 0) (m := o2) (f := (o2 0)) (by decide) rfl) rfl ⟨rfl, rfl⟩ (n := 1) (by decide +kernel) rfl ⟨Nat.le_of_ble_eq_true rfl, Nat.le_of_ble_eq_true rfl⟩ ⟨Nat.le_of_ble_eq_true rfl, Nat.le_of_ble_eq_true rfl⟩ (Nat.le_of_ble_eq_true rfl) rfl dX10_windNow_41 (fun H locs hP hD hS => ?_)
    cases hF
    exact hret _ _ _ _ _ _ hP hD hS rfl rfl dX10_windNow_44
  · replace hF := (if_neg h4).symm.trans hF
    refine lv_aload_n hx hb dX10_windNow_13 rfl (lv_at hl 0 rfl) ?_
    obtain ⟨r8, hc10, hF⟩ := bind_some hF
    try dsimp only at hF
    refine cV_i (As := []) (rest := []) hx hb hml hown hw hK hN hA hl.1 hP hD hS k_1885 k_1887 k_63 k_90 k_1888 (met_X10_sign l D cy _ am o2 r8 hc10) (fun _ _ _ => trivial) Xok_T (gM (am := am) (r := 0) (m := o2) (f := (o2 0)) (by decide) rfl) rfl ⟨rfl, rfl⟩ (n := 0) (by decide +kernel) rfl ⟨Nat.le_of_ble_eq_true rfl, Nat.le_of_ble_eq_true rfl⟩ ⟨Nat.le_of_ble_eq_true rfl, Nat.le_of_ble_eq_true rfl⟩ (Nat.le_of_ble_eq_true rfl) rfl dX10_windNow_14 (fun H locs hP hD hS => ?_)
    refine lv_bipush (v := 45) hx hb dX10_windNow_17 (by decide) ?_
    refine lv_icmp_ne (tgt := 39) hx hb dX10_windNow_19 (by decide) (fun h11 => ?_) (fun h11 => ?_)
    · replace hF := (if_neg h11).symm.trans hF
      refine lv_aload_n hx hb dX10_windNow_39 rfl (lv_at hl 0 rfl) ?_
      refine lv_iconst (v := 1) hx hb dX10_windNow_40 (by decide) ?_
      obtain ⟨⟨r12, o13⟩, hc14, hF⟩ := bind_some hF
      try dsimp only at hF
      refine cV_i (As := [.int 1]) (rest := []) hx hb hml hown hw hK hN hA hl.1 hP hD hS k_1908 k_1910 k_68 k_90 k_1911 (met_X10_number l D cy _ am o2 1 r12 o13 hc14) (fun _ _ _ => trivial) Xok_T (gM (am := am) (r := 0) (m := o2) (f := (o2 0)) (by decide) rfl) rfl ⟨rfl, rfl⟩ (n := 1) (by decide +kernel) rfl ⟨Nat.le_of_ble_eq_true rfl, Nat.le_of_ble_eq_true rfl⟩ ⟨Nat.le_of_ble_eq_true rfl, Nat.le_of_ble_eq_true rfl⟩ (Nat.le_of_ble_eq_true rfl) rfl dX10_windNow_41 (fun H locs hP hD hS => ?_)
      cases hF
      exact hret _ _ _ _ _ _ hP hD hS rfl rfl dX10_windNow_44
    · replace hF := (if_pos h11).symm.trans hF
      refine lv_aload_n hx hb dX10_windNow_22 rfl (lv_at hl 0 rfl) ?_
      refine lv_dup hx hb dX10_windNow_23 rfl ?_
      refine get' (ci := 12) (fs := mF am (o2 0)) (v := .int ((o2 0) 11)) hx hb hw inWX10 hown hK hP (gM (am := am) (r := 0) (m := o2) (f := (o2 0)) (by decide) rfl) rfl 11 (by decide) k_1581 rfl rfl dX10_windNow_24 ?_
      refine lv_iconst (v := 1) hx hb dX10_windNow_27 (by decide) ?_
      refine lv_iadd hx hb dX10_windNow_28 ?_
      refine put' (ci := 12) (fs := mF am (o2 0)) (v := .int (((o2 0) 11) + 1)) (ty := .int) (ws' := (mW cy am (va_up o2 0 (upd (o2 0) 11 (((o2 0) 11) + 1))))) hx hb hw inWX10 tyX10 tyX10_ok nmX10 hown hK hP hD hS (gM (am := am) (r := 0) (m := o2) (f := (o2 0)) (by decide) rfl) rfl 11 (by decide) k_1581 rfl rfl (by decide +kernel) rfl rfl (Nat.le_of_ble_eq_true rfl) dX10_windNow_29 (sM (am := am) (r := 0) (m := o2) (g := (upd (o2 0) 11 (((o2 0) 11) + 1))) (by decide)) (fun H locs hP hD hS => ?_)
      refine lv_aload_n hx hb dX10_windNow_32 rfl (lv_at hl 0 rfl) ?_
      refine lv_iconst (v := 1) hx hb dX10_windNow_33 (by decide) ?_
      obtain ⟨⟨r15, o16⟩, hc17, hF⟩ := bind_some hF
      try dsimp only at hF
      refine cV_i (As := [.int 1]) (rest := []) hx hb hml hown hw hK hN hA hl.1 hP hD hS k_1908 k_1910 k_68 k_90 k_1911 (met_X10_number l D cy _ am (va_up o2 0 (upd (o2 0) 11 (((o2 0) 11) + 1))) 1 r15 o16 hc17) (fun _ _ _ => trivial) Xok_T (gM (am := am) (r := 0) (m := (va_up o2 0 (upd (o2 0) 11 (((o2 0) 11) + 1)))) (f := (upd (o2 0) 11 (((o2 0) 11) + 1))) (by decide) (va_up_self _ _ _)) rfl ⟨rfl, rfl⟩ (n := 1) (by decide +kernel) rfl ⟨Nat.le_of_ble_eq_true rfl, Nat.le_of_ble_eq_true rfl⟩ ⟨Nat.le_of_ble_eq_true rfl, Nat.le_of_ble_eq_true rfl⟩ (Nat.le_of_ble_eq_true rfl) rfl dX10_windNow_34 (fun H locs hP hD hS => ?_)
      refine lv_ineg hx hb dX10_windNow_37 ?_
      cases hF
      exact hret _ _ _ _ _ _ hP hD hS rfl rfl dX10_windNow_38
def L_X10_ofClouds_4 : Nat → (Nat → Nat → Int32) → (Int32) → (Int32) → (Int32) → Option (Int32)
  | 0, _, _, _, _ => none
  | n4 + 1, m0, p1, i3h4, i2h4 => if inb 0 1152 then (if ((m0 1) (0 : Int32).toNatClampNeg) ≤ i3h4 then (some i2h4) else (if p1 = 0 then ((D_X10_c m0 i3h4 2).bind (fun r13 => L_X10_ofClouds_4 n4 m0 p1 (i3h4 + 1) (i2h4 + r13))) else (if p1 = 1 then ((D_X10_ownerAt m0 i3h4).bind (fun r9 => if r9 < 0 then (L_X10_ofClouds_4 n4 m0 p1 (i3h4 + 1) (i2h4 + 0)) else (L_X10_ofClouds_4 n4 m0 p1 (i3h4 + 1) (i2h4 + 1)))) else ((D_X10_lenderAt m0 i3h4).bind (fun r5 => if r5 < 0 then (L_X10_ofClouds_4 n4 m0 p1 (i3h4 + 1) (i2h4 + 0)) else (L_X10_ofClouds_4 n4 m0 p1 (i3h4 + 1) (i2h4 + 1))))))) else none
def D_X10_ofClouds (m0 : Nat → Nat → Int32) (p1 : Int32) : Option (Int32) := L_X10_ofClouds_4 200 m0 p1 0 0
abbrev rm_X10_ofClouds : Room := { frames := 2, cells := 0, slots := 0, locals := 43 }
set_option maxHeartbeats 4000000 in
set_option maxRecDepth 100000 in
theorem met_X10_ofClouds (l : Launch) (D : va_G) (cy : Nat → ClassId) (sz : Nat) (am : Nat → Nat) (m0 : Nat → Nat → Int32) (p1 : Int32)  (r : Int32) (hF : D_X10_ofClouds m0 p1 = some r) : MI l yX10_ofClouds cX10_ofClouds 4 (some .int) rm_X10_ofClouds D cy (mW cy am m0) sz (fun _ => True) [.ref (am 0), .int p1] r (mW cy am m0) := by
  refine MI.of (by decide +kernel) (Nat.le_of_ble_eq_true rfl) ?_
  intro p e s m args below meth c A ls Q hAt _ hP hD hA hS hl hret
  obtain ⟨hx, hb, hr, hml, hown, hw, hlk, hK, hN⟩ := hAt
  have hown : s.vm.findClass "CloudDeedsModel" = some m.cls := hown
  have hl : lv_has ls 4 [(0, .ref (am 0)), (1, .int p1)] := hl
  refine lv_iconst (v := 0) hx hb dX10_ofClouds_0 (by decide) ?_
  refine lv_istore_n (lv' := [(2, .int 0), (0, .ref (am 0)), (1, .int p1)]) hx hb dX10_ofClouds_1 rfl hl (by decide) rfl (fun ls hl => ?_)
  refine lv_iconst (v := 0) hx hb dX10_ofClouds_2 (by decide) ?_
  refine lv_istore_n (lv' := [(3, .int 0), (2, .int 0), (0, .ref (am 0)), (1, .int p1)]) hx hb dX10_ofClouds_3 rfl hl (by decide) rfl (fun ls hl => ?_)
  have loop4 : ∀ (n : Nat) (i3h4 : Int32) (i2h4 : Int32) (H : Heap) (locs : List Loc) (ls : Array Slot), L_X10_ofClouds_4 n m0 p1 i3h4 i2h4 = some r → va_P D vwCl (mW cy am m0) H → va_D A (mW cy am m0) → va_S A s.heap H locs → lv_has ls 4 [(3, .int i3h4), (2, .int i2h4), (0, .ref (am 0)), (1, .int p1)] → W p l e rm_X10_ofClouds s m args below meth c H locs 0 0 Q (F0 m 4 ls []) := by
    intro n
    induction n with
    | zero => intro i3h4 i2h4 H locs ls hF _ _ _ _; exact absurd hF (by simp [L_X10_ofClouds_4])
    | succ n4 ih4 =>
      intro i3h4 i2h4 H locs ls hF hP hD hS hl
      refine lv_iload_n hx hb dX10_ofClouds_4 rfl (lv_at hl 0 rfl) ?_
      refine lv_aload_n hx hb dX10_ofClouds_5 rfl (lv_at hl 2 rfl) ?_
      refine get' (ci := 12) (fs := mF am (m0 0)) (v := .ref (am 1)) hx hb hw inWX10 hown hK hP (gM (am := am) (r := 0) (m := m0) (f := (m0 0)) (by decide) rfl) rfl 1 (by decide) k_1571 rfl rfl dX10_ofClouds_6 ?_
      refine lv_iconst (v := 0) hx hb dX10_ofClouds_9 (by decide) ?_
      obtain ⟨h1, hF⟩ := ite_some hF
      refine va_iald (n := 1152) (f := (m0 1)) hx hb hK hP _ 0 (gM (am := am) (r := 1) (m := m0) (f := (m0 1)) (by decide) rfl) rfl (vp_inb h1) dX10_ofClouds_10 ?_
      refine lv_icmp_ge (tgt := 62) hx hb dX10_ofClouds_11 (by decide) (fun h2 => ?_) (fun h2 => ?_)
      · replace hF := (if_pos h2).symm.trans hF
        refine lv_iload_n hx hb dX10_ofClouds_62 rfl (lv_at hl 1 rfl) ?_
        cases hF
        exact hret _ _ _ _ _ _ hP hD hS rfl rfl dX10_ofClouds_63
      · replace hF := (if_neg h2).symm.trans hF
        refine lv_iload_n hx hb dX10_ofClouds_14 rfl (lv_at hl 1 rfl) ?_
        refine lv_iload_n hx hb dX10_ofClouds_15 rfl (lv_at hl 3 rfl) ?_
        refine lv_if_ne (tgt := 28) hx hb dX10_ofClouds_16 (by decide) (fun h3 => ?_) (fun h3 => ?_)
        · replace hF := (if_neg h3).symm.trans hF
          refine lv_iload_n hx hb dX10_ofClouds_28 rfl (lv_at hl 3 rfl) ?_
          refine lv_iconst (v := 1) hx hb dX10_ofClouds_29 (by decide) ?_
          refine lv_icmp_ne (tgt := 41) hx hb dX10_ofClouds_30 (by decide) (fun h4 => ?_) (fun h4 => ?_)
          · replace hF := (if_neg h4).symm.trans hF
            refine lv_aload_n hx hb dX10_ofClouds_41 rfl (lv_at hl 2 rfl) ?_
            refine lv_iload_n hx hb dX10_ofClouds_42 rfl (lv_at hl 0 rfl) ?_
            obtain ⟨r5, hc7, hF⟩ := bind_some hF
            try dsimp only at hF
            refine cV_i (As := [.int i3h4]) (rest := [.int i2h4]) hx hb hml hown hw hK hN hA hl.1 hP hD hS k_1730 k_1732 k_46 k_90 k_1733 (met_X10_lenderAt l D cy _ am m0 i3h4 r5 hc7) (fun _ _ _ => trivial) Xok_T (gM (am := am) (r := 0) (m := m0) (f := (m0 0)) (by decide) rfl) rfl ⟨rfl, rfl⟩ (n := 1) (by decide +kernel) rfl ⟨Nat.le_of_ble_eq_true rfl, Nat.le_of_ble_eq_true rfl⟩ ⟨Nat.le_of_ble_eq_true rfl, Nat.le_of_ble_eq_true rfl⟩ (Nat.le_of_ble_eq_true rfl) rfl dX10_ofClouds_43 (fun H locs hP hD hS => ?_)
            refine lv_if_lt (tgt := 53) hx hb dX10_ofClouds_46 (by decide) (fun h8 => ?_) (fun h8 => ?_)
            · replace hF := (if_pos h8).symm.trans hF
              refine lv_iconst (v := 0) hx hb dX10_ofClouds_53 (by decide) ?_
              refine lv_iadd hx hb dX10_ofClouds_54 ?_
              refine lv_istore_n (lv' := [(2, .int (i2h4 + 0)), (3, .int i3h4), (0, .ref (am 0)), (1, .int p1)]) hx hb dX10_ofClouds_55 rfl hl (by decide) rfl (fun ls hl => ?_)
              refine lv_iinc (v := (i3h4 + 1)) (lv' := [(3, .int (i3h4 + 1)), (2, .int (i2h4 + 0)), (0, .ref (am 0)), (1, .int p1)]) hx hb dX10_ofClouds_56 hl (k := 1) rfl rfl (by decide) rfl (fun ls hl => ?_)
              refine lv_goto (tgt := 4) hx hb dX10_ofClouds_59 (by decide) ?_
              exact ih4 (i3h4 + 1) (i2h4 + 0)  _ _ _ hF hP hD hS (lv_sub hl [0, 1, 2, 3] rfl)
            · replace hF := (if_neg h8).symm.trans hF
              refine lv_iconst (v := 1) hx hb dX10_ofClouds_49 (by decide) ?_
              refine lv_goto (tgt := 54) hx hb dX10_ofClouds_50 (by decide) ?_
              refine lv_iadd hx hb dX10_ofClouds_54 ?_
              refine lv_istore_n (lv' := [(2, .int (i2h4 + 1)), (3, .int i3h4), (0, .ref (am 0)), (1, .int p1)]) hx hb dX10_ofClouds_55 rfl hl (by decide) rfl (fun ls hl => ?_)
              refine lv_iinc (v := (i3h4 + 1)) (lv' := [(3, .int (i3h4 + 1)), (2, .int (i2h4 + 1)), (0, .ref (am 0)), (1, .int p1)]) hx hb dX10_ofClouds_56 hl (k := 1) rfl rfl (by decide) rfl (fun ls hl => ?_)
              refine lv_goto (tgt := 4) hx hb dX10_ofClouds_59 (by decide) ?_
              exact ih4 (i3h4 + 1) (i2h4 + 1)  _ _ _ hF hP hD hS (lv_sub hl [0, 1, 2, 3] rfl)
          · replace hF := (if_pos h4).symm.trans hF
            refine lv_aload_n hx hb dX10_ofClouds_33 rfl (lv_at hl 2 rfl) ?_
            refine lv_iload_n hx hb dX10_ofClouds_34 rfl (lv_at hl 0 rfl) ?_
            obtain ⟨r9, hc11, hF⟩ := bind_some hF
            try dsimp only at hF
            refine cV_i (As := [.int i3h4]) (rest := [.int i2h4]) hx hb hml hown hw hK hN hA hl.1 hP hD hS k_1698 k_1700 k_39 k_90 k_1701 (met_X10_ownerAt l D cy _ am m0 i3h4 r9 hc11) (fun _ _ _ => trivial) Xok_T (gM (am := am) (r := 0) (m := m0) (f := (m0 0)) (by decide) rfl) rfl ⟨rfl, rfl⟩ (n := 1) (by decide +kernel) rfl ⟨Nat.le_of_ble_eq_true rfl, Nat.le_of_ble_eq_true rfl⟩ ⟨Nat.le_of_ble_eq_true rfl, Nat.le_of_ble_eq_true rfl⟩ (Nat.le_of_ble_eq_true rfl) rfl dX10_ofClouds_35 (fun H locs hP hD hS => ?_)
            refine lv_goto (tgt := 46) hx hb dX10_ofClouds_38 (by decide) ?_
            refine lv_if_lt (tgt := 53) hx hb dX10_ofClouds_46 (by decide) (fun h12 => ?_) (fun h12 => ?_)
            · replace hF := (if_pos h12).symm.trans hF
              refine lv_iconst (v := 0) hx hb dX10_ofClouds_53 (by decide) ?_
              refine lv_iadd hx hb dX10_ofClouds_54 ?_
              refine lv_istore_n (lv' := [(2, .int (i2h4 + 0)), (3, .int i3h4), (0, .ref (am 0)), (1, .int p1)]) hx hb dX10_ofClouds_55 rfl hl (by decide) rfl (fun ls hl => ?_)
              refine lv_iinc (v := (i3h4 + 1)) (lv' := [(3, .int (i3h4 + 1)), (2, .int (i2h4 + 0)), (0, .ref (am 0)), (1, .int p1)]) hx hb dX10_ofClouds_56 hl (k := 1) rfl rfl (by decide) rfl (fun ls hl => ?_)
              refine lv_goto (tgt := 4) hx hb dX10_ofClouds_59 (by decide) ?_
              exact ih4 (i3h4 + 1) (i2h4 + 0)  _ _ _ hF hP hD hS (lv_sub hl [0, 1, 2, 3] rfl)
            · replace hF := (if_neg h12).symm.trans hF
              refine lv_iconst (v := 1) hx hb dX10_ofClouds_49 (by decide) ?_
              refine lv_goto (tgt := 54) hx hb dX10_ofClouds_50 (by decide) ?_
              refine lv_iadd hx hb dX10_ofClouds_54 ?_
              refine lv_istore_n (lv' := [(2, .int (i2h4 + 1)), (3, .int i3h4), (0, .ref (am 0)), (1, .int p1)]) hx hb dX10_ofClouds_55 rfl hl (by decide) rfl (fun ls hl => ?_)
              refine lv_iinc (v := (i3h4 + 1)) (lv' := [(3, .int (i3h4 + 1)), (2, .int (i2h4 + 1)), (0, .ref (am 0)), (1, .int p1)]) hx hb dX10_ofClouds_56 hl (k := 1) rfl rfl (by decide) rfl (fun ls hl => ?_)
              refine lv_goto (tgt := 4) hx hb dX10_ofClouds_59 (by decide) ?_
              exact ih4 (i3h4 + 1) (i2h4 + 1)  _ _ _ hF hP hD hS (lv_sub hl [0, 1, 2, 3] rfl)
        · replace hF := (if_pos h3).symm.trans hF
          refine lv_aload_n hx hb dX10_ofClouds_19 rfl (lv_at hl 2 rfl) ?_
          refine lv_iload_n hx hb dX10_ofClouds_20 rfl (lv_at hl 0 rfl) ?_
          refine lv_iconst (v := 2) hx hb dX10_ofClouds_21 (by decide) ?_
          obtain ⟨r13, hc15, hF⟩ := bind_some hF
          try dsimp only at hF
          refine cV_i (As := [.int i3h4, .int 2]) (rest := [.int i2h4]) hx hb hml hown hw hK hN hA hl.1 hP hD hS k_1702 k_1704 k_40 k_90 k_1705 (met_X10_c l D cy _ am m0 i3h4 2 r13 hc15) (fun _ _ _ => trivial) Xok_T (gM (am := am) (r := 0) (m := m0) (f := (m0 0)) (by decide) rfl) rfl ⟨rfl, rfl⟩ (n := 2) (by decide +kernel) rfl ⟨Nat.le_of_ble_eq_true rfl, Nat.le_of_ble_eq_true rfl⟩ ⟨Nat.le_of_ble_eq_true rfl, Nat.le_of_ble_eq_true rfl⟩ (Nat.le_of_ble_eq_true rfl) rfl dX10_ofClouds_22 (fun H locs hP hD hS => ?_)
          refine lv_goto (tgt := 54) hx hb dX10_ofClouds_25 (by decide) ?_
          refine lv_iadd hx hb dX10_ofClouds_54 ?_
          refine lv_istore_n (lv' := [(2, .int (i2h4 + r13)), (3, .int i3h4), (0, .ref (am 0)), (1, .int p1)]) hx hb dX10_ofClouds_55 rfl hl (by decide) rfl (fun ls hl => ?_)
          refine lv_iinc (v := (i3h4 + 1)) (lv' := [(3, .int (i3h4 + 1)), (2, .int (i2h4 + r13)), (0, .ref (am 0)), (1, .int p1)]) hx hb dX10_ofClouds_56 hl (k := 1) rfl rfl (by decide) rfl (fun ls hl => ?_)
          refine lv_goto (tgt := 4) hx hb dX10_ofClouds_59 (by decide) ?_
          exact ih4 (i3h4 + 1) (i2h4 + r13)  _ _ _ hF hP hD hS (lv_sub hl [0, 1, 2, 3] rfl)
  exact loop4 200 0 0  _ _ _ hF hP hD hS (lv_sub hl [0, 1, 2, 3] rfl)
def D_X10_cloud (m0 : Nat → Nat → Int32) (p1 : Int32) (p2 : Int32) (p3 : Int32) : Option (Int32 × (Nat → Nat → Int32)) := (D_X10_begins m0).bind (fun o2 => (D_X10_comes o2 p1 p2 p3).bind (fun (r4, o5) => if is01 r4 then ((D_X10_ends o5 r4).bind (fun (r8, o9) => some (r8, o9))) else none))
abbrev rm_X10_cloud : Room := { frames := 3, cells := 0, slots := 0, locals := 67 }
set_option maxHeartbeats 4000000 in
set_option maxRecDepth 100000 in
theorem met_X10_cloud (l : Launch) (D : va_G) (cy : Nat → ClassId) (sz : Nat) (am : Nat → Nat) (m0 : Nat → Nat → Int32) (p1 : Int32) (p2 : Int32) (p3 : Int32)  (r : Int32) (t' : Nat → Nat → Int32) (hF : D_X10_cloud m0 p1 p2 p3 = some (r, t')) : MI l yX10_cloud cX10_cloud 4 (some .int) rm_X10_cloud D cy (mW cy am m0) sz (fun _ => True) [.ref (am 0), .int p1, .int p2, .int p3] r (mW cy am t') := by
  refine MI.of (by decide +kernel) (Nat.le_of_ble_eq_true rfl) ?_
  intro p e s m args below meth c A ls Q hAt _ hP hD hA hS hl hret
  obtain ⟨hx, hb, hr, hml, hown, hw, hlk, hK, hN⟩ := hAt
  have hown : s.vm.findClass "CloudDeedsModel" = some m.cls := hown
  have hl : lv_has ls 4 [(0, .ref (am 0)), (1, .int p1), (2, .int p2), (3, .int p3)] := hl
  refine lv_aload_n hx hb dX10_cloud_0 rfl (lv_at hl 0 rfl) ?_
  obtain ⟨o2, hc3, hF⟩ := bind_some hF
  try dsimp only at hF
  refine cV_v (As := []) (rest := []) hx hb hml hown hw hK hN hA hl.1 hP hD hS k_1641 k_1643 k_29 k_90 k_1644 (met_X10_begins l D cy _ am m0 o2 hc3) (fun _ _ _ => trivial) Xok_T (gM (am := am) (r := 0) (m := m0) (f := (m0 0)) (by decide) rfl) rfl ⟨rfl, rfl⟩ (n := 0) (by decide +kernel) rfl ⟨Nat.le_of_ble_eq_true rfl, Nat.le_of_ble_eq_true rfl⟩ ⟨Nat.le_of_ble_eq_true rfl, Nat.le_of_ble_eq_true rfl⟩ (Nat.le_of_ble_eq_true rfl) rfl dX10_cloud_1 (fun H locs hP hD hS => ?_)
  refine lv_aload_n hx hb dX10_cloud_4 rfl (lv_at hl 0 rfl) ?_
  refine lv_aload_n hx hb dX10_cloud_5 rfl (lv_at hl 0 rfl) ?_
  refine lv_iload_n hx hb dX10_cloud_6 rfl (lv_at hl 1 rfl) ?_
  refine lv_iload_n hx hb dX10_cloud_7 rfl (lv_at hl 2 rfl) ?_
  refine lv_iload_n hx hb dX10_cloud_8 rfl (lv_at hl 3 rfl) ?_
  obtain ⟨⟨r4, o5⟩, hc6, hF⟩ := bind_some hF
  try dsimp only at hF
  refine cV_i (As := [.int p1, .int p2, .int p3]) (rest := [.ref (am 0)]) hx hb hml hown hw hK hN hA hl.1 hP hD hS k_1649 k_1651 k_31 k_90 k_1652 (met_X10_comes l D cy _ am o2 p1 p2 p3 r4 o5 hc6) (fun _ _ _ => trivial) Xok_T (gM (am := am) (r := 0) (m := o2) (f := (o2 0)) (by decide) rfl) rfl ⟨rfl, rfl⟩ (n := 3) (by decide +kernel) rfl ⟨Nat.le_of_ble_eq_true rfl, Nat.le_of_ble_eq_true rfl⟩ ⟨Nat.le_of_ble_eq_true rfl, Nat.le_of_ble_eq_true rfl⟩ (Nat.le_of_ble_eq_true rfl) rfl dX10_cloud_9 (fun H locs hP hD hS => ?_)
  obtain ⟨hg7, hF⟩ := ite_some hF
  obtain ⟨⟨r8, o9⟩, hc10, hF⟩ := bind_some hF
  try dsimp only at hF
  refine cV_i (As := [.int r4]) (rest := []) hx hb hml hown hw hK hN hA hl.1 hP hD hS k_1667 k_1669 k_34 k_90 k_1670 (met_X10_ends l D cy _ am o5 r4 (is01_iff.mp hg7) r8 o9 hc10) (fun _ _ _ => trivial) Xok_T (gM (am := am) (r := 0) (m := o5) (f := (o5 0)) (by decide) rfl) rfl ⟨rfl, rfl⟩ (n := 1) (by decide +kernel) rfl ⟨Nat.le_of_ble_eq_true rfl, Nat.le_of_ble_eq_true rfl⟩ ⟨Nat.le_of_ble_eq_true rfl, Nat.le_of_ble_eq_true rfl⟩ (Nat.le_of_ble_eq_true rfl) rfl dX10_cloud_12 (fun H locs hP hD hS => ?_)
  cases hF
  exact hret _ _ _ _ _ _ hP hD hS rfl rfl dX10_cloud_15
def D_X10_vine (m0 : Nat → Nat → Int32) (p1 : Int32) (p2 : Int32) : Option (Int32 × (Nat → Nat → Int32)) := (D_X10_begins m0).bind (fun o2 => (D_X10_belongs o2 p1 p2).bind (fun (r4, o5) => if is01 r4 then ((D_X10_ends o5 r4).bind (fun (r8, o9) => some (r8, o9))) else none))
abbrev rm_X10_vine : Room := { frames := 3, cells := 0, slots := 0, locals := 64 }
set_option maxHeartbeats 4000000 in
set_option maxRecDepth 100000 in
theorem met_X10_vine (l : Launch) (D : va_G) (cy : Nat → ClassId) (sz : Nat) (am : Nat → Nat) (m0 : Nat → Nat → Int32) (p1 : Int32) (p2 : Int32)  (r : Int32) (t' : Nat → Nat → Int32) (hF : D_X10_vine m0 p1 p2 = some (r, t')) : MI l yX10_vine cX10_vine 3 (some .int) rm_X10_vine D cy (mW cy am m0) sz (fun _ => True) [.ref (am 0), .int p1, .int p2] r (mW cy am t') := by
  refine MI.of (by decide +kernel) (Nat.le_of_ble_eq_true rfl) ?_
  intro p e s m args below meth c A ls Q hAt _ hP hD hA hS hl hret
  obtain ⟨hx, hb, hr, hml, hown, hw, hlk, hK, hN⟩ := hAt
  have hown : s.vm.findClass "CloudDeedsModel" = some m.cls := hown
  have hl : lv_has ls 3 [(0, .ref (am 0)), (1, .int p1), (2, .int p2)] := hl
  refine lv_aload_n hx hb dX10_vine_0 rfl (lv_at hl 0 rfl) ?_
  obtain ⟨o2, hc3, hF⟩ := bind_some hF
  try dsimp only at hF
  refine cV_v (As := []) (rest := []) hx hb hml hown hw hK hN hA hl.1 hP hD hS k_1641 k_1643 k_29 k_90 k_1644 (met_X10_begins l D cy _ am m0 o2 hc3) (fun _ _ _ => trivial) Xok_T (gM (am := am) (r := 0) (m := m0) (f := (m0 0)) (by decide) rfl) rfl ⟨rfl, rfl⟩ (n := 0) (by decide +kernel) rfl ⟨Nat.le_of_ble_eq_true rfl, Nat.le_of_ble_eq_true rfl⟩ ⟨Nat.le_of_ble_eq_true rfl, Nat.le_of_ble_eq_true rfl⟩ (Nat.le_of_ble_eq_true rfl) rfl dX10_vine_1 (fun H locs hP hD hS => ?_)
  refine lv_aload_n hx hb dX10_vine_4 rfl (lv_at hl 0 rfl) ?_
  refine lv_aload_n hx hb dX10_vine_5 rfl (lv_at hl 0 rfl) ?_
  refine lv_iload_n hx hb dX10_vine_6 rfl (lv_at hl 1 rfl) ?_
  refine lv_iload_n hx hb dX10_vine_7 rfl (lv_at hl 2 rfl) ?_
  obtain ⟨⟨r4, o5⟩, hc6, hF⟩ := bind_some hF
  try dsimp only at hF
  refine cV_i (As := [.int p1, .int p2]) (rest := [.ref (am 0)]) hx hb hml hown hw hK hN hA hl.1 hP hD hS k_1675 k_1677 k_35 k_90 k_1678 (met_X10_belongs l D cy _ am o2 p1 p2 r4 o5 hc6) (fun _ _ _ => trivial) Xok_T (gM (am := am) (r := 0) (m := o2) (f := (o2 0)) (by decide) rfl) rfl ⟨rfl, rfl⟩ (n := 2) (by decide +kernel) rfl ⟨Nat.le_of_ble_eq_true rfl, Nat.le_of_ble_eq_true rfl⟩ ⟨Nat.le_of_ble_eq_true rfl, Nat.le_of_ble_eq_true rfl⟩ (Nat.le_of_ble_eq_true rfl) rfl dX10_vine_8 (fun H locs hP hD hS => ?_)
  obtain ⟨hg7, hF⟩ := ite_some hF
  obtain ⟨⟨r8, o9⟩, hc10, hF⟩ := bind_some hF
  try dsimp only at hF
  refine cV_i (As := [.int r4]) (rest := []) hx hb hml hown hw hK hN hA hl.1 hP hD hS k_1667 k_1669 k_34 k_90 k_1670 (met_X10_ends l D cy _ am o5 r4 (is01_iff.mp hg7) r8 o9 hc10) (fun _ _ _ => trivial) Xok_T (gM (am := am) (r := 0) (m := o5) (f := (o5 0)) (by decide) rfl) rfl ⟨rfl, rfl⟩ (n := 1) (by decide +kernel) rfl ⟨Nat.le_of_ble_eq_true rfl, Nat.le_of_ble_eq_true rfl⟩ ⟨Nat.le_of_ble_eq_true rfl, Nat.le_of_ble_eq_true rfl⟩ (Nat.le_of_ble_eq_true rfl) rfl dX10_vine_11 (fun H locs hP hD hS => ?_)
  cases hF
  exact hret _ _ _ _ _ _ hP hD hS rfl rfl dX10_vine_14
def D_X10_title (m0 : Nat → Nat → Int32) (p1 : Int32) (p2 : Int32) : Option (Int32 × (Nat → Nat → Int32)) := (D_X10_begins m0).bind (fun o2 => (D_X10_entitles o2 p1 p2).bind (fun (r4, o5) => if is01 r4 then ((D_X10_ends o5 r4).bind (fun (r8, o9) => some (r8, o9))) else none))
abbrev rm_X10_title : Room := { frames := 3, cells := 0, slots := 0, locals := 68 }
set_option maxHeartbeats 4000000 in
set_option maxRecDepth 100000 in
theorem met_X10_title (l : Launch) (D : va_G) (cy : Nat → ClassId) (sz : Nat) (am : Nat → Nat) (m0 : Nat → Nat → Int32) (p1 : Int32) (p2 : Int32)  (r : Int32) (t' : Nat → Nat → Int32) (hF : D_X10_title m0 p1 p2 = some (r, t')) : MI l yX10_title cX10_title 3 (some .int) rm_X10_title D cy (mW cy am m0) sz (fun _ => True) [.ref (am 0), .int p1, .int p2] r (mW cy am t') := by
  refine MI.of (by decide +kernel) (Nat.le_of_ble_eq_true rfl) ?_
  intro p e s m args below meth c A ls Q hAt _ hP hD hA hS hl hret
  obtain ⟨hx, hb, hr, hml, hown, hw, hlk, hK, hN⟩ := hAt
  have hown : s.vm.findClass "CloudDeedsModel" = some m.cls := hown
  have hl : lv_has ls 3 [(0, .ref (am 0)), (1, .int p1), (2, .int p2)] := hl
  refine lv_aload_n hx hb dX10_title_0 rfl (lv_at hl 0 rfl) ?_
  obtain ⟨o2, hc3, hF⟩ := bind_some hF
  try dsimp only at hF
  refine cV_v (As := []) (rest := []) hx hb hml hown hw hK hN hA hl.1 hP hD hS k_1641 k_1643 k_29 k_90 k_1644 (met_X10_begins l D cy _ am m0 o2 hc3) (fun _ _ _ => trivial) Xok_T (gM (am := am) (r := 0) (m := m0) (f := (m0 0)) (by decide) rfl) rfl ⟨rfl, rfl⟩ (n := 0) (by decide +kernel) rfl ⟨Nat.le_of_ble_eq_true rfl, Nat.le_of_ble_eq_true rfl⟩ ⟨Nat.le_of_ble_eq_true rfl, Nat.le_of_ble_eq_true rfl⟩ (Nat.le_of_ble_eq_true rfl) rfl dX10_title_1 (fun H locs hP hD hS => ?_)
  refine lv_aload_n hx hb dX10_title_4 rfl (lv_at hl 0 rfl) ?_
  refine lv_aload_n hx hb dX10_title_5 rfl (lv_at hl 0 rfl) ?_
  refine lv_iload_n hx hb dX10_title_6 rfl (lv_at hl 1 rfl) ?_
  refine lv_iload_n hx hb dX10_title_7 rfl (lv_at hl 2 rfl) ?_
  obtain ⟨⟨r4, o5⟩, hc6, hF⟩ := bind_some hF
  try dsimp only at hF
  refine cV_i (As := [.int p1, .int p2]) (rest := [.ref (am 0)]) hx hb hml hown hw hK hN hA hl.1 hP hD hS k_1687 k_1689 k_37 k_90 k_1690 (met_X10_entitles l D cy _ am o2 p1 p2 r4 o5 hc6) (fun _ _ _ => trivial) Xok_T (gM (am := am) (r := 0) (m := o2) (f := (o2 0)) (by decide) rfl) rfl ⟨rfl, rfl⟩ (n := 2) (by decide +kernel) rfl ⟨Nat.le_of_ble_eq_true rfl, Nat.le_of_ble_eq_true rfl⟩ ⟨Nat.le_of_ble_eq_true rfl, Nat.le_of_ble_eq_true rfl⟩ (Nat.le_of_ble_eq_true rfl) rfl dX10_title_8 (fun H locs hP hD hS => ?_)
  obtain ⟨hg7, hF⟩ := ite_some hF
  obtain ⟨⟨r8, o9⟩, hc10, hF⟩ := bind_some hF
  try dsimp only at hF
  refine cV_i (As := [.int r4]) (rest := []) hx hb hml hown hw hK hN hA hl.1 hP hD hS k_1667 k_1669 k_34 k_90 k_1670 (met_X10_ends l D cy _ am o5 r4 (is01_iff.mp hg7) r8 o9 hc10) (fun _ _ _ => trivial) Xok_T (gM (am := am) (r := 0) (m := o5) (f := (o5 0)) (by decide) rfl) rfl ⟨rfl, rfl⟩ (n := 1) (by decide +kernel) rfl ⟨Nat.le_of_ble_eq_true rfl, Nat.le_of_ble_eq_true rfl⟩ ⟨Nat.le_of_ble_eq_true rfl, Nat.le_of_ble_eq_true rfl⟩ (Nat.le_of_ble_eq_true rfl) rfl dX10_title_11 (fun H locs hP hD hS => ?_)
  cases hF
  exact hret _ _ _ _ _ _ hP hD hS rfl rfl dX10_title_14
def D_X10_sells (m0 : Nat → Nat → Int32) (p1 : Int32) (p2 : Int32) (p3 : Int32) : Option (Int32 × (Nat → Nat → Int32)) := (D_X10_isCloud m0 p1).bind (fun r1 => if r1 = 0 then (some (0, (D_X10_refuses m0 1 2 p1).2)) else (if (D_X10_isOwner p2) = 0 then (some (0, (D_X10_refuses (D_X10_refuses m0 0 2 p1).2 1 2 p2).2)) else (if (D_X10_in p3 0 99) = 0 then (some (0, (D_X10_refuses (D_X10_refuses (D_X10_refuses m0 0 2 p1).2 0 2 p2).2 1 3 p3).2)) else ((D_X10_isHeld (D_X10_refuses (D_X10_refuses (D_X10_refuses m0 0 2 p1).2 0 2 p2).2 0 3 p3).2 p1 p2 p3).bind (fun (r25, o26) => if r25 = 0 then ((D_X10_ownerAt o26 p1).bind (fun r29 => (D_X10_pays o26 p2 p3).bind (fun o33 => (D_X10_pays o33 r29 (-p3)).bind (fun o36 => (D_X10_gets o36 p1 p2).bind (fun o39 => (D_X10_coinsAt o39 r29).bind (fun r41 => some (1, (va_up o39 0 (upd (o39 0) 4 r41))))))))) else (some (0, o26)))))))
abbrev rm_X10_sells : Room := { frames := 3, cells := 0, slots := 0, locals := 66 }
set_option maxHeartbeats 4000000 in
set_option maxRecDepth 100000 in
theorem met_X10_sells (l : Launch) (D : va_G) (cy : Nat → ClassId) (sz : Nat) (am : Nat → Nat) (m0 : Nat → Nat → Int32) (p1 : Int32) (p2 : Int32) (p3 : Int32)  (r : Int32) (t' : Nat → Nat → Int32) (hF : D_X10_sells m0 p1 p2 p3 = some (r, t')) : MI l yX10_sells cX10_sells 5 (some .boolean) rm_X10_sells D cy (mW cy am m0) sz (fun _ => True) [.ref (am 0), .int p1, .int p2, .int p3] r (mW cy am t') := by
  refine MZ.of (by decide +kernel) (Nat.le_of_ble_eq_true rfl) ?_
  intro p e s m args below meth c A ls Q hAt _ hP hD hA hS hl hret
  obtain ⟨hx, hb, hr, hml, hown, hw, hlk, hK, hN⟩ := hAt
  have hown : s.vm.findClass "CloudDeedsModel" = some m.cls := hown
  have hl : lv_has ls 5 [(0, .ref (am 0)), (1, .int p1), (2, .int p2), (3, .int p3)] := hl
  refine lv_aload_n hx hb dX10_sells_0 rfl (lv_at hl 0 rfl) ?_
  refine lv_aload_n hx hb dX10_sells_1 rfl (lv_at hl 0 rfl) ?_
  refine lv_iload_n hx hb dX10_sells_2 rfl (lv_at hl 1 rfl) ?_
  obtain ⟨r1, hc3, hF⟩ := bind_some hF
  try dsimp only at hF
  refine cV_i (As := [.int p1]) (rest := [.ref (am 0)]) hx hb hml hown hw hK hN hA hl.1 hP hD hS k_1691 k_1693 k_38 k_90 k_1694 (met_X10_isCloud l D cy _ am m0 p1 r1 hc3) (fun _ _ _ => trivial) Xok_T (gM (am := am) (r := 0) (m := m0) (f := (m0 0)) (by decide) rfl) rfl ⟨rfl, rfl⟩ (n := 1) (by decide +kernel) rfl ⟨Nat.le_of_ble_eq_true rfl, Nat.le_of_ble_eq_true rfl⟩ ⟨Nat.le_of_ble_eq_true rfl, Nat.le_of_ble_eq_true rfl⟩ (Nat.le_of_ble_eq_true rfl) rfl dX10_sells_3 (fun H locs hP hD hS => ?_)
  refine lv_if_ne (tgt := 13) hx hb dX10_sells_6 (by decide) (fun h4 => ?_) (fun h4 => ?_)
  · replace hF := (if_neg h4).symm.trans hF
    refine lv_iconst (v := 0) hx hb dX10_sells_13 (by decide) ?_
    refine lv_iconst (v := 2) hx hb dX10_sells_14 (by decide) ?_
    refine lv_iload_n hx hb dX10_sells_15 rfl (lv_at hl 1 rfl) ?_
    refine cV_i (As := [.int 0, .int 2, .int p1]) (rest := []) hx hb hml hown hw hK hN hA hl.1 hP hD hS k_1659 k_1661 k_32 k_90 k_1662 (met_X10_refuses l D cy _ am m0 0 2 p1 (Or.inl rfl) 0 (D_X10_refuses m0 0 2 p1).2 (rs_X10_refuses ..)) (fun _ _ _ => trivial) Xok_T (gM (am := am) (r := 0) (m := m0) (f := (m0 0)) (by decide) rfl) rfl ⟨rfl, rfl⟩ (n := 3) (by decide +kernel) rfl ⟨Nat.le_of_ble_eq_true rfl, Nat.le_of_ble_eq_true rfl⟩ ⟨Nat.le_of_ble_eq_true rfl, Nat.le_of_ble_eq_true rfl⟩ (Nat.le_of_ble_eq_true rfl) rfl dX10_sells_16 (fun H locs hP hD hS => ?_)
    refine lv_if_ne (tgt := 77) hx hb dX10_sells_19 (by decide) (fun h => absurd h (by decide)) (fun _ => ?_)
    refine lv_aload_n hx hb dX10_sells_22 rfl (lv_at hl 0 rfl) ?_
    refine lv_iload_n hx hb dX10_sells_23 rfl (lv_at hl 2 rfl) ?_
    refine cS_i (As := [.int p2]) (rest := [.ref (am 0)]) hx hb hml hown hw hK hN hA hl.1 hP hD hS k_1695 k_1696 k_90 k_1697 (met_X10_isOwner l D cy _ (mW cy am (D_X10_refuses m0 0 2 p1).2) p2 (D_X10_isOwner p2) rfl) (fun _ _ _ => trivial) Xok_T ⟨rfl, rfl⟩ (n := 1) (by decide +kernel) rfl ⟨Nat.le_of_ble_eq_true rfl, Nat.le_of_ble_eq_true rfl⟩ ⟨Nat.le_of_ble_eq_true rfl, Nat.le_of_ble_eq_true rfl⟩ (Nat.le_of_ble_eq_true rfl) rfl dX10_sells_24 (fun H locs hP hD hS => ?_)
    refine lv_if_ne (tgt := 34) hx hb dX10_sells_27 (by decide) (fun h12 => ?_) (fun h12 => ?_)
    · replace hF := (if_neg h12).symm.trans hF
      refine lv_iconst (v := 0) hx hb dX10_sells_34 (by decide) ?_
      refine lv_iconst (v := 2) hx hb dX10_sells_35 (by decide) ?_
      refine lv_iload_n hx hb dX10_sells_36 rfl (lv_at hl 2 rfl) ?_
      refine cV_i (As := [.int 0, .int 2, .int p2]) (rest := []) hx hb hml hown hw hK hN hA hl.1 hP hD hS k_1659 k_1661 k_32 k_90 k_1662 (met_X10_refuses l D cy _ am (D_X10_refuses m0 0 2 p1).2 0 2 p2 (Or.inl rfl) 0 (D_X10_refuses (D_X10_refuses m0 0 2 p1).2 0 2 p2).2 (rs_X10_refuses ..)) (fun _ _ _ => trivial) Xok_T (gM (am := am) (r := 0) (m := (D_X10_refuses m0 0 2 p1).2) (f := ((D_X10_refuses m0 0 2 p1).2 0)) (by decide) rfl) rfl ⟨rfl, rfl⟩ (n := 3) (by decide +kernel) rfl ⟨Nat.le_of_ble_eq_true rfl, Nat.le_of_ble_eq_true rfl⟩ ⟨Nat.le_of_ble_eq_true rfl, Nat.le_of_ble_eq_true rfl⟩ (Nat.le_of_ble_eq_true rfl) rfl dX10_sells_37 (fun H locs hP hD hS => ?_)
      refine lv_if_ne (tgt := 77) hx hb dX10_sells_40 (by decide) (fun h => absurd h (by decide)) (fun _ => ?_)
      refine lv_aload_n hx hb dX10_sells_43 rfl (lv_at hl 0 rfl) ?_
      refine lv_iload_n hx hb dX10_sells_44 rfl (lv_at hl 3 rfl) ?_
      refine lv_iconst (v := 0) hx hb dX10_sells_45 (by decide) ?_
      refine lv_bipush (v := 99) hx hb dX10_sells_46 (by decide) ?_
      refine cS_i (As := [.int p3, .int 0, .int 99]) (rest := [.ref (am 0)]) hx hb hml hown hw hK hN hA hl.1 hP hD hS k_1656 k_1657 k_90 k_1658 (met_X10_in l D cy _ (mW cy am (D_X10_refuses (D_X10_refuses m0 0 2 p1).2 0 2 p2).2) p3 0 99 (D_X10_in p3 0 99) rfl) (fun _ _ _ => trivial) Xok_T ⟨rfl, rfl⟩ (n := 3) (by decide +kernel) rfl ⟨Nat.le_of_ble_eq_true rfl, Nat.le_of_ble_eq_true rfl⟩ ⟨Nat.le_of_ble_eq_true rfl, Nat.le_of_ble_eq_true rfl⟩ (Nat.le_of_ble_eq_true rfl) rfl dX10_sells_48 (fun H locs hP hD hS => ?_)
      refine lv_if_ne (tgt := 58) hx hb dX10_sells_51 (by decide) (fun h20 => ?_) (fun h20 => ?_)
      · replace hF := (if_neg h20).symm.trans hF
        refine lv_iconst (v := 0) hx hb dX10_sells_58 (by decide) ?_
        refine lv_iconst (v := 3) hx hb dX10_sells_59 (by decide) ?_
        refine lv_iload_n hx hb dX10_sells_60 rfl (lv_at hl 3 rfl) ?_
        refine cV_i (As := [.int 0, .int 3, .int p3]) (rest := []) hx hb hml hown hw hK hN hA hl.1 hP hD hS k_1659 k_1661 k_32 k_90 k_1662 (met_X10_refuses l D cy _ am (D_X10_refuses (D_X10_refuses m0 0 2 p1).2 0 2 p2).2 0 3 p3 (Or.inl rfl) 0 (D_X10_refuses (D_X10_refuses (D_X10_refuses m0 0 2 p1).2 0 2 p2).2 0 3 p3).2 (rs_X10_refuses ..)) (fun _ _ _ => trivial) Xok_T (gM (am := am) (r := 0) (m := (D_X10_refuses (D_X10_refuses m0 0 2 p1).2 0 2 p2).2) (f := ((D_X10_refuses (D_X10_refuses m0 0 2 p1).2 0 2 p2).2 0)) (by decide) rfl) rfl ⟨rfl, rfl⟩ (n := 3) (by decide +kernel) rfl ⟨Nat.le_of_ble_eq_true rfl, Nat.le_of_ble_eq_true rfl⟩ ⟨Nat.le_of_ble_eq_true rfl, Nat.le_of_ble_eq_true rfl⟩ (Nat.le_of_ble_eq_true rfl) rfl dX10_sells_61 (fun H locs hP hD hS => ?_)
        refine lv_if_ne (tgt := 77) hx hb dX10_sells_64 (by decide) (fun h => absurd h (by decide)) (fun _ => ?_)
        refine lv_aload_n hx hb dX10_sells_67 rfl (lv_at hl 0 rfl) ?_
        refine lv_iload_n hx hb dX10_sells_68 rfl (lv_at hl 1 rfl) ?_
        refine lv_iload_n hx hb dX10_sells_69 rfl (lv_at hl 2 rfl) ?_
        refine lv_iload_n hx hb dX10_sells_70 rfl (lv_at hl 3 rfl) ?_
        obtain ⟨⟨r25, o26⟩, hc27, hF⟩ := bind_some hF
        try dsimp only at hF
        refine cV_i (As := [.int p1, .int p2, .int p3]) (rest := []) hx hb hml hown hw hK hN hA hl.1 hP hD hS k_1726 k_1728 k_45 k_90 k_1729 (met_X10_isHeld l D cy _ am (D_X10_refuses (D_X10_refuses (D_X10_refuses m0 0 2 p1).2 0 2 p2).2 0 3 p3).2 p1 p2 p3 r25 o26 hc27) (fun _ _ _ => trivial) Xok_T (gM (am := am) (r := 0) (m := (D_X10_refuses (D_X10_refuses (D_X10_refuses m0 0 2 p1).2 0 2 p2).2 0 3 p3).2) (f := ((D_X10_refuses (D_X10_refuses (D_X10_refuses m0 0 2 p1).2 0 2 p2).2 0 3 p3).2 0)) (by decide) rfl) rfl ⟨rfl, rfl⟩ (n := 3) (by decide +kernel) rfl ⟨Nat.le_of_ble_eq_true rfl, Nat.le_of_ble_eq_true rfl⟩ ⟨Nat.le_of_ble_eq_true rfl, Nat.le_of_ble_eq_true rfl⟩ (Nat.le_of_ble_eq_true rfl) rfl dX10_sells_71 (fun H locs hP hD hS => ?_)
        refine lv_if_eq (tgt := 79) hx hb dX10_sells_74 (by decide) (fun h28 => ?_) (fun h28 => ?_)
        · replace hF := (if_pos h28).symm.trans hF
          refine lv_aload_n hx hb dX10_sells_79 rfl (lv_at hl 0 rfl) ?_
          refine lv_iload_n hx hb dX10_sells_80 rfl (lv_at hl 1 rfl) ?_
          obtain ⟨r29, hc31, hF⟩ := bind_some hF
          try dsimp only at hF
          refine cV_i (As := [.int p1]) (rest := []) hx hb hml hown hw hK hN hA hl.1 hP hD hS k_1698 k_1700 k_39 k_90 k_1701 (met_X10_ownerAt l D cy _ am o26 p1 r29 hc31) (fun _ _ _ => trivial) Xok_T (gM (am := am) (r := 0) (m := o26) (f := (o26 0)) (by decide) rfl) rfl ⟨rfl, rfl⟩ (n := 1) (by decide +kernel) rfl ⟨Nat.le_of_ble_eq_true rfl, Nat.le_of_ble_eq_true rfl⟩ ⟨Nat.le_of_ble_eq_true rfl, Nat.le_of_ble_eq_true rfl⟩ (Nat.le_of_ble_eq_true rfl) rfl dX10_sells_81 (fun H locs hP hD hS => ?_)
          refine lv_istore (lv' := [(4, .int r29), (0, .ref (am 0)), (1, .int p1), (2, .int p2), (3, .int p3)]) hx hb dX10_sells_84 hl (by decide) rfl (fun ls hl => ?_)
          refine lv_aload_n hx hb dX10_sells_86 rfl (lv_at hl 1 rfl) ?_
          refine lv_iload_n hx hb dX10_sells_87 rfl (lv_at hl 3 rfl) ?_
          refine lv_iload_n hx hb dX10_sells_88 rfl (lv_at hl 4 rfl) ?_
          obtain ⟨o33, hc34, hF⟩ := bind_some hF
          try dsimp only at hF
          refine cV_v (As := [.int p2, .int p3]) (rest := []) hx hb hml hown hw hK hN hA hl.1 hP hD hS k_1710 k_1712 k_42 k_90 k_1713 (met_X10_pays l D cy _ am o26 p2 p3 o33 hc34) (fun _ _ _ => trivial) Xok_T (gM (am := am) (r := 0) (m := o26) (f := (o26 0)) (by decide) rfl) rfl ⟨rfl, rfl⟩ (n := 2) (by decide +kernel) rfl ⟨Nat.le_of_ble_eq_true rfl, Nat.le_of_ble_eq_true rfl⟩ ⟨Nat.le_of_ble_eq_true rfl, Nat.le_of_ble_eq_true rfl⟩ (Nat.le_of_ble_eq_true rfl) rfl dX10_sells_89 (fun H locs hP hD hS => ?_)
          refine lv_aload_n hx hb dX10_sells_92 rfl (lv_at hl 1 rfl) ?_
          refine lv_iload hx hb dX10_sells_93 (lv_at hl 0 rfl) ?_
          refine lv_iload_n hx hb dX10_sells_95 rfl (lv_at hl 4 rfl) ?_
          refine lv_ineg hx hb dX10_sells_96 ?_
          obtain ⟨o36, hc37, hF⟩ := bind_some hF
          try dsimp only at hF
          refine cV_v (As := [.int r29, .int (-p3)]) (rest := []) hx hb hml hown hw hK hN hA hl.1 hP hD hS k_1710 k_1712 k_42 k_90 k_1713 (met_X10_pays l D cy _ am o33 r29 (-p3) o36 hc37) (fun _ _ _ => trivial) Xok_T (gM (am := am) (r := 0) (m := o33) (f := (o33 0)) (by decide) rfl) rfl ⟨rfl, rfl⟩ (n := 2) (by decide +kernel) rfl ⟨Nat.le_of_ble_eq_true rfl, Nat.le_of_ble_eq_true rfl⟩ ⟨Nat.le_of_ble_eq_true rfl, Nat.le_of_ble_eq_true rfl⟩ (Nat.le_of_ble_eq_true rfl) rfl dX10_sells_97 (fun H locs hP hD hS => ?_)
          refine lv_aload_n hx hb dX10_sells_100 rfl (lv_at hl 1 rfl) ?_
          refine lv_iload_n hx hb dX10_sells_101 rfl (lv_at hl 2 rfl) ?_
          refine lv_iload_n hx hb dX10_sells_102 rfl (lv_at hl 3 rfl) ?_
          obtain ⟨o39, hc40, hF⟩ := bind_some hF
          try dsimp only at hF
          refine cV_v (As := [.int p1, .int p2]) (rest := []) hx hb hml hown hw hK hN hA hl.1 hP hD hS k_1714 k_1716 k_43 k_90 k_1717 (met_X10_gets l D cy _ am o36 p1 p2 o39 hc40) (fun _ _ _ => trivial) Xok_T (gM (am := am) (r := 0) (m := o36) (f := (o36 0)) (by decide) rfl) rfl ⟨rfl, rfl⟩ (n := 2) (by decide +kernel) rfl ⟨Nat.le_of_ble_eq_true rfl, Nat.le_of_ble_eq_true rfl⟩ ⟨Nat.le_of_ble_eq_true rfl, Nat.le_of_ble_eq_true rfl⟩ (Nat.le_of_ble_eq_true rfl) rfl dX10_sells_103 (fun H locs hP hD hS => ?_)
          refine lv_aload_n hx hb dX10_sells_106 rfl (lv_at hl 1 rfl) ?_
          refine lv_aload_n hx hb dX10_sells_107 rfl (lv_at hl 1 rfl) ?_
          refine lv_iload hx hb dX10_sells_108 (lv_at hl 0 rfl) ?_
          obtain ⟨r41, hc43, hF⟩ := bind_some hF
          try dsimp only at hF
          refine cV_i (As := [.int r29]) (rest := [.ref (am 0)]) hx hb hml hown hw hK hN hA hl.1 hP hD hS k_1706 k_1708 k_41 k_90 k_1709 (met_X10_coinsAt l D cy _ am o39 r29 r41 hc43) (fun _ _ _ => trivial) Xok_T (gM (am := am) (r := 0) (m := o39) (f := (o39 0)) (by decide) rfl) rfl ⟨rfl, rfl⟩ (n := 1) (by decide +kernel) rfl ⟨Nat.le_of_ble_eq_true rfl, Nat.le_of_ble_eq_true rfl⟩ ⟨Nat.le_of_ble_eq_true rfl, Nat.le_of_ble_eq_true rfl⟩ (Nat.le_of_ble_eq_true rfl) rfl dX10_sells_110 (fun H locs hP hD hS => ?_)
          refine put' (ci := 12) (fs := mF am (o39 0)) (v := .int r41) (ty := .int) (ws' := (mW cy am (va_up o39 0 (upd (o39 0) 4 r41)))) hx hb hw inWX10 tyX10 tyX10_ok nmX10 hown hK hP hD hS (gM (am := am) (r := 0) (m := o39) (f := (o39 0)) (by decide) rfl) rfl 4 (by decide) k_1574 rfl rfl (by decide +kernel) rfl rfl (Nat.le_of_ble_eq_true rfl) dX10_sells_113 (sM (am := am) (r := 0) (m := o39) (g := (upd (o39 0) 4 r41)) (by decide)) (fun H locs hP hD hS => ?_)
          refine lv_iconst (v := 1) hx hb dX10_sells_116 (by decide) ?_
          cases hF
          exact hret _ _ _ _ _ _ hP hD hS rfl rfl rfl dX10_sells_117
        · replace hF := (if_neg h28).symm.trans hF
          refine lv_iconst (v := 0) hx hb dX10_sells_77 (by decide) ?_
          cases hF
          exact hret _ _ _ _ _ _ hP hD hS rfl rfl rfl dX10_sells_78
      · replace hF := (if_pos h20).symm.trans hF
        refine lv_iconst (v := 1) hx hb dX10_sells_54 (by decide) ?_
        refine lv_goto (tgt := 59) hx hb dX10_sells_55 (by decide) ?_
        refine lv_iconst (v := 3) hx hb dX10_sells_59 (by decide) ?_
        refine lv_iload_n hx hb dX10_sells_60 rfl (lv_at hl 3 rfl) ?_
        refine cV_i (As := [.int 1, .int 3, .int p3]) (rest := []) hx hb hml hown hw hK hN hA hl.1 hP hD hS k_1659 k_1661 k_32 k_90 k_1662 (met_X10_refuses l D cy _ am (D_X10_refuses (D_X10_refuses m0 0 2 p1).2 0 2 p2).2 1 3 p3 (Or.inr rfl) 1 (D_X10_refuses (D_X10_refuses (D_X10_refuses m0 0 2 p1).2 0 2 p2).2 1 3 p3).2 (rs_X10_refuses ..)) (fun _ _ _ => trivial) Xok_T (gM (am := am) (r := 0) (m := (D_X10_refuses (D_X10_refuses m0 0 2 p1).2 0 2 p2).2) (f := ((D_X10_refuses (D_X10_refuses m0 0 2 p1).2 0 2 p2).2 0)) (by decide) rfl) rfl ⟨rfl, rfl⟩ (n := 3) (by decide +kernel) rfl ⟨Nat.le_of_ble_eq_true rfl, Nat.le_of_ble_eq_true rfl⟩ ⟨Nat.le_of_ble_eq_true rfl, Nat.le_of_ble_eq_true rfl⟩ (Nat.le_of_ble_eq_true rfl) rfl dX10_sells_61 (fun H locs hP hD hS => ?_)
        refine lv_if_ne (tgt := 77) hx hb dX10_sells_64 (by decide) (fun _ => ?_) (fun h => absurd h (by decide))
        refine lv_iconst (v := 0) hx hb dX10_sells_77 (by decide) ?_
        cases hF
        exact hret _ _ _ _ _ _ hP hD hS rfl rfl rfl dX10_sells_78
    · replace hF := (if_pos h12).symm.trans hF
      refine lv_iconst (v := 1) hx hb dX10_sells_30 (by decide) ?_
      refine lv_goto (tgt := 35) hx hb dX10_sells_31 (by decide) ?_
      refine lv_iconst (v := 2) hx hb dX10_sells_35 (by decide) ?_
      refine lv_iload_n hx hb dX10_sells_36 rfl (lv_at hl 2 rfl) ?_
      refine cV_i (As := [.int 1, .int 2, .int p2]) (rest := []) hx hb hml hown hw hK hN hA hl.1 hP hD hS k_1659 k_1661 k_32 k_90 k_1662 (met_X10_refuses l D cy _ am (D_X10_refuses m0 0 2 p1).2 1 2 p2 (Or.inr rfl) 1 (D_X10_refuses (D_X10_refuses m0 0 2 p1).2 1 2 p2).2 (rs_X10_refuses ..)) (fun _ _ _ => trivial) Xok_T (gM (am := am) (r := 0) (m := (D_X10_refuses m0 0 2 p1).2) (f := ((D_X10_refuses m0 0 2 p1).2 0)) (by decide) rfl) rfl ⟨rfl, rfl⟩ (n := 3) (by decide +kernel) rfl ⟨Nat.le_of_ble_eq_true rfl, Nat.le_of_ble_eq_true rfl⟩ ⟨Nat.le_of_ble_eq_true rfl, Nat.le_of_ble_eq_true rfl⟩ (Nat.le_of_ble_eq_true rfl) rfl dX10_sells_37 (fun H locs hP hD hS => ?_)
      refine lv_if_ne (tgt := 77) hx hb dX10_sells_40 (by decide) (fun _ => ?_) (fun h => absurd h (by decide))
      refine lv_iconst (v := 0) hx hb dX10_sells_77 (by decide) ?_
      cases hF
      exact hret _ _ _ _ _ _ hP hD hS rfl rfl rfl dX10_sells_78
  · replace hF := (if_pos h4).symm.trans hF
    refine lv_iconst (v := 1) hx hb dX10_sells_9 (by decide) ?_
    refine lv_goto (tgt := 14) hx hb dX10_sells_10 (by decide) ?_
    refine lv_iconst (v := 2) hx hb dX10_sells_14 (by decide) ?_
    refine lv_iload_n hx hb dX10_sells_15 rfl (lv_at hl 1 rfl) ?_
    refine cV_i (As := [.int 1, .int 2, .int p1]) (rest := []) hx hb hml hown hw hK hN hA hl.1 hP hD hS k_1659 k_1661 k_32 k_90 k_1662 (met_X10_refuses l D cy _ am m0 1 2 p1 (Or.inr rfl) 1 (D_X10_refuses m0 1 2 p1).2 (rs_X10_refuses ..)) (fun _ _ _ => trivial) Xok_T (gM (am := am) (r := 0) (m := m0) (f := (m0 0)) (by decide) rfl) rfl ⟨rfl, rfl⟩ (n := 3) (by decide +kernel) rfl ⟨Nat.le_of_ble_eq_true rfl, Nat.le_of_ble_eq_true rfl⟩ ⟨Nat.le_of_ble_eq_true rfl, Nat.le_of_ble_eq_true rfl⟩ (Nat.le_of_ble_eq_true rfl) rfl dX10_sells_16 (fun H locs hP hD hS => ?_)
    refine lv_if_ne (tgt := 77) hx hb dX10_sells_19 (by decide) (fun _ => ?_) (fun h => absurd h (by decide))
    refine lv_iconst (v := 0) hx hb dX10_sells_77 (by decide) ?_
    cases hF
    exact hret _ _ _ _ _ _ hP hD hS rfl rfl rfl dX10_sells_78
def D_X10_pledges (m0 : Nat → Nat → Int32) (p1 : Int32) (p2 : Int32) : Option (Int32 × (Nat → Nat → Int32)) := (D_X10_isCloud m0 p1).bind (fun r1 => if r1 = 0 then (some (0, (D_X10_refuses m0 1 2 p1).2)) else (if (D_X10_isOwner p2) = 0 then (some (0, (D_X10_refuses (D_X10_refuses m0 0 2 p1).2 1 2 p2).2)) else ((D_X10_c (D_X10_refuses (D_X10_refuses m0 0 2 p1).2 0 2 p2).2 p1 2).bind (fun r17 => (D_X10_isHeld (D_X10_refuses (D_X10_refuses m0 0 2 p1).2 0 2 p2).2 p1 p2 (2 * r17)).bind (fun (r20, o21) => if r20 = 0 then ((D_X10_c o21 p1 2).bind (fun r24 => (D_X10_pays (va_up o21 0 (upd (o21 0) 4 (2 * r24))) p2 (2 * r24)).bind (fun o28 => (D_X10_ownerAt o28 p1).bind (fun r30 => (D_X10_pays o28 r30 (-((o28 0) 4))).bind (fun o34 => (D_X10_set o34 p1 5 (p2 + 1)).bind (fun o37 => (D_X10_c o37 p1 2).bind (fun r39 => (D_X10_set o37 p1 6 r39).bind (fun o43 => some (1, o43))))))))) else (some (0, o21)))))))
abbrev rm_X10_pledges : Room := { frames := 3, cells := 0, slots := 0, locals := 66 }
set_option maxHeartbeats 4000000 in
set_option maxRecDepth 100000 in
theorem met_X10_pledges (l : Launch) (D : va_G) (cy : Nat → ClassId) (sz : Nat) (am : Nat → Nat) (m0 : Nat → Nat → Int32) (p1 : Int32) (p2 : Int32)  (r : Int32) (t' : Nat → Nat → Int32) (hF : D_X10_pledges m0 p1 p2 = some (r, t')) : MI l yX10_pledges cX10_pledges 3 (some .boolean) rm_X10_pledges D cy (mW cy am m0) sz (fun _ => True) [.ref (am 0), .int p1, .int p2] r (mW cy am t') := by
  refine MZ.of (by decide +kernel) (Nat.le_of_ble_eq_true rfl) ?_
  intro p e s m args below meth c A ls Q hAt _ hP hD hA hS hl hret
  obtain ⟨hx, hb, hr, hml, hown, hw, hlk, hK, hN⟩ := hAt
  have hown : s.vm.findClass "CloudDeedsModel" = some m.cls := hown
  have hl : lv_has ls 3 [(0, .ref (am 0)), (1, .int p1), (2, .int p2)] := hl
  refine lv_aload_n hx hb dX10_pledges_0 rfl (lv_at hl 0 rfl) ?_
  refine lv_aload_n hx hb dX10_pledges_1 rfl (lv_at hl 0 rfl) ?_
  refine lv_iload_n hx hb dX10_pledges_2 rfl (lv_at hl 1 rfl) ?_
  obtain ⟨r1, hc3, hF⟩ := bind_some hF
  try dsimp only at hF
  refine cV_i (As := [.int p1]) (rest := [.ref (am 0)]) hx hb hml hown hw hK hN hA hl.1 hP hD hS k_1691 k_1693 k_38 k_90 k_1694 (met_X10_isCloud l D cy _ am m0 p1 r1 hc3) (fun _ _ _ => trivial) Xok_T (gM (am := am) (r := 0) (m := m0) (f := (m0 0)) (by decide) rfl) rfl ⟨rfl, rfl⟩ (n := 1) (by decide +kernel) rfl ⟨Nat.le_of_ble_eq_true rfl, Nat.le_of_ble_eq_true rfl⟩ ⟨Nat.le_of_ble_eq_true rfl, Nat.le_of_ble_eq_true rfl⟩ (Nat.le_of_ble_eq_true rfl) rfl dX10_pledges_3 (fun H locs hP hD hS => ?_)
  refine lv_if_ne (tgt := 13) hx hb dX10_pledges_6 (by decide) (fun h4 => ?_) (fun h4 => ?_)
  · replace hF := (if_neg h4).symm.trans hF
    refine lv_iconst (v := 0) hx hb dX10_pledges_13 (by decide) ?_
    refine lv_iconst (v := 2) hx hb dX10_pledges_14 (by decide) ?_
    refine lv_iload_n hx hb dX10_pledges_15 rfl (lv_at hl 1 rfl) ?_
    refine cV_i (As := [.int 0, .int 2, .int p1]) (rest := []) hx hb hml hown hw hK hN hA hl.1 hP hD hS k_1659 k_1661 k_32 k_90 k_1662 (met_X10_refuses l D cy _ am m0 0 2 p1 (Or.inl rfl) 0 (D_X10_refuses m0 0 2 p1).2 (rs_X10_refuses ..)) (fun _ _ _ => trivial) Xok_T (gM (am := am) (r := 0) (m := m0) (f := (m0 0)) (by decide) rfl) rfl ⟨rfl, rfl⟩ (n := 3) (by decide +kernel) rfl ⟨Nat.le_of_ble_eq_true rfl, Nat.le_of_ble_eq_true rfl⟩ ⟨Nat.le_of_ble_eq_true rfl, Nat.le_of_ble_eq_true rfl⟩ (Nat.le_of_ble_eq_true rfl) rfl dX10_pledges_16 (fun H locs hP hD hS => ?_)
    refine lv_if_ne (tgt := 60) hx hb dX10_pledges_19 (by decide) (fun h => absurd h (by decide)) (fun _ => ?_)
    refine lv_aload_n hx hb dX10_pledges_22 rfl (lv_at hl 0 rfl) ?_
    refine lv_iload_n hx hb dX10_pledges_23 rfl (lv_at hl 2 rfl) ?_
    refine cS_i (As := [.int p2]) (rest := [.ref (am 0)]) hx hb hml hown hw hK hN hA hl.1 hP hD hS k_1695 k_1696 k_90 k_1697 (met_X10_isOwner l D cy _ (mW cy am (D_X10_refuses m0 0 2 p1).2) p2 (D_X10_isOwner p2) rfl) (fun _ _ _ => trivial) Xok_T ⟨rfl, rfl⟩ (n := 1) (by decide +kernel) rfl ⟨Nat.le_of_ble_eq_true rfl, Nat.le_of_ble_eq_true rfl⟩ ⟨Nat.le_of_ble_eq_true rfl, Nat.le_of_ble_eq_true rfl⟩ (Nat.le_of_ble_eq_true rfl) rfl dX10_pledges_24 (fun H locs hP hD hS => ?_)
    refine lv_if_ne (tgt := 34) hx hb dX10_pledges_27 (by decide) (fun h12 => ?_) (fun h12 => ?_)
    · replace hF := (if_neg h12).symm.trans hF
      refine lv_iconst (v := 0) hx hb dX10_pledges_34 (by decide) ?_
      refine lv_iconst (v := 2) hx hb dX10_pledges_35 (by decide) ?_
      refine lv_iload_n hx hb dX10_pledges_36 rfl (lv_at hl 2 rfl) ?_
      refine cV_i (As := [.int 0, .int 2, .int p2]) (rest := []) hx hb hml hown hw hK hN hA hl.1 hP hD hS k_1659 k_1661 k_32 k_90 k_1662 (met_X10_refuses l D cy _ am (D_X10_refuses m0 0 2 p1).2 0 2 p2 (Or.inl rfl) 0 (D_X10_refuses (D_X10_refuses m0 0 2 p1).2 0 2 p2).2 (rs_X10_refuses ..)) (fun _ _ _ => trivial) Xok_T (gM (am := am) (r := 0) (m := (D_X10_refuses m0 0 2 p1).2) (f := ((D_X10_refuses m0 0 2 p1).2 0)) (by decide) rfl) rfl ⟨rfl, rfl⟩ (n := 3) (by decide +kernel) rfl ⟨Nat.le_of_ble_eq_true rfl, Nat.le_of_ble_eq_true rfl⟩ ⟨Nat.le_of_ble_eq_true rfl, Nat.le_of_ble_eq_true rfl⟩ (Nat.le_of_ble_eq_true rfl) rfl dX10_pledges_37 (fun H locs hP hD hS => ?_)
      refine lv_if_ne (tgt := 60) hx hb dX10_pledges_40 (by decide) (fun h => absurd h (by decide)) (fun _ => ?_)
      refine lv_aload_n hx hb dX10_pledges_43 rfl (lv_at hl 0 rfl) ?_
      refine lv_iload_n hx hb dX10_pledges_44 rfl (lv_at hl 1 rfl) ?_
      refine lv_iload_n hx hb dX10_pledges_45 rfl (lv_at hl 2 rfl) ?_
      refine lv_iconst (v := 2) hx hb dX10_pledges_46 (by decide) ?_
      refine lv_aload_n hx hb dX10_pledges_47 rfl (lv_at hl 0 rfl) ?_
      refine lv_iload_n hx hb dX10_pledges_48 rfl (lv_at hl 1 rfl) ?_
      refine lv_iconst (v := 2) hx hb dX10_pledges_49 (by decide) ?_
      obtain ⟨r17, hc19, hF⟩ := bind_some hF
      try dsimp only at hF
      refine cV_i (As := [.int p1, .int 2]) (rest := [.int 2, .int p2, .int p1, .ref (am 0)]) hx hb hml hown hw hK hN hA hl.1 hP hD hS k_1702 k_1704 k_40 k_90 k_1705 (met_X10_c l D cy _ am (D_X10_refuses (D_X10_refuses m0 0 2 p1).2 0 2 p2).2 p1 2 r17 hc19) (fun _ _ _ => trivial) Xok_T (gM (am := am) (r := 0) (m := (D_X10_refuses (D_X10_refuses m0 0 2 p1).2 0 2 p2).2) (f := ((D_X10_refuses (D_X10_refuses m0 0 2 p1).2 0 2 p2).2 0)) (by decide) rfl) rfl ⟨rfl, rfl⟩ (n := 2) (by decide +kernel) rfl ⟨Nat.le_of_ble_eq_true rfl, Nat.le_of_ble_eq_true rfl⟩ ⟨Nat.le_of_ble_eq_true rfl, Nat.le_of_ble_eq_true rfl⟩ (Nat.le_of_ble_eq_true rfl) rfl dX10_pledges_50 (fun H locs hP hD hS => ?_)
      refine lv_imul hx hb dX10_pledges_53 ?_
      obtain ⟨⟨r20, o21⟩, hc22, hF⟩ := bind_some hF
      try dsimp only at hF
      refine cV_i (As := [.int p1, .int p2, .int (2 * r17)]) (rest := []) hx hb hml hown hw hK hN hA hl.1 hP hD hS k_1726 k_1728 k_45 k_90 k_1729 (met_X10_isHeld l D cy _ am (D_X10_refuses (D_X10_refuses m0 0 2 p1).2 0 2 p2).2 p1 p2 (2 * r17) r20 o21 hc22) (fun _ _ _ => trivial) Xok_T (gM (am := am) (r := 0) (m := (D_X10_refuses (D_X10_refuses m0 0 2 p1).2 0 2 p2).2) (f := ((D_X10_refuses (D_X10_refuses m0 0 2 p1).2 0 2 p2).2 0)) (by decide) rfl) rfl ⟨rfl, rfl⟩ (n := 3) (by decide +kernel) rfl ⟨Nat.le_of_ble_eq_true rfl, Nat.le_of_ble_eq_true rfl⟩ ⟨Nat.le_of_ble_eq_true rfl, Nat.le_of_ble_eq_true rfl⟩ (Nat.le_of_ble_eq_true rfl) rfl dX10_pledges_54 (fun H locs hP hD hS => ?_)
      refine lv_if_eq (tgt := 62) hx hb dX10_pledges_57 (by decide) (fun h23 => ?_) (fun h23 => ?_)
      · replace hF := (if_pos h23).symm.trans hF
        refine lv_aload_n hx hb dX10_pledges_62 rfl (lv_at hl 0 rfl) ?_
        refine lv_iconst (v := 2) hx hb dX10_pledges_63 (by decide) ?_
        refine lv_aload_n hx hb dX10_pledges_64 rfl (lv_at hl 0 rfl) ?_
        refine lv_iload_n hx hb dX10_pledges_65 rfl (lv_at hl 1 rfl) ?_
        refine lv_iconst (v := 2) hx hb dX10_pledges_66 (by decide) ?_
        obtain ⟨r24, hc26, hF⟩ := bind_some hF
        try dsimp only at hF
        refine cV_i (As := [.int p1, .int 2]) (rest := [.int 2, .ref (am 0)]) hx hb hml hown hw hK hN hA hl.1 hP hD hS k_1702 k_1704 k_40 k_90 k_1705 (met_X10_c l D cy _ am o21 p1 2 r24 hc26) (fun _ _ _ => trivial) Xok_T (gM (am := am) (r := 0) (m := o21) (f := (o21 0)) (by decide) rfl) rfl ⟨rfl, rfl⟩ (n := 2) (by decide +kernel) rfl ⟨Nat.le_of_ble_eq_true rfl, Nat.le_of_ble_eq_true rfl⟩ ⟨Nat.le_of_ble_eq_true rfl, Nat.le_of_ble_eq_true rfl⟩ (Nat.le_of_ble_eq_true rfl) rfl dX10_pledges_67 (fun H locs hP hD hS => ?_)
        refine lv_imul hx hb dX10_pledges_70 ?_
        refine put' (ci := 12) (fs := mF am (o21 0)) (v := .int (2 * r24)) (ty := .int) (ws' := (mW cy am (va_up o21 0 (upd (o21 0) 4 (2 * r24))))) hx hb hw inWX10 tyX10 tyX10_ok nmX10 hown hK hP hD hS (gM (am := am) (r := 0) (m := o21) (f := (o21 0)) (by decide) rfl) rfl 4 (by decide) k_1574 rfl rfl (by decide +kernel) rfl rfl (Nat.le_of_ble_eq_true rfl) dX10_pledges_71 (sM (am := am) (r := 0) (m := o21) (g := (upd (o21 0) 4 (2 * r24))) (by decide)) (fun H locs hP hD hS => ?_)
        refine lv_aload_n hx hb dX10_pledges_74 rfl (lv_at hl 0 rfl) ?_
        refine lv_iload_n hx hb dX10_pledges_75 rfl (lv_at hl 2 rfl) ?_
        refine lv_aload_n hx hb dX10_pledges_76 rfl (lv_at hl 0 rfl) ?_
        refine get' (ci := 12) (fs := mF am (upd (o21 0) 4 (2 * r24))) (v := .int (2 * r24)) hx hb hw inWX10 hown hK hP (gM (am := am) (r := 0) (m := (va_up o21 0 (upd (o21 0) 4 (2 * r24)))) (f := (upd (o21 0) 4 (2 * r24))) (by decide) (va_up_self _ _ _)) rfl 4 (by decide) k_1574 rfl rfl dX10_pledges_77 ?_
        obtain ⟨o28, hc29, hF⟩ := bind_some hF
        try dsimp only at hF
        refine cV_v (As := [.int p2, .int (2 * r24)]) (rest := []) hx hb hml hown hw hK hN hA hl.1 hP hD hS k_1710 k_1712 k_42 k_90 k_1713 (met_X10_pays l D cy _ am (va_up o21 0 (upd (o21 0) 4 (2 * r24))) p2 (2 * r24) o28 hc29) (fun _ _ _ => trivial) Xok_T (gM (am := am) (r := 0) (m := (va_up o21 0 (upd (o21 0) 4 (2 * r24)))) (f := (upd (o21 0) 4 (2 * r24))) (by decide) (va_up_self _ _ _)) rfl ⟨rfl, rfl⟩ (n := 2) (by decide +kernel) rfl ⟨Nat.le_of_ble_eq_true rfl, Nat.le_of_ble_eq_true rfl⟩ ⟨Nat.le_of_ble_eq_true rfl, Nat.le_of_ble_eq_true rfl⟩ (Nat.le_of_ble_eq_true rfl) rfl dX10_pledges_80 (fun H locs hP hD hS => ?_)
        refine lv_aload_n hx hb dX10_pledges_83 rfl (lv_at hl 0 rfl) ?_
        refine lv_aload_n hx hb dX10_pledges_84 rfl (lv_at hl 0 rfl) ?_
        refine lv_iload_n hx hb dX10_pledges_85 rfl (lv_at hl 1 rfl) ?_
        obtain ⟨r30, hc32, hF⟩ := bind_some hF
        try dsimp only at hF
        refine cV_i (As := [.int p1]) (rest := [.ref (am 0)]) hx hb hml hown hw hK hN hA hl.1 hP hD hS k_1698 k_1700 k_39 k_90 k_1701 (met_X10_ownerAt l D cy _ am o28 p1 r30 hc32) (fun _ _ _ => trivial) Xok_T (gM (am := am) (r := 0) (m := o28) (f := (o28 0)) (by decide) rfl) rfl ⟨rfl, rfl⟩ (n := 1) (by decide +kernel) rfl ⟨Nat.le_of_ble_eq_true rfl, Nat.le_of_ble_eq_true rfl⟩ ⟨Nat.le_of_ble_eq_true rfl, Nat.le_of_ble_eq_true rfl⟩ (Nat.le_of_ble_eq_true rfl) rfl dX10_pledges_86 (fun H locs hP hD hS => ?_)
        refine lv_aload_n hx hb dX10_pledges_89 rfl (lv_at hl 0 rfl) ?_
        refine get' (ci := 12) (fs := mF am (o28 0)) (v := .int ((o28 0) 4)) hx hb hw inWX10 hown hK hP (gM (am := am) (r := 0) (m := o28) (f := (o28 0)) (by decide) rfl) rfl 4 (by decide) k_1574 rfl rfl dX10_pledges_90 ?_
        refine lv_ineg hx hb dX10_pledges_93 ?_
        obtain ⟨o34, hc35, hF⟩ := bind_some hF
        try dsimp only at hF
        refine cV_v (As := [.int r30, .int (-((o28 0) 4))]) (rest := []) hx hb hml hown hw hK hN hA hl.1 hP hD hS k_1710 k_1712 k_42 k_90 k_1713 (met_X10_pays l D cy _ am o28 r30 (-((o28 0) 4)) o34 hc35) (fun _ _ _ => trivial) Xok_T (gM (am := am) (r := 0) (m := o28) (f := (o28 0)) (by decide) rfl) rfl ⟨rfl, rfl⟩ (n := 2) (by decide +kernel) rfl ⟨Nat.le_of_ble_eq_true rfl, Nat.le_of_ble_eq_true rfl⟩ ⟨Nat.le_of_ble_eq_true rfl, Nat.le_of_ble_eq_true rfl⟩ (Nat.le_of_ble_eq_true rfl) rfl dX10_pledges_94 (fun H locs hP hD hS => ?_)
        refine lv_aload_n hx hb dX10_pledges_97 rfl (lv_at hl 0 rfl) ?_
        refine lv_iload_n hx hb dX10_pledges_98 rfl (lv_at hl 1 rfl) ?_
        refine lv_iconst (v := 5) hx hb dX10_pledges_99 (by decide) ?_
        refine lv_iload_n hx hb dX10_pledges_100 rfl (lv_at hl 2 rfl) ?_
        refine lv_iconst (v := 1) hx hb dX10_pledges_101 (by decide) ?_
        refine lv_iadd hx hb dX10_pledges_102 ?_
        obtain ⟨o37, hc38, hF⟩ := bind_some hF
        try dsimp only at hF
        refine cV_v (As := [.int p1, .int 5, .int (p2 + 1)]) (rest := []) hx hb hml hown hw hK hN hA hl.1 hP hD hS k_1663 k_1665 k_33 k_90 k_1666 (met_X10_set l D cy _ am o34 p1 5 (p2 + 1) o37 hc38) (fun _ _ _ => trivial) Xok_T (gM (am := am) (r := 0) (m := o34) (f := (o34 0)) (by decide) rfl) rfl ⟨rfl, rfl⟩ (n := 3) (by decide +kernel) rfl ⟨Nat.le_of_ble_eq_true rfl, Nat.le_of_ble_eq_true rfl⟩ ⟨Nat.le_of_ble_eq_true rfl, Nat.le_of_ble_eq_true rfl⟩ (Nat.le_of_ble_eq_true rfl) rfl dX10_pledges_103 (fun H locs hP hD hS => ?_)
        refine lv_aload_n hx hb dX10_pledges_106 rfl (lv_at hl 0 rfl) ?_
        refine lv_iload_n hx hb dX10_pledges_107 rfl (lv_at hl 1 rfl) ?_
        refine lv_bipush (v := 6) hx hb dX10_pledges_108 (by decide) ?_
        refine lv_aload_n hx hb dX10_pledges_110 rfl (lv_at hl 0 rfl) ?_
        refine lv_iload_n hx hb dX10_pledges_111 rfl (lv_at hl 1 rfl) ?_
        refine lv_iconst (v := 2) hx hb dX10_pledges_112 (by decide) ?_
        obtain ⟨r39, hc41, hF⟩ := bind_some hF
        try dsimp only at hF
        refine cV_i (As := [.int p1, .int 2]) (rest := [.int 6, .int p1, .ref (am 0)]) hx hb hml hown hw hK hN hA hl.1 hP hD hS k_1702 k_1704 k_40 k_90 k_1705 (met_X10_c l D cy _ am o37 p1 2 r39 hc41) (fun _ _ _ => trivial) Xok_T (gM (am := am) (r := 0) (m := o37) (f := (o37 0)) (by decide) rfl) rfl ⟨rfl, rfl⟩ (n := 2) (by decide +kernel) rfl ⟨Nat.le_of_ble_eq_true rfl, Nat.le_of_ble_eq_true rfl⟩ ⟨Nat.le_of_ble_eq_true rfl, Nat.le_of_ble_eq_true rfl⟩ (Nat.le_of_ble_eq_true rfl) rfl dX10_pledges_113 (fun H locs hP hD hS => ?_)
        obtain ⟨o43, hc44, hF⟩ := bind_some hF
        try dsimp only at hF
        refine cV_v (As := [.int p1, .int 6, .int r39]) (rest := []) hx hb hml hown hw hK hN hA hl.1 hP hD hS k_1663 k_1665 k_33 k_90 k_1666 (met_X10_set l D cy _ am o37 p1 6 r39 o43 hc44) (fun _ _ _ => trivial) Xok_T (gM (am := am) (r := 0) (m := o37) (f := (o37 0)) (by decide) rfl) rfl ⟨rfl, rfl⟩ (n := 3) (by decide +kernel) rfl ⟨Nat.le_of_ble_eq_true rfl, Nat.le_of_ble_eq_true rfl⟩ ⟨Nat.le_of_ble_eq_true rfl, Nat.le_of_ble_eq_true rfl⟩ (Nat.le_of_ble_eq_true rfl) rfl dX10_pledges_116 (fun H locs hP hD hS => ?_)
        refine lv_iconst (v := 1) hx hb dX10_pledges_119 (by decide) ?_
        cases hF
        exact hret _ _ _ _ _ _ hP hD hS rfl rfl rfl dX10_pledges_120
      · replace hF := (if_neg h23).symm.trans hF
        refine lv_iconst (v := 0) hx hb dX10_pledges_60 (by decide) ?_
        cases hF
        exact hret _ _ _ _ _ _ hP hD hS rfl rfl rfl dX10_pledges_61
    · replace hF := (if_pos h12).symm.trans hF
      refine lv_iconst (v := 1) hx hb dX10_pledges_30 (by decide) ?_
      refine lv_goto (tgt := 35) hx hb dX10_pledges_31 (by decide) ?_
      refine lv_iconst (v := 2) hx hb dX10_pledges_35 (by decide) ?_
      refine lv_iload_n hx hb dX10_pledges_36 rfl (lv_at hl 2 rfl) ?_
      refine cV_i (As := [.int 1, .int 2, .int p2]) (rest := []) hx hb hml hown hw hK hN hA hl.1 hP hD hS k_1659 k_1661 k_32 k_90 k_1662 (met_X10_refuses l D cy _ am (D_X10_refuses m0 0 2 p1).2 1 2 p2 (Or.inr rfl) 1 (D_X10_refuses (D_X10_refuses m0 0 2 p1).2 1 2 p2).2 (rs_X10_refuses ..)) (fun _ _ _ => trivial) Xok_T (gM (am := am) (r := 0) (m := (D_X10_refuses m0 0 2 p1).2) (f := ((D_X10_refuses m0 0 2 p1).2 0)) (by decide) rfl) rfl ⟨rfl, rfl⟩ (n := 3) (by decide +kernel) rfl ⟨Nat.le_of_ble_eq_true rfl, Nat.le_of_ble_eq_true rfl⟩ ⟨Nat.le_of_ble_eq_true rfl, Nat.le_of_ble_eq_true rfl⟩ (Nat.le_of_ble_eq_true rfl) rfl dX10_pledges_37 (fun H locs hP hD hS => ?_)
      refine lv_if_ne (tgt := 60) hx hb dX10_pledges_40 (by decide) (fun _ => ?_) (fun h => absurd h (by decide))
      refine lv_iconst (v := 0) hx hb dX10_pledges_60 (by decide) ?_
      cases hF
      exact hret _ _ _ _ _ _ hP hD hS rfl rfl rfl dX10_pledges_61
  · replace hF := (if_pos h4).symm.trans hF
    refine lv_iconst (v := 1) hx hb dX10_pledges_9 (by decide) ?_
    refine lv_goto (tgt := 14) hx hb dX10_pledges_10 (by decide) ?_
    refine lv_iconst (v := 2) hx hb dX10_pledges_14 (by decide) ?_
    refine lv_iload_n hx hb dX10_pledges_15 rfl (lv_at hl 1 rfl) ?_
    refine cV_i (As := [.int 1, .int 2, .int p1]) (rest := []) hx hb hml hown hw hK hN hA hl.1 hP hD hS k_1659 k_1661 k_32 k_90 k_1662 (met_X10_refuses l D cy _ am m0 1 2 p1 (Or.inr rfl) 1 (D_X10_refuses m0 1 2 p1).2 (rs_X10_refuses ..)) (fun _ _ _ => trivial) Xok_T (gM (am := am) (r := 0) (m := m0) (f := (m0 0)) (by decide) rfl) rfl ⟨rfl, rfl⟩ (n := 3) (by decide +kernel) rfl ⟨Nat.le_of_ble_eq_true rfl, Nat.le_of_ble_eq_true rfl⟩ ⟨Nat.le_of_ble_eq_true rfl, Nat.le_of_ble_eq_true rfl⟩ (Nat.le_of_ble_eq_true rfl) rfl dX10_pledges_16 (fun H locs hP hD hS => ?_)
    refine lv_if_ne (tgt := 60) hx hb dX10_pledges_19 (by decide) (fun _ => ?_) (fun h => absurd h (by decide))
    refine lv_iconst (v := 0) hx hb dX10_pledges_60 (by decide) ?_
    cases hF
    exact hret _ _ _ _ _ _ hP hD hS rfl rfl rfl dX10_pledges_61
def D_X10_redeems (m0 : Nat → Nat → Int32) (p1 : Int32) : Option (Int32 × (Nat → Nat → Int32)) := (D_X10_isCloud m0 p1).bind (fun r1 => if r1 = 0 then (some (0, (D_X10_refuses m0 1 2 p1).2)) else ((D_X10_lenderAt (D_X10_refuses m0 0 2 p1).2 p1).bind (fun r9 => if 0 ≤ r9 then ((D_X10_ownerAt (D_X10_refuses (D_X10_refuses m0 0 2 p1).2 0 9 p1).2 p1).bind (fun r17 => (D_X10_toRedeem (D_X10_refuses (D_X10_refuses m0 0 2 p1).2 0 9 p1).2 p1).bind (fun r20 => (D_X10_coinsAt (va_up (D_X10_refuses (D_X10_refuses m0 0 2 p1).2 0 9 p1).2 0 (upd ((D_X10_refuses (D_X10_refuses m0 0 2 p1).2 0 9 p1).2 0) 4 r20)) r17).bind (fun r23 => if r20 ≤ r23 then ((D_X10_coinsAt (va_up (D_X10_refuses (D_X10_refuses m0 0 2 p1).2 0 9 p1).2 0 (upd ((D_X10_refuses (D_X10_refuses m0 0 2 p1).2 0 9 p1).2 0) 4 r20)) r17).bind (fun r27 => (D_X10_pays (D_X10_refuses (va_up (D_X10_refuses (D_X10_refuses m0 0 2 p1).2 0 9 p1).2 0 (upd ((D_X10_refuses (D_X10_refuses m0 0 2 p1).2 0 9 p1).2 0) 4 r20)) 0 7 r27).2 r17 (((D_X10_refuses (va_up (D_X10_refuses (D_X10_refuses m0 0 2 p1).2 0 9 p1).2 0 (upd ((D_X10_refuses (D_X10_refuses m0 0 2 p1).2 0 9 p1).2 0) 4 r20)) 0 7 r27).2 0) 4)).bind (fun o35 => (D_X10_lenderAt o35 p1).bind (fun r37 => (D_X10_pays o35 r37 (-((o35 0) 4))).bind (fun o41 => (D_X10_frees o41 p1).bind (fun o44 => some (1, o44))))))) else ((D_X10_coinsAt (va_up (D_X10_refuses (D_X10_refuses m0 0 2 p1).2 0 9 p1).2 0 (upd ((D_X10_refuses (D_X10_refuses m0 0 2 p1).2 0 9 p1).2 0) 4 r20)) r17).bind (fun r46 => some (0, (D_X10_refuses (va_up (D_X10_refuses (D_X10_refuses m0 0 2 p1).2 0 9 p1).2 0 (upd ((D_X10_refuses (D_X10_refuses m0 0 2 p1).2 0 9 p1).2 0) 4 r20)) 1 7 r46).2))))))) else (some (0, (D_X10_refuses (D_X10_refuses m0 0 2 p1).2 1 9 p1).2)))))
abbrev rm_X10_redeems : Room := { frames := 3, cells := 0, slots := 0, locals := 64 }
set_option maxHeartbeats 4000000 in
set_option maxRecDepth 100000 in
theorem met_X10_redeems (l : Launch) (D : va_G) (cy : Nat → ClassId) (sz : Nat) (am : Nat → Nat) (m0 : Nat → Nat → Int32) (p1 : Int32)  (r : Int32) (t' : Nat → Nat → Int32) (hF : D_X10_redeems m0 p1 = some (r, t')) : MI l yX10_redeems cX10_redeems 3 (some .boolean) rm_X10_redeems D cy (mW cy am m0) sz (fun _ => True) [.ref (am 0), .int p1] r (mW cy am t') := by
  refine MZ.of (by decide +kernel) (Nat.le_of_ble_eq_true rfl) ?_
  intro p e s m args below meth c A ls Q hAt _ hP hD hA hS hl hret
  obtain ⟨hx, hb, hr, hml, hown, hw, hlk, hK, hN⟩ := hAt
  have hown : s.vm.findClass "CloudDeedsModel" = some m.cls := hown
  have hl : lv_has ls 3 [(0, .ref (am 0)), (1, .int p1)] := hl
  refine lv_aload_n hx hb dX10_redeems_0 rfl (lv_at hl 0 rfl) ?_
  refine lv_aload_n hx hb dX10_redeems_1 rfl (lv_at hl 0 rfl) ?_
  refine lv_iload_n hx hb dX10_redeems_2 rfl (lv_at hl 1 rfl) ?_
  obtain ⟨r1, hc3, hF⟩ := bind_some hF
  try dsimp only at hF
  refine cV_i (As := [.int p1]) (rest := [.ref (am 0)]) hx hb hml hown hw hK hN hA hl.1 hP hD hS k_1691 k_1693 k_38 k_90 k_1694 (met_X10_isCloud l D cy _ am m0 p1 r1 hc3) (fun _ _ _ => trivial) Xok_T (gM (am := am) (r := 0) (m := m0) (f := (m0 0)) (by decide) rfl) rfl ⟨rfl, rfl⟩ (n := 1) (by decide +kernel) rfl ⟨Nat.le_of_ble_eq_true rfl, Nat.le_of_ble_eq_true rfl⟩ ⟨Nat.le_of_ble_eq_true rfl, Nat.le_of_ble_eq_true rfl⟩ (Nat.le_of_ble_eq_true rfl) rfl dX10_redeems_3 (fun H locs hP hD hS => ?_)
  refine lv_if_ne (tgt := 13) hx hb dX10_redeems_6 (by decide) (fun h4 => ?_) (fun h4 => ?_)
  · replace hF := (if_neg h4).symm.trans hF
    refine lv_iconst (v := 0) hx hb dX10_redeems_13 (by decide) ?_
    refine lv_iconst (v := 2) hx hb dX10_redeems_14 (by decide) ?_
    refine lv_iload_n hx hb dX10_redeems_15 rfl (lv_at hl 1 rfl) ?_
    refine cV_i (As := [.int 0, .int 2, .int p1]) (rest := []) hx hb hml hown hw hK hN hA hl.1 hP hD hS k_1659 k_1661 k_32 k_90 k_1662 (met_X10_refuses l D cy _ am m0 0 2 p1 (Or.inl rfl) 0 (D_X10_refuses m0 0 2 p1).2 (rs_X10_refuses ..)) (fun _ _ _ => trivial) Xok_T (gM (am := am) (r := 0) (m := m0) (f := (m0 0)) (by decide) rfl) rfl ⟨rfl, rfl⟩ (n := 3) (by decide +kernel) rfl ⟨Nat.le_of_ble_eq_true rfl, Nat.le_of_ble_eq_true rfl⟩ ⟨Nat.le_of_ble_eq_true rfl, Nat.le_of_ble_eq_true rfl⟩ (Nat.le_of_ble_eq_true rfl) rfl dX10_redeems_16 (fun H locs hP hD hS => ?_)
    refine lv_if_ne (tgt := 45) hx hb dX10_redeems_19 (by decide) (fun h => absurd h (by decide)) (fun _ => ?_)
    refine lv_aload_n hx hb dX10_redeems_22 rfl (lv_at hl 0 rfl) ?_
    refine lv_aload_n hx hb dX10_redeems_23 rfl (lv_at hl 0 rfl) ?_
    refine lv_iload_n hx hb dX10_redeems_24 rfl (lv_at hl 1 rfl) ?_
    obtain ⟨r9, hc11, hF⟩ := bind_some hF
    try dsimp only at hF
    refine cV_i (As := [.int p1]) (rest := [.ref (am 0)]) hx hb hml hown hw hK hN hA hl.1 hP hD hS k_1730 k_1732 k_46 k_90 k_1733 (met_X10_lenderAt l D cy _ am (D_X10_refuses m0 0 2 p1).2 p1 r9 hc11) (fun _ _ _ => trivial) Xok_T (gM (am := am) (r := 0) (m := (D_X10_refuses m0 0 2 p1).2) (f := ((D_X10_refuses m0 0 2 p1).2 0)) (by decide) rfl) rfl ⟨rfl, rfl⟩ (n := 1) (by decide +kernel) rfl ⟨Nat.le_of_ble_eq_true rfl, Nat.le_of_ble_eq_true rfl⟩ ⟨Nat.le_of_ble_eq_true rfl, Nat.le_of_ble_eq_true rfl⟩ (Nat.le_of_ble_eq_true rfl) rfl dX10_redeems_25 (fun H locs hP hD hS => ?_)
    refine lv_if_ge (tgt := 35) hx hb dX10_redeems_28 (by decide) (fun h12 => ?_) (fun h12 => ?_)
    · replace hF := (if_pos h12).symm.trans hF
      refine lv_iconst (v := 0) hx hb dX10_redeems_35 (by decide) ?_
      refine lv_bipush (v := 9) hx hb dX10_redeems_36 (by decide) ?_
      refine lv_iload_n hx hb dX10_redeems_38 rfl (lv_at hl 1 rfl) ?_
      refine cV_i (As := [.int 0, .int 9, .int p1]) (rest := []) hx hb hml hown hw hK hN hA hl.1 hP hD hS k_1659 k_1661 k_32 k_90 k_1662 (met_X10_refuses l D cy _ am (D_X10_refuses m0 0 2 p1).2 0 9 p1 (Or.inl rfl) 0 (D_X10_refuses (D_X10_refuses m0 0 2 p1).2 0 9 p1).2 (rs_X10_refuses ..)) (fun _ _ _ => trivial) Xok_T (gM (am := am) (r := 0) (m := (D_X10_refuses m0 0 2 p1).2) (f := ((D_X10_refuses m0 0 2 p1).2 0)) (by decide) rfl) rfl ⟨rfl, rfl⟩ (n := 3) (by decide +kernel) rfl ⟨Nat.le_of_ble_eq_true rfl, Nat.le_of_ble_eq_true rfl⟩ ⟨Nat.le_of_ble_eq_true rfl, Nat.le_of_ble_eq_true rfl⟩ (Nat.le_of_ble_eq_true rfl) rfl dX10_redeems_39 (fun H locs hP hD hS => ?_)
      refine lv_if_eq (tgt := 47) hx hb dX10_redeems_42 (by decide) (fun _ => ?_) (fun h => absurd h (by decide))
      refine lv_aload_n hx hb dX10_redeems_47 rfl (lv_at hl 0 rfl) ?_
      refine lv_iload_n hx hb dX10_redeems_48 rfl (lv_at hl 1 rfl) ?_
      obtain ⟨r17, hc19, hF⟩ := bind_some hF
      try dsimp only at hF
      refine cV_i (As := [.int p1]) (rest := []) hx hb hml hown hw hK hN hA hl.1 hP hD hS k_1698 k_1700 k_39 k_90 k_1701 (met_X10_ownerAt l D cy _ am (D_X10_refuses (D_X10_refuses m0 0 2 p1).2 0 9 p1).2 p1 r17 hc19) (fun _ _ _ => trivial) Xok_T (gM (am := am) (r := 0) (m := (D_X10_refuses (D_X10_refuses m0 0 2 p1).2 0 9 p1).2) (f := ((D_X10_refuses (D_X10_refuses m0 0 2 p1).2 0 9 p1).2 0)) (by decide) rfl) rfl ⟨rfl, rfl⟩ (n := 1) (by decide +kernel) rfl ⟨Nat.le_of_ble_eq_true rfl, Nat.le_of_ble_eq_true rfl⟩ ⟨Nat.le_of_ble_eq_true rfl, Nat.le_of_ble_eq_true rfl⟩ (Nat.le_of_ble_eq_true rfl) rfl dX10_redeems_49 (fun H locs hP hD hS => ?_)
      refine lv_istore_n (lv' := [(2, .int r17), (0, .ref (am 0)), (1, .int p1)]) hx hb dX10_redeems_52 rfl hl (by decide) rfl (fun ls hl => ?_)
      refine lv_aload_n hx hb dX10_redeems_53 rfl (lv_at hl 1 rfl) ?_
      refine lv_aload_n hx hb dX10_redeems_54 rfl (lv_at hl 1 rfl) ?_
      refine lv_iload_n hx hb dX10_redeems_55 rfl (lv_at hl 2 rfl) ?_
      obtain ⟨r20, hc22, hF⟩ := bind_some hF
      try dsimp only at hF
      refine cV_i (As := [.int p1]) (rest := [.ref (am 0)]) hx hb hml hown hw hK hN hA hl.1 hP hD hS k_1750 k_1752 k_49 k_90 k_1753 (met_X10_toRedeem l D cy _ am (D_X10_refuses (D_X10_refuses m0 0 2 p1).2 0 9 p1).2 p1 r20 hc22) (fun _ _ _ => trivial) Xok_T (gM (am := am) (r := 0) (m := (D_X10_refuses (D_X10_refuses m0 0 2 p1).2 0 9 p1).2) (f := ((D_X10_refuses (D_X10_refuses m0 0 2 p1).2 0 9 p1).2 0)) (by decide) rfl) rfl ⟨rfl, rfl⟩ (n := 1) (by decide +kernel) rfl ⟨Nat.le_of_ble_eq_true rfl, Nat.le_of_ble_eq_true rfl⟩ ⟨Nat.le_of_ble_eq_true rfl, Nat.le_of_ble_eq_true rfl⟩ (Nat.le_of_ble_eq_true rfl) rfl dX10_redeems_56 (fun H locs hP hD hS => ?_)
      refine put' (ci := 12) (fs := mF am ((D_X10_refuses (D_X10_refuses m0 0 2 p1).2 0 9 p1).2 0)) (v := .int r20) (ty := .int) (ws' := (mW cy am (va_up (D_X10_refuses (D_X10_refuses m0 0 2 p1).2 0 9 p1).2 0 (upd ((D_X10_refuses (D_X10_refuses m0 0 2 p1).2 0 9 p1).2 0) 4 r20)))) hx hb hw inWX10 tyX10 tyX10_ok nmX10 hown hK hP hD hS (gM (am := am) (r := 0) (m := (D_X10_refuses (D_X10_refuses m0 0 2 p1).2 0 9 p1).2) (f := ((D_X10_refuses (D_X10_refuses m0 0 2 p1).2 0 9 p1).2 0)) (by decide) rfl) rfl 4 (by decide) k_1574 rfl rfl (by decide +kernel) rfl rfl (Nat.le_of_ble_eq_true rfl) dX10_redeems_59 (sM (am := am) (r := 0) (m := (D_X10_refuses (D_X10_refuses m0 0 2 p1).2 0 9 p1).2) (g := (upd ((D_X10_refuses (D_X10_refuses m0 0 2 p1).2 0 9 p1).2 0) 4 r20)) (by decide)) (fun H locs hP hD hS => ?_)
      refine lv_aload_n hx hb dX10_redeems_62 rfl (lv_at hl 1 rfl) ?_
      refine lv_aload_n hx hb dX10_redeems_63 rfl (lv_at hl 1 rfl) ?_
      refine lv_iload_n hx hb dX10_redeems_64 rfl (lv_at hl 0 rfl) ?_
      obtain ⟨r23, hc25, hF⟩ := bind_some hF
      try dsimp only at hF
      refine cV_i (As := [.int r17]) (rest := [.ref (am 0)]) hx hb hml hown hw hK hN hA hl.1 hP hD hS k_1706 k_1708 k_41 k_90 k_1709 (met_X10_coinsAt l D cy _ am (va_up (D_X10_refuses (D_X10_refuses m0 0 2 p1).2 0 9 p1).2 0 (upd ((D_X10_refuses (D_X10_refuses m0 0 2 p1).2 0 9 p1).2 0) 4 r20)) r17 r23 hc25) (fun _ _ _ => trivial) Xok_T (gM (am := am) (r := 0) (m := (va_up (D_X10_refuses (D_X10_refuses m0 0 2 p1).2 0 9 p1).2 0 (upd ((D_X10_refuses (D_X10_refuses m0 0 2 p1).2 0 9 p1).2 0) 4 r20))) (f := (upd ((D_X10_refuses (D_X10_refuses m0 0 2 p1).2 0 9 p1).2 0) 4 r20)) (by decide) (va_up_self _ _ _)) rfl ⟨rfl, rfl⟩ (n := 1) (by decide +kernel) rfl ⟨Nat.le_of_ble_eq_true rfl, Nat.le_of_ble_eq_true rfl⟩ ⟨Nat.le_of_ble_eq_true rfl, Nat.le_of_ble_eq_true rfl⟩ (Nat.le_of_ble_eq_true rfl) rfl dX10_redeems_65 (fun H locs hP hD hS => ?_)
      refine lv_aload_n hx hb dX10_redeems_68 rfl (lv_at hl 1 rfl) ?_
      refine get' (ci := 12) (fs := mF am (upd ((D_X10_refuses (D_X10_refuses m0 0 2 p1).2 0 9 p1).2 0) 4 r20)) (v := .int r20) hx hb hw inWX10 hown hK hP (gM (am := am) (r := 0) (m := (va_up (D_X10_refuses (D_X10_refuses m0 0 2 p1).2 0 9 p1).2 0 (upd ((D_X10_refuses (D_X10_refuses m0 0 2 p1).2 0 9 p1).2 0) 4 r20))) (f := (upd ((D_X10_refuses (D_X10_refuses m0 0 2 p1).2 0 9 p1).2 0) 4 r20)) (by decide) (va_up_self _ _ _)) rfl 4 (by decide) k_1574 rfl rfl dX10_redeems_69 ?_
      refine lv_icmp_ge (tgt := 79) hx hb dX10_redeems_72 (by decide) (fun h26 => ?_) (fun h26 => ?_)
      · replace hF := (if_pos h26).symm.trans hF
        refine lv_iconst (v := 0) hx hb dX10_redeems_79 (by decide) ?_
        refine lv_bipush (v := 7) hx hb dX10_redeems_80 (by decide) ?_
        refine lv_aload_n hx hb dX10_redeems_82 rfl (lv_at hl 1 rfl) ?_
        refine lv_iload_n hx hb dX10_redeems_83 rfl (lv_at hl 0 rfl) ?_
        obtain ⟨r27, hc29, hF⟩ := bind_some hF
        try dsimp only at hF
        refine cV_i (As := [.int r17]) (rest := [.int 7, .int 0, .ref (am 0)]) hx hb hml hown hw hK hN hA hl.1 hP hD hS k_1706 k_1708 k_41 k_90 k_1709 (met_X10_coinsAt l D cy _ am (va_up (D_X10_refuses (D_X10_refuses m0 0 2 p1).2 0 9 p1).2 0 (upd ((D_X10_refuses (D_X10_refuses m0 0 2 p1).2 0 9 p1).2 0) 4 r20)) r17 r27 hc29) (fun _ _ _ => trivial) Xok_T (gM (am := am) (r := 0) (m := (va_up (D_X10_refuses (D_X10_refuses m0 0 2 p1).2 0 9 p1).2 0 (upd ((D_X10_refuses (D_X10_refuses m0 0 2 p1).2 0 9 p1).2 0) 4 r20))) (f := (upd ((D_X10_refuses (D_X10_refuses m0 0 2 p1).2 0 9 p1).2 0) 4 r20)) (by decide) (va_up_self _ _ _)) rfl ⟨rfl, rfl⟩ (n := 1) (by decide +kernel) rfl ⟨Nat.le_of_ble_eq_true rfl, Nat.le_of_ble_eq_true rfl⟩ ⟨Nat.le_of_ble_eq_true rfl, Nat.le_of_ble_eq_true rfl⟩ (Nat.le_of_ble_eq_true rfl) rfl dX10_redeems_84 (fun H locs hP hD hS => ?_)
        refine cV_i (As := [.int 0, .int 7, .int r27]) (rest := []) hx hb hml hown hw hK hN hA hl.1 hP hD hS k_1659 k_1661 k_32 k_90 k_1662 (met_X10_refuses l D cy _ am (va_up (D_X10_refuses (D_X10_refuses m0 0 2 p1).2 0 9 p1).2 0 (upd ((D_X10_refuses (D_X10_refuses m0 0 2 p1).2 0 9 p1).2 0) 4 r20)) 0 7 r27 (Or.inl rfl) 0 (D_X10_refuses (va_up (D_X10_refuses (D_X10_refuses m0 0 2 p1).2 0 9 p1).2 0 (upd ((D_X10_refuses (D_X10_refuses m0 0 2 p1).2 0 9 p1).2 0) 4 r20)) 0 7 r27).2 (rs_X10_refuses ..)) (fun _ _ _ => trivial) Xok_T (gM (am := am) (r := 0) (m := (va_up (D_X10_refuses (D_X10_refuses m0 0 2 p1).2 0 9 p1).2 0 (upd ((D_X10_refuses (D_X10_refuses m0 0 2 p1).2 0 9 p1).2 0) 4 r20))) (f := (upd ((D_X10_refuses (D_X10_refuses m0 0 2 p1).2 0 9 p1).2 0) 4 r20)) (by decide) (va_up_self _ _ _)) rfl ⟨rfl, rfl⟩ (n := 3) (by decide +kernel) rfl ⟨Nat.le_of_ble_eq_true rfl, Nat.le_of_ble_eq_true rfl⟩ ⟨Nat.le_of_ble_eq_true rfl, Nat.le_of_ble_eq_true rfl⟩ (Nat.le_of_ble_eq_true rfl) rfl dX10_redeems_87 (fun H locs hP hD hS => ?_)
        refine lv_if_eq (tgt := 95) hx hb dX10_redeems_90 (by decide) (fun _ => ?_) (fun h => absurd h (by decide))
        refine lv_aload_n hx hb dX10_redeems_95 rfl (lv_at hl 1 rfl) ?_
        refine lv_iload_n hx hb dX10_redeems_96 rfl (lv_at hl 0 rfl) ?_
        refine lv_aload_n hx hb dX10_redeems_97 rfl (lv_at hl 1 rfl) ?_
        refine get' (ci := 12) (fs := mF am ((D_X10_refuses (va_up (D_X10_refuses (D_X10_refuses m0 0 2 p1).2 0 9 p1).2 0 (upd ((D_X10_refuses (D_X10_refuses m0 0 2 p1).2 0 9 p1).2 0) 4 r20)) 0 7 r27).2 0)) (v := .int (((D_X10_refuses (va_up (D_X10_refuses (D_X10_refuses m0 0 2 p1).2 0 9 p1).2 0 (upd ((D_X10_refuses (D_X10_refuses m0 0 2 p1).2 0 9 p1).2 0) 4 r20)) 0 7 r27).2 0) 4)) hx hb hw inWX10 hown hK hP (gM (am := am) (r := 0) (m := (D_X10_refuses (va_up (D_X10_refuses (D_X10_refuses m0 0 2 p1).2 0 9 p1).2 0 (upd ((D_X10_refuses (D_X10_refuses m0 0 2 p1).2 0 9 p1).2 0) 4 r20)) 0 7 r27).2) (f := ((D_X10_refuses (va_up (D_X10_refuses (D_X10_refuses m0 0 2 p1).2 0 9 p1).2 0 (upd ((D_X10_refuses (D_X10_refuses m0 0 2 p1).2 0 9 p1).2 0) 4 r20)) 0 7 r27).2 0)) (by decide) rfl) rfl 4 (by decide) k_1574 rfl rfl dX10_redeems_98 ?_
        obtain ⟨o35, hc36, hF⟩ := bind_some hF
        try dsimp only at hF
        refine cV_v (As := [.int r17, .int (((D_X10_refuses (va_up (D_X10_refuses (D_X10_refuses m0 0 2 p1).2 0 9 p1).2 0 (upd ((D_X10_refuses (D_X10_refuses m0 0 2 p1).2 0 9 p1).2 0) 4 r20)) 0 7 r27).2 0) 4)]) (rest := []) hx hb hml hown hw hK hN hA hl.1 hP hD hS k_1710 k_1712 k_42 k_90 k_1713 (met_X10_pays l D cy _ am (D_X10_refuses (va_up (D_X10_refuses (D_X10_refuses m0 0 2 p1).2 0 9 p1).2 0 (upd ((D_X10_refuses (D_X10_refuses m0 0 2 p1).2 0 9 p1).2 0) 4 r20)) 0 7 r27).2 r17 (((D_X10_refuses (va_up (D_X10_refuses (D_X10_refuses m0 0 2 p1).2 0 9 p1).2 0 (upd ((D_X10_refuses (D_X10_refuses m0 0 2 p1).2 0 9 p1).2 0) 4 r20)) 0 7 r27).2 0) 4) o35 hc36) (fun _ _ _ => trivial) Xok_T (gM (am := am) (r := 0) (m := (D_X10_refuses (va_up (D_X10_refuses (D_X10_refuses m0 0 2 p1).2 0 9 p1).2 0 (upd ((D_X10_refuses (D_X10_refuses m0 0 2 p1).2 0 9 p1).2 0) 4 r20)) 0 7 r27).2) (f := ((D_X10_refuses (va_up (D_X10_refuses (D_X10_refuses m0 0 2 p1).2 0 9 p1).2 0 (upd ((D_X10_refuses (D_X10_refuses m0 0 2 p1).2 0 9 p1).2 0) 4 r20)) 0 7 r27).2 0)) (by decide) rfl) rfl ⟨rfl, rfl⟩ (n := 2) (by decide +kernel) rfl ⟨Nat.le_of_ble_eq_true rfl, Nat.le_of_ble_eq_true rfl⟩ ⟨Nat.le_of_ble_eq_true rfl, Nat.le_of_ble_eq_true rfl⟩ (Nat.le_of_ble_eq_true rfl) rfl dX10_redeems_101 (fun H locs hP hD hS => ?_)
        refine lv_aload_n hx hb dX10_redeems_104 rfl (lv_at hl 1 rfl) ?_
        refine lv_aload_n hx hb dX10_redeems_105 rfl (lv_at hl 1 rfl) ?_
        refine lv_iload_n hx hb dX10_redeems_106 rfl (lv_at hl 2 rfl) ?_
        obtain ⟨r37, hc39, hF⟩ := bind_some hF
        try dsimp only at hF
        refine cV_i (As := [.int p1]) (rest := [.ref (am 0)]) hx hb hml hown hw hK hN hA hl.1 hP hD hS k_1730 k_1732 k_46 k_90 k_1733 (met_X10_lenderAt l D cy _ am o35 p1 r37 hc39) (fun _ _ _ => trivial) Xok_T (gM (am := am) (r := 0) (m := o35) (f := (o35 0)) (by decide) rfl) rfl ⟨rfl, rfl⟩ (n := 1) (by decide +kernel) rfl ⟨Nat.le_of_ble_eq_true rfl, Nat.le_of_ble_eq_true rfl⟩ ⟨Nat.le_of_ble_eq_true rfl, Nat.le_of_ble_eq_true rfl⟩ (Nat.le_of_ble_eq_true rfl) rfl dX10_redeems_107 (fun H locs hP hD hS => ?_)
        refine lv_aload_n hx hb dX10_redeems_110 rfl (lv_at hl 1 rfl) ?_
        refine get' (ci := 12) (fs := mF am (o35 0)) (v := .int ((o35 0) 4)) hx hb hw inWX10 hown hK hP (gM (am := am) (r := 0) (m := o35) (f := (o35 0)) (by decide) rfl) rfl 4 (by decide) k_1574 rfl rfl dX10_redeems_111 ?_
        refine lv_ineg hx hb dX10_redeems_114 ?_
        obtain ⟨o41, hc42, hF⟩ := bind_some hF
        try dsimp only at hF
        refine cV_v (As := [.int r37, .int (-((o35 0) 4))]) (rest := []) hx hb hml hown hw hK hN hA hl.1 hP hD hS k_1710 k_1712 k_42 k_90 k_1713 (met_X10_pays l D cy _ am o35 r37 (-((o35 0) 4)) o41 hc42) (fun _ _ _ => trivial) Xok_T (gM (am := am) (r := 0) (m := o35) (f := (o35 0)) (by decide) rfl) rfl ⟨rfl, rfl⟩ (n := 2) (by decide +kernel) rfl ⟨Nat.le_of_ble_eq_true rfl, Nat.le_of_ble_eq_true rfl⟩ ⟨Nat.le_of_ble_eq_true rfl, Nat.le_of_ble_eq_true rfl⟩ (Nat.le_of_ble_eq_true rfl) rfl dX10_redeems_115 (fun H locs hP hD hS => ?_)
        refine lv_aload_n hx hb dX10_redeems_118 rfl (lv_at hl 1 rfl) ?_
        refine lv_iload_n hx hb dX10_redeems_119 rfl (lv_at hl 2 rfl) ?_
        obtain ⟨o44, hc45, hF⟩ := bind_some hF
        try dsimp only at hF
        refine cV_v (As := [.int p1]) (rest := []) hx hb hml hown hw hK hN hA hl.1 hP hD hS k_1754 k_1756 k_50 k_90 k_1757 (met_X10_frees l D cy _ am o41 p1 o44 hc45) (fun _ _ _ => trivial) Xok_T (gM (am := am) (r := 0) (m := o41) (f := (o41 0)) (by decide) rfl) rfl ⟨rfl, rfl⟩ (n := 1) (by decide +kernel) rfl ⟨Nat.le_of_ble_eq_true rfl, Nat.le_of_ble_eq_true rfl⟩ ⟨Nat.le_of_ble_eq_true rfl, Nat.le_of_ble_eq_true rfl⟩ (Nat.le_of_ble_eq_true rfl) rfl dX10_redeems_120 (fun H locs hP hD hS => ?_)
        refine lv_iconst (v := 1) hx hb dX10_redeems_123 (by decide) ?_
        cases hF
        exact hret _ _ _ _ _ _ hP hD hS rfl rfl rfl dX10_redeems_124
      · replace hF := (if_neg h26).symm.trans hF
        refine lv_iconst (v := 1) hx hb dX10_redeems_75 (by decide) ?_
        refine lv_goto (tgt := 80) hx hb dX10_redeems_76 (by decide) ?_
        refine lv_bipush (v := 7) hx hb dX10_redeems_80 (by decide) ?_
        refine lv_aload_n hx hb dX10_redeems_82 rfl (lv_at hl 1 rfl) ?_
        refine lv_iload_n hx hb dX10_redeems_83 rfl (lv_at hl 0 rfl) ?_
        obtain ⟨r46, hc48, hF⟩ := bind_some hF
        try dsimp only at hF
        refine cV_i (As := [.int r17]) (rest := [.int 7, .int 1, .ref (am 0)]) hx hb hml hown hw hK hN hA hl.1 hP hD hS k_1706 k_1708 k_41 k_90 k_1709 (met_X10_coinsAt l D cy _ am (va_up (D_X10_refuses (D_X10_refuses m0 0 2 p1).2 0 9 p1).2 0 (upd ((D_X10_refuses (D_X10_refuses m0 0 2 p1).2 0 9 p1).2 0) 4 r20)) r17 r46 hc48) (fun _ _ _ => trivial) Xok_T (gM (am := am) (r := 0) (m := (va_up (D_X10_refuses (D_X10_refuses m0 0 2 p1).2 0 9 p1).2 0 (upd ((D_X10_refuses (D_X10_refuses m0 0 2 p1).2 0 9 p1).2 0) 4 r20))) (f := (upd ((D_X10_refuses (D_X10_refuses m0 0 2 p1).2 0 9 p1).2 0) 4 r20)) (by decide) (va_up_self _ _ _)) rfl ⟨rfl, rfl⟩ (n := 1) (by decide +kernel) rfl ⟨Nat.le_of_ble_eq_true rfl, Nat.le_of_ble_eq_true rfl⟩ ⟨Nat.le_of_ble_eq_true rfl, Nat.le_of_ble_eq_true rfl⟩ (Nat.le_of_ble_eq_true rfl) rfl dX10_redeems_84 (fun H locs hP hD hS => ?_)
        refine cV_i (As := [.int 1, .int 7, .int r46]) (rest := []) hx hb hml hown hw hK hN hA hl.1 hP hD hS k_1659 k_1661 k_32 k_90 k_1662 (met_X10_refuses l D cy _ am (va_up (D_X10_refuses (D_X10_refuses m0 0 2 p1).2 0 9 p1).2 0 (upd ((D_X10_refuses (D_X10_refuses m0 0 2 p1).2 0 9 p1).2 0) 4 r20)) 1 7 r46 (Or.inr rfl) 1 (D_X10_refuses (va_up (D_X10_refuses (D_X10_refuses m0 0 2 p1).2 0 9 p1).2 0 (upd ((D_X10_refuses (D_X10_refuses m0 0 2 p1).2 0 9 p1).2 0) 4 r20)) 1 7 r46).2 (rs_X10_refuses ..)) (fun _ _ _ => trivial) Xok_T (gM (am := am) (r := 0) (m := (va_up (D_X10_refuses (D_X10_refuses m0 0 2 p1).2 0 9 p1).2 0 (upd ((D_X10_refuses (D_X10_refuses m0 0 2 p1).2 0 9 p1).2 0) 4 r20))) (f := (upd ((D_X10_refuses (D_X10_refuses m0 0 2 p1).2 0 9 p1).2 0) 4 r20)) (by decide) (va_up_self _ _ _)) rfl ⟨rfl, rfl⟩ (n := 3) (by decide +kernel) rfl ⟨Nat.le_of_ble_eq_true rfl, Nat.le_of_ble_eq_true rfl⟩ ⟨Nat.le_of_ble_eq_true rfl, Nat.le_of_ble_eq_true rfl⟩ (Nat.le_of_ble_eq_true rfl) rfl dX10_redeems_87 (fun H locs hP hD hS => ?_)
        refine lv_if_eq (tgt := 95) hx hb dX10_redeems_90 (by decide) (fun h => absurd h (by decide)) (fun _ => ?_)
        refine lv_iconst (v := 0) hx hb dX10_redeems_93 (by decide) ?_
        cases hF
        exact hret _ _ _ _ _ _ hP hD hS rfl rfl rfl dX10_redeems_94
    · replace hF := (if_neg h12).symm.trans hF
      refine lv_iconst (v := 1) hx hb dX10_redeems_31 (by decide) ?_
      refine lv_goto (tgt := 36) hx hb dX10_redeems_32 (by decide) ?_
      refine lv_bipush (v := 9) hx hb dX10_redeems_36 (by decide) ?_
      refine lv_iload_n hx hb dX10_redeems_38 rfl (lv_at hl 1 rfl) ?_
      refine cV_i (As := [.int 1, .int 9, .int p1]) (rest := []) hx hb hml hown hw hK hN hA hl.1 hP hD hS k_1659 k_1661 k_32 k_90 k_1662 (met_X10_refuses l D cy _ am (D_X10_refuses m0 0 2 p1).2 1 9 p1 (Or.inr rfl) 1 (D_X10_refuses (D_X10_refuses m0 0 2 p1).2 1 9 p1).2 (rs_X10_refuses ..)) (fun _ _ _ => trivial) Xok_T (gM (am := am) (r := 0) (m := (D_X10_refuses m0 0 2 p1).2) (f := ((D_X10_refuses m0 0 2 p1).2 0)) (by decide) rfl) rfl ⟨rfl, rfl⟩ (n := 3) (by decide +kernel) rfl ⟨Nat.le_of_ble_eq_true rfl, Nat.le_of_ble_eq_true rfl⟩ ⟨Nat.le_of_ble_eq_true rfl, Nat.le_of_ble_eq_true rfl⟩ (Nat.le_of_ble_eq_true rfl) rfl dX10_redeems_39 (fun H locs hP hD hS => ?_)
      refine lv_if_eq (tgt := 47) hx hb dX10_redeems_42 (by decide) (fun h => absurd h (by decide)) (fun _ => ?_)
      refine lv_iconst (v := 0) hx hb dX10_redeems_45 (by decide) ?_
      cases hF
      exact hret _ _ _ _ _ _ hP hD hS rfl rfl rfl dX10_redeems_46
  · replace hF := (if_pos h4).symm.trans hF
    refine lv_iconst (v := 1) hx hb dX10_redeems_9 (by decide) ?_
    refine lv_goto (tgt := 14) hx hb dX10_redeems_10 (by decide) ?_
    refine lv_iconst (v := 2) hx hb dX10_redeems_14 (by decide) ?_
    refine lv_iload_n hx hb dX10_redeems_15 rfl (lv_at hl 1 rfl) ?_
    refine cV_i (As := [.int 1, .int 2, .int p1]) (rest := []) hx hb hml hown hw hK hN hA hl.1 hP hD hS k_1659 k_1661 k_32 k_90 k_1662 (met_X10_refuses l D cy _ am m0 1 2 p1 (Or.inr rfl) 1 (D_X10_refuses m0 1 2 p1).2 (rs_X10_refuses ..)) (fun _ _ _ => trivial) Xok_T (gM (am := am) (r := 0) (m := m0) (f := (m0 0)) (by decide) rfl) rfl ⟨rfl, rfl⟩ (n := 3) (by decide +kernel) rfl ⟨Nat.le_of_ble_eq_true rfl, Nat.le_of_ble_eq_true rfl⟩ ⟨Nat.le_of_ble_eq_true rfl, Nat.le_of_ble_eq_true rfl⟩ (Nat.le_of_ble_eq_true rfl) rfl dX10_redeems_16 (fun H locs hP hD hS => ?_)
    refine lv_if_ne (tgt := 45) hx hb dX10_redeems_19 (by decide) (fun _ => ?_) (fun h => absurd h (by decide))
    refine lv_iconst (v := 0) hx hb dX10_redeems_45 (by decide) ?_
    cases hF
    exact hret _ _ _ _ _ _ hP hD hS rfl rfl rfl dX10_redeems_46
def L_X10_blows_42 : Nat → (Nat → Nat → Int32) → (Int32) → (Nat → Nat → Int32) → (Int32) → (Nat → Nat → Int32) → Option (Int32 × (Nat → Nat → Int32))
  | 0, _, _, _, _, _ => none
  | n42 + 1, m0, p1, o15, i2h42, s42 => if inb 0 1152 then (if ((s42 1) (0 : Int32).toNatClampNeg) ≤ i2h42 then (some (1, s42)) else ((D_X10_isOther s42 i2h42).bind (fun r19 => if r19 = 0 then (L_X10_blows_42 n42 m0 p1 o15 (i2h42 + 1) (va_up s42 0 (upd (s42 0) 4 (((s42 0) 4) + 0)))) else (L_X10_blows_42 n42 m0 p1 o15 (i2h42 + 1) (va_up s42 0 (upd (s42 0) 4 (((s42 0) 4) + 1))))))) else none
def D_X10_blows (m0 : Nat → Nat → Int32) (p1 : Int32) : Option (Int32 × (Nat → Nat → Int32)) := if (D_X10_in p1 (-3) 3) = 0 then (some (0, (D_X10_refuses m0 1 3 p1).2)) else (if p1 = 0 then (some (0, (D_X10_refuses m0 1 3 p1).2)) else ((D_X10_carries (D_X10_refuses m0 0 3 p1).2 p1).bind (fun o15 => L_X10_blows_42 200 m0 p1 o15 0 (va_up o15 0 (upd (o15 0) 4 0)))))
abbrev rm_X10_blows : Room := { frames := 3, cells := 0, slots := 0, locals := 64 }
set_option maxHeartbeats 4000000 in
set_option maxRecDepth 100000 in
theorem met_X10_blows (l : Launch) (D : va_G) (cy : Nat → ClassId) (sz : Nat) (am : Nat → Nat) (m0 : Nat → Nat → Int32) (p1 : Int32)  (r : Int32) (t' : Nat → Nat → Int32) (hF : D_X10_blows m0 p1 = some (r, t')) : MI l yX10_blows cX10_blows 3 (some .boolean) rm_X10_blows D cy (mW cy am m0) sz (fun _ => True) [.ref (am 0), .int p1] r (mW cy am t') := by
  refine MZ.of (by decide +kernel) (Nat.le_of_ble_eq_true rfl) ?_
  intro p e s m args below meth c A ls Q hAt _ hP hD hA hS hl hret
  obtain ⟨hx, hb, hr, hml, hown, hw, hlk, hK, hN⟩ := hAt
  have hown : s.vm.findClass "CloudDeedsModel" = some m.cls := hown
  have hl : lv_has ls 3 [(0, .ref (am 0)), (1, .int p1)] := hl
  refine lv_aload_n hx hb dX10_blows_0 rfl (lv_at hl 0 rfl) ?_
  refine lv_iload_n hx hb dX10_blows_1 rfl (lv_at hl 1 rfl) ?_
  refine lv_bipush (v := (-3)) hx hb dX10_blows_2 (by decide) ?_
  refine lv_iconst (v := 3) hx hb dX10_blows_4 (by decide) ?_
  refine cS_i (As := [.int p1, .int (-3), .int 3]) (rest := [.ref (am 0)]) hx hb hml hown hw hK hN hA hl.1 hP hD hS k_1656 k_1657 k_90 k_1658 (met_X10_in l D cy _ (mW cy am m0) p1 (-3) 3 (D_X10_in p1 (-3) 3) rfl) (fun _ _ _ => trivial) Xok_T ⟨rfl, rfl⟩ (n := 3) (by decide +kernel) rfl ⟨Nat.le_of_ble_eq_true rfl, Nat.le_of_ble_eq_true rfl⟩ ⟨Nat.le_of_ble_eq_true rfl, Nat.le_of_ble_eq_true rfl⟩ (Nat.le_of_ble_eq_true rfl) rfl dX10_blows_5 (fun H locs hP hD hS => ?_)
  refine lv_if_eq (tgt := 15) hx hb dX10_blows_8 (by decide) (fun h4 => ?_) (fun h4 => ?_)
  · replace hF := (if_pos h4).symm.trans hF
    refine lv_iconst (v := 1) hx hb dX10_blows_15 (by decide) ?_
    refine lv_goto (tgt := 20) hx hb dX10_blows_16 (by decide) ?_
    refine lv_iconst (v := 3) hx hb dX10_blows_20 (by decide) ?_
    refine lv_iload_n hx hb dX10_blows_21 rfl (lv_at hl 1 rfl) ?_
    refine cV_i (As := [.int 1, .int 3, .int p1]) (rest := []) hx hb hml hown hw hK hN hA hl.1 hP hD hS k_1659 k_1661 k_32 k_90 k_1662 (met_X10_refuses l D cy _ am m0 1 3 p1 (Or.inr rfl) 1 (D_X10_refuses m0 1 3 p1).2 (rs_X10_refuses ..)) (fun _ _ _ => trivial) Xok_T (gM (am := am) (r := 0) (m := m0) (f := (m0 0)) (by decide) rfl) rfl ⟨rfl, rfl⟩ (n := 3) (by decide +kernel) rfl ⟨Nat.le_of_ble_eq_true rfl, Nat.le_of_ble_eq_true rfl⟩ ⟨Nat.le_of_ble_eq_true rfl, Nat.le_of_ble_eq_true rfl⟩ (Nat.le_of_ble_eq_true rfl) rfl dX10_blows_22 (fun H locs hP hD hS => ?_)
    refine lv_if_eq (tgt := 30) hx hb dX10_blows_25 (by decide) (fun h => absurd h (by decide)) (fun _ => ?_)
    refine lv_iconst (v := 0) hx hb dX10_blows_28 (by decide) ?_
    cases hF
    exact hret _ _ _ _ _ _ hP hD hS rfl rfl rfl dX10_blows_29
  · replace hF := (if_neg h4).symm.trans hF
    refine lv_iload_n hx hb dX10_blows_11 rfl (lv_at hl 1 rfl) ?_
    refine lv_if_ne (tgt := 19) hx hb dX10_blows_12 (by decide) (fun h9 => ?_) (fun h9 => ?_)
    · replace hF := (if_neg h9).symm.trans hF
      refine lv_iconst (v := 0) hx hb dX10_blows_19 (by decide) ?_
      refine lv_iconst (v := 3) hx hb dX10_blows_20 (by decide) ?_
      refine lv_iload_n hx hb dX10_blows_21 rfl (lv_at hl 1 rfl) ?_
      refine cV_i (As := [.int 0, .int 3, .int p1]) (rest := []) hx hb hml hown hw hK hN hA hl.1 hP hD hS k_1659 k_1661 k_32 k_90 k_1662 (met_X10_refuses l D cy _ am m0 0 3 p1 (Or.inl rfl) 0 (D_X10_refuses m0 0 3 p1).2 (rs_X10_refuses ..)) (fun _ _ _ => trivial) Xok_T (gM (am := am) (r := 0) (m := m0) (f := (m0 0)) (by decide) rfl) rfl ⟨rfl, rfl⟩ (n := 3) (by decide +kernel) rfl ⟨Nat.le_of_ble_eq_true rfl, Nat.le_of_ble_eq_true rfl⟩ ⟨Nat.le_of_ble_eq_true rfl, Nat.le_of_ble_eq_true rfl⟩ (Nat.le_of_ble_eq_true rfl) rfl dX10_blows_22 (fun H locs hP hD hS => ?_)
      refine lv_if_eq (tgt := 30) hx hb dX10_blows_25 (by decide) (fun _ => ?_) (fun h => absurd h (by decide))
      refine lv_aload_n hx hb dX10_blows_30 rfl (lv_at hl 0 rfl) ?_
      refine lv_iload_n hx hb dX10_blows_31 rfl (lv_at hl 1 rfl) ?_
      obtain ⟨o15, hc16, hF⟩ := bind_some hF
      try dsimp only at hF
      refine cV_v (As := [.int p1]) (rest := []) hx hb hml hown hw hK hN hA hl.1 hP hD hS k_1766 k_1768 k_52 k_90 k_1769 (met_X10_carries l D cy _ am (D_X10_refuses m0 0 3 p1).2 p1 o15 hc16) (fun _ _ _ => trivial) Xok_T (gM (am := am) (r := 0) (m := (D_X10_refuses m0 0 3 p1).2) (f := ((D_X10_refuses m0 0 3 p1).2 0)) (by decide) rfl) rfl ⟨rfl, rfl⟩ (n := 1) (by decide +kernel) rfl ⟨Nat.le_of_ble_eq_true rfl, Nat.le_of_ble_eq_true rfl⟩ ⟨Nat.le_of_ble_eq_true rfl, Nat.le_of_ble_eq_true rfl⟩ (Nat.le_of_ble_eq_true rfl) rfl dX10_blows_32 (fun H locs hP hD hS => ?_)
      refine lv_aload_n hx hb dX10_blows_35 rfl (lv_at hl 0 rfl) ?_
      refine lv_iconst (v := 0) hx hb dX10_blows_36 (by decide) ?_
      refine put' (ci := 12) (fs := mF am (o15 0)) (v := .int 0) (ty := .int) (ws' := (mW cy am (va_up o15 0 (upd (o15 0) 4 0)))) hx hb hw inWX10 tyX10 tyX10_ok nmX10 hown hK hP hD hS (gM (am := am) (r := 0) (m := o15) (f := (o15 0)) (by decide) rfl) rfl 4 (by decide) k_1574 rfl rfl (by decide +kernel) rfl rfl (Nat.le_of_ble_eq_true rfl) dX10_blows_37 (sM (am := am) (r := 0) (m := o15) (g := (upd (o15 0) 4 0)) (by decide)) (fun H locs hP hD hS => ?_)
      refine lv_iconst (v := 0) hx hb dX10_blows_40 (by decide) ?_
      refine lv_istore_n (lv' := [(2, .int 0), (0, .ref (am 0)), (1, .int p1)]) hx hb dX10_blows_41 rfl hl (by decide) rfl (fun ls hl => ?_)
      have loop42 : ∀ (n : Nat) (i2h42 : Int32) (s42 : Nat → Nat → Int32) (H : Heap) (locs : List Loc) (ls : Array Slot), L_X10_blows_42 n m0 p1 o15 i2h42 s42 = some (r, t') → va_P D vwCl (mW cy am s42) H → va_D A (mW cy am s42) → va_S A s.heap H locs → lv_has ls 3 [(2, .int i2h42), (0, .ref (am 0)), (1, .int p1)] → W p l e rm_X10_blows s m args below meth c H locs 0 0 Q (F0 m 42 ls []) := by
        intro n
        induction n with
        | zero => intro i2h42 s42 H locs ls hF _ _ _ _; exact absurd hF (by simp [L_X10_blows_42])
        | succ n42 ih42 =>
          intro i2h42 s42 H locs ls hF hP hD hS hl
          refine lv_iload_n hx hb dX10_blows_42 rfl (lv_at hl 0 rfl) ?_
          refine lv_aload_n hx hb dX10_blows_43 rfl (lv_at hl 1 rfl) ?_
          refine get' (ci := 12) (fs := mF am (s42 0)) (v := .ref (am 1)) hx hb hw inWX10 hown hK hP (gM (am := am) (r := 0) (m := s42) (f := (s42 0)) (by decide) rfl) rfl 1 (by decide) k_1571 rfl rfl dX10_blows_44 ?_
          refine lv_iconst (v := 0) hx hb dX10_blows_47 (by decide) ?_
          obtain ⟨h17, hF⟩ := ite_some hF
          refine va_iald (n := 1152) (f := (s42 1)) hx hb hK hP _ 0 (gM (am := am) (r := 1) (m := s42) (f := (s42 1)) (by decide) rfl) rfl (vp_inb h17) dX10_blows_48 ?_
          refine lv_icmp_ge (tgt := 80) hx hb dX10_blows_49 (by decide) (fun h18 => ?_) (fun h18 => ?_)
          · replace hF := (if_pos h18).symm.trans hF
            refine lv_iconst (v := 1) hx hb dX10_blows_80 (by decide) ?_
            cases hF
            exact hret _ _ _ _ _ _ hP hD hS rfl rfl rfl dX10_blows_81
          · replace hF := (if_neg h18).symm.trans hF
            refine lv_aload_n hx hb dX10_blows_52 rfl (lv_at hl 1 rfl) ?_
            refine lv_dup hx hb dX10_blows_53 rfl ?_
            refine get' (ci := 12) (fs := mF am (s42 0)) (v := .int ((s42 0) 4)) hx hb hw inWX10 hown hK hP (gM (am := am) (r := 0) (m := s42) (f := (s42 0)) (by decide) rfl) rfl 4 (by decide) k_1574 rfl rfl dX10_blows_54 ?_
            refine lv_aload_n hx hb dX10_blows_57 rfl (lv_at hl 1 rfl) ?_
            refine lv_iload_n hx hb dX10_blows_58 rfl (lv_at hl 0 rfl) ?_
            obtain ⟨r19, hc21, hF⟩ := bind_some hF
            try dsimp only at hF
            refine cV_i (As := [.int i2h42]) (rest := [.int ((s42 0) 4), .ref (am 0)]) hx hb hml hown hw hK hN hA hl.1 hP hD hS k_1770 k_1772 k_53 k_90 k_1773 (met_X10_isOther l D cy _ am s42 i2h42 r19 hc21) (fun _ _ _ => trivial) Xok_T (gM (am := am) (r := 0) (m := s42) (f := (s42 0)) (by decide) rfl) rfl ⟨rfl, rfl⟩ (n := 1) (by decide +kernel) rfl ⟨Nat.le_of_ble_eq_true rfl, Nat.le_of_ble_eq_true rfl⟩ ⟨Nat.le_of_ble_eq_true rfl, Nat.le_of_ble_eq_true rfl⟩ (Nat.le_of_ble_eq_true rfl) rfl dX10_blows_59 (fun H locs hP hD hS => ?_)
            refine lv_if_eq (tgt := 69) hx hb dX10_blows_62 (by decide) (fun h22 => ?_) (fun h22 => ?_)
            · replace hF := (if_pos h22).symm.trans hF
              refine lv_iconst (v := 0) hx hb dX10_blows_69 (by decide) ?_
              refine lv_iadd hx hb dX10_blows_70 ?_
              refine put' (ci := 12) (fs := mF am (s42 0)) (v := .int (((s42 0) 4) + 0)) (ty := .int) (ws' := (mW cy am (va_up s42 0 (upd (s42 0) 4 (((s42 0) 4) + 0))))) hx hb hw inWX10 tyX10 tyX10_ok nmX10 hown hK hP hD hS (gM (am := am) (r := 0) (m := s42) (f := (s42 0)) (by decide) rfl) rfl 4 (by decide) k_1574 rfl rfl (by decide +kernel) rfl rfl (Nat.le_of_ble_eq_true rfl) dX10_blows_71 (sM (am := am) (r := 0) (m := s42) (g := (upd (s42 0) 4 (((s42 0) 4) + 0))) (by decide)) (fun H locs hP hD hS => ?_)
              refine lv_iinc (v := (i2h42 + 1)) (lv' := [(2, .int (i2h42 + 1)), (0, .ref (am 0)), (1, .int p1)]) hx hb dX10_blows_74 hl (k := 0) rfl rfl (by decide) rfl (fun ls hl => ?_)
              refine lv_goto (tgt := 42) hx hb dX10_blows_77 (by decide) ?_
              exact ih42 (i2h42 + 1) (va_up s42 0 (upd (s42 0) 4 (((s42 0) 4) + 0))) _ _ _ hF hP hD hS (lv_sub hl [0, 1, 2] rfl)
            · replace hF := (if_neg h22).symm.trans hF
              refine lv_iconst (v := 1) hx hb dX10_blows_65 (by decide) ?_
              refine lv_goto (tgt := 70) hx hb dX10_blows_66 (by decide) ?_
              refine lv_iadd hx hb dX10_blows_70 ?_
              refine put' (ci := 12) (fs := mF am (s42 0)) (v := .int (((s42 0) 4) + 1)) (ty := .int) (ws' := (mW cy am (va_up s42 0 (upd (s42 0) 4 (((s42 0) 4) + 1))))) hx hb hw inWX10 tyX10 tyX10_ok nmX10 hown hK hP hD hS (gM (am := am) (r := 0) (m := s42) (f := (s42 0)) (by decide) rfl) rfl 4 (by decide) k_1574 rfl rfl (by decide +kernel) rfl rfl (Nat.le_of_ble_eq_true rfl) dX10_blows_71 (sM (am := am) (r := 0) (m := s42) (g := (upd (s42 0) 4 (((s42 0) 4) + 1))) (by decide)) (fun H locs hP hD hS => ?_)
              refine lv_iinc (v := (i2h42 + 1)) (lv' := [(2, .int (i2h42 + 1)), (0, .ref (am 0)), (1, .int p1)]) hx hb dX10_blows_74 hl (k := 0) rfl rfl (by decide) rfl (fun ls hl => ?_)
              refine lv_goto (tgt := 42) hx hb dX10_blows_77 (by decide) ?_
              exact ih42 (i2h42 + 1) (va_up s42 0 (upd (s42 0) 4 (((s42 0) 4) + 1))) _ _ _ hF hP hD hS (lv_sub hl [0, 1, 2] rfl)
      exact loop42 200 0 (va_up o15 0 (upd (o15 0) 4 0)) _ _ _ hF hP hD hS (lv_sub hl [0, 1, 2] rfl)
    · replace hF := (if_pos h9).symm.trans hF
      refine lv_iconst (v := 1) hx hb dX10_blows_15 (by decide) ?_
      refine lv_goto (tgt := 20) hx hb dX10_blows_16 (by decide) ?_
      refine lv_iconst (v := 3) hx hb dX10_blows_20 (by decide) ?_
      refine lv_iload_n hx hb dX10_blows_21 rfl (lv_at hl 1 rfl) ?_
      refine cV_i (As := [.int 1, .int 3, .int p1]) (rest := []) hx hb hml hown hw hK hN hA hl.1 hP hD hS k_1659 k_1661 k_32 k_90 k_1662 (met_X10_refuses l D cy _ am m0 1 3 p1 (Or.inr rfl) 1 (D_X10_refuses m0 1 3 p1).2 (rs_X10_refuses ..)) (fun _ _ _ => trivial) Xok_T (gM (am := am) (r := 0) (m := m0) (f := (m0 0)) (by decide) rfl) rfl ⟨rfl, rfl⟩ (n := 3) (by decide +kernel) rfl ⟨Nat.le_of_ble_eq_true rfl, Nat.le_of_ble_eq_true rfl⟩ ⟨Nat.le_of_ble_eq_true rfl, Nat.le_of_ble_eq_true rfl⟩ (Nat.le_of_ble_eq_true rfl) rfl dX10_blows_22 (fun H locs hP hD hS => ?_)
      refine lv_if_eq (tgt := 30) hx hb dX10_blows_25 (by decide) (fun h => absurd h (by decide)) (fun _ => ?_)
      refine lv_iconst (v := 0) hx hb dX10_blows_28 (by decide) ?_
      cases hF
      exact hret _ _ _ _ _ _ hP hD hS rfl rfl rfl dX10_blows_29
def D_X10_hail (m0 : Nat → Nat → Int32) (p1 : Int32) : Option (Int32 × (Nat → Nat → Int32)) := (D_X10_begins m0).bind (fun o2 => (D_X10_hails o2 p1).bind (fun (r4, o5) => if is01 r4 then ((D_X10_ends o5 r4).bind (fun (r8, o9) => some (r8, o9))) else none))
abbrev rm_X10_hail : Room := { frames := 3, cells := 0, slots := 0, locals := 67 }
set_option maxHeartbeats 4000000 in
set_option maxRecDepth 100000 in
theorem met_X10_hail (l : Launch) (D : va_G) (cy : Nat → ClassId) (sz : Nat) (am : Nat → Nat) (m0 : Nat → Nat → Int32) (p1 : Int32)  (r : Int32) (t' : Nat → Nat → Int32) (hF : D_X10_hail m0 p1 = some (r, t')) : MI l yX10_hail cX10_hail 2 (some .int) rm_X10_hail D cy (mW cy am m0) sz (fun _ => True) [.ref (am 0), .int p1] r (mW cy am t') := by
  refine MI.of (by decide +kernel) (Nat.le_of_ble_eq_true rfl) ?_
  intro p e s m args below meth c A ls Q hAt _ hP hD hA hS hl hret
  obtain ⟨hx, hb, hr, hml, hown, hw, hlk, hK, hN⟩ := hAt
  have hown : s.vm.findClass "CloudDeedsModel" = some m.cls := hown
  have hl : lv_has ls 2 [(0, .ref (am 0)), (1, .int p1)] := hl
  refine lv_aload_n hx hb dX10_hail_0 rfl (lv_at hl 0 rfl) ?_
  obtain ⟨o2, hc3, hF⟩ := bind_some hF
  try dsimp only at hF
  refine cV_v (As := []) (rest := []) hx hb hml hown hw hK hN hA hl.1 hP hD hS k_1641 k_1643 k_29 k_90 k_1644 (met_X10_begins l D cy _ am m0 o2 hc3) (fun _ _ _ => trivial) Xok_T (gM (am := am) (r := 0) (m := m0) (f := (m0 0)) (by decide) rfl) rfl ⟨rfl, rfl⟩ (n := 0) (by decide +kernel) rfl ⟨Nat.le_of_ble_eq_true rfl, Nat.le_of_ble_eq_true rfl⟩ ⟨Nat.le_of_ble_eq_true rfl, Nat.le_of_ble_eq_true rfl⟩ (Nat.le_of_ble_eq_true rfl) rfl dX10_hail_1 (fun H locs hP hD hS => ?_)
  refine lv_aload_n hx hb dX10_hail_4 rfl (lv_at hl 0 rfl) ?_
  refine lv_aload_n hx hb dX10_hail_5 rfl (lv_at hl 0 rfl) ?_
  refine lv_iload_n hx hb dX10_hail_6 rfl (lv_at hl 1 rfl) ?_
  obtain ⟨⟨r4, o5⟩, hc6, hF⟩ := bind_some hF
  try dsimp only at hF
  refine cV_i (As := [.int p1]) (rest := [.ref (am 0)]) hx hb hml hown hw hK hN hA hl.1 hP hD hS k_1778 k_1780 k_54 k_90 k_1781 (met_X10_hails l D cy _ am o2 p1 r4 o5 hc6) (fun _ _ _ => trivial) Xok_T (gM (am := am) (r := 0) (m := o2) (f := (o2 0)) (by decide) rfl) rfl ⟨rfl, rfl⟩ (n := 1) (by decide +kernel) rfl ⟨Nat.le_of_ble_eq_true rfl, Nat.le_of_ble_eq_true rfl⟩ ⟨Nat.le_of_ble_eq_true rfl, Nat.le_of_ble_eq_true rfl⟩ (Nat.le_of_ble_eq_true rfl) rfl dX10_hail_7 (fun H locs hP hD hS => ?_)
  obtain ⟨hg7, hF⟩ := ite_some hF
  obtain ⟨⟨r8, o9⟩, hc10, hF⟩ := bind_some hF
  try dsimp only at hF
  refine cV_i (As := [.int r4]) (rest := []) hx hb hml hown hw hK hN hA hl.1 hP hD hS k_1667 k_1669 k_34 k_90 k_1670 (met_X10_ends l D cy _ am o5 r4 (is01_iff.mp hg7) r8 o9 hc10) (fun _ _ _ => trivial) Xok_T (gM (am := am) (r := 0) (m := o5) (f := (o5 0)) (by decide) rfl) rfl ⟨rfl, rfl⟩ (n := 1) (by decide +kernel) rfl ⟨Nat.le_of_ble_eq_true rfl, Nat.le_of_ble_eq_true rfl⟩ ⟨Nat.le_of_ble_eq_true rfl, Nat.le_of_ble_eq_true rfl⟩ (Nat.le_of_ble_eq_true rfl) rfl dX10_hail_10 (fun H locs hP hD hS => ?_)
  cases hF
  exact hret _ _ _ _ _ _ hP hD hS rfl rfl dX10_hail_13
def L_X10_dawns_62 : Nat → (Nat → Nat → Int32) → (Int32) → (Nat → Nat → Int32) → (Int32) → (Int32) → (Nat → Nat → Int32) → Option (Int32 × (Nat → Nat → Int32))
  | 0, _, _, _, _, _, _ => none
  | n62 + 1, m0, i2h4, s4, i2h62, i1h62, s62 => if inb 0 1152 then (if ((s62 1) (0 : Int32).toNatClampNeg) ≤ i2h62 then (if inb 3 1152 then (if inb 3 1152 then (if inb 1 1152 then (if inb 1 1152 then ((D_X10_records (va_up s62 1 (upd (upd (s62 1) ((3 : Int32).toNatClampNeg) (((s62 1) (3 : Int32).toNatClampNeg) + i1h62)) ((1 : Int32).toNatClampNeg) (((upd (s62 1) ((3 : Int32).toNatClampNeg) (((s62 1) (3 : Int32).toNatClampNeg) + i1h62)) (1 : Int32).toNatClampNeg) + 1)))).bind (fun o10 => some (i1h62, o10))) else none) else none) else none) else none) else ((D_X10_c s62 i2h62 0).bind (fun r12 => if inb (13 + r12) 1152 then ((D_X10_ownerAt s62 i2h62).bind (fun r16 => if 0 ≤ r16 then (if (((s62 1) (13 + r12).toNatClampNeg) - 1) < 0 then (L_X10_dawns_62 n62 m0 i2h4 s4 (i2h62 + 1) i1h62 s62) else ((D_X10_ownerAt s62 i2h62).bind (fun r21 => if r21 = (((s62 1) (13 + r12).toNatClampNeg) - 1) then (if inb (9 + (((s62 1) (13 + r12).toNatClampNeg) - 1)) 1152 then (if inb (9 + (((s62 1) (13 + r12).toNatClampNeg) - 1)) 1152 then (if inb 7 1152 then (if inb 7 1152 then (L_X10_dawns_62 n62 m0 i2h4 s4 (i2h62 + 1) i1h62 (va_up s62 1 (upd (upd (s62 1) ((9 + (((s62 1) (13 + r12).toNatClampNeg) - 1)).toNatClampNeg) (((s62 1) (9 + (((s62 1) (13 + r12).toNatClampNeg) - 1)).toNatClampNeg) + 1)) ((7 : Int32).toNatClampNeg) (((upd (s62 1) ((9 + (((s62 1) (13 + r12).toNatClampNeg) - 1)).toNatClampNeg) (((s62 1) (9 + (((s62 1) (13 + r12).toNatClampNeg) - 1)).toNatClampNeg) + 1)) (7 : Int32).toNatClampNeg) + 1)))) else none) else none) else none) else none) else (L_X10_dawns_62 n62 m0 i2h4 s4 (i2h62 + 1) i1h62 s62)))) else (if (((s62 1) (13 + r12).toNatClampNeg) - 1) < 0 then (if (((s62 1) (13 + r12).toNatClampNeg) - 1) < 0 then (L_X10_dawns_62 n62 m0 i2h4 s4 (i2h62 + 1) i1h62 s62) else ((D_X10_ownerAt s62 i2h62).bind (fun r31 => if r31 = (((s62 1) (13 + r12).toNatClampNeg) - 1) then (if inb (9 + (((s62 1) (13 + r12).toNatClampNeg) - 1)) 1152 then (if inb (9 + (((s62 1) (13 + r12).toNatClampNeg) - 1)) 1152 then (if inb 7 1152 then (if inb 7 1152 then (L_X10_dawns_62 n62 m0 i2h4 s4 (i2h62 + 1) i1h62 (va_up s62 1 (upd (upd (s62 1) ((9 + (((s62 1) (13 + r12).toNatClampNeg) - 1)).toNatClampNeg) (((s62 1) (9 + (((s62 1) (13 + r12).toNatClampNeg) - 1)).toNatClampNeg) + 1)) ((7 : Int32).toNatClampNeg) (((upd (s62 1) ((9 + (((s62 1) (13 + r12).toNatClampNeg) - 1)).toNatClampNeg) (((s62 1) (9 + (((s62 1) (13 + r12).toNatClampNeg) - 1)).toNatClampNeg) + 1)) (7 : Int32).toNatClampNeg) + 1)))) else none) else none) else none) else none) else (L_X10_dawns_62 n62 m0 i2h4 s4 (i2h62 + 1) i1h62 s62)))) else ((D_X10_gets s62 i2h62 (((s62 1) (13 + r12).toNatClampNeg) - 1)).bind (fun o40 => if (((s62 1) (13 + r12).toNatClampNeg) - 1) < 0 then (L_X10_dawns_62 n62 m0 i2h4 s4 (i2h62 + 1) (i1h62 + 1) o40) else ((D_X10_ownerAt o40 i2h62).bind (fun r43 => if r43 = (((s62 1) (13 + r12).toNatClampNeg) - 1) then (if inb (9 + (((s62 1) (13 + r12).toNatClampNeg) - 1)) 1152 then (if inb (9 + (((s62 1) (13 + r12).toNatClampNeg) - 1)) 1152 then (if inb 7 1152 then (if inb 7 1152 then (L_X10_dawns_62 n62 m0 i2h4 s4 (i2h62 + 1) (i1h62 + 1) (va_up o40 1 (upd (upd (o40 1) ((9 + (((s62 1) (13 + r12).toNatClampNeg) - 1)).toNatClampNeg) (((o40 1) (9 + (((s62 1) (13 + r12).toNatClampNeg) - 1)).toNatClampNeg) + 1)) ((7 : Int32).toNatClampNeg) (((upd (o40 1) ((9 + (((s62 1) (13 + r12).toNatClampNeg) - 1)).toNatClampNeg) (((o40 1) (9 + (((s62 1) (13 + r12).toNatClampNeg) - 1)).toNatClampNeg) + 1)) (7 : Int32).toNatClampNeg) + 1)))) else none) else none) else none) else none) else (L_X10_dawns_62 n62 m0 i2h4 s4 (i2h62 + 1) (i1h62 + 1) o40)))))))) else none))) else none
def L_X10_dawns_4 : Nat → (Nat → Nat → Int32) → (Int32) → (Nat → Nat → Int32) → Option (Int32 × (Nat → Nat → Int32))
  | 0, _, _, _ => none
  | n4 + 1, m0, i2h4, s4 => if inb 0 1152 then (if ((s4 1) (0 : Int32).toNatClampNeg) ≤ i2h4 then (L_X10_dawns_62 200 m0 i2h4 s4 0 0 s4) else ((D_X10_isOther s4 i2h4).bind (fun r51 => if r51 = 0 then (L_X10_dawns_4 n4 m0 (i2h4 + 1) s4) else ((D_X10_set s4 i2h4 3 0).bind (fun o56 => (D_X10_set o56 i2h4 4 0).bind (fun o59 => (D_X10_frees o59 i2h4).bind (fun o62 => if inb 2 1152 then (if inb 2 1152 then (L_X10_dawns_4 n4 m0 (i2h4 + 1) (va_up o62 1 (upd (o62 1) ((2 : Int32).toNatClampNeg) (((o62 1) (2 : Int32).toNatClampNeg) + 1)))) else none) else none))))))) else none
def D_X10_dawns (m0 : Nat → Nat → Int32) : Option (Int32 × (Nat → Nat → Int32)) := L_X10_dawns_4 200 m0 0 m0
abbrev rm_X10_dawns : Room := { frames := 3, cells := 0, slots := 0, locals := 64 }
set_option maxHeartbeats 4000000 in
set_option maxRecDepth 100000 in
theorem met_X10_dawns (l : Launch) (D : va_G) (cy : Nat → ClassId) (sz : Nat) (am : Nat → Nat) (m0 : Nat → Nat → Int32)  (r : Int32) (t' : Nat → Nat → Int32) (hF : D_X10_dawns m0 = some (r, t')) : MI l yX10_dawns cX10_dawns 4 (some .int) rm_X10_dawns D cy (mW cy am m0) sz (fun _ => True) [.ref (am 0)] r (mW cy am t') := by
  refine MI.of (by decide +kernel) (Nat.le_of_ble_eq_true rfl) ?_
  intro p e s m args below meth c A ls Q hAt _ hP hD hA hS hl hret
  obtain ⟨hx, hb, hr, hml, hown, hw, hlk, hK, hN⟩ := hAt
  have hown : s.vm.findClass "CloudDeedsModel" = some m.cls := hown
  have hl : lv_has ls 4 [(0, .ref (am 0))] := hl
  refine lv_iconst (v := 0) hx hb dX10_dawns_0 (by decide) ?_
  refine lv_istore_n (lv' := [(1, .int 0), (0, .ref (am 0))]) hx hb dX10_dawns_1 rfl hl (by decide) rfl (fun ls hl => ?_)
  refine lv_iconst (v := 0) hx hb dX10_dawns_2 (by decide) ?_
  refine lv_istore_n (lv' := [(2, .int 0), (1, .int 0), (0, .ref (am 0))]) hx hb dX10_dawns_3 rfl hl (by decide) rfl (fun ls hl => ?_)
  have loop4 : ∀ (n : Nat) (i2h4 : Int32) (s4 : Nat → Nat → Int32) (H : Heap) (locs : List Loc) (ls : Array Slot), L_X10_dawns_4 n m0 i2h4 s4 = some (r, t') → va_P D vwCl (mW cy am s4) H → va_D A (mW cy am s4) → va_S A s.heap H locs → lv_has ls 4 [(2, .int i2h4), (1, .int 0), (0, .ref (am 0))] → W p l e rm_X10_dawns s m args below meth c H locs 0 0 Q (F0 m 4 ls []) := by
    intro n
    induction n with
    | zero => intro i2h4 s4 H locs ls hF _ _ _ _; exact absurd hF (by simp [L_X10_dawns_4])
    | succ n4 ih4 =>
      intro i2h4 s4 H locs ls hF hP hD hS hl
      refine lv_iload_n hx hb dX10_dawns_4 rfl (lv_at hl 0 rfl) ?_
      refine lv_aload_n hx hb dX10_dawns_5 rfl (lv_at hl 2 rfl) ?_
      refine get' (ci := 12) (fs := mF am (s4 0)) (v := .ref (am 1)) hx hb hw inWX10 hown hK hP (gM (am := am) (r := 0) (m := s4) (f := (s4 0)) (by decide) rfl) rfl 1 (by decide) k_1571 rfl rfl dX10_dawns_6 ?_
      refine lv_iconst (v := 0) hx hb dX10_dawns_9 (by decide) ?_
      obtain ⟨h1, hF⟩ := ite_some hF
      refine va_iald (n := 1152) (f := (s4 1)) hx hb hK hP _ 0 (gM (am := am) (r := 1) (m := s4) (f := (s4 1)) (by decide) rfl) rfl (vp_inb h1) dX10_dawns_10 ?_
      refine lv_icmp_ge (tgt := 60) hx hb dX10_dawns_11 (by decide) (fun h2 => ?_) (fun h2 => ?_)
      · replace hF := (if_pos h2).symm.trans hF
        refine lv_iconst (v := 0) hx hb dX10_dawns_60 (by decide) ?_
        refine lv_istore_n (lv' := [(2, .int 0), (1, .int 0), (0, .ref (am 0))]) hx hb dX10_dawns_61 rfl hl (by decide) rfl (fun ls hl => ?_)
        have loop62 : ∀ (n : Nat) (i2h62 : Int32) (i1h62 : Int32) (s62 : Nat → Nat → Int32) (H : Heap) (locs : List Loc) (ls : Array Slot), L_X10_dawns_62 n m0 i2h4 s4 i2h62 i1h62 s62 = some (r, t') → va_P D vwCl (mW cy am s62) H → va_D A (mW cy am s62) → va_S A s.heap H locs → lv_has ls 4 [(2, .int i2h62), (1, .int i1h62), (0, .ref (am 0))] → W p l e rm_X10_dawns s m args below meth c H locs 0 0 Q (F0 m 62 ls []) := by
          intro n
          induction n with
          | zero => intro i2h62 i1h62 s62 H locs ls hF _ _ _ _; exact absurd hF (by simp [L_X10_dawns_62])
          | succ n62 ih62 =>
            intro i2h62 i1h62 s62 H locs ls hF hP hD hS hl
            refine lv_iload_n hx hb dX10_dawns_62 rfl (lv_at hl 0 rfl) ?_
            refine lv_aload_n hx hb dX10_dawns_63 rfl (lv_at hl 2 rfl) ?_
            refine get' (ci := 12) (fs := mF am (s62 0)) (v := .ref (am 1)) hx hb hw inWX10 hown hK hP (gM (am := am) (r := 0) (m := s62) (f := (s62 0)) (by decide) rfl) rfl 1 (by decide) k_1571 rfl rfl dX10_dawns_64 ?_
            refine lv_iconst (v := 0) hx hb dX10_dawns_67 (by decide) ?_
            obtain ⟨h3, hF⟩ := ite_some hF
            refine va_iald (n := 1152) (f := (s62 1)) hx hb hK hP _ 0 (gM (am := am) (r := 1) (m := s62) (f := (s62 1)) (by decide) rfl) rfl (vp_inb h3) dX10_dawns_68 ?_
            refine lv_icmp_ge (tgt := 156) hx hb dX10_dawns_69 (by decide) (fun h4 => ?_) (fun h4 => ?_)
            · replace hF := (if_pos h4).symm.trans hF
              refine lv_aload_n hx hb dX10_dawns_156 rfl (lv_at hl 2 rfl) ?_
              refine get' (ci := 12) (fs := mF am (s62 0)) (v := .ref (am 1)) hx hb hw inWX10 hown hK hP (gM (am := am) (r := 0) (m := s62) (f := (s62 0)) (by decide) rfl) rfl 1 (by decide) k_1571 rfl rfl dX10_dawns_157 ?_
              refine lv_iconst (v := 3) hx hb dX10_dawns_160 (by decide) ?_
              refine lv_dup2_11 hx hb dX10_dawns_161 rfl rfl ?_
              obtain ⟨h5, hF⟩ := ite_some hF
              refine va_iald (n := 1152) (f := (s62 1)) hx hb hK hP _ 0 (gM (am := am) (r := 1) (m := s62) (f := (s62 1)) (by decide) rfl) rfl (vp_inb h5) dX10_dawns_162 ?_
              refine lv_iload_n hx hb dX10_dawns_163 rfl (lv_at hl 1 rfl) ?_
              refine lv_iadd hx hb dX10_dawns_164 ?_
              obtain ⟨h6, hF⟩ := ite_some hF
              refine iast' (n := 1152) (f := (s62 1)) (ws' := (mW cy am (va_up s62 1 (upd (s62 1) ((3 : Int32).toNatClampNeg) (((s62 1) (3 : Int32).toNatClampNeg) + i1h62))))) hx hb hK hP hD hS (gM (am := am) (r := 1) (m := s62) (f := (s62 1)) (by decide) rfl) (t0 := 0) rfl (vp_inb h6) dX10_dawns_165 (sM (am := am) (r := 1) (m := s62) (g := (upd (s62 1) ((3 : Int32).toNatClampNeg) (((s62 1) (3 : Int32).toNatClampNeg) + i1h62))) (by decide)) (fun H locs hP hD hS => ?_)
              refine lv_aload_n hx hb dX10_dawns_166 rfl (lv_at hl 2 rfl) ?_
              refine get' (ci := 12) (fs := mF am (s62 0)) (v := .ref (am 1)) hx hb hw inWX10 hown hK hP (gM (am := am) (r := 0) (m := (va_up s62 1 (upd (s62 1) ((3 : Int32).toNatClampNeg) (((s62 1) (3 : Int32).toNatClampNeg) + i1h62)))) (f := (s62 0)) (by decide) ((va_up_ne _ _ (by decide)).trans rfl)) rfl 1 (by decide) k_1571 rfl rfl dX10_dawns_167 ?_
              refine lv_iconst (v := 1) hx hb dX10_dawns_170 (by decide) ?_
              refine lv_dup2_11 hx hb dX10_dawns_171 rfl rfl ?_
              obtain ⟨h7, hF⟩ := ite_some hF
              refine va_iald (n := 1152) (f := (upd (s62 1) ((3 : Int32).toNatClampNeg) (((s62 1) (3 : Int32).toNatClampNeg) + i1h62))) hx hb hK hP _ 0 (gM (am := am) (r := 1) (m := (va_up s62 1 (upd (s62 1) ((3 : Int32).toNatClampNeg) (((s62 1) (3 : Int32).toNatClampNeg) + i1h62)))) (f := (upd (s62 1) ((3 : Int32).toNatClampNeg) (((s62 1) (3 : Int32).toNatClampNeg) + i1h62))) (by decide) (va_up_self _ _ _)) rfl (vp_inb h7) dX10_dawns_172 ?_
              refine lv_iconst (v := 1) hx hb dX10_dawns_173 (by decide) ?_
              refine lv_iadd hx hb dX10_dawns_174 ?_
              obtain ⟨h8, hF⟩ := ite_some hF
              refine iast' (n := 1152) (f := (upd (s62 1) ((3 : Int32).toNatClampNeg) (((s62 1) (3 : Int32).toNatClampNeg) + i1h62))) (ws' := (mW cy am (va_up s62 1 (upd (upd (s62 1) ((3 : Int32).toNatClampNeg) (((s62 1) (3 : Int32).toNatClampNeg) + i1h62)) ((1 : Int32).toNatClampNeg) (((upd (s62 1) ((3 : Int32).toNatClampNeg) (((s62 1) (3 : Int32).toNatClampNeg) + i1h62)) (1 : Int32).toNatClampNeg) + 1))))) hx hb hK hP hD hS (gM (am := am) (r := 1) (m := (va_up s62 1 (upd (s62 1) ((3 : Int32).toNatClampNeg) (((s62 1) (3 : Int32).toNatClampNeg) + i1h62)))) (f := (upd (s62 1) ((3 : Int32).toNatClampNeg) (((s62 1) (3 : Int32).toNatClampNeg) + i1h62))) (by decide) (va_up_self _ _ _)) (t0 := 0) rfl (vp_inb h8) dX10_dawns_175 ((sM (am := am) (r := 1) (m := (va_up s62 1 (upd (s62 1) ((3 : Int32).toNatClampNeg) (((s62 1) (3 : Int32).toNatClampNeg) + i1h62)))) (g := (upd (upd (s62 1) ((3 : Int32).toNatClampNeg) (((s62 1) (3 : Int32).toNatClampNeg) + i1h62)) ((1 : Int32).toNatClampNeg) (((upd (s62 1) ((3 : Int32).toNatClampNeg) (((s62 1) (3 : Int32).toNatClampNeg) + i1h62)) (1 : Int32).toNatClampNeg) + 1))) (by decide)).trans (congrArg (fun z => mW cy am z) (up_up _ _ _ _))) (fun H locs hP hD hS => ?_)
              refine lv_aload_n hx hb dX10_dawns_176 rfl (lv_at hl 2 rfl) ?_
              obtain ⟨o10, hc11, hF⟩ := bind_some hF
              try dsimp only at hF
              refine cV_v (As := []) (rest := []) hx hb hml hown hw hK hN hA hl.1 hP hD hS k_1794 k_1796 k_57 k_90 k_1797 (met_X10_records l D cy _ am (va_up s62 1 (upd (upd (s62 1) ((3 : Int32).toNatClampNeg) (((s62 1) (3 : Int32).toNatClampNeg) + i1h62)) ((1 : Int32).toNatClampNeg) (((upd (s62 1) ((3 : Int32).toNatClampNeg) (((s62 1) (3 : Int32).toNatClampNeg) + i1h62)) (1 : Int32).toNatClampNeg) + 1))) o10 hc11) (fun _ _ _ => trivial) Xok_T (gM (am := am) (r := 0) (m := (va_up s62 1 (upd (upd (s62 1) ((3 : Int32).toNatClampNeg) (((s62 1) (3 : Int32).toNatClampNeg) + i1h62)) ((1 : Int32).toNatClampNeg) (((upd (s62 1) ((3 : Int32).toNatClampNeg) (((s62 1) (3 : Int32).toNatClampNeg) + i1h62)) (1 : Int32).toNatClampNeg) + 1)))) (f := (s62 0)) (by decide) ((va_up_ne _ _ (by decide)).trans rfl)) rfl ⟨rfl, rfl⟩ (n := 0) (by decide +kernel) rfl ⟨Nat.le_of_ble_eq_true rfl, Nat.le_of_ble_eq_true rfl⟩ ⟨Nat.le_of_ble_eq_true rfl, Nat.le_of_ble_eq_true rfl⟩ (Nat.le_of_ble_eq_true rfl) rfl dX10_dawns_177 (fun H locs hP hD hS => ?_)
              refine lv_iload_n hx hb dX10_dawns_180 rfl (lv_at hl 1 rfl) ?_
              cases hF
              exact hret _ _ _ _ _ _ hP hD hS rfl rfl dX10_dawns_181
            · replace hF := (if_neg h4).symm.trans hF
              refine lv_aload_n hx hb dX10_dawns_72 rfl (lv_at hl 2 rfl) ?_
              refine get' (ci := 12) (fs := mF am (s62 0)) (v := .ref (am 1)) hx hb hw inWX10 hown hK hP (gM (am := am) (r := 0) (m := s62) (f := (s62 0)) (by decide) rfl) rfl 1 (by decide) k_1571 rfl rfl dX10_dawns_73 ?_
              refine lv_bipush (v := 13) hx hb dX10_dawns_76 (by decide) ?_
              refine lv_aload_n hx hb dX10_dawns_78 rfl (lv_at hl 2 rfl) ?_
              refine lv_iload_n hx hb dX10_dawns_79 rfl (lv_at hl 0 rfl) ?_
              refine lv_iconst (v := 0) hx hb dX10_dawns_80 (by decide) ?_
              obtain ⟨r12, hc14, hF⟩ := bind_some hF
              try dsimp only at hF
              refine cV_i (As := [.int i2h62, .int 0]) (rest := [.int 13, .ref (am 1)]) hx hb hml hown hw hK hN hA hl.1 hP hD hS k_1702 k_1704 k_40 k_90 k_1705 (met_X10_c l D cy _ am s62 i2h62 0 r12 hc14) (fun _ _ _ => trivial) Xok_T (gM (am := am) (r := 0) (m := s62) (f := (s62 0)) (by decide) rfl) rfl ⟨rfl, rfl⟩ (n := 2) (by decide +kernel) rfl ⟨Nat.le_of_ble_eq_true rfl, Nat.le_of_ble_eq_true rfl⟩ ⟨Nat.le_of_ble_eq_true rfl, Nat.le_of_ble_eq_true rfl⟩ (Nat.le_of_ble_eq_true rfl) rfl dX10_dawns_81 (fun H locs hP hD hS => ?_)
              refine lv_iadd hx hb dX10_dawns_84 ?_
              obtain ⟨h15, hF⟩ := ite_some hF
              refine va_iald (n := 1152) (f := (s62 1)) hx hb hK hP _ 0 (gM (am := am) (r := 1) (m := s62) (f := (s62 1)) (by decide) rfl) rfl (vp_inb h15) dX10_dawns_85 ?_
              refine lv_iconst (v := 1) hx hb dX10_dawns_86 (by decide) ?_
              refine lv_isub hx hb dX10_dawns_87 ?_
              refine lv_istore_n (lv' := [(3, .int (((s62 1) (13 + r12).toNatClampNeg) - 1)), (2, .int i2h62), (1, .int i1h62), (0, .ref (am 0))]) hx hb dX10_dawns_88 rfl hl (by decide) rfl (fun ls hl => ?_)
              refine lv_aload_n hx hb dX10_dawns_89 rfl (lv_at hl 3 rfl) ?_
              refine lv_iload_n hx hb dX10_dawns_90 rfl (lv_at hl 1 rfl) ?_
              obtain ⟨r16, hc18, hF⟩ := bind_some hF
              try dsimp only at hF
              refine cV_i (As := [.int i2h62]) (rest := []) hx hb hml hown hw hK hN hA hl.1 hP hD hS k_1698 k_1700 k_39 k_90 k_1701 (met_X10_ownerAt l D cy _ am s62 i2h62 r16 hc18) (fun _ _ _ => trivial) Xok_T (gM (am := am) (r := 0) (m := s62) (f := (s62 0)) (by decide) rfl) rfl ⟨rfl, rfl⟩ (n := 1) (by decide +kernel) rfl ⟨Nat.le_of_ble_eq_true rfl, Nat.le_of_ble_eq_true rfl⟩ ⟨Nat.le_of_ble_eq_true rfl, Nat.le_of_ble_eq_true rfl⟩ (Nat.le_of_ble_eq_true rfl) rfl dX10_dawns_91 (fun H locs hP hD hS => ?_)
              refine lv_if_ge (tgt := 110) hx hb dX10_dawns_94 (by decide) (fun h19 => ?_) (fun h19 => ?_)
              · replace hF := (if_pos h19).symm.trans hF
                refine lv_iload_n hx hb dX10_dawns_110 rfl (lv_at hl 0 rfl) ?_
                refine lv_if_lt (tgt := 150) hx hb dX10_dawns_111 (by decide) (fun h20 => ?_) (fun h20 => ?_)
                · replace hF := (if_pos h20).symm.trans hF
                  refine lv_iinc (v := (i2h62 + 1)) (lv' := [(2, .int (i2h62 + 1)), (3, .int (((s62 1) (13 + r12).toNatClampNeg) - 1)), (1, .int i1h62), (0, .ref (am 0))]) hx hb dX10_dawns_150 hl (k := 1) rfl rfl (by decide) rfl (fun ls hl => ?_)
                  refine lv_goto (tgt := 62) hx hb dX10_dawns_153 (by decide) ?_
                  exact ih62 (i2h62 + 1) i1h62 s62 _ _ _ hF hP hD hS (lv_sub hl [0, 2, 3] rfl)
                · replace hF := (if_neg h20).symm.trans hF
                  refine lv_aload_n hx hb dX10_dawns_114 rfl (lv_at hl 3 rfl) ?_
                  refine lv_iload_n hx hb dX10_dawns_115 rfl (lv_at hl 1 rfl) ?_
                  obtain ⟨r21, hc23, hF⟩ := bind_some hF
                  try dsimp only at hF
                  refine cV_i (As := [.int i2h62]) (rest := []) hx hb hml hown hw hK hN hA hl.1 hP hD hS k_1698 k_1700 k_39 k_90 k_1701 (met_X10_ownerAt l D cy _ am s62 i2h62 r21 hc23) (fun _ _ _ => trivial) Xok_T (gM (am := am) (r := 0) (m := s62) (f := (s62 0)) (by decide) rfl) rfl ⟨rfl, rfl⟩ (n := 1) (by decide +kernel) rfl ⟨Nat.le_of_ble_eq_true rfl, Nat.le_of_ble_eq_true rfl⟩ ⟨Nat.le_of_ble_eq_true rfl, Nat.le_of_ble_eq_true rfl⟩ (Nat.le_of_ble_eq_true rfl) rfl dX10_dawns_116 (fun H locs hP hD hS => ?_)
                  refine lv_iload_n hx hb dX10_dawns_119 rfl (lv_at hl 0 rfl) ?_
                  refine lv_icmp_eq (tgt := 126) hx hb dX10_dawns_120 (by decide) (fun h24 => ?_) (fun h24 => ?_)
                  · replace hF := (if_pos h24).symm.trans hF
                    refine lv_aload_n hx hb dX10_dawns_126 rfl (lv_at hl 3 rfl) ?_
                    refine get' (ci := 12) (fs := mF am (s62 0)) (v := .ref (am 1)) hx hb hw inWX10 hown hK hP (gM (am := am) (r := 0) (m := s62) (f := (s62 0)) (by decide) rfl) rfl 1 (by decide) k_1571 rfl rfl dX10_dawns_127 ?_
                    refine lv_bipush (v := 9) hx hb dX10_dawns_130 (by decide) ?_
                    refine lv_iload_n hx hb dX10_dawns_132 rfl (lv_at hl 0 rfl) ?_
                    refine lv_iadd hx hb dX10_dawns_133 ?_
                    refine lv_dup2_11 hx hb dX10_dawns_134 rfl rfl ?_
                    obtain ⟨h25, hF⟩ := ite_some hF
                    refine va_iald (n := 1152) (f := (s62 1)) hx hb hK hP _ 0 (gM (am := am) (r := 1) (m := s62) (f := (s62 1)) (by decide) rfl) rfl (vp_inb h25) dX10_dawns_135 ?_
                    refine lv_iconst (v := 1) hx hb dX10_dawns_136 (by decide) ?_
                    refine lv_iadd hx hb dX10_dawns_137 ?_
                    obtain ⟨h26, hF⟩ := ite_some hF
                    refine iast' (n := 1152) (f := (s62 1)) (ws' := (mW cy am (va_up s62 1 (upd (s62 1) ((9 + (((s62 1) (13 + r12).toNatClampNeg) - 1)).toNatClampNeg) (((s62 1) (9 + (((s62 1) (13 + r12).toNatClampNeg) - 1)).toNatClampNeg) + 1))))) hx hb hK hP hD hS (gM (am := am) (r := 1) (m := s62) (f := (s62 1)) (by decide) rfl) (t0 := 0) rfl (vp_inb h26) dX10_dawns_138 (sM (am := am) (r := 1) (m := s62) (g := (upd (s62 1) ((9 + (((s62 1) (13 + r12).toNatClampNeg) - 1)).toNatClampNeg) (((s62 1) (9 + (((s62 1) (13 + r12).toNatClampNeg) - 1)).toNatClampNeg) + 1))) (by decide)) (fun H locs hP hD hS => ?_)
                    refine lv_aload_n hx hb dX10_dawns_139 rfl (lv_at hl 3 rfl) ?_
                    refine get' (ci := 12) (fs := mF am (s62 0)) (v := .ref (am 1)) hx hb hw inWX10 hown hK hP (gM (am := am) (r := 0) (m := (va_up s62 1 (upd (s62 1) ((9 + (((s62 1) (13 + r12).toNatClampNeg) - 1)).toNatClampNeg) (((s62 1) (9 + (((s62 1) (13 + r12).toNatClampNeg) - 1)).toNatClampNeg) + 1)))) (f := (s62 0)) (by decide) ((va_up_ne _ _ (by decide)).trans rfl)) rfl 1 (by decide) k_1571 rfl rfl dX10_dawns_140 ?_
                    refine lv_bipush (v := 7) hx hb dX10_dawns_143 (by decide) ?_
                    refine lv_dup2_11 hx hb dX10_dawns_145 rfl rfl ?_
                    obtain ⟨h27, hF⟩ := ite_some hF
                    refine va_iald (n := 1152) (f := (upd (s62 1) ((9 + (((s62 1) (13 + r12).toNatClampNeg) - 1)).toNatClampNeg) (((s62 1) (9 + (((s62 1) (13 + r12).toNatClampNeg) - 1)).toNatClampNeg) + 1))) hx hb hK hP _ 0 (gM (am := am) (r := 1) (m := (va_up s62 1 (upd (s62 1) ((9 + (((s62 1) (13 + r12).toNatClampNeg) - 1)).toNatClampNeg) (((s62 1) (9 + (((s62 1) (13 + r12).toNatClampNeg) - 1)).toNatClampNeg) + 1)))) (f := (upd (s62 1) ((9 + (((s62 1) (13 + r12).toNatClampNeg) - 1)).toNatClampNeg) (((s62 1) (9 + (((s62 1) (13 + r12).toNatClampNeg) - 1)).toNatClampNeg) + 1))) (by decide) (va_up_self _ _ _)) rfl (vp_inb h27) dX10_dawns_146 ?_
                    refine lv_iconst (v := 1) hx hb dX10_dawns_147 (by decide) ?_
                    refine lv_iadd hx hb dX10_dawns_148 ?_
                    obtain ⟨h28, hF⟩ := ite_some hF
                    refine iast' (n := 1152) (f := (upd (s62 1) ((9 + (((s62 1) (13 + r12).toNatClampNeg) - 1)).toNatClampNeg) (((s62 1) (9 + (((s62 1) (13 + r12).toNatClampNeg) - 1)).toNatClampNeg) + 1))) (ws' := (mW cy am (va_up s62 1 (upd (upd (s62 1) ((9 + (((s62 1) (13 + r12).toNatClampNeg) - 1)).toNatClampNeg) (((s62 1) (9 + (((s62 1) (13 + r12).toNatClampNeg) - 1)).toNatClampNeg) + 1)) ((7 : Int32).toNatClampNeg) (((upd (s62 1) ((9 + (((s62 1) (13 + r12).toNatClampNeg) - 1)).toNatClampNeg) (((s62 1) (9 + (((s62 1) (13 + r12).toNatClampNeg) - 1)).toNatClampNeg) + 1)) (7 : Int32).toNatClampNeg) + 1))))) hx hb hK hP hD hS (gM (am := am) (r := 1) (m := (va_up s62 1 (upd (s62 1) ((9 + (((s62 1) (13 + r12).toNatClampNeg) - 1)).toNatClampNeg) (((s62 1) (9 + (((s62 1) (13 + r12).toNatClampNeg) - 1)).toNatClampNeg) + 1)))) (f := (upd (s62 1) ((9 + (((s62 1) (13 + r12).toNatClampNeg) - 1)).toNatClampNeg) (((s62 1) (9 + (((s62 1) (13 + r12).toNatClampNeg) - 1)).toNatClampNeg) + 1))) (by decide) (va_up_self _ _ _)) (t0 := 0) rfl (vp_inb h28) dX10_dawns_149 ((sM (am := am) (r := 1) (m := (va_up s62 1 (upd (s62 1) ((9 + (((s62 1) (13 + r12).toNatClampNeg) - 1)).toNatClampNeg) (((s62 1) (9 + (((s62 1) (13 + r12).toNatClampNeg) - 1)).toNatClampNeg) + 1)))) (g := (upd (upd (s62 1) ((9 + (((s62 1) (13 + r12).toNatClampNeg) - 1)).toNatClampNeg) (((s62 1) (9 + (((s62 1) (13 + r12).toNatClampNeg) - 1)).toNatClampNeg) + 1)) ((7 : Int32).toNatClampNeg) (((upd (s62 1) ((9 + (((s62 1) (13 + r12).toNatClampNeg) - 1)).toNatClampNeg) (((s62 1) (9 + (((s62 1) (13 + r12).toNatClampNeg) - 1)).toNatClampNeg) + 1)) (7 : Int32).toNatClampNeg) + 1))) (by decide)).trans (congrArg (fun z => mW cy am z) (up_up _ _ _ _))) (fun H locs hP hD hS => ?_)
                    refine lv_iinc (v := (i2h62 + 1)) (lv' := [(2, .int (i2h62 + 1)), (3, .int (((s62 1) (13 + r12).toNatClampNeg) - 1)), (1, .int i1h62), (0, .ref (am 0))]) hx hb dX10_dawns_150 hl (k := 1) rfl rfl (by decide) rfl (fun ls hl => ?_)
                    refine lv_goto (tgt := 62) hx hb dX10_dawns_153 (by decide) ?_
                    exact ih62 (i2h62 + 1) i1h62 (va_up s62 1 (upd (upd (s62 1) ((9 + (((s62 1) (13 + r12).toNatClampNeg) - 1)).toNatClampNeg) (((s62 1) (9 + (((s62 1) (13 + r12).toNatClampNeg) - 1)).toNatClampNeg) + 1)) ((7 : Int32).toNatClampNeg) (((upd (s62 1) ((9 + (((s62 1) (13 + r12).toNatClampNeg) - 1)).toNatClampNeg) (((s62 1) (9 + (((s62 1) (13 + r12).toNatClampNeg) - 1)).toNatClampNeg) + 1)) (7 : Int32).toNatClampNeg) + 1))) _ _ _ hF hP hD hS (lv_sub hl [0, 2, 3] rfl)
                  · replace hF := (if_neg h24).symm.trans hF
                    refine lv_goto (tgt := 150) hx hb dX10_dawns_123 (by decide) ?_
                    refine lv_iinc (v := (i2h62 + 1)) (lv' := [(2, .int (i2h62 + 1)), (3, .int (((s62 1) (13 + r12).toNatClampNeg) - 1)), (1, .int i1h62), (0, .ref (am 0))]) hx hb dX10_dawns_150 hl (k := 1) rfl rfl (by decide) rfl (fun ls hl => ?_)
                    refine lv_goto (tgt := 62) hx hb dX10_dawns_153 (by decide) ?_
                    exact ih62 (i2h62 + 1) i1h62 s62 _ _ _ hF hP hD hS (lv_sub hl [0, 2, 3] rfl)
              · replace hF := (if_neg h19).symm.trans hF
                refine lv_iload_n hx hb dX10_dawns_97 rfl (lv_at hl 0 rfl) ?_
                refine lv_if_lt (tgt := 110) hx hb dX10_dawns_98 (by decide) (fun h29 => ?_) (fun h29 => ?_)
                · replace hF := (if_pos h29).symm.trans hF
                  refine lv_iload_n hx hb dX10_dawns_110 rfl (lv_at hl 0 rfl) ?_
                  refine lv_if_lt (tgt := 150) hx hb dX10_dawns_111 (by decide) (fun h30 => ?_) (fun h30 => ?_)
                  · replace hF := (if_pos h30).symm.trans hF
                    refine lv_iinc (v := (i2h62 + 1)) (lv' := [(2, .int (i2h62 + 1)), (3, .int (((s62 1) (13 + r12).toNatClampNeg) - 1)), (1, .int i1h62), (0, .ref (am 0))]) hx hb dX10_dawns_150 hl (k := 1) rfl rfl (by decide) rfl (fun ls hl => ?_)
                    refine lv_goto (tgt := 62) hx hb dX10_dawns_153 (by decide) ?_
                    exact ih62 (i2h62 + 1) i1h62 s62 _ _ _ hF hP hD hS (lv_sub hl [0, 2, 3] rfl)
                  · replace hF := (if_neg h30).symm.trans hF
                    refine lv_aload_n hx hb dX10_dawns_114 rfl (lv_at hl 3 rfl) ?_
                    refine lv_iload_n hx hb dX10_dawns_115 rfl (lv_at hl 1 rfl) ?_
                    obtain ⟨r31, hc33, hF⟩ := bind_some hF
                    try dsimp only at hF
                    refine cV_i (As := [.int i2h62]) (rest := []) hx hb hml hown hw hK hN hA hl.1 hP hD hS k_1698 k_1700 k_39 k_90 k_1701 (met_X10_ownerAt l D cy _ am s62 i2h62 r31 hc33) (fun _ _ _ => trivial) Xok_T (gM (am := am) (r := 0) (m := s62) (f := (s62 0)) (by decide) rfl) rfl ⟨rfl, rfl⟩ (n := 1) (by decide +kernel) rfl ⟨Nat.le_of_ble_eq_true rfl, Nat.le_of_ble_eq_true rfl⟩ ⟨Nat.le_of_ble_eq_true rfl, Nat.le_of_ble_eq_true rfl⟩ (Nat.le_of_ble_eq_true rfl) rfl dX10_dawns_116 (fun H locs hP hD hS => ?_)
                    refine lv_iload_n hx hb dX10_dawns_119 rfl (lv_at hl 0 rfl) ?_
                    refine lv_icmp_eq (tgt := 126) hx hb dX10_dawns_120 (by decide) (fun h34 => ?_) (fun h34 => ?_)
                    · replace hF := (if_pos h34).symm.trans hF
                      refine lv_aload_n hx hb dX10_dawns_126 rfl (lv_at hl 3 rfl) ?_
                      refine get' (ci := 12) (fs := mF am (s62 0)) (v := .ref (am 1)) hx hb hw inWX10 hown hK hP (gM (am := am) (r := 0) (m := s62) (f := (s62 0)) (by decide) rfl) rfl 1 (by decide) k_1571 rfl rfl dX10_dawns_127 ?_
                      refine lv_bipush (v := 9) hx hb dX10_dawns_130 (by decide) ?_
                      refine lv_iload_n hx hb dX10_dawns_132 rfl (lv_at hl 0 rfl) ?_
                      refine lv_iadd hx hb dX10_dawns_133 ?_
                      refine lv_dup2_11 hx hb dX10_dawns_134 rfl rfl ?_
                      obtain ⟨h35, hF⟩ := ite_some hF
                      refine va_iald (n := 1152) (f := (s62 1)) hx hb hK hP _ 0 (gM (am := am) (r := 1) (m := s62) (f := (s62 1)) (by decide) rfl) rfl (vp_inb h35) dX10_dawns_135 ?_
                      refine lv_iconst (v := 1) hx hb dX10_dawns_136 (by decide) ?_
                      refine lv_iadd hx hb dX10_dawns_137 ?_
                      obtain ⟨h36, hF⟩ := ite_some hF
                      refine iast' (n := 1152) (f := (s62 1)) (ws' := (mW cy am (va_up s62 1 (upd (s62 1) ((9 + (((s62 1) (13 + r12).toNatClampNeg) - 1)).toNatClampNeg) (((s62 1) (9 + (((s62 1) (13 + r12).toNatClampNeg) - 1)).toNatClampNeg) + 1))))) hx hb hK hP hD hS (gM (am := am) (r := 1) (m := s62) (f := (s62 1)) (by decide) rfl) (t0 := 0) rfl (vp_inb h36) dX10_dawns_138 (sM (am := am) (r := 1) (m := s62) (g := (upd (s62 1) ((9 + (((s62 1) (13 + r12).toNatClampNeg) - 1)).toNatClampNeg) (((s62 1) (9 + (((s62 1) (13 + r12).toNatClampNeg) - 1)).toNatClampNeg) + 1))) (by decide)) (fun H locs hP hD hS => ?_)
                      refine lv_aload_n hx hb dX10_dawns_139 rfl (lv_at hl 3 rfl) ?_
                      refine get' (ci := 12) (fs := mF am (s62 0)) (v := .ref (am 1)) hx hb hw inWX10 hown hK hP (gM (am := am) (r := 0) (m := (va_up s62 1 (upd (s62 1) ((9 + (((s62 1) (13 + r12).toNatClampNeg) - 1)).toNatClampNeg) (((s62 1) (9 + (((s62 1) (13 + r12).toNatClampNeg) - 1)).toNatClampNeg) + 1)))) (f := (s62 0)) (by decide) ((va_up_ne _ _ (by decide)).trans rfl)) rfl 1 (by decide) k_1571 rfl rfl dX10_dawns_140 ?_
                      refine lv_bipush (v := 7) hx hb dX10_dawns_143 (by decide) ?_
                      refine lv_dup2_11 hx hb dX10_dawns_145 rfl rfl ?_
                      obtain ⟨h37, hF⟩ := ite_some hF
                      refine va_iald (n := 1152) (f := (upd (s62 1) ((9 + (((s62 1) (13 + r12).toNatClampNeg) - 1)).toNatClampNeg) (((s62 1) (9 + (((s62 1) (13 + r12).toNatClampNeg) - 1)).toNatClampNeg) + 1))) hx hb hK hP _ 0 (gM (am := am) (r := 1) (m := (va_up s62 1 (upd (s62 1) ((9 + (((s62 1) (13 + r12).toNatClampNeg) - 1)).toNatClampNeg) (((s62 1) (9 + (((s62 1) (13 + r12).toNatClampNeg) - 1)).toNatClampNeg) + 1)))) (f := (upd (s62 1) ((9 + (((s62 1) (13 + r12).toNatClampNeg) - 1)).toNatClampNeg) (((s62 1) (9 + (((s62 1) (13 + r12).toNatClampNeg) - 1)).toNatClampNeg) + 1))) (by decide) (va_up_self _ _ _)) rfl (vp_inb h37) dX10_dawns_146 ?_
                      refine lv_iconst (v := 1) hx hb dX10_dawns_147 (by decide) ?_
                      refine lv_iadd hx hb dX10_dawns_148 ?_
                      obtain ⟨h38, hF⟩ := ite_some hF
                      refine iast' (n := 1152) (f := (upd (s62 1) ((9 + (((s62 1) (13 + r12).toNatClampNeg) - 1)).toNatClampNeg) (((s62 1) (9 + (((s62 1) (13 + r12).toNatClampNeg) - 1)).toNatClampNeg) + 1))) (ws' := (mW cy am (va_up s62 1 (upd (upd (s62 1) ((9 + (((s62 1) (13 + r12).toNatClampNeg) - 1)).toNatClampNeg) (((s62 1) (9 + (((s62 1) (13 + r12).toNatClampNeg) - 1)).toNatClampNeg) + 1)) ((7 : Int32).toNatClampNeg) (((upd (s62 1) ((9 + (((s62 1) (13 + r12).toNatClampNeg) - 1)).toNatClampNeg) (((s62 1) (9 + (((s62 1) (13 + r12).toNatClampNeg) - 1)).toNatClampNeg) + 1)) (7 : Int32).toNatClampNeg) + 1))))) hx hb hK hP hD hS (gM (am := am) (r := 1) (m := (va_up s62 1 (upd (s62 1) ((9 + (((s62 1) (13 + r12).toNatClampNeg) - 1)).toNatClampNeg) (((s62 1) (9 + (((s62 1) (13 + r12).toNatClampNeg) - 1)).toNatClampNeg) + 1)))) (f := (upd (s62 1) ((9 + (((s62 1) (13 + r12).toNatClampNeg) - 1)).toNatClampNeg) (((s62 1) (9 + (((s62 1) (13 + r12).toNatClampNeg) - 1)).toNatClampNeg) + 1))) (by decide) (va_up_self _ _ _)) (t0 := 0) rfl (vp_inb h38) dX10_dawns_149 ((sM (am := am) (r := 1) (m := (va_up s62 1 (upd (s62 1) ((9 + (((s62 1) (13 + r12).toNatClampNeg) - 1)).toNatClampNeg) (((s62 1) (9 + (((s62 1) (13 + r12).toNatClampNeg) - 1)).toNatClampNeg) + 1)))) (g := (upd (upd (s62 1) ((9 + (((s62 1) (13 + r12).toNatClampNeg) - 1)).toNatClampNeg) (((s62 1) (9 + (((s62 1) (13 + r12).toNatClampNeg) - 1)).toNatClampNeg) + 1)) ((7 : Int32).toNatClampNeg) (((upd (s62 1) ((9 + (((s62 1) (13 + r12).toNatClampNeg) - 1)).toNatClampNeg) (((s62 1) (9 + (((s62 1) (13 + r12).toNatClampNeg) - 1)).toNatClampNeg) + 1)) (7 : Int32).toNatClampNeg) + 1))) (by decide)).trans (congrArg (fun z => mW cy am z) (up_up _ _ _ _))) (fun H locs hP hD hS => ?_)
                      refine lv_iinc (v := (i2h62 + 1)) (lv' := [(2, .int (i2h62 + 1)), (3, .int (((s62 1) (13 + r12).toNatClampNeg) - 1)), (1, .int i1h62), (0, .ref (am 0))]) hx hb dX10_dawns_150 hl (k := 1) rfl rfl (by decide) rfl (fun ls hl => ?_)
                      refine lv_goto (tgt := 62) hx hb dX10_dawns_153 (by decide) ?_
                      exact ih62 (i2h62 + 1) i1h62 (va_up s62 1 (upd (upd (s62 1) ((9 + (((s62 1) (13 + r12).toNatClampNeg) - 1)).toNatClampNeg) (((s62 1) (9 + (((s62 1) (13 + r12).toNatClampNeg) - 1)).toNatClampNeg) + 1)) ((7 : Int32).toNatClampNeg) (((upd (s62 1) ((9 + (((s62 1) (13 + r12).toNatClampNeg) - 1)).toNatClampNeg) (((s62 1) (9 + (((s62 1) (13 + r12).toNatClampNeg) - 1)).toNatClampNeg) + 1)) (7 : Int32).toNatClampNeg) + 1))) _ _ _ hF hP hD hS (lv_sub hl [0, 2, 3] rfl)
                    · replace hF := (if_neg h34).symm.trans hF
                      refine lv_goto (tgt := 150) hx hb dX10_dawns_123 (by decide) ?_
                      refine lv_iinc (v := (i2h62 + 1)) (lv' := [(2, .int (i2h62 + 1)), (3, .int (((s62 1) (13 + r12).toNatClampNeg) - 1)), (1, .int i1h62), (0, .ref (am 0))]) hx hb dX10_dawns_150 hl (k := 1) rfl rfl (by decide) rfl (fun ls hl => ?_)
                      refine lv_goto (tgt := 62) hx hb dX10_dawns_153 (by decide) ?_
                      exact ih62 (i2h62 + 1) i1h62 s62 _ _ _ hF hP hD hS (lv_sub hl [0, 2, 3] rfl)
                · replace hF := (if_neg h29).symm.trans hF
                  refine lv_aload_n hx hb dX10_dawns_101 rfl (lv_at hl 3 rfl) ?_
                  refine lv_iload_n hx hb dX10_dawns_102 rfl (lv_at hl 1 rfl) ?_
                  refine lv_iload_n hx hb dX10_dawns_103 rfl (lv_at hl 0 rfl) ?_
                  obtain ⟨o40, hc41, hF⟩ := bind_some hF
                  try dsimp only at hF
                  refine cV_v (As := [.int i2h62, .int (((s62 1) (13 + r12).toNatClampNeg) - 1)]) (rest := []) hx hb hml hown hw hK hN hA hl.1 hP hD hS k_1714 k_1716 k_43 k_90 k_1717 (met_X10_gets l D cy _ am s62 i2h62 (((s62 1) (13 + r12).toNatClampNeg) - 1) o40 hc41) (fun _ _ _ => trivial) Xok_T (gM (am := am) (r := 0) (m := s62) (f := (s62 0)) (by decide) rfl) rfl ⟨rfl, rfl⟩ (n := 2) (by decide +kernel) rfl ⟨Nat.le_of_ble_eq_true rfl, Nat.le_of_ble_eq_true rfl⟩ ⟨Nat.le_of_ble_eq_true rfl, Nat.le_of_ble_eq_true rfl⟩ (Nat.le_of_ble_eq_true rfl) rfl dX10_dawns_104 (fun H locs hP hD hS => ?_)
                  refine lv_iinc (v := (i1h62 + 1)) (lv' := [(1, .int (i1h62 + 1)), (3, .int (((s62 1) (13 + r12).toNatClampNeg) - 1)), (2, .int i2h62), (0, .ref (am 0))]) hx hb dX10_dawns_107 hl (k := 2) rfl rfl (by decide) rfl (fun ls hl => ?_)
                  refine lv_iload_n hx hb dX10_dawns_110 rfl (lv_at hl 1 rfl) ?_
                  refine lv_if_lt (tgt := 150) hx hb dX10_dawns_111 (by decide) (fun h42 => ?_) (fun h42 => ?_)
                  · replace hF := (if_pos h42).symm.trans hF
                    refine lv_iinc (v := (i2h62 + 1)) (lv' := [(2, .int (i2h62 + 1)), (1, .int (i1h62 + 1)), (3, .int (((s62 1) (13 + r12).toNatClampNeg) - 1)), (0, .ref (am 0))]) hx hb dX10_dawns_150 hl (k := 2) rfl rfl (by decide) rfl (fun ls hl => ?_)
                    refine lv_goto (tgt := 62) hx hb dX10_dawns_153 (by decide) ?_
                    exact ih62 (i2h62 + 1) (i1h62 + 1) o40 _ _ _ hF hP hD hS (lv_sub hl [0, 1, 3] rfl)
                  · replace hF := (if_neg h42).symm.trans hF
                    refine lv_aload_n hx hb dX10_dawns_114 rfl (lv_at hl 3 rfl) ?_
                    refine lv_iload_n hx hb dX10_dawns_115 rfl (lv_at hl 2 rfl) ?_
                    obtain ⟨r43, hc45, hF⟩ := bind_some hF
                    try dsimp only at hF
                    refine cV_i (As := [.int i2h62]) (rest := []) hx hb hml hown hw hK hN hA hl.1 hP hD hS k_1698 k_1700 k_39 k_90 k_1701 (met_X10_ownerAt l D cy _ am o40 i2h62 r43 hc45) (fun _ _ _ => trivial) Xok_T (gM (am := am) (r := 0) (m := o40) (f := (o40 0)) (by decide) rfl) rfl ⟨rfl, rfl⟩ (n := 1) (by decide +kernel) rfl ⟨Nat.le_of_ble_eq_true rfl, Nat.le_of_ble_eq_true rfl⟩ ⟨Nat.le_of_ble_eq_true rfl, Nat.le_of_ble_eq_true rfl⟩ (Nat.le_of_ble_eq_true rfl) rfl dX10_dawns_116 (fun H locs hP hD hS => ?_)
                    refine lv_iload_n hx hb dX10_dawns_119 rfl (lv_at hl 1 rfl) ?_
                    refine lv_icmp_eq (tgt := 126) hx hb dX10_dawns_120 (by decide) (fun h46 => ?_) (fun h46 => ?_)
                    · replace hF := (if_pos h46).symm.trans hF
                      refine lv_aload_n hx hb dX10_dawns_126 rfl (lv_at hl 3 rfl) ?_
                      refine get' (ci := 12) (fs := mF am (o40 0)) (v := .ref (am 1)) hx hb hw inWX10 hown hK hP (gM (am := am) (r := 0) (m := o40) (f := (o40 0)) (by decide) rfl) rfl 1 (by decide) k_1571 rfl rfl dX10_dawns_127 ?_
                      refine lv_bipush (v := 9) hx hb dX10_dawns_130 (by decide) ?_
                      refine lv_iload_n hx hb dX10_dawns_132 rfl (lv_at hl 1 rfl) ?_
                      refine lv_iadd hx hb dX10_dawns_133 ?_
                      refine lv_dup2_11 hx hb dX10_dawns_134 rfl rfl ?_
                      obtain ⟨h47, hF⟩ := ite_some hF
                      refine va_iald (n := 1152) (f := (o40 1)) hx hb hK hP _ 0 (gM (am := am) (r := 1) (m := o40) (f := (o40 1)) (by decide) rfl) rfl (vp_inb h47) dX10_dawns_135 ?_
                      refine lv_iconst (v := 1) hx hb dX10_dawns_136 (by decide) ?_
                      refine lv_iadd hx hb dX10_dawns_137 ?_
                      obtain ⟨h48, hF⟩ := ite_some hF
                      refine iast' (n := 1152) (f := (o40 1)) (ws' := (mW cy am (va_up o40 1 (upd (o40 1) ((9 + (((s62 1) (13 + r12).toNatClampNeg) - 1)).toNatClampNeg) (((o40 1) (9 + (((s62 1) (13 + r12).toNatClampNeg) - 1)).toNatClampNeg) + 1))))) hx hb hK hP hD hS (gM (am := am) (r := 1) (m := o40) (f := (o40 1)) (by decide) rfl) (t0 := 0) rfl (vp_inb h48) dX10_dawns_138 (sM (am := am) (r := 1) (m := o40) (g := (upd (o40 1) ((9 + (((s62 1) (13 + r12).toNatClampNeg) - 1)).toNatClampNeg) (((o40 1) (9 + (((s62 1) (13 + r12).toNatClampNeg) - 1)).toNatClampNeg) + 1))) (by decide)) (fun H locs hP hD hS => ?_)
                      refine lv_aload_n hx hb dX10_dawns_139 rfl (lv_at hl 3 rfl) ?_
                      refine get' (ci := 12) (fs := mF am (o40 0)) (v := .ref (am 1)) hx hb hw inWX10 hown hK hP (gM (am := am) (r := 0) (m := (va_up o40 1 (upd (o40 1) ((9 + (((s62 1) (13 + r12).toNatClampNeg) - 1)).toNatClampNeg) (((o40 1) (9 + (((s62 1) (13 + r12).toNatClampNeg) - 1)).toNatClampNeg) + 1)))) (f := (o40 0)) (by decide) ((va_up_ne _ _ (by decide)).trans rfl)) rfl 1 (by decide) k_1571 rfl rfl dX10_dawns_140 ?_
                      refine lv_bipush (v := 7) hx hb dX10_dawns_143 (by decide) ?_
                      refine lv_dup2_11 hx hb dX10_dawns_145 rfl rfl ?_
                      obtain ⟨h49, hF⟩ := ite_some hF
                      refine va_iald (n := 1152) (f := (upd (o40 1) ((9 + (((s62 1) (13 + r12).toNatClampNeg) - 1)).toNatClampNeg) (((o40 1) (9 + (((s62 1) (13 + r12).toNatClampNeg) - 1)).toNatClampNeg) + 1))) hx hb hK hP _ 0 (gM (am := am) (r := 1) (m := (va_up o40 1 (upd (o40 1) ((9 + (((s62 1) (13 + r12).toNatClampNeg) - 1)).toNatClampNeg) (((o40 1) (9 + (((s62 1) (13 + r12).toNatClampNeg) - 1)).toNatClampNeg) + 1)))) (f := (upd (o40 1) ((9 + (((s62 1) (13 + r12).toNatClampNeg) - 1)).toNatClampNeg) (((o40 1) (9 + (((s62 1) (13 + r12).toNatClampNeg) - 1)).toNatClampNeg) + 1))) (by decide) (va_up_self _ _ _)) rfl (vp_inb h49) dX10_dawns_146 ?_
                      refine lv_iconst (v := 1) hx hb dX10_dawns_147 (by decide) ?_
                      refine lv_iadd hx hb dX10_dawns_148 ?_
                      obtain ⟨h50, hF⟩ := ite_some hF
                      refine iast' (n := 1152) (f := (upd (o40 1) ((9 + (((s62 1) (13 + r12).toNatClampNeg) - 1)).toNatClampNeg) (((o40 1) (9 + (((s62 1) (13 + r12).toNatClampNeg) - 1)).toNatClampNeg) + 1))) (ws' := (mW cy am (va_up o40 1 (upd (upd (o40 1) ((9 + (((s62 1) (13 + r12).toNatClampNeg) - 1)).toNatClampNeg) (((o40 1) (9 + (((s62 1) (13 + r12).toNatClampNeg) - 1)).toNatClampNeg) + 1)) ((7 : Int32).toNatClampNeg) (((upd (o40 1) ((9 + (((s62 1) (13 + r12).toNatClampNeg) - 1)).toNatClampNeg) (((o40 1) (9 + (((s62 1) (13 + r12).toNatClampNeg) - 1)).toNatClampNeg) + 1)) (7 : Int32).toNatClampNeg) + 1))))) hx hb hK hP hD hS (gM (am := am) (r := 1) (m := (va_up o40 1 (upd (o40 1) ((9 + (((s62 1) (13 + r12).toNatClampNeg) - 1)).toNatClampNeg) (((o40 1) (9 + (((s62 1) (13 + r12).toNatClampNeg) - 1)).toNatClampNeg) + 1)))) (f := (upd (o40 1) ((9 + (((s62 1) (13 + r12).toNatClampNeg) - 1)).toNatClampNeg) (((o40 1) (9 + (((s62 1) (13 + r12).toNatClampNeg) - 1)).toNatClampNeg) + 1))) (by decide) (va_up_self _ _ _)) (t0 := 0) rfl (vp_inb h50) dX10_dawns_149 ((sM (am := am) (r := 1) (m := (va_up o40 1 (upd (o40 1) ((9 + (((s62 1) (13 + r12).toNatClampNeg) - 1)).toNatClampNeg) (((o40 1) (9 + (((s62 1) (13 + r12).toNatClampNeg) - 1)).toNatClampNeg) + 1)))) (g := (upd (upd (o40 1) ((9 + (((s62 1) (13 + r12).toNatClampNeg) - 1)).toNatClampNeg) (((o40 1) (9 + (((s62 1) (13 + r12).toNatClampNeg) - 1)).toNatClampNeg) + 1)) ((7 : Int32).toNatClampNeg) (((upd (o40 1) ((9 + (((s62 1) (13 + r12).toNatClampNeg) - 1)).toNatClampNeg) (((o40 1) (9 + (((s62 1) (13 + r12).toNatClampNeg) - 1)).toNatClampNeg) + 1)) (7 : Int32).toNatClampNeg) + 1))) (by decide)).trans (congrArg (fun z => mW cy am z) (up_up _ _ _ _))) (fun H locs hP hD hS => ?_)
                      refine lv_iinc (v := (i2h62 + 1)) (lv' := [(2, .int (i2h62 + 1)), (1, .int (i1h62 + 1)), (3, .int (((s62 1) (13 + r12).toNatClampNeg) - 1)), (0, .ref (am 0))]) hx hb dX10_dawns_150 hl (k := 2) rfl rfl (by decide) rfl (fun ls hl => ?_)
                      refine lv_goto (tgt := 62) hx hb dX10_dawns_153 (by decide) ?_
                      exact ih62 (i2h62 + 1) (i1h62 + 1) (va_up o40 1 (upd (upd (o40 1) ((9 + (((s62 1) (13 + r12).toNatClampNeg) - 1)).toNatClampNeg) (((o40 1) (9 + (((s62 1) (13 + r12).toNatClampNeg) - 1)).toNatClampNeg) + 1)) ((7 : Int32).toNatClampNeg) (((upd (o40 1) ((9 + (((s62 1) (13 + r12).toNatClampNeg) - 1)).toNatClampNeg) (((o40 1) (9 + (((s62 1) (13 + r12).toNatClampNeg) - 1)).toNatClampNeg) + 1)) (7 : Int32).toNatClampNeg) + 1))) _ _ _ hF hP hD hS (lv_sub hl [0, 1, 3] rfl)
                    · replace hF := (if_neg h46).symm.trans hF
                      refine lv_goto (tgt := 150) hx hb dX10_dawns_123 (by decide) ?_
                      refine lv_iinc (v := (i2h62 + 1)) (lv' := [(2, .int (i2h62 + 1)), (1, .int (i1h62 + 1)), (3, .int (((s62 1) (13 + r12).toNatClampNeg) - 1)), (0, .ref (am 0))]) hx hb dX10_dawns_150 hl (k := 2) rfl rfl (by decide) rfl (fun ls hl => ?_)
                      refine lv_goto (tgt := 62) hx hb dX10_dawns_153 (by decide) ?_
                      exact ih62 (i2h62 + 1) (i1h62 + 1) o40 _ _ _ hF hP hD hS (lv_sub hl [0, 1, 3] rfl)
        exact loop62 200 0 0 s4 _ _ _ hF hP hD hS (lv_sub hl [0, 1, 2] rfl)
      · replace hF := (if_neg h2).symm.trans hF
        refine lv_aload_n hx hb dX10_dawns_14 rfl (lv_at hl 2 rfl) ?_
        refine lv_iload_n hx hb dX10_dawns_15 rfl (lv_at hl 0 rfl) ?_
        obtain ⟨r51, hc53, hF⟩ := bind_some hF
        try dsimp only at hF
        refine cV_i (As := [.int i2h4]) (rest := []) hx hb hml hown hw hK hN hA hl.1 hP hD hS k_1770 k_1772 k_53 k_90 k_1773 (met_X10_isOther l D cy _ am s4 i2h4 r51 hc53) (fun _ _ _ => trivial) Xok_T (gM (am := am) (r := 0) (m := s4) (f := (s4 0)) (by decide) rfl) rfl ⟨rfl, rfl⟩ (n := 1) (by decide +kernel) rfl ⟨Nat.le_of_ble_eq_true rfl, Nat.le_of_ble_eq_true rfl⟩ ⟨Nat.le_of_ble_eq_true rfl, Nat.le_of_ble_eq_true rfl⟩ (Nat.le_of_ble_eq_true rfl) rfl dX10_dawns_16 (fun H locs hP hD hS => ?_)
        refine lv_if_ne (tgt := 25) hx hb dX10_dawns_19 (by decide) (fun h54 => ?_) (fun h54 => ?_)
        · replace hF := (if_neg h54).symm.trans hF
          refine lv_aload_n hx hb dX10_dawns_25 rfl (lv_at hl 2 rfl) ?_
          refine lv_iload_n hx hb dX10_dawns_26 rfl (lv_at hl 0 rfl) ?_
          refine lv_iconst (v := 3) hx hb dX10_dawns_27 (by decide) ?_
          refine lv_iconst (v := 0) hx hb dX10_dawns_28 (by decide) ?_
          obtain ⟨o56, hc57, hF⟩ := bind_some hF
          try dsimp only at hF
          refine cV_v (As := [.int i2h4, .int 3, .int 0]) (rest := []) hx hb hml hown hw hK hN hA hl.1 hP hD hS k_1663 k_1665 k_33 k_90 k_1666 (met_X10_set l D cy _ am s4 i2h4 3 0 o56 hc57) (fun _ _ _ => trivial) Xok_T (gM (am := am) (r := 0) (m := s4) (f := (s4 0)) (by decide) rfl) rfl ⟨rfl, rfl⟩ (n := 3) (by decide +kernel) rfl ⟨Nat.le_of_ble_eq_true rfl, Nat.le_of_ble_eq_true rfl⟩ ⟨Nat.le_of_ble_eq_true rfl, Nat.le_of_ble_eq_true rfl⟩ (Nat.le_of_ble_eq_true rfl) rfl dX10_dawns_29 (fun H locs hP hD hS => ?_)
          refine lv_aload_n hx hb dX10_dawns_32 rfl (lv_at hl 2 rfl) ?_
          refine lv_iload_n hx hb dX10_dawns_33 rfl (lv_at hl 0 rfl) ?_
          refine lv_iconst (v := 4) hx hb dX10_dawns_34 (by decide) ?_
          refine lv_iconst (v := 0) hx hb dX10_dawns_35 (by decide) ?_
          obtain ⟨o59, hc60, hF⟩ := bind_some hF
          try dsimp only at hF
          refine cV_v (As := [.int i2h4, .int 4, .int 0]) (rest := []) hx hb hml hown hw hK hN hA hl.1 hP hD hS k_1663 k_1665 k_33 k_90 k_1666 (met_X10_set l D cy _ am o56 i2h4 4 0 o59 hc60) (fun _ _ _ => trivial) Xok_T (gM (am := am) (r := 0) (m := o56) (f := (o56 0)) (by decide) rfl) rfl ⟨rfl, rfl⟩ (n := 3) (by decide +kernel) rfl ⟨Nat.le_of_ble_eq_true rfl, Nat.le_of_ble_eq_true rfl⟩ ⟨Nat.le_of_ble_eq_true rfl, Nat.le_of_ble_eq_true rfl⟩ (Nat.le_of_ble_eq_true rfl) rfl dX10_dawns_36 (fun H locs hP hD hS => ?_)
          refine lv_aload_n hx hb dX10_dawns_39 rfl (lv_at hl 2 rfl) ?_
          refine lv_iload_n hx hb dX10_dawns_40 rfl (lv_at hl 0 rfl) ?_
          obtain ⟨o62, hc63, hF⟩ := bind_some hF
          try dsimp only at hF
          refine cV_v (As := [.int i2h4]) (rest := []) hx hb hml hown hw hK hN hA hl.1 hP hD hS k_1754 k_1756 k_50 k_90 k_1757 (met_X10_frees l D cy _ am o59 i2h4 o62 hc63) (fun _ _ _ => trivial) Xok_T (gM (am := am) (r := 0) (m := o59) (f := (o59 0)) (by decide) rfl) rfl ⟨rfl, rfl⟩ (n := 1) (by decide +kernel) rfl ⟨Nat.le_of_ble_eq_true rfl, Nat.le_of_ble_eq_true rfl⟩ ⟨Nat.le_of_ble_eq_true rfl, Nat.le_of_ble_eq_true rfl⟩ (Nat.le_of_ble_eq_true rfl) rfl dX10_dawns_41 (fun H locs hP hD hS => ?_)
          refine lv_aload_n hx hb dX10_dawns_44 rfl (lv_at hl 2 rfl) ?_
          refine get' (ci := 12) (fs := mF am (o62 0)) (v := .ref (am 1)) hx hb hw inWX10 hown hK hP (gM (am := am) (r := 0) (m := o62) (f := (o62 0)) (by decide) rfl) rfl 1 (by decide) k_1571 rfl rfl dX10_dawns_45 ?_
          refine lv_iconst (v := 2) hx hb dX10_dawns_48 (by decide) ?_
          refine lv_dup2_11 hx hb dX10_dawns_49 rfl rfl ?_
          obtain ⟨h64, hF⟩ := ite_some hF
          refine va_iald (n := 1152) (f := (o62 1)) hx hb hK hP _ 0 (gM (am := am) (r := 1) (m := o62) (f := (o62 1)) (by decide) rfl) rfl (vp_inb h64) dX10_dawns_50 ?_
          refine lv_iconst (v := 1) hx hb dX10_dawns_51 (by decide) ?_
          refine lv_iadd hx hb dX10_dawns_52 ?_
          obtain ⟨h65, hF⟩ := ite_some hF
          refine iast' (n := 1152) (f := (o62 1)) (ws' := (mW cy am (va_up o62 1 (upd (o62 1) ((2 : Int32).toNatClampNeg) (((o62 1) (2 : Int32).toNatClampNeg) + 1))))) hx hb hK hP hD hS (gM (am := am) (r := 1) (m := o62) (f := (o62 1)) (by decide) rfl) (t0 := 0) rfl (vp_inb h65) dX10_dawns_53 (sM (am := am) (r := 1) (m := o62) (g := (upd (o62 1) ((2 : Int32).toNatClampNeg) (((o62 1) (2 : Int32).toNatClampNeg) + 1))) (by decide)) (fun H locs hP hD hS => ?_)
          refine lv_iinc (v := (i2h4 + 1)) (lv' := [(2, .int (i2h4 + 1)), (1, .int 0), (0, .ref (am 0))]) hx hb dX10_dawns_54 hl (k := 0) rfl rfl (by decide) rfl (fun ls hl => ?_)
          refine lv_goto (tgt := 4) hx hb dX10_dawns_57 (by decide) ?_
          exact ih4 (i2h4 + 1) (va_up o62 1 (upd (o62 1) ((2 : Int32).toNatClampNeg) (((o62 1) (2 : Int32).toNatClampNeg) + 1))) _ _ _ hF hP hD hS (lv_sub hl [0, 1, 2] rfl)
        · replace hF := (if_pos h54).symm.trans hF
          refine lv_goto (tgt := 54) hx hb dX10_dawns_22 (by decide) ?_
          refine lv_iinc (v := (i2h4 + 1)) (lv' := [(2, .int (i2h4 + 1)), (1, .int 0), (0, .ref (am 0))]) hx hb dX10_dawns_54 hl (k := 0) rfl rfl (by decide) rfl (fun ls hl => ?_)
          refine lv_goto (tgt := 4) hx hb dX10_dawns_57 (by decide) ?_
          exact ih4 (i2h4 + 1) s4 _ _ _ hF hP hD hS (lv_sub hl [0, 1, 2] rfl)
  exact loop4 200 0 m0 _ _ _ hF hP hD hS (lv_sub hl [0, 1, 2] rfl)
def D_X10_cloudOf (m0 : Nat → Nat → Int32) (p1 : Int32) (p2 : Int32) : Option (Int32 × (Nat → Nat → Int32)) := (D_X10_isCloud m0 p1).bind (fun r1 => if r1 = 0 then (some (0, (va_up m0 0 (upd (m0 0) 0 1)))) else (if (D_X10_in p2 0 6) = 0 then (some (0, (va_up m0 0 (upd (m0 0) 0 2)))) else (if p2 = 3 then ((D_X10_ownerAt (va_up m0 0 (upd (m0 0) 0 0)) p1).bind (fun r12 => some (r12, (va_up m0 0 (upd (m0 0) 0 0))))) else (if p2 = 4 then ((D_X10_ownerAt (va_up m0 0 (upd (m0 0) 0 0)) p1).bind (fun r16 => if 0 ≤ r16 then ((D_X10_c (va_up m0 0 (upd (m0 0) 0 0)) p1 4).bind (fun r20 => some (r20, (va_up m0 0 (upd (m0 0) 0 0))))) else (some ((-1), (va_up m0 0 (upd (m0 0) 0 0)))))) else (if p2 = 5 then ((D_X10_lenderAt (va_up m0 0 (upd (m0 0) 0 0)) p1).bind (fun r24 => some (r24, (va_up m0 0 (upd (m0 0) 0 0))))) else (if p2 = 6 then ((D_X10_toRedeem (va_up m0 0 (upd (m0 0) 0 0)) p1).bind (fun r28 => some (r28, (va_up m0 0 (upd (m0 0) 0 0))))) else ((D_X10_c (va_up m0 0 (upd (m0 0) 0 0)) p1 p2).bind (fun r31 => some (r31, (va_up m0 0 (upd (m0 0) 0 0)))))))))))
abbrev rm_X10_cloudOf : Room := { frames := 3, cells := 0, slots := 0, locals := 64 }
set_option maxHeartbeats 4000000 in
set_option maxRecDepth 100000 in
theorem met_X10_cloudOf (l : Launch) (D : va_G) (cy : Nat → ClassId) (sz : Nat) (am : Nat → Nat) (m0 : Nat → Nat → Int32) (p1 : Int32) (p2 : Int32)  (r : Int32) (t' : Nat → Nat → Int32) (hF : D_X10_cloudOf m0 p1 p2 = some (r, t')) : MI l yX10_cloudOf cX10_cloudOf 3 (some .int) rm_X10_cloudOf D cy (mW cy am m0) sz (fun _ => True) [.ref (am 0), .int p1, .int p2] r (mW cy am t') := by
  refine MI.of (by decide +kernel) (Nat.le_of_ble_eq_true rfl) ?_
  intro p e s m args below meth c A ls Q hAt _ hP hD hA hS hl hret
  obtain ⟨hx, hb, hr, hml, hown, hw, hlk, hK, hN⟩ := hAt
  have hown : s.vm.findClass "CloudDeedsModel" = some m.cls := hown
  have hl : lv_has ls 3 [(0, .ref (am 0)), (1, .int p1), (2, .int p2)] := hl
  refine lv_aload_n hx hb dX10_cloudOf_0 rfl (lv_at hl 0 rfl) ?_
  refine lv_aload_n hx hb dX10_cloudOf_1 rfl (lv_at hl 0 rfl) ?_
  refine lv_iload_n hx hb dX10_cloudOf_2 rfl (lv_at hl 1 rfl) ?_
  obtain ⟨r1, hc3, hF⟩ := bind_some hF
  try dsimp only at hF
  refine cV_i (As := [.int p1]) (rest := [.ref (am 0)]) hx hb hml hown hw hK hN hA hl.1 hP hD hS k_1691 k_1693 k_38 k_90 k_1694 (met_X10_isCloud l D cy _ am m0 p1 r1 hc3) (fun _ _ _ => trivial) Xok_T (gM (am := am) (r := 0) (m := m0) (f := (m0 0)) (by decide) rfl) rfl ⟨rfl, rfl⟩ (n := 1) (by decide +kernel) rfl ⟨Nat.le_of_ble_eq_true rfl, Nat.le_of_ble_eq_true rfl⟩ ⟨Nat.le_of_ble_eq_true rfl, Nat.le_of_ble_eq_true rfl⟩ (Nat.le_of_ble_eq_true rfl) rfl dX10_cloudOf_3 (fun H locs hP hD hS => ?_)
  refine lv_if_ne (tgt := 13) hx hb dX10_cloudOf_6 (by decide) (fun h4 => ?_) (fun h4 => ?_)
  · replace hF := (if_neg h4).symm.trans hF
    refine lv_iload_n hx hb dX10_cloudOf_13 rfl (lv_at hl 2 rfl) ?_
    refine lv_iconst (v := 0) hx hb dX10_cloudOf_14 (by decide) ?_
    refine lv_bipush (v := 6) hx hb dX10_cloudOf_15 (by decide) ?_
    refine cS_i (As := [.int p2, .int 0, .int 6]) (rest := [.ref (am 0)]) hx hb hml hown hw hK hN hA hl.1 hP hD hS k_1656 k_1657 k_90 k_1658 (met_X10_in l D cy _ (mW cy am m0) p2 0 6 (D_X10_in p2 0 6) rfl) (fun _ _ _ => trivial) Xok_T ⟨rfl, rfl⟩ (n := 3) (by decide +kernel) rfl ⟨Nat.le_of_ble_eq_true rfl, Nat.le_of_ble_eq_true rfl⟩ ⟨Nat.le_of_ble_eq_true rfl, Nat.le_of_ble_eq_true rfl⟩ (Nat.le_of_ble_eq_true rfl) rfl dX10_cloudOf_17 (fun H locs hP hD hS => ?_)
    refine lv_if_eq (tgt := 27) hx hb dX10_cloudOf_20 (by decide) (fun h8 => ?_) (fun h8 => ?_)
    · replace hF := (if_pos h8).symm.trans hF
      refine lv_iconst (v := 2) hx hb dX10_cloudOf_27 (by decide) ?_
      refine put' (ci := 12) (fs := mF am (m0 0)) (v := .int 2) (ty := .int) (ws' := (mW cy am (va_up m0 0 (upd (m0 0) 0 2)))) hx hb hw inWX10 tyX10 tyX10_ok nmX10 hown hK hP hD hS (gM (am := am) (r := 0) (m := m0) (f := (m0 0)) (by decide) rfl) rfl 0 (by decide) k_1570 rfl rfl (by decide +kernel) rfl rfl (Nat.le_of_ble_eq_true rfl) dX10_cloudOf_28 (sM (am := am) (r := 0) (m := m0) (g := (upd (m0 0) 0 2)) (by decide)) (fun H locs hP hD hS => ?_)
      refine lv_aload_n hx hb dX10_cloudOf_31 rfl (lv_at hl 0 rfl) ?_
      refine get' (ci := 12) (fs := mF am (upd (m0 0) 0 2)) (v := .int 2) hx hb hw inWX10 hown hK hP (gM (am := am) (r := 0) (m := (va_up m0 0 (upd (m0 0) 0 2))) (f := (upd (m0 0) 0 2)) (by decide) (va_up_self _ _ _)) rfl 0 (by decide) k_1570 rfl rfl dX10_cloudOf_32 ?_
      refine lv_if_eq (tgt := 40) hx hb dX10_cloudOf_35 (by decide) (fun h => absurd h (by decide)) (fun _ => ?_)
      refine lv_iconst (v := 0) hx hb dX10_cloudOf_38 (by decide) ?_
      cases hF
      exact hret _ _ _ _ _ _ hP hD hS rfl rfl dX10_cloudOf_39
    · replace hF := (if_neg h8).symm.trans hF
      refine lv_iconst (v := 0) hx hb dX10_cloudOf_23 (by decide) ?_
      refine lv_goto (tgt := 28) hx hb dX10_cloudOf_24 (by decide) ?_
      refine put' (ci := 12) (fs := mF am (m0 0)) (v := .int 0) (ty := .int) (ws' := (mW cy am (va_up m0 0 (upd (m0 0) 0 0)))) hx hb hw inWX10 tyX10 tyX10_ok nmX10 hown hK hP hD hS (gM (am := am) (r := 0) (m := m0) (f := (m0 0)) (by decide) rfl) rfl 0 (by decide) k_1570 rfl rfl (by decide +kernel) rfl rfl (Nat.le_of_ble_eq_true rfl) dX10_cloudOf_28 (sM (am := am) (r := 0) (m := m0) (g := (upd (m0 0) 0 0)) (by decide)) (fun H locs hP hD hS => ?_)
      refine lv_aload_n hx hb dX10_cloudOf_31 rfl (lv_at hl 0 rfl) ?_
      refine get' (ci := 12) (fs := mF am (upd (m0 0) 0 0)) (v := .int 0) hx hb hw inWX10 hown hK hP (gM (am := am) (r := 0) (m := (va_up m0 0 (upd (m0 0) 0 0))) (f := (upd (m0 0) 0 0)) (by decide) (va_up_self _ _ _)) rfl 0 (by decide) k_1570 rfl rfl dX10_cloudOf_32 ?_
      refine lv_if_eq (tgt := 40) hx hb dX10_cloudOf_35 (by decide) (fun _ => ?_) (fun h => absurd h (by decide))
      refine lv_iload_n hx hb dX10_cloudOf_40 rfl (lv_at hl 2 rfl) ?_
      by_cases h11 : p2 = 3
      · replace hF := (if_pos h11).symm.trans hF
        refine lv_tableIn (tgt := 72) (off := 31) hx hb dX10_cloudOf_41 (by rw [h11]; decide) (by rw [h11]; decide) (by rw [h11]; decide) (by decide) ?_
        refine lv_aload_n hx hb dX10_cloudOf_72 rfl (lv_at hl 0 rfl) ?_
        refine lv_iload_n hx hb dX10_cloudOf_73 rfl (lv_at hl 1 rfl) ?_
        obtain ⟨r12, hc14, hF⟩ := bind_some hF
        try dsimp only at hF
        refine cV_i (As := [.int p1]) (rest := []) hx hb hml hown hw hK hN hA hl.1 hP hD hS k_1698 k_1700 k_39 k_90 k_1701 (met_X10_ownerAt l D cy _ am (va_up m0 0 (upd (m0 0) 0 0)) p1 r12 hc14) (fun _ _ _ => trivial) Xok_T (gM (am := am) (r := 0) (m := (va_up m0 0 (upd (m0 0) 0 0))) (f := (upd (m0 0) 0 0)) (by decide) (va_up_self _ _ _)) rfl ⟨rfl, rfl⟩ (n := 1) (by decide +kernel) rfl ⟨Nat.le_of_ble_eq_true rfl, Nat.le_of_ble_eq_true rfl⟩ ⟨Nat.le_of_ble_eq_true rfl, Nat.le_of_ble_eq_true rfl⟩ (Nat.le_of_ble_eq_true rfl) rfl dX10_cloudOf_74 (fun H locs hP hD hS => ?_)
        cases hF
        exact hret _ _ _ _ _ _ hP hD hS rfl rfl dX10_cloudOf_77
      · replace hF := (if_neg h11).symm.trans hF
        by_cases h15 : p2 = 4
        · replace hF := (if_pos h15).symm.trans hF
          refine lv_tableIn (tgt := 78) (off := 37) hx hb dX10_cloudOf_41 (by rw [h15]; decide) (by rw [h15]; decide) (by rw [h15]; decide) (by decide) ?_
          refine lv_aload_n hx hb dX10_cloudOf_78 rfl (lv_at hl 0 rfl) ?_
          refine lv_iload_n hx hb dX10_cloudOf_79 rfl (lv_at hl 1 rfl) ?_
          obtain ⟨r16, hc18, hF⟩ := bind_some hF
          try dsimp only at hF
          refine cV_i (As := [.int p1]) (rest := []) hx hb hml hown hw hK hN hA hl.1 hP hD hS k_1698 k_1700 k_39 k_90 k_1701 (met_X10_ownerAt l D cy _ am (va_up m0 0 (upd (m0 0) 0 0)) p1 r16 hc18) (fun _ _ _ => trivial) Xok_T (gM (am := am) (r := 0) (m := (va_up m0 0 (upd (m0 0) 0 0))) (f := (upd (m0 0) 0 0)) (by decide) (va_up_self _ _ _)) rfl ⟨rfl, rfl⟩ (n := 1) (by decide +kernel) rfl ⟨Nat.le_of_ble_eq_true rfl, Nat.le_of_ble_eq_true rfl⟩ ⟨Nat.le_of_ble_eq_true rfl, Nat.le_of_ble_eq_true rfl⟩ (Nat.le_of_ble_eq_true rfl) rfl dX10_cloudOf_80 (fun H locs hP hD hS => ?_)
          refine lv_if_ge (tgt := 90) hx hb dX10_cloudOf_83 (by decide) (fun h19 => ?_) (fun h19 => ?_)
          · replace hF := (if_pos h19).symm.trans hF
            refine lv_aload_n hx hb dX10_cloudOf_90 rfl (lv_at hl 0 rfl) ?_
            refine lv_iload_n hx hb dX10_cloudOf_91 rfl (lv_at hl 1 rfl) ?_
            refine lv_iconst (v := 4) hx hb dX10_cloudOf_92 (by decide) ?_
            obtain ⟨r20, hc22, hF⟩ := bind_some hF
            try dsimp only at hF
            refine cV_i (As := [.int p1, .int 4]) (rest := []) hx hb hml hown hw hK hN hA hl.1 hP hD hS k_1702 k_1704 k_40 k_90 k_1705 (met_X10_c l D cy _ am (va_up m0 0 (upd (m0 0) 0 0)) p1 4 r20 hc22) (fun _ _ _ => trivial) Xok_T (gM (am := am) (r := 0) (m := (va_up m0 0 (upd (m0 0) 0 0))) (f := (upd (m0 0) 0 0)) (by decide) (va_up_self _ _ _)) rfl ⟨rfl, rfl⟩ (n := 2) (by decide +kernel) rfl ⟨Nat.le_of_ble_eq_true rfl, Nat.le_of_ble_eq_true rfl⟩ ⟨Nat.le_of_ble_eq_true rfl, Nat.le_of_ble_eq_true rfl⟩ (Nat.le_of_ble_eq_true rfl) rfl dX10_cloudOf_93 (fun H locs hP hD hS => ?_)
            cases hF
            exact hret _ _ _ _ _ _ hP hD hS rfl rfl dX10_cloudOf_96
          · replace hF := (if_neg h19).symm.trans hF
            refine lv_iconst (v := (-1)) hx hb dX10_cloudOf_86 (by decide) ?_
            refine lv_goto (tgt := 96) hx hb dX10_cloudOf_87 (by decide) ?_
            cases hF
            exact hret _ _ _ _ _ _ hP hD hS rfl rfl dX10_cloudOf_96
        · replace hF := (if_neg h15).symm.trans hF
          by_cases h23 : p2 = 5
          · replace hF := (if_pos h23).symm.trans hF
            refine lv_tableIn (tgt := 97) (off := 56) hx hb dX10_cloudOf_41 (by rw [h23]; decide) (by rw [h23]; decide) (by rw [h23]; decide) (by decide) ?_
            refine lv_aload_n hx hb dX10_cloudOf_97 rfl (lv_at hl 0 rfl) ?_
            refine lv_iload_n hx hb dX10_cloudOf_98 rfl (lv_at hl 1 rfl) ?_
            obtain ⟨r24, hc26, hF⟩ := bind_some hF
            try dsimp only at hF
            refine cV_i (As := [.int p1]) (rest := []) hx hb hml hown hw hK hN hA hl.1 hP hD hS k_1730 k_1732 k_46 k_90 k_1733 (met_X10_lenderAt l D cy _ am (va_up m0 0 (upd (m0 0) 0 0)) p1 r24 hc26) (fun _ _ _ => trivial) Xok_T (gM (am := am) (r := 0) (m := (va_up m0 0 (upd (m0 0) 0 0))) (f := (upd (m0 0) 0 0)) (by decide) (va_up_self _ _ _)) rfl ⟨rfl, rfl⟩ (n := 1) (by decide +kernel) rfl ⟨Nat.le_of_ble_eq_true rfl, Nat.le_of_ble_eq_true rfl⟩ ⟨Nat.le_of_ble_eq_true rfl, Nat.le_of_ble_eq_true rfl⟩ (Nat.le_of_ble_eq_true rfl) rfl dX10_cloudOf_99 (fun H locs hP hD hS => ?_)
            cases hF
            exact hret _ _ _ _ _ _ hP hD hS rfl rfl dX10_cloudOf_102
          · replace hF := (if_neg h23).symm.trans hF
            by_cases h27 : p2 = 6
            · replace hF := (if_pos h27).symm.trans hF
              refine lv_tableIn (tgt := 103) (off := 62) hx hb dX10_cloudOf_41 (by rw [h27]; decide) (by rw [h27]; decide) (by rw [h27]; decide) (by decide) ?_
              refine lv_aload_n hx hb dX10_cloudOf_103 rfl (lv_at hl 0 rfl) ?_
              refine lv_iload_n hx hb dX10_cloudOf_104 rfl (lv_at hl 1 rfl) ?_
              obtain ⟨r28, hc30, hF⟩ := bind_some hF
              try dsimp only at hF
              refine cV_i (As := [.int p1]) (rest := []) hx hb hml hown hw hK hN hA hl.1 hP hD hS k_1750 k_1752 k_49 k_90 k_1753 (met_X10_toRedeem l D cy _ am (va_up m0 0 (upd (m0 0) 0 0)) p1 r28 hc30) (fun _ _ _ => trivial) Xok_T (gM (am := am) (r := 0) (m := (va_up m0 0 (upd (m0 0) 0 0))) (f := (upd (m0 0) 0 0)) (by decide) (va_up_self _ _ _)) rfl ⟨rfl, rfl⟩ (n := 1) (by decide +kernel) rfl ⟨Nat.le_of_ble_eq_true rfl, Nat.le_of_ble_eq_true rfl⟩ ⟨Nat.le_of_ble_eq_true rfl, Nat.le_of_ble_eq_true rfl⟩ (Nat.le_of_ble_eq_true rfl) rfl dX10_cloudOf_105 (fun H locs hP hD hS => ?_)
              cases hF
              exact hret _ _ _ _ _ _ hP hD hS rfl rfl dX10_cloudOf_108
            · replace hF := (if_neg h27).symm.trans hF
              refine tableDf (tgt := 109) hx hb dX10_cloudOf_41 (fun z hz1 hz2 hz3 => by have eh11 := lv_neT h11 (show (3 : Int32).toInt = 3 by decide); have eh15 := lv_neT h15 (show (4 : Int32).toInt = 4 by decide); have eh23 := lv_neT h23 (show (5 : Int32).toInt = 5 by decide); have eh27 := lv_neT h27 (show (6 : Int32).toInt = 6 by decide); omega) (by decide) ?_
              refine lv_aload_n hx hb dX10_cloudOf_109 rfl (lv_at hl 0 rfl) ?_
              refine lv_iload_n hx hb dX10_cloudOf_110 rfl (lv_at hl 1 rfl) ?_
              refine lv_iload_n hx hb dX10_cloudOf_111 rfl (lv_at hl 2 rfl) ?_
              obtain ⟨r31, hc33, hF⟩ := bind_some hF
              try dsimp only at hF
              refine cV_i (As := [.int p1, .int p2]) (rest := []) hx hb hml hown hw hK hN hA hl.1 hP hD hS k_1702 k_1704 k_40 k_90 k_1705 (met_X10_c l D cy _ am (va_up m0 0 (upd (m0 0) 0 0)) p1 p2 r31 hc33) (fun _ _ _ => trivial) Xok_T (gM (am := am) (r := 0) (m := (va_up m0 0 (upd (m0 0) 0 0))) (f := (upd (m0 0) 0 0)) (by decide) (va_up_self _ _ _)) rfl ⟨rfl, rfl⟩ (n := 2) (by decide +kernel) rfl ⟨Nat.le_of_ble_eq_true rfl, Nat.le_of_ble_eq_true rfl⟩ ⟨Nat.le_of_ble_eq_true rfl, Nat.le_of_ble_eq_true rfl⟩ (Nat.le_of_ble_eq_true rfl) rfl dX10_cloudOf_112 (fun H locs hP hD hS => ?_)
              cases hF
              exact hret _ _ _ _ _ _ hP hD hS rfl rfl dX10_cloudOf_115
  · replace hF := (if_pos h4).symm.trans hF
    refine lv_iconst (v := 1) hx hb dX10_cloudOf_9 (by decide) ?_
    refine lv_goto (tgt := 28) hx hb dX10_cloudOf_10 (by decide) ?_
    refine put' (ci := 12) (fs := mF am (m0 0)) (v := .int 1) (ty := .int) (ws' := (mW cy am (va_up m0 0 (upd (m0 0) 0 1)))) hx hb hw inWX10 tyX10 tyX10_ok nmX10 hown hK hP hD hS (gM (am := am) (r := 0) (m := m0) (f := (m0 0)) (by decide) rfl) rfl 0 (by decide) k_1570 rfl rfl (by decide +kernel) rfl rfl (Nat.le_of_ble_eq_true rfl) dX10_cloudOf_28 (sM (am := am) (r := 0) (m := m0) (g := (upd (m0 0) 0 1)) (by decide)) (fun H locs hP hD hS => ?_)
    refine lv_aload_n hx hb dX10_cloudOf_31 rfl (lv_at hl 0 rfl) ?_
    refine get' (ci := 12) (fs := mF am (upd (m0 0) 0 1)) (v := .int 1) hx hb hw inWX10 hown hK hP (gM (am := am) (r := 0) (m := (va_up m0 0 (upd (m0 0) 0 1))) (f := (upd (m0 0) 0 1)) (by decide) (va_up_self _ _ _)) rfl 0 (by decide) k_1570 rfl rfl dX10_cloudOf_32 ?_
    refine lv_if_eq (tgt := 40) hx hb dX10_cloudOf_35 (by decide) (fun h => absurd h (by decide)) (fun _ => ?_)
    refine lv_iconst (v := 0) hx hb dX10_cloudOf_38 (by decide) ?_
    cases hF
    exact hret _ _ _ _ _ _ hP hD hS rfl rfl dX10_cloudOf_39
def D_X10_ownerOf (m0 : Nat → Nat → Int32) (p1 : Int32) (p2 : Int32) : Option (Int32 × (Nat → Nat → Int32)) := if (D_X10_isOwner p1) = 0 then (some (0, (va_up m0 0 (upd (m0 0) 0 1)))) else (if (D_X10_in p2 0 4) = 0 then (some (0, (va_up m0 0 (upd (m0 0) 0 2)))) else (if p2 = 0 then ((D_X10_coinsAt (va_up m0 0 (upd (m0 0) 0 0)) p1).bind (fun r19 => some (r19, (va_up m0 0 (upd (m0 0) 0 0))))) else (if p2 = 1 then ((D_X10_vinesOf (va_up m0 0 (upd (m0 0) 0 0)) p1).bind (fun r16 => some (r16, (va_up m0 0 (upd (m0 0) 0 0))))) else ((D_X10_ofOwner (va_up m0 0 (upd (m0 0) 0 0)) p1 p2).bind (fun r13 => some (r13, (va_up m0 0 (upd (m0 0) 0 0))))))))
abbrev rm_X10_ownerOf : Room := { frames := 3, cells := 0, slots := 0, locals := 68 }
set_option maxHeartbeats 4000000 in
set_option maxRecDepth 100000 in
theorem met_X10_ownerOf (l : Launch) (D : va_G) (cy : Nat → ClassId) (sz : Nat) (am : Nat → Nat) (m0 : Nat → Nat → Int32) (p1 : Int32) (p2 : Int32)  (r : Int32) (t' : Nat → Nat → Int32) (hF : D_X10_ownerOf m0 p1 p2 = some (r, t')) : MI l yX10_ownerOf cX10_ownerOf 3 (some .int) rm_X10_ownerOf D cy (mW cy am m0) sz (fun _ => True) [.ref (am 0), .int p1, .int p2] r (mW cy am t') := by
  refine MI.of (by decide +kernel) (Nat.le_of_ble_eq_true rfl) ?_
  intro p e s m args below meth c A ls Q hAt _ hP hD hA hS hl hret
  obtain ⟨hx, hb, hr, hml, hown, hw, hlk, hK, hN⟩ := hAt
  have hown : s.vm.findClass "CloudDeedsModel" = some m.cls := hown
  have hl : lv_has ls 3 [(0, .ref (am 0)), (1, .int p1), (2, .int p2)] := hl
  refine lv_aload_n hx hb dX10_ownerOf_0 rfl (lv_at hl 0 rfl) ?_
  refine lv_iload_n hx hb dX10_ownerOf_1 rfl (lv_at hl 1 rfl) ?_
  refine cS_i (As := [.int p1]) (rest := [.ref (am 0)]) hx hb hml hown hw hK hN hA hl.1 hP hD hS k_1695 k_1696 k_90 k_1697 (met_X10_isOwner l D cy _ (mW cy am m0) p1 (D_X10_isOwner p1) rfl) (fun _ _ _ => trivial) Xok_T ⟨rfl, rfl⟩ (n := 1) (by decide +kernel) rfl ⟨Nat.le_of_ble_eq_true rfl, Nat.le_of_ble_eq_true rfl⟩ ⟨Nat.le_of_ble_eq_true rfl, Nat.le_of_ble_eq_true rfl⟩ (Nat.le_of_ble_eq_true rfl) rfl dX10_ownerOf_2 (fun H locs hP hD hS => ?_)
  refine lv_if_ne (tgt := 12) hx hb dX10_ownerOf_5 (by decide) (fun h4 => ?_) (fun h4 => ?_)
  · replace hF := (if_neg h4).symm.trans hF
    refine lv_iload_n hx hb dX10_ownerOf_12 rfl (lv_at hl 2 rfl) ?_
    refine lv_iconst (v := 0) hx hb dX10_ownerOf_13 (by decide) ?_
    refine lv_iconst (v := 4) hx hb dX10_ownerOf_14 (by decide) ?_
    refine cS_i (As := [.int p2, .int 0, .int 4]) (rest := [.ref (am 0)]) hx hb hml hown hw hK hN hA hl.1 hP hD hS k_1656 k_1657 k_90 k_1658 (met_X10_in l D cy _ (mW cy am m0) p2 0 4 (D_X10_in p2 0 4) rfl) (fun _ _ _ => trivial) Xok_T ⟨rfl, rfl⟩ (n := 3) (by decide +kernel) rfl ⟨Nat.le_of_ble_eq_true rfl, Nat.le_of_ble_eq_true rfl⟩ ⟨Nat.le_of_ble_eq_true rfl, Nat.le_of_ble_eq_true rfl⟩ (Nat.le_of_ble_eq_true rfl) rfl dX10_ownerOf_15 (fun H locs hP hD hS => ?_)
    refine lv_if_eq (tgt := 25) hx hb dX10_ownerOf_18 (by decide) (fun h8 => ?_) (fun h8 => ?_)
    · replace hF := (if_pos h8).symm.trans hF
      refine lv_iconst (v := 2) hx hb dX10_ownerOf_25 (by decide) ?_
      refine put' (ci := 12) (fs := mF am (m0 0)) (v := .int 2) (ty := .int) (ws' := (mW cy am (va_up m0 0 (upd (m0 0) 0 2)))) hx hb hw inWX10 tyX10 tyX10_ok nmX10 hown hK hP hD hS (gM (am := am) (r := 0) (m := m0) (f := (m0 0)) (by decide) rfl) rfl 0 (by decide) k_1570 rfl rfl (by decide +kernel) rfl rfl (Nat.le_of_ble_eq_true rfl) dX10_ownerOf_26 (sM (am := am) (r := 0) (m := m0) (g := (upd (m0 0) 0 2)) (by decide)) (fun H locs hP hD hS => ?_)
      refine lv_aload_n hx hb dX10_ownerOf_29 rfl (lv_at hl 0 rfl) ?_
      refine get' (ci := 12) (fs := mF am (upd (m0 0) 0 2)) (v := .int 2) hx hb hw inWX10 hown hK hP (gM (am := am) (r := 0) (m := (va_up m0 0 (upd (m0 0) 0 2))) (f := (upd (m0 0) 0 2)) (by decide) (va_up_self _ _ _)) rfl 0 (by decide) k_1570 rfl rfl dX10_ownerOf_30 ?_
      refine lv_if_eq (tgt := 38) hx hb dX10_ownerOf_33 (by decide) (fun h => absurd h (by decide)) (fun _ => ?_)
      refine lv_iconst (v := 0) hx hb dX10_ownerOf_36 (by decide) ?_
      cases hF
      exact hret _ _ _ _ _ _ hP hD hS rfl rfl dX10_ownerOf_37
    · replace hF := (if_neg h8).symm.trans hF
      refine lv_iconst (v := 0) hx hb dX10_ownerOf_21 (by decide) ?_
      refine lv_goto (tgt := 26) hx hb dX10_ownerOf_22 (by decide) ?_
      refine put' (ci := 12) (fs := mF am (m0 0)) (v := .int 0) (ty := .int) (ws' := (mW cy am (va_up m0 0 (upd (m0 0) 0 0)))) hx hb hw inWX10 tyX10 tyX10_ok nmX10 hown hK hP hD hS (gM (am := am) (r := 0) (m := m0) (f := (m0 0)) (by decide) rfl) rfl 0 (by decide) k_1570 rfl rfl (by decide +kernel) rfl rfl (Nat.le_of_ble_eq_true rfl) dX10_ownerOf_26 (sM (am := am) (r := 0) (m := m0) (g := (upd (m0 0) 0 0)) (by decide)) (fun H locs hP hD hS => ?_)
      refine lv_aload_n hx hb dX10_ownerOf_29 rfl (lv_at hl 0 rfl) ?_
      refine get' (ci := 12) (fs := mF am (upd (m0 0) 0 0)) (v := .int 0) hx hb hw inWX10 hown hK hP (gM (am := am) (r := 0) (m := (va_up m0 0 (upd (m0 0) 0 0))) (f := (upd (m0 0) 0 0)) (by decide) (va_up_self _ _ _)) rfl 0 (by decide) k_1570 rfl rfl dX10_ownerOf_30 ?_
      refine lv_if_eq (tgt := 38) hx hb dX10_ownerOf_33 (by decide) (fun _ => ?_) (fun h => absurd h (by decide))
      refine lv_iload_n hx hb dX10_ownerOf_38 rfl (lv_at hl 2 rfl) ?_
      refine lv_if_ne (tgt := 50) hx hb dX10_ownerOf_39 (by decide) (fun h11 => ?_) (fun h11 => ?_)
      · replace hF := (if_neg h11).symm.trans hF
        refine lv_iload_n hx hb dX10_ownerOf_50 rfl (lv_at hl 2 rfl) ?_
        refine lv_iconst (v := 1) hx hb dX10_ownerOf_51 (by decide) ?_
        refine lv_icmp_ne (tgt := 63) hx hb dX10_ownerOf_52 (by decide) (fun h12 => ?_) (fun h12 => ?_)
        · replace hF := (if_neg h12).symm.trans hF
          refine lv_aload_n hx hb dX10_ownerOf_63 rfl (lv_at hl 0 rfl) ?_
          refine lv_iload_n hx hb dX10_ownerOf_64 rfl (lv_at hl 1 rfl) ?_
          refine lv_iload_n hx hb dX10_ownerOf_65 rfl (lv_at hl 2 rfl) ?_
          obtain ⟨r13, hc15, hF⟩ := bind_some hF
          try dsimp only at hF
          refine cV_i (As := [.int p1, .int p2]) (rest := []) hx hb hml hown hw hK hN hA hl.1 hP hD hS k_1810 k_1812 k_59 k_90 k_1813 (met_X10_ofOwner l D cy _ am (va_up m0 0 (upd (m0 0) 0 0)) p1 p2 r13 hc15) (fun _ _ _ => trivial) Xok_T (gM (am := am) (r := 0) (m := (va_up m0 0 (upd (m0 0) 0 0))) (f := (upd (m0 0) 0 0)) (by decide) (va_up_self _ _ _)) rfl ⟨rfl, rfl⟩ (n := 2) (by decide +kernel) rfl ⟨Nat.le_of_ble_eq_true rfl, Nat.le_of_ble_eq_true rfl⟩ ⟨Nat.le_of_ble_eq_true rfl, Nat.le_of_ble_eq_true rfl⟩ (Nat.le_of_ble_eq_true rfl) rfl dX10_ownerOf_66 (fun H locs hP hD hS => ?_)
          cases hF
          exact hret _ _ _ _ _ _ hP hD hS rfl rfl dX10_ownerOf_69
        · replace hF := (if_pos h12).symm.trans hF
          refine lv_aload_n hx hb dX10_ownerOf_55 rfl (lv_at hl 0 rfl) ?_
          refine lv_iload_n hx hb dX10_ownerOf_56 rfl (lv_at hl 1 rfl) ?_
          obtain ⟨r16, hc18, hF⟩ := bind_some hF
          try dsimp only at hF
          refine cV_i (As := [.int p1]) (rest := []) hx hb hml hown hw hK hN hA hl.1 hP hD hS k_1806 k_1808 k_58 k_90 k_1809 (met_X10_vinesOf l D cy _ am (va_up m0 0 (upd (m0 0) 0 0)) p1 r16 hc18) (fun _ _ _ => trivial) Xok_T (gM (am := am) (r := 0) (m := (va_up m0 0 (upd (m0 0) 0 0))) (f := (upd (m0 0) 0 0)) (by decide) (va_up_self _ _ _)) rfl ⟨rfl, rfl⟩ (n := 1) (by decide +kernel) rfl ⟨Nat.le_of_ble_eq_true rfl, Nat.le_of_ble_eq_true rfl⟩ ⟨Nat.le_of_ble_eq_true rfl, Nat.le_of_ble_eq_true rfl⟩ (Nat.le_of_ble_eq_true rfl) rfl dX10_ownerOf_57 (fun H locs hP hD hS => ?_)
          refine lv_goto (tgt := 69) hx hb dX10_ownerOf_60 (by decide) ?_
          cases hF
          exact hret _ _ _ _ _ _ hP hD hS rfl rfl dX10_ownerOf_69
      · replace hF := (if_pos h11).symm.trans hF
        refine lv_aload_n hx hb dX10_ownerOf_42 rfl (lv_at hl 0 rfl) ?_
        refine lv_iload_n hx hb dX10_ownerOf_43 rfl (lv_at hl 1 rfl) ?_
        obtain ⟨r19, hc21, hF⟩ := bind_some hF
        try dsimp only at hF
        refine cV_i (As := [.int p1]) (rest := []) hx hb hml hown hw hK hN hA hl.1 hP hD hS k_1706 k_1708 k_41 k_90 k_1709 (met_X10_coinsAt l D cy _ am (va_up m0 0 (upd (m0 0) 0 0)) p1 r19 hc21) (fun _ _ _ => trivial) Xok_T (gM (am := am) (r := 0) (m := (va_up m0 0 (upd (m0 0) 0 0))) (f := (upd (m0 0) 0 0)) (by decide) (va_up_self _ _ _)) rfl ⟨rfl, rfl⟩ (n := 1) (by decide +kernel) rfl ⟨Nat.le_of_ble_eq_true rfl, Nat.le_of_ble_eq_true rfl⟩ ⟨Nat.le_of_ble_eq_true rfl, Nat.le_of_ble_eq_true rfl⟩ (Nat.le_of_ble_eq_true rfl) rfl dX10_ownerOf_44 (fun H locs hP hD hS => ?_)
        refine lv_goto (tgt := 69) hx hb dX10_ownerOf_47 (by decide) ?_
        cases hF
        exact hret _ _ _ _ _ _ hP hD hS rfl rfl dX10_ownerOf_69
  · replace hF := (if_pos h4).symm.trans hF
    refine lv_iconst (v := 1) hx hb dX10_ownerOf_8 (by decide) ?_
    refine lv_goto (tgt := 26) hx hb dX10_ownerOf_9 (by decide) ?_
    refine put' (ci := 12) (fs := mF am (m0 0)) (v := .int 1) (ty := .int) (ws' := (mW cy am (va_up m0 0 (upd (m0 0) 0 1)))) hx hb hw inWX10 tyX10 tyX10_ok nmX10 hown hK hP hD hS (gM (am := am) (r := 0) (m := m0) (f := (m0 0)) (by decide) rfl) rfl 0 (by decide) k_1570 rfl rfl (by decide +kernel) rfl rfl (Nat.le_of_ble_eq_true rfl) dX10_ownerOf_26 (sM (am := am) (r := 0) (m := m0) (g := (upd (m0 0) 0 1)) (by decide)) (fun H locs hP hD hS => ?_)
    refine lv_aload_n hx hb dX10_ownerOf_29 rfl (lv_at hl 0 rfl) ?_
    refine get' (ci := 12) (fs := mF am (upd (m0 0) 0 1)) (v := .int 1) hx hb hw inWX10 hown hK hP (gM (am := am) (r := 0) (m := (va_up m0 0 (upd (m0 0) 0 1))) (f := (upd (m0 0) 0 1)) (by decide) (va_up_self _ _ _)) rfl 0 (by decide) k_1570 rfl rfl dX10_ownerOf_30 ?_
    refine lv_if_eq (tgt := 38) hx hb dX10_ownerOf_33 (by decide) (fun h => absurd h (by decide)) (fun _ => ?_)
    refine lv_iconst (v := 0) hx hb dX10_ownerOf_36 (by decide) ?_
    cases hF
    exact hret _ _ _ _ _ _ hP hD hS rfl rfl dX10_ownerOf_37
def D_X10_clouds (m0 : Nat → Nat → Int32) (p1 : Int32) : Option (Int32 × (Nat → Nat → Int32)) := if (D_X10_isOwner p1) = 0 then (some (0, (D_X10_isThere m0 (D_X10_isOwner p1)).2)) else ((D_X10_ofOwner (D_X10_isThere m0 (D_X10_isOwner p1)).2 p1 5).bind (fun r8 => some (r8, (D_X10_isThere m0 (D_X10_isOwner p1)).2)))
abbrev rm_X10_clouds : Room := { frames := 3, cells := 0, slots := 0, locals := 68 }
set_option maxHeartbeats 4000000 in
set_option maxRecDepth 100000 in
theorem met_X10_clouds (l : Launch) (D : va_G) (cy : Nat → ClassId) (sz : Nat) (am : Nat → Nat) (m0 : Nat → Nat → Int32) (p1 : Int32)  (r : Int32) (t' : Nat → Nat → Int32) (hF : D_X10_clouds m0 p1 = some (r, t')) : MI l yX10_clouds cX10_clouds 2 (some .int) rm_X10_clouds D cy (mW cy am m0) sz (fun _ => True) [.ref (am 0), .int p1] r (mW cy am t') := by
  refine MI.of (by decide +kernel) (Nat.le_of_ble_eq_true rfl) ?_
  intro p e s m args below meth c A ls Q hAt _ hP hD hA hS hl hret
  obtain ⟨hx, hb, hr, hml, hown, hw, hlk, hK, hN⟩ := hAt
  have hown : s.vm.findClass "CloudDeedsModel" = some m.cls := hown
  have hl : lv_has ls 2 [(0, .ref (am 0)), (1, .int p1)] := hl
  refine lv_aload_n hx hb dX10_clouds_0 rfl (lv_at hl 0 rfl) ?_
  refine lv_iload_n hx hb dX10_clouds_1 rfl (lv_at hl 1 rfl) ?_
  refine cS_i (As := [.int p1]) (rest := [.ref (am 0)]) hx hb hml hown hw hK hN hA hl.1 hP hD hS k_1695 k_1696 k_90 k_1697 (met_X10_isOwner l D cy _ (mW cy am m0) p1 (D_X10_isOwner p1) rfl) (fun _ _ _ => trivial) Xok_T ⟨rfl, rfl⟩ (n := 1) (by decide +kernel) rfl ⟨Nat.le_of_ble_eq_true rfl, Nat.le_of_ble_eq_true rfl⟩ ⟨Nat.le_of_ble_eq_true rfl, Nat.le_of_ble_eq_true rfl⟩ (Nat.le_of_ble_eq_true rfl) rfl dX10_clouds_2 (fun H locs hP hD hS => ?_)
  refine cV_i (As := [.int (D_X10_isOwner p1)]) (rest := []) hx hb hml hown hw hK hN hA hl.1 hP hD hS k_1633 k_1635 k_28 k_90 k_1636 (met_X10_isThere l D cy _ am m0 (D_X10_isOwner p1) (bz_X10_isOwner ..) (D_X10_isOwner p1) (D_X10_isThere m0 (D_X10_isOwner p1)).2 (rs_X10_isThere ..)) (fun _ _ _ => trivial) Xok_T (gM (am := am) (r := 0) (m := m0) (f := (m0 0)) (by decide) rfl) rfl ⟨rfl, rfl⟩ (n := 1) (by decide +kernel) rfl ⟨Nat.le_of_ble_eq_true rfl, Nat.le_of_ble_eq_true rfl⟩ ⟨Nat.le_of_ble_eq_true rfl, Nat.le_of_ble_eq_true rfl⟩ (Nat.le_of_ble_eq_true rfl) rfl dX10_clouds_5 (fun H locs hP hD hS => ?_)
  refine lv_if_eq (tgt := 20) hx hb dX10_clouds_8 (by decide) (fun h7 => ?_) (fun h7 => ?_)
  · replace hF := (if_pos h7).symm.trans hF
    refine lv_iconst (v := 0) hx hb dX10_clouds_20 (by decide) ?_
    cases hF
    exact hret _ _ _ _ _ _ hP hD hS rfl rfl dX10_clouds_21
  · replace hF := (if_neg h7).symm.trans hF
    refine lv_aload_n hx hb dX10_clouds_11 rfl (lv_at hl 0 rfl) ?_
    refine lv_iload_n hx hb dX10_clouds_12 rfl (lv_at hl 1 rfl) ?_
    refine lv_iconst (v := 5) hx hb dX10_clouds_13 (by decide) ?_
    obtain ⟨r8, hc10, hF⟩ := bind_some hF
    try dsimp only at hF
    refine cV_i (As := [.int p1, .int 5]) (rest := []) hx hb hml hown hw hK hN hA hl.1 hP hD hS k_1810 k_1812 k_59 k_90 k_1813 (met_X10_ofOwner l D cy _ am (D_X10_isThere m0 (D_X10_isOwner p1)).2 p1 5 r8 hc10) (fun _ _ _ => trivial) Xok_T (gM (am := am) (r := 0) (m := (D_X10_isThere m0 (D_X10_isOwner p1)).2) (f := ((D_X10_isThere m0 (D_X10_isOwner p1)).2 0)) (by decide) rfl) rfl ⟨rfl, rfl⟩ (n := 2) (by decide +kernel) rfl ⟨Nat.le_of_ble_eq_true rfl, Nat.le_of_ble_eq_true rfl⟩ ⟨Nat.le_of_ble_eq_true rfl, Nat.le_of_ble_eq_true rfl⟩ (Nat.le_of_ble_eq_true rfl) rfl dX10_clouds_14 (fun H locs hP hD hS => ?_)
    refine lv_goto (tgt := 21) hx hb dX10_clouds_17 (by decide) ?_
    cases hF
    exact hret _ _ _ _ _ _ hP hD hS rfl rfl dX10_clouds_21
def D_X10_windToAgain (m0 : Nat → Nat → Int32) (p1 : Int32) (p2 : Int32) : Option (Int32 × (Nat → Nat → Int32)) := (D_X10_windTo m0 p1 p2).bind (fun (r1, o2) => some (r1, o2))
abbrev rm_X10_windToAgain : Room := { frames := 3, cells := 0, slots := 0, locals := 66 }
set_option maxHeartbeats 4000000 in
set_option maxRecDepth 100000 in
theorem met_X10_windToAgain (l : Launch) (D : va_G) (cy : Nat → ClassId) (sz : Nat) (am : Nat → Nat) (m0 : Nat → Nat → Int32) (p1 : Int32) (p2 : Int32)  (r : Int32) (t' : Nat → Nat → Int32) (hF : D_X10_windToAgain m0 p1 p2 = some (r, t')) : MI l yX10_windToAgain cX10_windToAgain 3 (some .int) rm_X10_windToAgain D cy (mW cy am m0) sz (fun _ => True) [.ref (am 0), .int p1, .int p2] r (mW cy am t') := by
  refine MI.of (by decide +kernel) (Nat.le_of_ble_eq_true rfl) ?_
  intro p e s m args below meth c A ls Q hAt _ hP hD hA hS hl hret
  obtain ⟨hx, hb, hr, hml, hown, hw, hlk, hK, hN⟩ := hAt
  have hown : s.vm.findClass "CloudDeedsModel" = some m.cls := hown
  have hl : lv_has ls 3 [(0, .ref (am 0)), (1, .int p1), (2, .int p2)] := hl
  refine lv_aload_n hx hb dX10_windToAgain_0 rfl (lv_at hl 0 rfl) ?_
  refine lv_iload_n hx hb dX10_windToAgain_1 rfl (lv_at hl 1 rfl) ?_
  refine lv_iload_n hx hb dX10_windToAgain_2 rfl (lv_at hl 2 rfl) ?_
  obtain ⟨⟨r1, o2⟩, hc3, hF⟩ := bind_some hF
  try dsimp only at hF
  refine cV_i (As := [.int p1, .int p2]) (rest := []) hx hb hml hown hw hK hN hA hl.1 hP hD hS k_1835 k_1828 k_1829 k_90 k_1830 (met_X10_windTo l D cy _ am m0 p1 p2 r1 o2 hc3) (fun _ _ _ => trivial) Xok_T (gM (am := am) (r := 0) (m := m0) (f := (m0 0)) (by decide) rfl) rfl ⟨rfl, rfl⟩ (n := 2) (by decide +kernel) rfl ⟨Nat.le_of_ble_eq_true rfl, Nat.le_of_ble_eq_true rfl⟩ ⟨Nat.le_of_ble_eq_true rfl, Nat.le_of_ble_eq_true rfl⟩ (Nat.le_of_ble_eq_true rfl) rfl dX10_windToAgain_3 (fun H locs hP hD hS => ?_)
  cases hF
  exact hret _ _ _ _ _ _ hP hD hS rfl rfl dX10_windToAgain_6
def L_X10_ranked_12 : Nat → (Nat → Nat → Int32) → (Int32) → (Int32) → (Nat → Nat → Int32) → (Int32) → (Int32) → (Int32 → Int32 → Option (Int32 × (Nat → Nat → Int32))) → Option (Int32 × (Nat → Nat → Int32))
  | 0, _, _, _, _, _, _, _ => none
  | n12 + 1, m0, p1, i2h2, s2, i4h12, i3h12, kont12 => if 4 ≤ i4h12 then (kont12 i4h12 i3h12) else ((D_X10_ofOwner s2 i4h12 5).bind (fun r3 => (D_X10_ofOwner s2 i2h2 5).bind (fun r6 => (D_X10_coinsAt s2 i4h12).bind (fun r9 => (D_X10_coinsAt s2 i2h2).bind (fun r12 => if 0 < (r3 - r6) then (L_X10_ranked_12 n12 m0 p1 i2h2 s2 (i4h12 + 1) (i3h12 + 1) kont12) else (if (r3 - r6) = 0 then (if 0 < (r9 - r12) then (L_X10_ranked_12 n12 m0 p1 i2h2 s2 (i4h12 + 1) (i3h12 + 1) kont12) else (if (r9 - r12) = 0 then (if i2h2 ≤ i4h12 then (L_X10_ranked_12 n12 m0 p1 i2h2 s2 (i4h12 + 1) (i3h12 + 0) kont12) else (L_X10_ranked_12 n12 m0 p1 i2h2 s2 (i4h12 + 1) (i3h12 + 1) kont12)) else (L_X10_ranked_12 n12 m0 p1 i2h2 s2 (i4h12 + 1) (i3h12 + 0) kont12))) else (L_X10_ranked_12 n12 m0 p1 i2h2 s2 (i4h12 + 1) (i3h12 + 0) kont12)))))))
def L_X10_ranked_2 : Nat → (Nat → Nat → Int32) → (Int32) → (Int32) → (Nat → Nat → Int32) → Option (Int32 × (Nat → Nat → Int32))
  | 0, _, _, _, _ => none
  | n2 + 1, m0, p1, i2h2, s2 => if 4 ≤ i2h2 then (some (0, (va_up s2 0 (upd (s2 0) 0 1)))) else (L_X10_ranked_12 200 m0 p1 i2h2 s2 0 0 (fun i4h12 i3h12 => if i3h12 = p1 then (some (i2h2, (D_X10_isThere s2 1).2)) else (L_X10_ranked_2 n2 m0 p1 (i2h2 + 1) (D_X10_isThere s2 0).2)))
def D_X10_ranked (m0 : Nat → Nat → Int32) (p1 : Int32) : Option (Int32 × (Nat → Nat → Int32)) := L_X10_ranked_2 200 m0 p1 0 m0
abbrev rm_X10_ranked : Room := { frames := 3, cells := 0, slots := 0, locals := 68 }
set_option maxHeartbeats 4000000 in
set_option maxRecDepth 100000 in
theorem met_X10_ranked (l : Launch) (D : va_G) (cy : Nat → ClassId) (sz : Nat) (am : Nat → Nat) (m0 : Nat → Nat → Int32) (p1 : Int32)  (r : Int32) (t' : Nat → Nat → Int32) (hF : D_X10_ranked m0 p1 = some (r, t')) : MI l yX10_ranked cX10_ranked 7 (some .int) rm_X10_ranked D cy (mW cy am m0) sz (fun _ => True) [.ref (am 0), .int p1] r (mW cy am t') := by
  refine MI.of (by decide +kernel) (Nat.le_of_ble_eq_true rfl) ?_
  intro p e s m args below meth c A ls Q hAt _ hP hD hA hS hl hret
  obtain ⟨hx, hb, hr, hml, hown, hw, hlk, hK, hN⟩ := hAt
  have hown : s.vm.findClass "CloudDeedsModel" = some m.cls := hown
  have hl : lv_has ls 7 [(0, .ref (am 0)), (1, .int p1)] := hl
  refine lv_iconst (v := 0) hx hb dX10_ranked_0 (by decide) ?_
  refine lv_istore_n (lv' := [(2, .int 0), (0, .ref (am 0)), (1, .int p1)]) hx hb dX10_ranked_1 rfl hl (by decide) rfl (fun ls hl => ?_)
  have loop2 : ∀ (n : Nat) (i2h2 : Int32) (s2 : Nat → Nat → Int32) (H : Heap) (locs : List Loc) (ls : Array Slot), L_X10_ranked_2 n m0 p1 i2h2 s2 = some (r, t') → va_P D vwCl (mW cy am s2) H → va_D A (mW cy am s2) → va_S A s.heap H locs → lv_has ls 7 [(2, .int i2h2), (0, .ref (am 0)), (1, .int p1)] → W p l e rm_X10_ranked s m args below meth c H locs 0 0 Q (F0 m 2 ls []) := by
    intro n
    induction n with
    | zero => intro i2h2 s2 H locs ls hF _ _ _ _; exact absurd hF (by simp [L_X10_ranked_2])
    | succ n2 ih2 =>
      intro i2h2 s2 H locs ls hF hP hD hS hl
      refine lv_iload_n hx hb dX10_ranked_2 rfl (lv_at hl 0 rfl) ?_
      refine lv_iconst (v := 4) hx hb dX10_ranked_3 (by decide) ?_
      refine lv_icmp_ge (tgt := 113) hx hb dX10_ranked_4 (by decide) (fun h1 => ?_) (fun h1 => ?_)
      · replace hF := (if_pos h1).symm.trans hF
        refine lv_aload_n hx hb dX10_ranked_113 rfl (lv_at hl 1 rfl) ?_
        refine lv_iconst (v := 1) hx hb dX10_ranked_114 (by decide) ?_
        refine put' (ci := 12) (fs := mF am (s2 0)) (v := .int 1) (ty := .int) (ws' := (mW cy am (va_up s2 0 (upd (s2 0) 0 1)))) hx hb hw inWX10 tyX10 tyX10_ok nmX10 hown hK hP hD hS (gM (am := am) (r := 0) (m := s2) (f := (s2 0)) (by decide) rfl) rfl 0 (by decide) k_1570 rfl rfl (by decide +kernel) rfl rfl (Nat.le_of_ble_eq_true rfl) dX10_ranked_115 (sM (am := am) (r := 0) (m := s2) (g := (upd (s2 0) 0 1)) (by decide)) (fun H locs hP hD hS => ?_)
        refine lv_iconst (v := 0) hx hb dX10_ranked_118 (by decide) ?_
        cases hF
        exact hret _ _ _ _ _ _ hP hD hS rfl rfl dX10_ranked_119
      · replace hF := (if_neg h1).symm.trans hF
        refine lv_iconst (v := 0) hx hb dX10_ranked_7 (by decide) ?_
        refine lv_istore_n (lv' := [(3, .int 0), (2, .int i2h2), (0, .ref (am 0)), (1, .int p1)]) hx hb dX10_ranked_8 rfl hl (by decide) rfl (fun ls hl => ?_)
        refine lv_iconst (v := 0) hx hb dX10_ranked_9 (by decide) ?_
        refine lv_istore (lv' := [(4, .int 0), (3, .int 0), (2, .int i2h2), (0, .ref (am 0)), (1, .int p1)]) hx hb dX10_ranked_10 hl (by decide) rfl (fun ls hl => ?_)
        have kont12 : ∀ (i4h12 : Int32) (i3h12 : Int32) (H : Heap) (locs : List Loc) (ls : Array Slot), (if i3h12 = p1 then (some (i2h2, (D_X10_isThere s2 1).2)) else (L_X10_ranked_2 n2 m0 p1 (i2h2 + 1) (D_X10_isThere s2 0).2)) = some (r, t') → va_P D vwCl (mW cy am s2) H → va_D A (mW cy am s2) → va_S A s.heap H locs → lv_has ls 7 [(4, .int i4h12), (3, .int i3h12), (2, .int i2h2), (0, .ref (am 0)), (1, .int p1)] → W p l e rm_X10_ranked s m args below meth c H locs 0 0 Q (F0 m 88 ls []) := by
          intro i4h12 i3h12 H locs ls hF hP hD hS hl
          refine lv_aload_n hx hb dX10_ranked_88 rfl (lv_at hl 3 rfl) ?_
          refine lv_iload_n hx hb dX10_ranked_89 rfl (lv_at hl 1 rfl) ?_
          refine lv_iload_n hx hb dX10_ranked_90 rfl (lv_at hl 4 rfl) ?_
          refine lv_icmp_ne (tgt := 98) hx hb dX10_ranked_91 (by decide) (fun h20 => ?_) (fun h20 => ?_)
          · replace hF := (if_neg h20).symm.trans hF
            refine lv_iconst (v := 0) hx hb dX10_ranked_98 (by decide) ?_
            refine cV_i (As := [.int 0]) (rest := []) hx hb hml hown hw hK hN hA hl.1 hP hD hS k_1633 k_1635 k_28 k_90 k_1636 (met_X10_isThere l D cy _ am s2 0 (Or.inl rfl) 0 (D_X10_isThere s2 0).2 (rs_X10_isThere ..)) (fun _ _ _ => trivial) Xok_T (gM (am := am) (r := 0) (m := s2) (f := (s2 0)) (by decide) rfl) rfl ⟨rfl, rfl⟩ (n := 1) (by decide +kernel) rfl ⟨Nat.le_of_ble_eq_true rfl, Nat.le_of_ble_eq_true rfl⟩ ⟨Nat.le_of_ble_eq_true rfl, Nat.le_of_ble_eq_true rfl⟩ (Nat.le_of_ble_eq_true rfl) rfl dX10_ranked_99 (fun H locs hP hD hS => ?_)
            refine lv_if_eq (tgt := 107) hx hb dX10_ranked_102 (by decide) (fun _ => ?_) (fun h => absurd h (by decide))
            refine lv_iinc (v := (i2h2 + 1)) (lv' := [(2, .int (i2h2 + 1)), (4, .int i4h12), (3, .int i3h12), (0, .ref (am 0)), (1, .int p1)]) hx hb dX10_ranked_107 hl (k := 2) rfl rfl (by decide) rfl (fun ls hl => ?_)
            refine lv_goto (tgt := 2) hx hb dX10_ranked_110 (by decide) ?_
            exact ih2 (i2h2 + 1) (D_X10_isThere s2 0).2 _ _ _ hF hP hD hS (lv_sub hl [0, 3, 4] rfl)
          · replace hF := (if_pos h20).symm.trans hF
            refine lv_iconst (v := 1) hx hb dX10_ranked_94 (by decide) ?_
            refine lv_goto (tgt := 99) hx hb dX10_ranked_95 (by decide) ?_
            refine cV_i (As := [.int 1]) (rest := []) hx hb hml hown hw hK hN hA hl.1 hP hD hS k_1633 k_1635 k_28 k_90 k_1636 (met_X10_isThere l D cy _ am s2 1 (Or.inr rfl) 1 (D_X10_isThere s2 1).2 (rs_X10_isThere ..)) (fun _ _ _ => trivial) Xok_T (gM (am := am) (r := 0) (m := s2) (f := (s2 0)) (by decide) rfl) rfl ⟨rfl, rfl⟩ (n := 1) (by decide +kernel) rfl ⟨Nat.le_of_ble_eq_true rfl, Nat.le_of_ble_eq_true rfl⟩ ⟨Nat.le_of_ble_eq_true rfl, Nat.le_of_ble_eq_true rfl⟩ (Nat.le_of_ble_eq_true rfl) rfl dX10_ranked_99 (fun H locs hP hD hS => ?_)
            refine lv_if_eq (tgt := 107) hx hb dX10_ranked_102 (by decide) (fun h => absurd h (by decide)) (fun _ => ?_)
            refine lv_iload_n hx hb dX10_ranked_105 rfl (lv_at hl 2 rfl) ?_
            cases hF
            exact hret _ _ _ _ _ _ hP hD hS rfl rfl dX10_ranked_106
        have loop12 : ∀ (n : Nat) (i4h12 : Int32) (i3h12 : Int32) (H : Heap) (locs : List Loc) (ls : Array Slot), L_X10_ranked_12 n m0 p1 i2h2 s2 i4h12 i3h12 (fun i4h12 i3h12 => if i3h12 = p1 then (some (i2h2, (D_X10_isThere s2 1).2)) else (L_X10_ranked_2 n2 m0 p1 (i2h2 + 1) (D_X10_isThere s2 0).2)) = some (r, t') → va_P D vwCl (mW cy am s2) H → va_D A (mW cy am s2) → va_S A s.heap H locs → lv_has ls 7 [(4, .int i4h12), (3, .int i3h12), (2, .int i2h2), (0, .ref (am 0)), (1, .int p1)] → W p l e rm_X10_ranked s m args below meth c H locs 0 0 Q (F0 m 12 ls []) := by
          intro n
          induction n with
          | zero => intro i4h12 i3h12 H locs ls hF _ _ _ _; exact absurd hF (by simp [L_X10_ranked_12])
          | succ n12 ih12 =>
            intro i4h12 i3h12 H locs ls hF hP hD hS hl
            refine lv_iload hx hb dX10_ranked_12 (lv_at hl 0 rfl) ?_
            refine lv_iconst (v := 4) hx hb dX10_ranked_14 (by decide) ?_
            refine lv_icmp_ge (tgt := 88) hx hb dX10_ranked_15 (by decide) (fun h2 => ?_) (fun h2 => ?_)
            · replace hF := (if_pos h2).symm.trans hF
              exact kont12 i4h12 i3h12 _ _ _ hF hP hD hS (lv_sub hl [0, 1, 2, 3, 4] rfl)
            · replace hF := (if_neg h2).symm.trans hF
              refine lv_aload_n hx hb dX10_ranked_18 rfl (lv_at hl 3 rfl) ?_
              refine lv_iload hx hb dX10_ranked_19 (lv_at hl 0 rfl) ?_
              refine lv_iconst (v := 5) hx hb dX10_ranked_21 (by decide) ?_
              obtain ⟨r3, hc5, hF⟩ := bind_some hF
              try dsimp only at hF
              refine cV_i (As := [.int i4h12, .int 5]) (rest := []) hx hb hml hown hw hK hN hA hl.1 hP hD hS k_1810 k_1812 k_59 k_90 k_1813 (met_X10_ofOwner l D cy _ am s2 i4h12 5 r3 hc5) (fun _ _ _ => trivial) Xok_T (gM (am := am) (r := 0) (m := s2) (f := (s2 0)) (by decide) rfl) rfl ⟨rfl, rfl⟩ (n := 2) (by decide +kernel) rfl ⟨Nat.le_of_ble_eq_true rfl, Nat.le_of_ble_eq_true rfl⟩ ⟨Nat.le_of_ble_eq_true rfl, Nat.le_of_ble_eq_true rfl⟩ (Nat.le_of_ble_eq_true rfl) rfl dX10_ranked_22 (fun H locs hP hD hS => ?_)
              refine lv_aload_n hx hb dX10_ranked_25 rfl (lv_at hl 3 rfl) ?_
              refine lv_iload_n hx hb dX10_ranked_26 rfl (lv_at hl 2 rfl) ?_
              refine lv_iconst (v := 5) hx hb dX10_ranked_27 (by decide) ?_
              obtain ⟨r6, hc8, hF⟩ := bind_some hF
              try dsimp only at hF
              refine cV_i (As := [.int i2h2, .int 5]) (rest := [.int r3]) hx hb hml hown hw hK hN hA hl.1 hP hD hS k_1810 k_1812 k_59 k_90 k_1813 (met_X10_ofOwner l D cy _ am s2 i2h2 5 r6 hc8) (fun _ _ _ => trivial) Xok_T (gM (am := am) (r := 0) (m := s2) (f := (s2 0)) (by decide) rfl) rfl ⟨rfl, rfl⟩ (n := 2) (by decide +kernel) rfl ⟨Nat.le_of_ble_eq_true rfl, Nat.le_of_ble_eq_true rfl⟩ ⟨Nat.le_of_ble_eq_true rfl, Nat.le_of_ble_eq_true rfl⟩ (Nat.le_of_ble_eq_true rfl) rfl dX10_ranked_28 (fun H locs hP hD hS => ?_)
              refine lv_isub hx hb dX10_ranked_31 ?_
              refine lv_istore (lv' := [(5, .int (r3 - r6)), (4, .int i4h12), (3, .int i3h12), (2, .int i2h2), (0, .ref (am 0)), (1, .int p1)]) hx hb dX10_ranked_32 hl (by decide) rfl (fun ls hl => ?_)
              refine lv_aload_n hx hb dX10_ranked_34 rfl (lv_at hl 4 rfl) ?_
              refine lv_iload hx hb dX10_ranked_35 (lv_at hl 1 rfl) ?_
              obtain ⟨r9, hc11, hF⟩ := bind_some hF
              try dsimp only at hF
              refine cV_i (As := [.int i4h12]) (rest := []) hx hb hml hown hw hK hN hA hl.1 hP hD hS k_1706 k_1708 k_41 k_90 k_1709 (met_X10_coinsAt l D cy _ am s2 i4h12 r9 hc11) (fun _ _ _ => trivial) Xok_T (gM (am := am) (r := 0) (m := s2) (f := (s2 0)) (by decide) rfl) rfl ⟨rfl, rfl⟩ (n := 1) (by decide +kernel) rfl ⟨Nat.le_of_ble_eq_true rfl, Nat.le_of_ble_eq_true rfl⟩ ⟨Nat.le_of_ble_eq_true rfl, Nat.le_of_ble_eq_true rfl⟩ (Nat.le_of_ble_eq_true rfl) rfl dX10_ranked_37 (fun H locs hP hD hS => ?_)
              refine lv_aload_n hx hb dX10_ranked_40 rfl (lv_at hl 4 rfl) ?_
              refine lv_iload_n hx hb dX10_ranked_41 rfl (lv_at hl 3 rfl) ?_
              obtain ⟨r12, hc14, hF⟩ := bind_some hF
              try dsimp only at hF
              refine cV_i (As := [.int i2h2]) (rest := [.int r9]) hx hb hml hown hw hK hN hA hl.1 hP hD hS k_1706 k_1708 k_41 k_90 k_1709 (met_X10_coinsAt l D cy _ am s2 i2h2 r12 hc14) (fun _ _ _ => trivial) Xok_T (gM (am := am) (r := 0) (m := s2) (f := (s2 0)) (by decide) rfl) rfl ⟨rfl, rfl⟩ (n := 1) (by decide +kernel) rfl ⟨Nat.le_of_ble_eq_true rfl, Nat.le_of_ble_eq_true rfl⟩ ⟨Nat.le_of_ble_eq_true rfl, Nat.le_of_ble_eq_true rfl⟩ (Nat.le_of_ble_eq_true rfl) rfl dX10_ranked_42 (fun H locs hP hD hS => ?_)
              refine lv_isub hx hb dX10_ranked_45 ?_
              refine lv_istore (lv' := [(6, .int (r9 - r12)), (5, .int (r3 - r6)), (4, .int i4h12), (3, .int i3h12), (2, .int i2h2), (0, .ref (am 0)), (1, .int p1)]) hx hb dX10_ranked_46 hl (by decide) rfl (fun ls hl => ?_)
              refine lv_iload_n hx hb dX10_ranked_48 rfl (lv_at hl 3 rfl) ?_
              refine lv_iload hx hb dX10_ranked_49 (lv_at hl 1 rfl) ?_
              refine lv_if_gt (tgt := 75) hx hb dX10_ranked_51 (by decide) (fun h15 => ?_) (fun h15 => ?_)
              · replace hF := (if_pos h15).symm.trans hF
                refine lv_iconst (v := 1) hx hb dX10_ranked_75 (by decide) ?_
                refine lv_goto (tgt := 80) hx hb dX10_ranked_76 (by decide) ?_
                refine lv_iadd hx hb dX10_ranked_80 ?_
                refine lv_istore_n (lv' := [(3, .int (i3h12 + 1)), (6, .int (r9 - r12)), (5, .int (r3 - r6)), (4, .int i4h12), (2, .int i2h2), (0, .ref (am 0)), (1, .int p1)]) hx hb dX10_ranked_81 rfl hl (by decide) rfl (fun ls hl => ?_)
                refine lv_iinc (v := (i4h12 + 1)) (lv' := [(4, .int (i4h12 + 1)), (3, .int (i3h12 + 1)), (6, .int (r9 - r12)), (5, .int (r3 - r6)), (2, .int i2h2), (0, .ref (am 0)), (1, .int p1)]) hx hb dX10_ranked_82 hl (k := 3) rfl rfl (by decide) rfl (fun ls hl => ?_)
                refine lv_goto (tgt := 12) hx hb dX10_ranked_85 (by decide) ?_
                exact ih12 (i4h12 + 1) (i3h12 + 1)  _ _ _ hF hP hD hS (lv_sub hl [0, 1, 4, 5, 6] rfl)
              · replace hF := (if_neg h15).symm.trans hF
                refine lv_iload hx hb dX10_ranked_54 (lv_at hl 1 rfl) ?_
                refine lv_if_ne (tgt := 79) hx hb dX10_ranked_56 (by decide) (fun h16 => ?_) (fun h16 => ?_)
                · replace hF := (if_neg h16).symm.trans hF
                  refine lv_iconst (v := 0) hx hb dX10_ranked_79 (by decide) ?_
                  refine lv_iadd hx hb dX10_ranked_80 ?_
                  refine lv_istore_n (lv' := [(3, .int (i3h12 + 0)), (6, .int (r9 - r12)), (5, .int (r3 - r6)), (4, .int i4h12), (2, .int i2h2), (0, .ref (am 0)), (1, .int p1)]) hx hb dX10_ranked_81 rfl hl (by decide) rfl (fun ls hl => ?_)
                  refine lv_iinc (v := (i4h12 + 1)) (lv' := [(4, .int (i4h12 + 1)), (3, .int (i3h12 + 0)), (6, .int (r9 - r12)), (5, .int (r3 - r6)), (2, .int i2h2), (0, .ref (am 0)), (1, .int p1)]) hx hb dX10_ranked_82 hl (k := 3) rfl rfl (by decide) rfl (fun ls hl => ?_)
                  refine lv_goto (tgt := 12) hx hb dX10_ranked_85 (by decide) ?_
                  exact ih12 (i4h12 + 1) (i3h12 + 0)  _ _ _ hF hP hD hS (lv_sub hl [0, 1, 4, 5, 6] rfl)
                · replace hF := (if_pos h16).symm.trans hF
                  refine lv_iload hx hb dX10_ranked_59 (lv_at hl 0 rfl) ?_
                  refine lv_if_gt (tgt := 75) hx hb dX10_ranked_61 (by decide) (fun h17 => ?_) (fun h17 => ?_)
                  · replace hF := (if_pos h17).symm.trans hF
                    refine lv_iconst (v := 1) hx hb dX10_ranked_75 (by decide) ?_
                    refine lv_goto (tgt := 80) hx hb dX10_ranked_76 (by decide) ?_
                    refine lv_iadd hx hb dX10_ranked_80 ?_
                    refine lv_istore_n (lv' := [(3, .int (i3h12 + 1)), (6, .int (r9 - r12)), (5, .int (r3 - r6)), (4, .int i4h12), (2, .int i2h2), (0, .ref (am 0)), (1, .int p1)]) hx hb dX10_ranked_81 rfl hl (by decide) rfl (fun ls hl => ?_)
                    refine lv_iinc (v := (i4h12 + 1)) (lv' := [(4, .int (i4h12 + 1)), (3, .int (i3h12 + 1)), (6, .int (r9 - r12)), (5, .int (r3 - r6)), (2, .int i2h2), (0, .ref (am 0)), (1, .int p1)]) hx hb dX10_ranked_82 hl (k := 3) rfl rfl (by decide) rfl (fun ls hl => ?_)
                    refine lv_goto (tgt := 12) hx hb dX10_ranked_85 (by decide) ?_
                    exact ih12 (i4h12 + 1) (i3h12 + 1)  _ _ _ hF hP hD hS (lv_sub hl [0, 1, 4, 5, 6] rfl)
                  · replace hF := (if_neg h17).symm.trans hF
                    refine lv_iload hx hb dX10_ranked_64 (lv_at hl 0 rfl) ?_
                    refine lv_if_ne (tgt := 79) hx hb dX10_ranked_66 (by decide) (fun h18 => ?_) (fun h18 => ?_)
                    · replace hF := (if_neg h18).symm.trans hF
                      refine lv_iconst (v := 0) hx hb dX10_ranked_79 (by decide) ?_
                      refine lv_iadd hx hb dX10_ranked_80 ?_
                      refine lv_istore_n (lv' := [(3, .int (i3h12 + 0)), (6, .int (r9 - r12)), (5, .int (r3 - r6)), (4, .int i4h12), (2, .int i2h2), (0, .ref (am 0)), (1, .int p1)]) hx hb dX10_ranked_81 rfl hl (by decide) rfl (fun ls hl => ?_)
                      refine lv_iinc (v := (i4h12 + 1)) (lv' := [(4, .int (i4h12 + 1)), (3, .int (i3h12 + 0)), (6, .int (r9 - r12)), (5, .int (r3 - r6)), (2, .int i2h2), (0, .ref (am 0)), (1, .int p1)]) hx hb dX10_ranked_82 hl (k := 3) rfl rfl (by decide) rfl (fun ls hl => ?_)
                      refine lv_goto (tgt := 12) hx hb dX10_ranked_85 (by decide) ?_
                      exact ih12 (i4h12 + 1) (i3h12 + 0)  _ _ _ hF hP hD hS (lv_sub hl [0, 1, 4, 5, 6] rfl)
                    · replace hF := (if_pos h18).symm.trans hF
                      refine lv_iload hx hb dX10_ranked_69 (lv_at hl 2 rfl) ?_
                      refine lv_iload_n hx hb dX10_ranked_71 rfl (lv_at hl 4 rfl) ?_
                      refine lv_icmp_ge (tgt := 79) hx hb dX10_ranked_72 (by decide) (fun h19 => ?_) (fun h19 => ?_)
                      · replace hF := (if_pos h19).symm.trans hF
                        refine lv_iconst (v := 0) hx hb dX10_ranked_79 (by decide) ?_
                        refine lv_iadd hx hb dX10_ranked_80 ?_
                        refine lv_istore_n (lv' := [(3, .int (i3h12 + 0)), (6, .int (r9 - r12)), (5, .int (r3 - r6)), (4, .int i4h12), (2, .int i2h2), (0, .ref (am 0)), (1, .int p1)]) hx hb dX10_ranked_81 rfl hl (by decide) rfl (fun ls hl => ?_)
                        refine lv_iinc (v := (i4h12 + 1)) (lv' := [(4, .int (i4h12 + 1)), (3, .int (i3h12 + 0)), (6, .int (r9 - r12)), (5, .int (r3 - r6)), (2, .int i2h2), (0, .ref (am 0)), (1, .int p1)]) hx hb dX10_ranked_82 hl (k := 3) rfl rfl (by decide) rfl (fun ls hl => ?_)
                        refine lv_goto (tgt := 12) hx hb dX10_ranked_85 (by decide) ?_
                        exact ih12 (i4h12 + 1) (i3h12 + 0)  _ _ _ hF hP hD hS (lv_sub hl [0, 1, 4, 5, 6] rfl)
                      · replace hF := (if_neg h19).symm.trans hF
                        refine lv_iconst (v := 1) hx hb dX10_ranked_75 (by decide) ?_
                        refine lv_goto (tgt := 80) hx hb dX10_ranked_76 (by decide) ?_
                        refine lv_iadd hx hb dX10_ranked_80 ?_
                        refine lv_istore_n (lv' := [(3, .int (i3h12 + 1)), (6, .int (r9 - r12)), (5, .int (r3 - r6)), (4, .int i4h12), (2, .int i2h2), (0, .ref (am 0)), (1, .int p1)]) hx hb dX10_ranked_81 rfl hl (by decide) rfl (fun ls hl => ?_)
                        refine lv_iinc (v := (i4h12 + 1)) (lv' := [(4, .int (i4h12 + 1)), (3, .int (i3h12 + 1)), (6, .int (r9 - r12)), (5, .int (r3 - r6)), (2, .int i2h2), (0, .ref (am 0)), (1, .int p1)]) hx hb dX10_ranked_82 hl (k := 3) rfl rfl (by decide) rfl (fun ls hl => ?_)
                        refine lv_goto (tgt := 12) hx hb dX10_ranked_85 (by decide) ?_
                        exact ih12 (i4h12 + 1) (i3h12 + 1)  _ _ _ hF hP hD hS (lv_sub hl [0, 1, 4, 5, 6] rfl)
        exact loop12 200 0 0  _ _ _ hF hP hD hS (lv_sub hl [0, 1, 2, 3, 4] rfl)
  exact loop2 200 0 m0 _ _ _ hF hP hD hS (lv_sub hl [0, 1, 2] rfl)
def D_X10_word (m0 : Nat → Nat → Int32) (p1 : Int32) : Option ((Nat → Nat → Int32)) := if p1 = 99 then ((D_X10_signs m0 108 111 117).bind (fun o3 => (D_X10_needs o3 100).bind (fun o6 => some o6))) else (if p1 = 104 then ((D_X10_signs m0 97 105 108).bind (fun o10 => some o10)) else (if p1 = 112 then ((D_X10_signs m0 108 101 100).bind (fun o14 => (D_X10_signs o14 103 101 0).bind (fun o17 => some o17))) else (if p1 = 114 then ((D_X10_signs m0 101 100 101).bind (fun o21 => (D_X10_signs o21 101 109 0).bind (fun o24 => some o24))) else (if p1 = 115 then ((D_X10_signs m0 101 108 108).bind (fun o28 => some o28)) else (if p1 = 116 then ((D_X10_signs m0 105 116 108).bind (fun o32 => (D_X10_needs o32 101).bind (fun o35 => some o35))) else (if p1 = 118 then ((D_X10_signs m0 105 110 101).bind (fun o39 => some o39)) else (if p1 = 119 then ((D_X10_signs m0 105 110 100).bind (fun o43 => some o43)) else ((D_X10_signs m0 97 119 110).bind (fun o46 => some o46)))))))))
abbrev rm_X10_word : Room := { frames := 3, cells := 0, slots := 0, locals := 64 }
set_option maxHeartbeats 4000000 in
set_option maxRecDepth 100000 in
theorem met_X10_word (l : Launch) (D : va_G) (cy : Nat → ClassId) (sz : Nat) (am : Nat → Nat) (m0 : Nat → Nat → Int32) (p1 : Int32)  (t' : Nat → Nat → Int32) (hF : D_X10_word m0 p1 = some t') : MV l yX10_word cX10_word 2 rm_X10_word D cy (mW cy am m0) sz (fun _ => True) [.ref (am 0), .int p1] (mW cy am t') := by
  refine MV.of (by decide +kernel) (Nat.le_of_ble_eq_true rfl) ?_
  intro p e s m args below meth c A ls Q hAt _ hP hD hA hS hl hret
  obtain ⟨hx, hb, hr, hml, hown, hw, hlk, hK, hN⟩ := hAt
  have hown : s.vm.findClass "CloudDeedsModel" = some m.cls := hown
  have hl : lv_has ls 2 [(0, .ref (am 0)), (1, .int p1)] := hl
  refine lv_iload_n hx hb dX10_word_0 rfl (lv_at hl 1 rfl) ?_
  by_cases h1 : p1 = 99
  · replace hF := (if_pos h1).symm.trans hF
    refine lv_tableIn (tgt := 100) (off := 99) hx hb dX10_word_1 (by rw [h1]; decide) (by rw [h1]; decide) (by rw [h1]; decide) (by decide) ?_
    refine lv_aload_n hx hb dX10_word_100 rfl (lv_at hl 0 rfl) ?_
    refine lv_bipush (v := 108) hx hb dX10_word_101 (by decide) ?_
    refine lv_bipush (v := 111) hx hb dX10_word_103 (by decide) ?_
    refine lv_bipush (v := 117) hx hb dX10_word_105 (by decide) ?_
    obtain ⟨o3, hc4, hF⟩ := bind_some hF
    try dsimp only at hF
    refine cV_v (As := [.int 108, .int 111, .int 117]) (rest := []) hx hb hml hown hw hK hN hA hl.1 hP hD hS k_1896 k_1898 k_65 k_90 k_1899 (met_X10_signs l D cy _ am m0 108 111 117 o3 hc4) (fun _ _ _ => trivial) Xok_T (gM (am := am) (r := 0) (m := m0) (f := (m0 0)) (by decide) rfl) rfl ⟨rfl, rfl⟩ (n := 3) (by decide +kernel) rfl ⟨Nat.le_of_ble_eq_true rfl, Nat.le_of_ble_eq_true rfl⟩ ⟨Nat.le_of_ble_eq_true rfl, Nat.le_of_ble_eq_true rfl⟩ (Nat.le_of_ble_eq_true rfl) rfl dX10_word_107 (fun H locs hP hD hS => ?_)
    refine lv_aload_n hx hb dX10_word_110 rfl (lv_at hl 0 rfl) ?_
    refine lv_bipush (v := 100) hx hb dX10_word_111 (by decide) ?_
    obtain ⟨o6, hc7, hF⟩ := bind_some hF
    try dsimp only at hF
    refine cV_v (As := [.int 100]) (rest := []) hx hb hml hown hw hK hN hA hl.1 hP hD hS k_1900 k_1902 k_66 k_90 k_1903 (met_X10_needs l D cy _ am o3 100 o6 hc7) (fun _ _ _ => trivial) Xok_T (gM (am := am) (r := 0) (m := o3) (f := (o3 0)) (by decide) rfl) rfl ⟨rfl, rfl⟩ (n := 1) (by decide +kernel) rfl ⟨Nat.le_of_ble_eq_true rfl, Nat.le_of_ble_eq_true rfl⟩ ⟨Nat.le_of_ble_eq_true rfl, Nat.le_of_ble_eq_true rfl⟩ (Nat.le_of_ble_eq_true rfl) rfl dX10_word_113 (fun H locs hP hD hS => ?_)
    refine lv_goto (tgt := 244) hx hb dX10_word_116 (by decide) ?_
    cases hF
    exact hret _ _ _ _ _ hP hD hS rfl dX10_word_244
  · replace hF := (if_neg h1).symm.trans hF
    by_cases h8 : p1 = 104
    · replace hF := (if_pos h8).symm.trans hF
      refine lv_tableIn (tgt := 221) (off := 220) hx hb dX10_word_1 (by rw [h8]; decide) (by rw [h8]; decide) (by rw [h8]; decide) (by decide) ?_
      refine lv_aload_n hx hb dX10_word_221 rfl (lv_at hl 0 rfl) ?_
      refine lv_bipush (v := 97) hx hb dX10_word_222 (by decide) ?_
      refine lv_bipush (v := 105) hx hb dX10_word_224 (by decide) ?_
      refine lv_bipush (v := 108) hx hb dX10_word_226 (by decide) ?_
      obtain ⟨o10, hc11, hF⟩ := bind_some hF
      try dsimp only at hF
      refine cV_v (As := [.int 97, .int 105, .int 108]) (rest := []) hx hb hml hown hw hK hN hA hl.1 hP hD hS k_1896 k_1898 k_65 k_90 k_1899 (met_X10_signs l D cy _ am m0 97 105 108 o10 hc11) (fun _ _ _ => trivial) Xok_T (gM (am := am) (r := 0) (m := m0) (f := (m0 0)) (by decide) rfl) rfl ⟨rfl, rfl⟩ (n := 3) (by decide +kernel) rfl ⟨Nat.le_of_ble_eq_true rfl, Nat.le_of_ble_eq_true rfl⟩ ⟨Nat.le_of_ble_eq_true rfl, Nat.le_of_ble_eq_true rfl⟩ (Nat.le_of_ble_eq_true rfl) rfl dX10_word_228 (fun H locs hP hD hS => ?_)
      refine lv_goto (tgt := 244) hx hb dX10_word_231 (by decide) ?_
      cases hF
      exact hret _ _ _ _ _ hP hD hS rfl dX10_word_244
    · replace hF := (if_neg h8).symm.trans hF
      by_cases h12 : p1 = 112
      · replace hF := (if_pos h12).symm.trans hF
        refine lv_tableIn (tgt := 164) (off := 163) hx hb dX10_word_1 (by rw [h12]; decide) (by rw [h12]; decide) (by rw [h12]; decide) (by decide) ?_
        refine lv_aload_n hx hb dX10_word_164 rfl (lv_at hl 0 rfl) ?_
        refine lv_bipush (v := 108) hx hb dX10_word_165 (by decide) ?_
        refine lv_bipush (v := 101) hx hb dX10_word_167 (by decide) ?_
        refine lv_bipush (v := 100) hx hb dX10_word_169 (by decide) ?_
        obtain ⟨o14, hc15, hF⟩ := bind_some hF
        try dsimp only at hF
        refine cV_v (As := [.int 108, .int 101, .int 100]) (rest := []) hx hb hml hown hw hK hN hA hl.1 hP hD hS k_1896 k_1898 k_65 k_90 k_1899 (met_X10_signs l D cy _ am m0 108 101 100 o14 hc15) (fun _ _ _ => trivial) Xok_T (gM (am := am) (r := 0) (m := m0) (f := (m0 0)) (by decide) rfl) rfl ⟨rfl, rfl⟩ (n := 3) (by decide +kernel) rfl ⟨Nat.le_of_ble_eq_true rfl, Nat.le_of_ble_eq_true rfl⟩ ⟨Nat.le_of_ble_eq_true rfl, Nat.le_of_ble_eq_true rfl⟩ (Nat.le_of_ble_eq_true rfl) rfl dX10_word_171 (fun H locs hP hD hS => ?_)
        refine lv_aload_n hx hb dX10_word_174 rfl (lv_at hl 0 rfl) ?_
        refine lv_bipush (v := 103) hx hb dX10_word_175 (by decide) ?_
        refine lv_bipush (v := 101) hx hb dX10_word_177 (by decide) ?_
        refine lv_iconst (v := 0) hx hb dX10_word_179 (by decide) ?_
        obtain ⟨o17, hc18, hF⟩ := bind_some hF
        try dsimp only at hF
        refine cV_v (As := [.int 103, .int 101, .int 0]) (rest := []) hx hb hml hown hw hK hN hA hl.1 hP hD hS k_1896 k_1898 k_65 k_90 k_1899 (met_X10_signs l D cy _ am o14 103 101 0 o17 hc18) (fun _ _ _ => trivial) Xok_T (gM (am := am) (r := 0) (m := o14) (f := (o14 0)) (by decide) rfl) rfl ⟨rfl, rfl⟩ (n := 3) (by decide +kernel) rfl ⟨Nat.le_of_ble_eq_true rfl, Nat.le_of_ble_eq_true rfl⟩ ⟨Nat.le_of_ble_eq_true rfl, Nat.le_of_ble_eq_true rfl⟩ (Nat.le_of_ble_eq_true rfl) rfl dX10_word_180 (fun H locs hP hD hS => ?_)
        refine lv_goto (tgt := 244) hx hb dX10_word_183 (by decide) ?_
        cases hF
        exact hret _ _ _ _ _ hP hD hS rfl dX10_word_244
      · replace hF := (if_neg h12).symm.trans hF
        by_cases h19 : p1 = 114
        · replace hF := (if_pos h19).symm.trans hF
          refine lv_tableIn (tgt := 186) (off := 185) hx hb dX10_word_1 (by rw [h19]; decide) (by rw [h19]; decide) (by rw [h19]; decide) (by decide) ?_
          refine lv_aload_n hx hb dX10_word_186 rfl (lv_at hl 0 rfl) ?_
          refine lv_bipush (v := 101) hx hb dX10_word_187 (by decide) ?_
          refine lv_bipush (v := 100) hx hb dX10_word_189 (by decide) ?_
          refine lv_bipush (v := 101) hx hb dX10_word_191 (by decide) ?_
          obtain ⟨o21, hc22, hF⟩ := bind_some hF
          try dsimp only at hF
          refine cV_v (As := [.int 101, .int 100, .int 101]) (rest := []) hx hb hml hown hw hK hN hA hl.1 hP hD hS k_1896 k_1898 k_65 k_90 k_1899 (met_X10_signs l D cy _ am m0 101 100 101 o21 hc22) (fun _ _ _ => trivial) Xok_T (gM (am := am) (r := 0) (m := m0) (f := (m0 0)) (by decide) rfl) rfl ⟨rfl, rfl⟩ (n := 3) (by decide +kernel) rfl ⟨Nat.le_of_ble_eq_true rfl, Nat.le_of_ble_eq_true rfl⟩ ⟨Nat.le_of_ble_eq_true rfl, Nat.le_of_ble_eq_true rfl⟩ (Nat.le_of_ble_eq_true rfl) rfl dX10_word_193 (fun H locs hP hD hS => ?_)
          refine lv_aload_n hx hb dX10_word_196 rfl (lv_at hl 0 rfl) ?_
          refine lv_bipush (v := 101) hx hb dX10_word_197 (by decide) ?_
          refine lv_bipush (v := 109) hx hb dX10_word_199 (by decide) ?_
          refine lv_iconst (v := 0) hx hb dX10_word_201 (by decide) ?_
          obtain ⟨o24, hc25, hF⟩ := bind_some hF
          try dsimp only at hF
          refine cV_v (As := [.int 101, .int 109, .int 0]) (rest := []) hx hb hml hown hw hK hN hA hl.1 hP hD hS k_1896 k_1898 k_65 k_90 k_1899 (met_X10_signs l D cy _ am o21 101 109 0 o24 hc25) (fun _ _ _ => trivial) Xok_T (gM (am := am) (r := 0) (m := o21) (f := (o21 0)) (by decide) rfl) rfl ⟨rfl, rfl⟩ (n := 3) (by decide +kernel) rfl ⟨Nat.le_of_ble_eq_true rfl, Nat.le_of_ble_eq_true rfl⟩ ⟨Nat.le_of_ble_eq_true rfl, Nat.le_of_ble_eq_true rfl⟩ (Nat.le_of_ble_eq_true rfl) rfl dX10_word_202 (fun H locs hP hD hS => ?_)
          refine lv_goto (tgt := 244) hx hb dX10_word_205 (by decide) ?_
          cases hF
          exact hret _ _ _ _ _ hP hD hS rfl dX10_word_244
        · replace hF := (if_neg h19).symm.trans hF
          by_cases h26 : p1 = 115
          · replace hF := (if_pos h26).symm.trans hF
            refine lv_tableIn (tgt := 151) (off := 150) hx hb dX10_word_1 (by rw [h26]; decide) (by rw [h26]; decide) (by rw [h26]; decide) (by decide) ?_
            refine lv_aload_n hx hb dX10_word_151 rfl (lv_at hl 0 rfl) ?_
            refine lv_bipush (v := 101) hx hb dX10_word_152 (by decide) ?_
            refine lv_bipush (v := 108) hx hb dX10_word_154 (by decide) ?_
            refine lv_bipush (v := 108) hx hb dX10_word_156 (by decide) ?_
            obtain ⟨o28, hc29, hF⟩ := bind_some hF
            try dsimp only at hF
            refine cV_v (As := [.int 101, .int 108, .int 108]) (rest := []) hx hb hml hown hw hK hN hA hl.1 hP hD hS k_1896 k_1898 k_65 k_90 k_1899 (met_X10_signs l D cy _ am m0 101 108 108 o28 hc29) (fun _ _ _ => trivial) Xok_T (gM (am := am) (r := 0) (m := m0) (f := (m0 0)) (by decide) rfl) rfl ⟨rfl, rfl⟩ (n := 3) (by decide +kernel) rfl ⟨Nat.le_of_ble_eq_true rfl, Nat.le_of_ble_eq_true rfl⟩ ⟨Nat.le_of_ble_eq_true rfl, Nat.le_of_ble_eq_true rfl⟩ (Nat.le_of_ble_eq_true rfl) rfl dX10_word_158 (fun H locs hP hD hS => ?_)
            refine lv_goto (tgt := 244) hx hb dX10_word_161 (by decide) ?_
            cases hF
            exact hret _ _ _ _ _ hP hD hS rfl dX10_word_244
          · replace hF := (if_neg h26).symm.trans hF
            by_cases h30 : p1 = 116
            · replace hF := (if_pos h30).symm.trans hF
              refine lv_tableIn (tgt := 132) (off := 131) hx hb dX10_word_1 (by rw [h30]; decide) (by rw [h30]; decide) (by rw [h30]; decide) (by decide) ?_
              refine lv_aload_n hx hb dX10_word_132 rfl (lv_at hl 0 rfl) ?_
              refine lv_bipush (v := 105) hx hb dX10_word_133 (by decide) ?_
              refine lv_bipush (v := 116) hx hb dX10_word_135 (by decide) ?_
              refine lv_bipush (v := 108) hx hb dX10_word_137 (by decide) ?_
              obtain ⟨o32, hc33, hF⟩ := bind_some hF
              try dsimp only at hF
              refine cV_v (As := [.int 105, .int 116, .int 108]) (rest := []) hx hb hml hown hw hK hN hA hl.1 hP hD hS k_1896 k_1898 k_65 k_90 k_1899 (met_X10_signs l D cy _ am m0 105 116 108 o32 hc33) (fun _ _ _ => trivial) Xok_T (gM (am := am) (r := 0) (m := m0) (f := (m0 0)) (by decide) rfl) rfl ⟨rfl, rfl⟩ (n := 3) (by decide +kernel) rfl ⟨Nat.le_of_ble_eq_true rfl, Nat.le_of_ble_eq_true rfl⟩ ⟨Nat.le_of_ble_eq_true rfl, Nat.le_of_ble_eq_true rfl⟩ (Nat.le_of_ble_eq_true rfl) rfl dX10_word_139 (fun H locs hP hD hS => ?_)
              refine lv_aload_n hx hb dX10_word_142 rfl (lv_at hl 0 rfl) ?_
              refine lv_bipush (v := 101) hx hb dX10_word_143 (by decide) ?_
              obtain ⟨o35, hc36, hF⟩ := bind_some hF
              try dsimp only at hF
              refine cV_v (As := [.int 101]) (rest := []) hx hb hml hown hw hK hN hA hl.1 hP hD hS k_1900 k_1902 k_66 k_90 k_1903 (met_X10_needs l D cy _ am o32 101 o35 hc36) (fun _ _ _ => trivial) Xok_T (gM (am := am) (r := 0) (m := o32) (f := (o32 0)) (by decide) rfl) rfl ⟨rfl, rfl⟩ (n := 1) (by decide +kernel) rfl ⟨Nat.le_of_ble_eq_true rfl, Nat.le_of_ble_eq_true rfl⟩ ⟨Nat.le_of_ble_eq_true rfl, Nat.le_of_ble_eq_true rfl⟩ (Nat.le_of_ble_eq_true rfl) rfl dX10_word_145 (fun H locs hP hD hS => ?_)
              refine lv_goto (tgt := 244) hx hb dX10_word_148 (by decide) ?_
              cases hF
              exact hret _ _ _ _ _ hP hD hS rfl dX10_word_244
            · replace hF := (if_neg h30).symm.trans hF
              by_cases h37 : p1 = 118
              · replace hF := (if_pos h37).symm.trans hF
                refine lv_tableIn (tgt := 119) (off := 118) hx hb dX10_word_1 (by rw [h37]; decide) (by rw [h37]; decide) (by rw [h37]; decide) (by decide) ?_
                refine lv_aload_n hx hb dX10_word_119 rfl (lv_at hl 0 rfl) ?_
                refine lv_bipush (v := 105) hx hb dX10_word_120 (by decide) ?_
                refine lv_bipush (v := 110) hx hb dX10_word_122 (by decide) ?_
                refine lv_bipush (v := 101) hx hb dX10_word_124 (by decide) ?_
                obtain ⟨o39, hc40, hF⟩ := bind_some hF
                try dsimp only at hF
                refine cV_v (As := [.int 105, .int 110, .int 101]) (rest := []) hx hb hml hown hw hK hN hA hl.1 hP hD hS k_1896 k_1898 k_65 k_90 k_1899 (met_X10_signs l D cy _ am m0 105 110 101 o39 hc40) (fun _ _ _ => trivial) Xok_T (gM (am := am) (r := 0) (m := m0) (f := (m0 0)) (by decide) rfl) rfl ⟨rfl, rfl⟩ (n := 3) (by decide +kernel) rfl ⟨Nat.le_of_ble_eq_true rfl, Nat.le_of_ble_eq_true rfl⟩ ⟨Nat.le_of_ble_eq_true rfl, Nat.le_of_ble_eq_true rfl⟩ (Nat.le_of_ble_eq_true rfl) rfl dX10_word_126 (fun H locs hP hD hS => ?_)
                refine lv_goto (tgt := 244) hx hb dX10_word_129 (by decide) ?_
                cases hF
                exact hret _ _ _ _ _ hP hD hS rfl dX10_word_244
              · replace hF := (if_neg h37).symm.trans hF
                by_cases h41 : p1 = 119
                · replace hF := (if_pos h41).symm.trans hF
                  refine lv_tableIn (tgt := 208) (off := 207) hx hb dX10_word_1 (by rw [h41]; decide) (by rw [h41]; decide) (by rw [h41]; decide) (by decide) ?_
                  refine lv_aload_n hx hb dX10_word_208 rfl (lv_at hl 0 rfl) ?_
                  refine lv_bipush (v := 105) hx hb dX10_word_209 (by decide) ?_
                  refine lv_bipush (v := 110) hx hb dX10_word_211 (by decide) ?_
                  refine lv_bipush (v := 100) hx hb dX10_word_213 (by decide) ?_
                  obtain ⟨o43, hc44, hF⟩ := bind_some hF
                  try dsimp only at hF
                  refine cV_v (As := [.int 105, .int 110, .int 100]) (rest := []) hx hb hml hown hw hK hN hA hl.1 hP hD hS k_1896 k_1898 k_65 k_90 k_1899 (met_X10_signs l D cy _ am m0 105 110 100 o43 hc44) (fun _ _ _ => trivial) Xok_T (gM (am := am) (r := 0) (m := m0) (f := (m0 0)) (by decide) rfl) rfl ⟨rfl, rfl⟩ (n := 3) (by decide +kernel) rfl ⟨Nat.le_of_ble_eq_true rfl, Nat.le_of_ble_eq_true rfl⟩ ⟨Nat.le_of_ble_eq_true rfl, Nat.le_of_ble_eq_true rfl⟩ (Nat.le_of_ble_eq_true rfl) rfl dX10_word_215 (fun H locs hP hD hS => ?_)
                  refine lv_goto (tgt := 244) hx hb dX10_word_218 (by decide) ?_
                  cases hF
                  exact hret _ _ _ _ _ hP hD hS rfl dX10_word_244
                · replace hF := (if_neg h41).symm.trans hF
                  refine tableDf (tgt := 234) hx hb dX10_word_1 (fun z hz1 hz2 hz3 => by have eh1 := lv_neT h1 (show (99 : Int32).toInt = 99 by decide); have eh8 := lv_neT h8 (show (104 : Int32).toInt = 104 by decide); have eh12 := lv_neT h12 (show (112 : Int32).toInt = 112 by decide); have eh19 := lv_neT h19 (show (114 : Int32).toInt = 114 by decide); have eh26 := lv_neT h26 (show (115 : Int32).toInt = 115 by decide); have eh30 := lv_neT h30 (show (116 : Int32).toInt = 116 by decide); have eh37 := lv_neT h37 (show (118 : Int32).toInt = 118 by decide); have eh41 := lv_neT h41 (show (119 : Int32).toInt = 119 by decide); rcases (show z = 100 ∨ z = 101 ∨ z = 102 ∨ z = 103 ∨ z = 105 ∨ z = 106 ∨ z = 107 ∨ z = 108 ∨ z = 109 ∨ z = 110 ∨ z = 111 ∨ z = 113 ∨ z = 117 by omega) with rfl | rfl | rfl | rfl | rfl | rfl | rfl | rfl | rfl | rfl | rfl | rfl | rfl <;> rfl) (by decide) ?_
                  refine lv_aload_n hx hb dX10_word_234 rfl (lv_at hl 0 rfl) ?_
                  refine lv_bipush (v := 97) hx hb dX10_word_235 (by decide) ?_
                  refine lv_bipush (v := 119) hx hb dX10_word_237 (by decide) ?_
                  refine lv_bipush (v := 110) hx hb dX10_word_239 (by decide) ?_
                  obtain ⟨o46, hc47, hF⟩ := bind_some hF
                  try dsimp only at hF
                  refine cV_v (As := [.int 97, .int 119, .int 110]) (rest := []) hx hb hml hown hw hK hN hA hl.1 hP hD hS k_1896 k_1898 k_65 k_90 k_1899 (met_X10_signs l D cy _ am m0 97 119 110 o46 hc47) (fun _ _ _ => trivial) Xok_T (gM (am := am) (r := 0) (m := m0) (f := (m0 0)) (by decide) rfl) rfl ⟨rfl, rfl⟩ (n := 3) (by decide +kernel) rfl ⟨Nat.le_of_ble_eq_true rfl, Nat.le_of_ble_eq_true rfl⟩ ⟨Nat.le_of_ble_eq_true rfl, Nat.le_of_ble_eq_true rfl⟩ (Nat.le_of_ble_eq_true rfl) rfl dX10_word_241 (fun H locs hP hD hS => ?_)
                  cases hF
                  exact hret _ _ _ _ _ hP hD hS rfl dX10_word_244
def D_X10_vineOwner (m0 : Nat → Nat → Int32) : Option (Int32 × (Nat → Nat → Int32)) := if 0 ≤ ((m0 0) 12) then ((D_X10_behind m0 62 1).bind (fun (r2, o3) => some (r2, o3))) else ((D_X10_sign m0).bind (fun r5 => if r5 = 45 then (some ((-1), (va_up m0 0 (upd (m0 0) 11 (((m0 0) 11) + 1))))) else ((D_X10_behind m0 62 1).bind (fun (r9, o10) => some (r9, o10)))))
abbrev rm_X10_vineOwner : Room := { frames := 3, cells := 0, slots := 0, locals := 67 }
set_option maxHeartbeats 4000000 in
set_option maxRecDepth 100000 in
theorem met_X10_vineOwner (l : Launch) (D : va_G) (cy : Nat → ClassId) (sz : Nat) (am : Nat → Nat) (m0 : Nat → Nat → Int32)  (r : Int32) (t' : Nat → Nat → Int32) (hF : D_X10_vineOwner m0 = some (r, t')) : MI l yX10_vineOwner cX10_vineOwner 1 (some .int) rm_X10_vineOwner D cy (mW cy am m0) sz (fun _ => True) [.ref (am 0)] r (mW cy am t') := by
  refine MI.of (by decide +kernel) (Nat.le_of_ble_eq_true rfl) ?_
  intro p e s m args below meth c A ls Q hAt _ hP hD hA hS hl hret
  obtain ⟨hx, hb, hr, hml, hown, hw, hlk, hK, hN⟩ := hAt
  have hown : s.vm.findClass "CloudDeedsModel" = some m.cls := hown
  have hl : lv_has ls 1 [(0, .ref (am 0))] := hl
  refine lv_aload_n hx hb dX10_vineOwner_0 rfl (lv_at hl 0 rfl) ?_
  refine get' (ci := 12) (fs := mF am (m0 0)) (v := .int ((m0 0) 12)) hx hb hw inWX10 hown hK hP (gM (am := am) (r := 0) (m := m0) (f := (m0 0)) (by decide) rfl) rfl 12 (by decide) k_1582 rfl rfl dX10_vineOwner_1 ?_
  refine lv_if_ge (tgt := 28) hx hb dX10_vineOwner_4 (by decide) (fun h1 => ?_) (fun h1 => ?_)
  · replace hF := (if_pos h1).symm.trans hF
    refine lv_aload_n hx hb dX10_vineOwner_28 rfl (lv_at hl 0 rfl) ?_
    refine lv_bipush (v := 62) hx hb dX10_vineOwner_29 (by decide) ?_
    refine lv_iconst (v := 1) hx hb dX10_vineOwner_31 (by decide) ?_
    obtain ⟨⟨r2, o3⟩, hc4, hF⟩ := bind_some hF
    try dsimp only at hF
    refine cV_i (As := [.int 62, .int 1]) (rest := []) hx hb hml hown hw hK hN hA hl.1 hP hD hS k_1912 k_1914 k_69 k_90 k_1915 (met_X10_behind l D cy _ am m0 62 1 r2 o3 hc4) (fun _ _ _ => trivial) Xok_T (gM (am := am) (r := 0) (m := m0) (f := (m0 0)) (by decide) rfl) rfl ⟨rfl, rfl⟩ (n := 2) (by decide +kernel) rfl ⟨Nat.le_of_ble_eq_true rfl, Nat.le_of_ble_eq_true rfl⟩ ⟨Nat.le_of_ble_eq_true rfl, Nat.le_of_ble_eq_true rfl⟩ (Nat.le_of_ble_eq_true rfl) rfl dX10_vineOwner_32 (fun H locs hP hD hS => ?_)
    cases hF
    exact hret _ _ _ _ _ _ hP hD hS rfl rfl dX10_vineOwner_35
  · replace hF := (if_neg h1).symm.trans hF
    refine lv_aload_n hx hb dX10_vineOwner_7 rfl (lv_at hl 0 rfl) ?_
    obtain ⟨r5, hc7, hF⟩ := bind_some hF
    try dsimp only at hF
    refine cV_i (As := []) (rest := []) hx hb hml hown hw hK hN hA hl.1 hP hD hS k_1885 k_1887 k_63 k_90 k_1888 (met_X10_sign l D cy _ am m0 r5 hc7) (fun _ _ _ => trivial) Xok_T (gM (am := am) (r := 0) (m := m0) (f := (m0 0)) (by decide) rfl) rfl ⟨rfl, rfl⟩ (n := 0) (by decide +kernel) rfl ⟨Nat.le_of_ble_eq_true rfl, Nat.le_of_ble_eq_true rfl⟩ ⟨Nat.le_of_ble_eq_true rfl, Nat.le_of_ble_eq_true rfl⟩ (Nat.le_of_ble_eq_true rfl) rfl dX10_vineOwner_8 (fun H locs hP hD hS => ?_)
    refine lv_bipush (v := 45) hx hb dX10_vineOwner_11 (by decide) ?_
    refine lv_icmp_ne (tgt := 28) hx hb dX10_vineOwner_13 (by decide) (fun h8 => ?_) (fun h8 => ?_)
    · replace hF := (if_neg h8).symm.trans hF
      refine lv_aload_n hx hb dX10_vineOwner_28 rfl (lv_at hl 0 rfl) ?_
      refine lv_bipush (v := 62) hx hb dX10_vineOwner_29 (by decide) ?_
      refine lv_iconst (v := 1) hx hb dX10_vineOwner_31 (by decide) ?_
      obtain ⟨⟨r9, o10⟩, hc11, hF⟩ := bind_some hF
      try dsimp only at hF
      refine cV_i (As := [.int 62, .int 1]) (rest := []) hx hb hml hown hw hK hN hA hl.1 hP hD hS k_1912 k_1914 k_69 k_90 k_1915 (met_X10_behind l D cy _ am m0 62 1 r9 o10 hc11) (fun _ _ _ => trivial) Xok_T (gM (am := am) (r := 0) (m := m0) (f := (m0 0)) (by decide) rfl) rfl ⟨rfl, rfl⟩ (n := 2) (by decide +kernel) rfl ⟨Nat.le_of_ble_eq_true rfl, Nat.le_of_ble_eq_true rfl⟩ ⟨Nat.le_of_ble_eq_true rfl, Nat.le_of_ble_eq_true rfl⟩ (Nat.le_of_ble_eq_true rfl) rfl dX10_vineOwner_32 (fun H locs hP hD hS => ?_)
      cases hF
      exact hret _ _ _ _ _ _ hP hD hS rfl rfl dX10_vineOwner_35
    · replace hF := (if_pos h8).symm.trans hF
      refine lv_aload_n hx hb dX10_vineOwner_16 rfl (lv_at hl 0 rfl) ?_
      refine lv_dup hx hb dX10_vineOwner_17 rfl ?_
      refine get' (ci := 12) (fs := mF am (m0 0)) (v := .int ((m0 0) 11)) hx hb hw inWX10 hown hK hP (gM (am := am) (r := 0) (m := m0) (f := (m0 0)) (by decide) rfl) rfl 11 (by decide) k_1581 rfl rfl dX10_vineOwner_18 ?_
      refine lv_iconst (v := 1) hx hb dX10_vineOwner_21 (by decide) ?_
      refine lv_iadd hx hb dX10_vineOwner_22 ?_
      refine put' (ci := 12) (fs := mF am (m0 0)) (v := .int (((m0 0) 11) + 1)) (ty := .int) (ws' := (mW cy am (va_up m0 0 (upd (m0 0) 11 (((m0 0) 11) + 1))))) hx hb hw inWX10 tyX10 tyX10_ok nmX10 hown hK hP hD hS (gM (am := am) (r := 0) (m := m0) (f := (m0 0)) (by decide) rfl) rfl 11 (by decide) k_1581 rfl rfl (by decide +kernel) rfl rfl (Nat.le_of_ble_eq_true rfl) dX10_vineOwner_23 (sM (am := am) (r := 0) (m := m0) (g := (upd (m0 0) 11 (((m0 0) 11) + 1))) (by decide)) (fun H locs hP hD hS => ?_)
      refine lv_iconst (v := (-1)) hx hb dX10_vineOwner_26 (by decide) ?_
      cases hF
      exact hret _ _ _ _ _ _ hP hD hS rfl rfl dX10_vineOwner_27
def D_X10_line (m0 : Nat → Nat → Int32) (p1 : Int32) : Option (Int32 × (Nat → Nat → Int32)) := (D_X10_isCloud m0 p1).bind (fun r1 => if is01 r1 then (if r1 = 0 then (some (0, (D_X10_isThere m0 r1).2)) else ((D_X10_writes (va_up (D_X10_isThere m0 r1).2 0 (upd ((D_X10_isThere m0 r1).2 0) 17 0)) (48 + p1)).bind (fun o10 => (D_X10_c o10 p1 0).bind (fun r12 => (D_X10_both o10 64 r12).bind (fun o16 => (D_X10_c o16 p1 1).bind (fun r18 => (D_X10_both o16 58 r18).bind (fun o22 => (D_X10_c o22 p1 2).bind (fun r24 => (D_X10_both o22 47 r24).bind (fun o28 => (D_X10_ownerAt o28 p1).bind (fun r30 => if r30 < 0 then ((D_X10_isOther o28 p1).bind (fun r34 => if r34 = 0 then ((D_X10_lenderAt o28 p1).bind (fun r38 => if r38 < 0 then (some (((o28 0) 17), o28)) else ((D_X10_lenderAt o28 p1).bind (fun r42 => (D_X10_both o28 42 r42).bind (fun o46 => some (((o46 0) 17), o46)))))) else ((D_X10_writes o28 63).bind (fun o49 => (D_X10_lenderAt o49 p1).bind (fun r51 => if r51 < 0 then (some (((o49 0) 17), o49)) else ((D_X10_lenderAt o49 p1).bind (fun r55 => (D_X10_both o49 42 r55).bind (fun o59 => some (((o59 0) 17), o59))))))))) else ((D_X10_ownerAt o28 p1).bind (fun r61 => (D_X10_both o28 61 r61).bind (fun o65 => (D_X10_isOther o65 p1).bind (fun r67 => if r67 = 0 then ((D_X10_lenderAt o65 p1).bind (fun r71 => if r71 < 0 then (some (((o65 0) 17), o65)) else ((D_X10_lenderAt o65 p1).bind (fun r75 => (D_X10_both o65 42 r75).bind (fun o79 => some (((o79 0) 17), o79)))))) else ((D_X10_writes o65 63).bind (fun o82 => (D_X10_lenderAt o82 p1).bind (fun r84 => if r84 < 0 then (some (((o82 0) 17), o82)) else ((D_X10_lenderAt o82 p1).bind (fun r88 => (D_X10_both o82 42 r88).bind (fun o92 => some (((o92 0) 17), o92))))))))))))))))))))) else none)
abbrev rm_X10_line : Room := { frames := 3, cells := 0, slots := 0, locals := 64 }
set_option maxHeartbeats 4000000 in
set_option maxRecDepth 100000 in
theorem met_X10_line (l : Launch) (D : va_G) (cy : Nat → ClassId) (sz : Nat) (am : Nat → Nat) (m0 : Nat → Nat → Int32) (p1 : Int32)  (r : Int32) (t' : Nat → Nat → Int32) (hF : D_X10_line m0 p1 = some (r, t')) : MI l yX10_line cX10_line 2 (some .int) rm_X10_line D cy (mW cy am m0) sz (fun _ => True) [.ref (am 0), .int p1] r (mW cy am t') := by
  refine MI.of (by decide +kernel) (Nat.le_of_ble_eq_true rfl) ?_
  intro p e s m args below meth c A ls Q hAt _ hP hD hA hS hl hret
  obtain ⟨hx, hb, hr, hml, hown, hw, hlk, hK, hN⟩ := hAt
  have hown : s.vm.findClass "CloudDeedsModel" = some m.cls := hown
  have hl : lv_has ls 2 [(0, .ref (am 0)), (1, .int p1)] := hl
  refine lv_aload_n hx hb dX10_line_0 rfl (lv_at hl 0 rfl) ?_
  refine lv_aload_n hx hb dX10_line_1 rfl (lv_at hl 0 rfl) ?_
  refine lv_iload_n hx hb dX10_line_2 rfl (lv_at hl 1 rfl) ?_
  obtain ⟨r1, hc3, hF⟩ := bind_some hF
  try dsimp only at hF
  refine cV_i (As := [.int p1]) (rest := [.ref (am 0)]) hx hb hml hown hw hK hN hA hl.1 hP hD hS k_1691 k_1693 k_38 k_90 k_1694 (met_X10_isCloud l D cy _ am m0 p1 r1 hc3) (fun _ _ _ => trivial) Xok_T (gM (am := am) (r := 0) (m := m0) (f := (m0 0)) (by decide) rfl) rfl ⟨rfl, rfl⟩ (n := 1) (by decide +kernel) rfl ⟨Nat.le_of_ble_eq_true rfl, Nat.le_of_ble_eq_true rfl⟩ ⟨Nat.le_of_ble_eq_true rfl, Nat.le_of_ble_eq_true rfl⟩ (Nat.le_of_ble_eq_true rfl) rfl dX10_line_3 (fun H locs hP hD hS => ?_)
  obtain ⟨hg4, hF⟩ := ite_some hF
  refine cV_i (As := [.int r1]) (rest := []) hx hb hml hown hw hK hN hA hl.1 hP hD hS k_1633 k_1635 k_28 k_90 k_1636 (met_X10_isThere l D cy _ am m0 r1 (is01_iff.mp hg4) r1 (D_X10_isThere m0 r1).2 (rs_X10_isThere ..)) (fun _ _ _ => trivial) Xok_T (gM (am := am) (r := 0) (m := m0) (f := (m0 0)) (by decide) rfl) rfl ⟨rfl, rfl⟩ (n := 1) (by decide +kernel) rfl ⟨Nat.le_of_ble_eq_true rfl, Nat.le_of_ble_eq_true rfl⟩ ⟨Nat.le_of_ble_eq_true rfl, Nat.le_of_ble_eq_true rfl⟩ (Nat.le_of_ble_eq_true rfl) rfl dX10_line_6 (fun H locs hP hD hS => ?_)
  refine lv_if_ne (tgt := 14) hx hb dX10_line_9 (by decide) (fun h8 => ?_) (fun h8 => ?_)
  · replace hF := (if_neg h8).symm.trans hF
    refine lv_aload_n hx hb dX10_line_14 rfl (lv_at hl 0 rfl) ?_
    refine lv_iconst (v := 0) hx hb dX10_line_15 (by decide) ?_
    refine put' (ci := 12) (fs := mF am ((D_X10_isThere m0 r1).2 0)) (v := .int 0) (ty := .int) (ws' := (mW cy am (va_up (D_X10_isThere m0 r1).2 0 (upd ((D_X10_isThere m0 r1).2 0) 17 0)))) hx hb hw inWX10 tyX10 tyX10_ok nmX10 hown hK hP hD hS (gM (am := am) (r := 0) (m := (D_X10_isThere m0 r1).2) (f := ((D_X10_isThere m0 r1).2 0)) (by decide) rfl) rfl 17 (by decide) k_1587 rfl rfl (by decide +kernel) rfl rfl (Nat.le_of_ble_eq_true rfl) dX10_line_16 (sM (am := am) (r := 0) (m := (D_X10_isThere m0 r1).2) (g := (upd ((D_X10_isThere m0 r1).2 0) 17 0)) (by decide)) (fun H locs hP hD hS => ?_)
    refine lv_aload_n hx hb dX10_line_19 rfl (lv_at hl 0 rfl) ?_
    refine lv_bipush (v := 48) hx hb dX10_line_20 (by decide) ?_
    refine lv_iload_n hx hb dX10_line_22 rfl (lv_at hl 1 rfl) ?_
    refine lv_iadd hx hb dX10_line_23 ?_
    obtain ⟨o10, hc11, hF⟩ := bind_some hF
    try dsimp only at hF
    refine cV_v (As := [.int (48 + p1)]) (rest := []) hx hb hml hown hw hK hN hA hl.1 hP hD hS k_1932 k_1934 k_72 k_90 k_1935 (met_X10_writes l D cy _ am (va_up (D_X10_isThere m0 r1).2 0 (upd ((D_X10_isThere m0 r1).2 0) 17 0)) (48 + p1) o10 hc11) (fun _ _ _ => trivial) Xok_T (gM (am := am) (r := 0) (m := (va_up (D_X10_isThere m0 r1).2 0 (upd ((D_X10_isThere m0 r1).2 0) 17 0))) (f := (upd ((D_X10_isThere m0 r1).2 0) 17 0)) (by decide) (va_up_self _ _ _)) rfl ⟨rfl, rfl⟩ (n := 1) (by decide +kernel) rfl ⟨Nat.le_of_ble_eq_true rfl, Nat.le_of_ble_eq_true rfl⟩ ⟨Nat.le_of_ble_eq_true rfl, Nat.le_of_ble_eq_true rfl⟩ (Nat.le_of_ble_eq_true rfl) rfl dX10_line_24 (fun H locs hP hD hS => ?_)
    refine lv_aload_n hx hb dX10_line_27 rfl (lv_at hl 0 rfl) ?_
    refine lv_bipush (v := 64) hx hb dX10_line_28 (by decide) ?_
    refine lv_aload_n hx hb dX10_line_30 rfl (lv_at hl 0 rfl) ?_
    refine lv_iload_n hx hb dX10_line_31 rfl (lv_at hl 1 rfl) ?_
    refine lv_iconst (v := 0) hx hb dX10_line_32 (by decide) ?_
    obtain ⟨r12, hc14, hF⟩ := bind_some hF
    try dsimp only at hF
    refine cV_i (As := [.int p1, .int 0]) (rest := [.int 64, .ref (am 0)]) hx hb hml hown hw hK hN hA hl.1 hP hD hS k_1702 k_1704 k_40 k_90 k_1705 (met_X10_c l D cy _ am o10 p1 0 r12 hc14) (fun _ _ _ => trivial) Xok_T (gM (am := am) (r := 0) (m := o10) (f := (o10 0)) (by decide) rfl) rfl ⟨rfl, rfl⟩ (n := 2) (by decide +kernel) rfl ⟨Nat.le_of_ble_eq_true rfl, Nat.le_of_ble_eq_true rfl⟩ ⟨Nat.le_of_ble_eq_true rfl, Nat.le_of_ble_eq_true rfl⟩ (Nat.le_of_ble_eq_true rfl) rfl dX10_line_33 (fun H locs hP hD hS => ?_)
    obtain ⟨o16, hc17, hF⟩ := bind_some hF
    try dsimp only at hF
    refine cV_v (As := [.int 64, .int r12]) (rest := []) hx hb hml hown hw hK hN hA hl.1 hP hD hS k_1936 k_1938 k_73 k_90 k_1939 (met_X10_both l D cy _ am o10 64 r12 o16 hc17) (fun _ _ _ => trivial) Xok_T (gM (am := am) (r := 0) (m := o10) (f := (o10 0)) (by decide) rfl) rfl ⟨rfl, rfl⟩ (n := 2) (by decide +kernel) rfl ⟨Nat.le_of_ble_eq_true rfl, Nat.le_of_ble_eq_true rfl⟩ ⟨Nat.le_of_ble_eq_true rfl, Nat.le_of_ble_eq_true rfl⟩ (Nat.le_of_ble_eq_true rfl) rfl dX10_line_36 (fun H locs hP hD hS => ?_)
    refine lv_aload_n hx hb dX10_line_39 rfl (lv_at hl 0 rfl) ?_
    refine lv_bipush (v := 58) hx hb dX10_line_40 (by decide) ?_
    refine lv_aload_n hx hb dX10_line_42 rfl (lv_at hl 0 rfl) ?_
    refine lv_iload_n hx hb dX10_line_43 rfl (lv_at hl 1 rfl) ?_
    refine lv_iconst (v := 1) hx hb dX10_line_44 (by decide) ?_
    obtain ⟨r18, hc20, hF⟩ := bind_some hF
    try dsimp only at hF
    refine cV_i (As := [.int p1, .int 1]) (rest := [.int 58, .ref (am 0)]) hx hb hml hown hw hK hN hA hl.1 hP hD hS k_1702 k_1704 k_40 k_90 k_1705 (met_X10_c l D cy _ am o16 p1 1 r18 hc20) (fun _ _ _ => trivial) Xok_T (gM (am := am) (r := 0) (m := o16) (f := (o16 0)) (by decide) rfl) rfl ⟨rfl, rfl⟩ (n := 2) (by decide +kernel) rfl ⟨Nat.le_of_ble_eq_true rfl, Nat.le_of_ble_eq_true rfl⟩ ⟨Nat.le_of_ble_eq_true rfl, Nat.le_of_ble_eq_true rfl⟩ (Nat.le_of_ble_eq_true rfl) rfl dX10_line_45 (fun H locs hP hD hS => ?_)
    obtain ⟨o22, hc23, hF⟩ := bind_some hF
    try dsimp only at hF
    refine cV_v (As := [.int 58, .int r18]) (rest := []) hx hb hml hown hw hK hN hA hl.1 hP hD hS k_1936 k_1938 k_73 k_90 k_1939 (met_X10_both l D cy _ am o16 58 r18 o22 hc23) (fun _ _ _ => trivial) Xok_T (gM (am := am) (r := 0) (m := o16) (f := (o16 0)) (by decide) rfl) rfl ⟨rfl, rfl⟩ (n := 2) (by decide +kernel) rfl ⟨Nat.le_of_ble_eq_true rfl, Nat.le_of_ble_eq_true rfl⟩ ⟨Nat.le_of_ble_eq_true rfl, Nat.le_of_ble_eq_true rfl⟩ (Nat.le_of_ble_eq_true rfl) rfl dX10_line_48 (fun H locs hP hD hS => ?_)
    refine lv_aload_n hx hb dX10_line_51 rfl (lv_at hl 0 rfl) ?_
    refine lv_bipush (v := 47) hx hb dX10_line_52 (by decide) ?_
    refine lv_aload_n hx hb dX10_line_54 rfl (lv_at hl 0 rfl) ?_
    refine lv_iload_n hx hb dX10_line_55 rfl (lv_at hl 1 rfl) ?_
    refine lv_iconst (v := 2) hx hb dX10_line_56 (by decide) ?_
    obtain ⟨r24, hc26, hF⟩ := bind_some hF
    try dsimp only at hF
    refine cV_i (As := [.int p1, .int 2]) (rest := [.int 47, .ref (am 0)]) hx hb hml hown hw hK hN hA hl.1 hP hD hS k_1702 k_1704 k_40 k_90 k_1705 (met_X10_c l D cy _ am o22 p1 2 r24 hc26) (fun _ _ _ => trivial) Xok_T (gM (am := am) (r := 0) (m := o22) (f := (o22 0)) (by decide) rfl) rfl ⟨rfl, rfl⟩ (n := 2) (by decide +kernel) rfl ⟨Nat.le_of_ble_eq_true rfl, Nat.le_of_ble_eq_true rfl⟩ ⟨Nat.le_of_ble_eq_true rfl, Nat.le_of_ble_eq_true rfl⟩ (Nat.le_of_ble_eq_true rfl) rfl dX10_line_57 (fun H locs hP hD hS => ?_)
    obtain ⟨o28, hc29, hF⟩ := bind_some hF
    try dsimp only at hF
    refine cV_v (As := [.int 47, .int r24]) (rest := []) hx hb hml hown hw hK hN hA hl.1 hP hD hS k_1936 k_1938 k_73 k_90 k_1939 (met_X10_both l D cy _ am o22 47 r24 o28 hc29) (fun _ _ _ => trivial) Xok_T (gM (am := am) (r := 0) (m := o22) (f := (o22 0)) (by decide) rfl) rfl ⟨rfl, rfl⟩ (n := 2) (by decide +kernel) rfl ⟨Nat.le_of_ble_eq_true rfl, Nat.le_of_ble_eq_true rfl⟩ ⟨Nat.le_of_ble_eq_true rfl, Nat.le_of_ble_eq_true rfl⟩ (Nat.le_of_ble_eq_true rfl) rfl dX10_line_60 (fun H locs hP hD hS => ?_)
    refine lv_aload_n hx hb dX10_line_63 rfl (lv_at hl 0 rfl) ?_
    refine lv_iload_n hx hb dX10_line_64 rfl (lv_at hl 1 rfl) ?_
    obtain ⟨r30, hc32, hF⟩ := bind_some hF
    try dsimp only at hF
    refine cV_i (As := [.int p1]) (rest := []) hx hb hml hown hw hK hN hA hl.1 hP hD hS k_1698 k_1700 k_39 k_90 k_1701 (met_X10_ownerAt l D cy _ am o28 p1 r30 hc32) (fun _ _ _ => trivial) Xok_T (gM (am := am) (r := 0) (m := o28) (f := (o28 0)) (by decide) rfl) rfl ⟨rfl, rfl⟩ (n := 1) (by decide +kernel) rfl ⟨Nat.le_of_ble_eq_true rfl, Nat.le_of_ble_eq_true rfl⟩ ⟨Nat.le_of_ble_eq_true rfl, Nat.le_of_ble_eq_true rfl⟩ (Nat.le_of_ble_eq_true rfl) rfl dX10_line_65 (fun H locs hP hD hS => ?_)
    refine lv_if_lt (tgt := 82) hx hb dX10_line_68 (by decide) (fun h33 => ?_) (fun h33 => ?_)
    · replace hF := (if_pos h33).symm.trans hF
      refine lv_aload_n hx hb dX10_line_82 rfl (lv_at hl 0 rfl) ?_
      refine lv_iload_n hx hb dX10_line_83 rfl (lv_at hl 1 rfl) ?_
      obtain ⟨r34, hc36, hF⟩ := bind_some hF
      try dsimp only at hF
      refine cV_i (As := [.int p1]) (rest := []) hx hb hml hown hw hK hN hA hl.1 hP hD hS k_1770 k_1772 k_53 k_90 k_1773 (met_X10_isOther l D cy _ am o28 p1 r34 hc36) (fun _ _ _ => trivial) Xok_T (gM (am := am) (r := 0) (m := o28) (f := (o28 0)) (by decide) rfl) rfl ⟨rfl, rfl⟩ (n := 1) (by decide +kernel) rfl ⟨Nat.le_of_ble_eq_true rfl, Nat.le_of_ble_eq_true rfl⟩ ⟨Nat.le_of_ble_eq_true rfl, Nat.le_of_ble_eq_true rfl⟩ (Nat.le_of_ble_eq_true rfl) rfl dX10_line_84 (fun H locs hP hD hS => ?_)
      refine lv_if_eq (tgt := 96) hx hb dX10_line_87 (by decide) (fun h37 => ?_) (fun h37 => ?_)
      · replace hF := (if_pos h37).symm.trans hF
        refine lv_aload_n hx hb dX10_line_96 rfl (lv_at hl 0 rfl) ?_
        refine lv_iload_n hx hb dX10_line_97 rfl (lv_at hl 1 rfl) ?_
        obtain ⟨r38, hc40, hF⟩ := bind_some hF
        try dsimp only at hF
        refine cV_i (As := [.int p1]) (rest := []) hx hb hml hown hw hK hN hA hl.1 hP hD hS k_1730 k_1732 k_46 k_90 k_1733 (met_X10_lenderAt l D cy _ am o28 p1 r38 hc40) (fun _ _ _ => trivial) Xok_T (gM (am := am) (r := 0) (m := o28) (f := (o28 0)) (by decide) rfl) rfl ⟨rfl, rfl⟩ (n := 1) (by decide +kernel) rfl ⟨Nat.le_of_ble_eq_true rfl, Nat.le_of_ble_eq_true rfl⟩ ⟨Nat.le_of_ble_eq_true rfl, Nat.le_of_ble_eq_true rfl⟩ (Nat.le_of_ble_eq_true rfl) rfl dX10_line_98 (fun H locs hP hD hS => ?_)
        refine lv_if_lt (tgt := 115) hx hb dX10_line_101 (by decide) (fun h41 => ?_) (fun h41 => ?_)
        · replace hF := (if_pos h41).symm.trans hF
          refine lv_aload_n hx hb dX10_line_115 rfl (lv_at hl 0 rfl) ?_
          refine get' (ci := 12) (fs := mF am (o28 0)) (v := .int ((o28 0) 17)) hx hb hw inWX10 hown hK hP (gM (am := am) (r := 0) (m := o28) (f := (o28 0)) (by decide) rfl) rfl 17 (by decide) k_1587 rfl rfl dX10_line_116 ?_
          cases hF
          exact hret _ _ _ _ _ _ hP hD hS rfl rfl dX10_line_119
        · replace hF := (if_neg h41).symm.trans hF
          refine lv_aload_n hx hb dX10_line_104 rfl (lv_at hl 0 rfl) ?_
          refine lv_bipush (v := 42) hx hb dX10_line_105 (by decide) ?_
          refine lv_aload_n hx hb dX10_line_107 rfl (lv_at hl 0 rfl) ?_
          refine lv_iload_n hx hb dX10_line_108 rfl (lv_at hl 1 rfl) ?_
          obtain ⟨r42, hc44, hF⟩ := bind_some hF
          try dsimp only at hF
          refine cV_i (As := [.int p1]) (rest := [.int 42, .ref (am 0)]) hx hb hml hown hw hK hN hA hl.1 hP hD hS k_1730 k_1732 k_46 k_90 k_1733 (met_X10_lenderAt l D cy _ am o28 p1 r42 hc44) (fun _ _ _ => trivial) Xok_T (gM (am := am) (r := 0) (m := o28) (f := (o28 0)) (by decide) rfl) rfl ⟨rfl, rfl⟩ (n := 1) (by decide +kernel) rfl ⟨Nat.le_of_ble_eq_true rfl, Nat.le_of_ble_eq_true rfl⟩ ⟨Nat.le_of_ble_eq_true rfl, Nat.le_of_ble_eq_true rfl⟩ (Nat.le_of_ble_eq_true rfl) rfl dX10_line_109 (fun H locs hP hD hS => ?_)
          obtain ⟨o46, hc47, hF⟩ := bind_some hF
          try dsimp only at hF
          refine cV_v (As := [.int 42, .int r42]) (rest := []) hx hb hml hown hw hK hN hA hl.1 hP hD hS k_1936 k_1938 k_73 k_90 k_1939 (met_X10_both l D cy _ am o28 42 r42 o46 hc47) (fun _ _ _ => trivial) Xok_T (gM (am := am) (r := 0) (m := o28) (f := (o28 0)) (by decide) rfl) rfl ⟨rfl, rfl⟩ (n := 2) (by decide +kernel) rfl ⟨Nat.le_of_ble_eq_true rfl, Nat.le_of_ble_eq_true rfl⟩ ⟨Nat.le_of_ble_eq_true rfl, Nat.le_of_ble_eq_true rfl⟩ (Nat.le_of_ble_eq_true rfl) rfl dX10_line_112 (fun H locs hP hD hS => ?_)
          refine lv_aload_n hx hb dX10_line_115 rfl (lv_at hl 0 rfl) ?_
          refine get' (ci := 12) (fs := mF am (o46 0)) (v := .int ((o46 0) 17)) hx hb hw inWX10 hown hK hP (gM (am := am) (r := 0) (m := o46) (f := (o46 0)) (by decide) rfl) rfl 17 (by decide) k_1587 rfl rfl dX10_line_116 ?_
          cases hF
          exact hret _ _ _ _ _ _ hP hD hS rfl rfl dX10_line_119
      · replace hF := (if_neg h37).symm.trans hF
        refine lv_aload_n hx hb dX10_line_90 rfl (lv_at hl 0 rfl) ?_
        refine lv_bipush (v := 63) hx hb dX10_line_91 (by decide) ?_
        obtain ⟨o49, hc50, hF⟩ := bind_some hF
        try dsimp only at hF
        refine cV_v (As := [.int 63]) (rest := []) hx hb hml hown hw hK hN hA hl.1 hP hD hS k_1932 k_1934 k_72 k_90 k_1935 (met_X10_writes l D cy _ am o28 63 o49 hc50) (fun _ _ _ => trivial) Xok_T (gM (am := am) (r := 0) (m := o28) (f := (o28 0)) (by decide) rfl) rfl ⟨rfl, rfl⟩ (n := 1) (by decide +kernel) rfl ⟨Nat.le_of_ble_eq_true rfl, Nat.le_of_ble_eq_true rfl⟩ ⟨Nat.le_of_ble_eq_true rfl, Nat.le_of_ble_eq_true rfl⟩ (Nat.le_of_ble_eq_true rfl) rfl dX10_line_93 (fun H locs hP hD hS => ?_)
        refine lv_aload_n hx hb dX10_line_96 rfl (lv_at hl 0 rfl) ?_
        refine lv_iload_n hx hb dX10_line_97 rfl (lv_at hl 1 rfl) ?_
        obtain ⟨r51, hc53, hF⟩ := bind_some hF
        try dsimp only at hF
        refine cV_i (As := [.int p1]) (rest := []) hx hb hml hown hw hK hN hA hl.1 hP hD hS k_1730 k_1732 k_46 k_90 k_1733 (met_X10_lenderAt l D cy _ am o49 p1 r51 hc53) (fun _ _ _ => trivial) Xok_T (gM (am := am) (r := 0) (m := o49) (f := (o49 0)) (by decide) rfl) rfl ⟨rfl, rfl⟩ (n := 1) (by decide +kernel) rfl ⟨Nat.le_of_ble_eq_true rfl, Nat.le_of_ble_eq_true rfl⟩ ⟨Nat.le_of_ble_eq_true rfl, Nat.le_of_ble_eq_true rfl⟩ (Nat.le_of_ble_eq_true rfl) rfl dX10_line_98 (fun H locs hP hD hS => ?_)
        refine lv_if_lt (tgt := 115) hx hb dX10_line_101 (by decide) (fun h54 => ?_) (fun h54 => ?_)
        · replace hF := (if_pos h54).symm.trans hF
          refine lv_aload_n hx hb dX10_line_115 rfl (lv_at hl 0 rfl) ?_
          refine get' (ci := 12) (fs := mF am (o49 0)) (v := .int ((o49 0) 17)) hx hb hw inWX10 hown hK hP (gM (am := am) (r := 0) (m := o49) (f := (o49 0)) (by decide) rfl) rfl 17 (by decide) k_1587 rfl rfl dX10_line_116 ?_
          cases hF
          exact hret _ _ _ _ _ _ hP hD hS rfl rfl dX10_line_119
        · replace hF := (if_neg h54).symm.trans hF
          refine lv_aload_n hx hb dX10_line_104 rfl (lv_at hl 0 rfl) ?_
          refine lv_bipush (v := 42) hx hb dX10_line_105 (by decide) ?_
          refine lv_aload_n hx hb dX10_line_107 rfl (lv_at hl 0 rfl) ?_
          refine lv_iload_n hx hb dX10_line_108 rfl (lv_at hl 1 rfl) ?_
          obtain ⟨r55, hc57, hF⟩ := bind_some hF
          try dsimp only at hF
          refine cV_i (As := [.int p1]) (rest := [.int 42, .ref (am 0)]) hx hb hml hown hw hK hN hA hl.1 hP hD hS k_1730 k_1732 k_46 k_90 k_1733 (met_X10_lenderAt l D cy _ am o49 p1 r55 hc57) (fun _ _ _ => trivial) Xok_T (gM (am := am) (r := 0) (m := o49) (f := (o49 0)) (by decide) rfl) rfl ⟨rfl, rfl⟩ (n := 1) (by decide +kernel) rfl ⟨Nat.le_of_ble_eq_true rfl, Nat.le_of_ble_eq_true rfl⟩ ⟨Nat.le_of_ble_eq_true rfl, Nat.le_of_ble_eq_true rfl⟩ (Nat.le_of_ble_eq_true rfl) rfl dX10_line_109 (fun H locs hP hD hS => ?_)
          obtain ⟨o59, hc60, hF⟩ := bind_some hF
          try dsimp only at hF
          refine cV_v (As := [.int 42, .int r55]) (rest := []) hx hb hml hown hw hK hN hA hl.1 hP hD hS k_1936 k_1938 k_73 k_90 k_1939 (met_X10_both l D cy _ am o49 42 r55 o59 hc60) (fun _ _ _ => trivial) Xok_T (gM (am := am) (r := 0) (m := o49) (f := (o49 0)) (by decide) rfl) rfl ⟨rfl, rfl⟩ (n := 2) (by decide +kernel) rfl ⟨Nat.le_of_ble_eq_true rfl, Nat.le_of_ble_eq_true rfl⟩ ⟨Nat.le_of_ble_eq_true rfl, Nat.le_of_ble_eq_true rfl⟩ (Nat.le_of_ble_eq_true rfl) rfl dX10_line_112 (fun H locs hP hD hS => ?_)
          refine lv_aload_n hx hb dX10_line_115 rfl (lv_at hl 0 rfl) ?_
          refine get' (ci := 12) (fs := mF am (o59 0)) (v := .int ((o59 0) 17)) hx hb hw inWX10 hown hK hP (gM (am := am) (r := 0) (m := o59) (f := (o59 0)) (by decide) rfl) rfl 17 (by decide) k_1587 rfl rfl dX10_line_116 ?_
          cases hF
          exact hret _ _ _ _ _ _ hP hD hS rfl rfl dX10_line_119
    · replace hF := (if_neg h33).symm.trans hF
      refine lv_aload_n hx hb dX10_line_71 rfl (lv_at hl 0 rfl) ?_
      refine lv_bipush (v := 61) hx hb dX10_line_72 (by decide) ?_
      refine lv_aload_n hx hb dX10_line_74 rfl (lv_at hl 0 rfl) ?_
      refine lv_iload_n hx hb dX10_line_75 rfl (lv_at hl 1 rfl) ?_
      obtain ⟨r61, hc63, hF⟩ := bind_some hF
      try dsimp only at hF
      refine cV_i (As := [.int p1]) (rest := [.int 61, .ref (am 0)]) hx hb hml hown hw hK hN hA hl.1 hP hD hS k_1698 k_1700 k_39 k_90 k_1701 (met_X10_ownerAt l D cy _ am o28 p1 r61 hc63) (fun _ _ _ => trivial) Xok_T (gM (am := am) (r := 0) (m := o28) (f := (o28 0)) (by decide) rfl) rfl ⟨rfl, rfl⟩ (n := 1) (by decide +kernel) rfl ⟨Nat.le_of_ble_eq_true rfl, Nat.le_of_ble_eq_true rfl⟩ ⟨Nat.le_of_ble_eq_true rfl, Nat.le_of_ble_eq_true rfl⟩ (Nat.le_of_ble_eq_true rfl) rfl dX10_line_76 (fun H locs hP hD hS => ?_)
      obtain ⟨o65, hc66, hF⟩ := bind_some hF
      try dsimp only at hF
      refine cV_v (As := [.int 61, .int r61]) (rest := []) hx hb hml hown hw hK hN hA hl.1 hP hD hS k_1936 k_1938 k_73 k_90 k_1939 (met_X10_both l D cy _ am o28 61 r61 o65 hc66) (fun _ _ _ => trivial) Xok_T (gM (am := am) (r := 0) (m := o28) (f := (o28 0)) (by decide) rfl) rfl ⟨rfl, rfl⟩ (n := 2) (by decide +kernel) rfl ⟨Nat.le_of_ble_eq_true rfl, Nat.le_of_ble_eq_true rfl⟩ ⟨Nat.le_of_ble_eq_true rfl, Nat.le_of_ble_eq_true rfl⟩ (Nat.le_of_ble_eq_true rfl) rfl dX10_line_79 (fun H locs hP hD hS => ?_)
      refine lv_aload_n hx hb dX10_line_82 rfl (lv_at hl 0 rfl) ?_
      refine lv_iload_n hx hb dX10_line_83 rfl (lv_at hl 1 rfl) ?_
      obtain ⟨r67, hc69, hF⟩ := bind_some hF
      try dsimp only at hF
      refine cV_i (As := [.int p1]) (rest := []) hx hb hml hown hw hK hN hA hl.1 hP hD hS k_1770 k_1772 k_53 k_90 k_1773 (met_X10_isOther l D cy _ am o65 p1 r67 hc69) (fun _ _ _ => trivial) Xok_T (gM (am := am) (r := 0) (m := o65) (f := (o65 0)) (by decide) rfl) rfl ⟨rfl, rfl⟩ (n := 1) (by decide +kernel) rfl ⟨Nat.le_of_ble_eq_true rfl, Nat.le_of_ble_eq_true rfl⟩ ⟨Nat.le_of_ble_eq_true rfl, Nat.le_of_ble_eq_true rfl⟩ (Nat.le_of_ble_eq_true rfl) rfl dX10_line_84 (fun H locs hP hD hS => ?_)
      refine lv_if_eq (tgt := 96) hx hb dX10_line_87 (by decide) (fun h70 => ?_) (fun h70 => ?_)
      · replace hF := (if_pos h70).symm.trans hF
        refine lv_aload_n hx hb dX10_line_96 rfl (lv_at hl 0 rfl) ?_
        refine lv_iload_n hx hb dX10_line_97 rfl (lv_at hl 1 rfl) ?_
        obtain ⟨r71, hc73, hF⟩ := bind_some hF
        try dsimp only at hF
        refine cV_i (As := [.int p1]) (rest := []) hx hb hml hown hw hK hN hA hl.1 hP hD hS k_1730 k_1732 k_46 k_90 k_1733 (met_X10_lenderAt l D cy _ am o65 p1 r71 hc73) (fun _ _ _ => trivial) Xok_T (gM (am := am) (r := 0) (m := o65) (f := (o65 0)) (by decide) rfl) rfl ⟨rfl, rfl⟩ (n := 1) (by decide +kernel) rfl ⟨Nat.le_of_ble_eq_true rfl, Nat.le_of_ble_eq_true rfl⟩ ⟨Nat.le_of_ble_eq_true rfl, Nat.le_of_ble_eq_true rfl⟩ (Nat.le_of_ble_eq_true rfl) rfl dX10_line_98 (fun H locs hP hD hS => ?_)
        refine lv_if_lt (tgt := 115) hx hb dX10_line_101 (by decide) (fun h74 => ?_) (fun h74 => ?_)
        · replace hF := (if_pos h74).symm.trans hF
          refine lv_aload_n hx hb dX10_line_115 rfl (lv_at hl 0 rfl) ?_
          refine get' (ci := 12) (fs := mF am (o65 0)) (v := .int ((o65 0) 17)) hx hb hw inWX10 hown hK hP (gM (am := am) (r := 0) (m := o65) (f := (o65 0)) (by decide) rfl) rfl 17 (by decide) k_1587 rfl rfl dX10_line_116 ?_
          cases hF
          exact hret _ _ _ _ _ _ hP hD hS rfl rfl dX10_line_119
        · replace hF := (if_neg h74).symm.trans hF
          refine lv_aload_n hx hb dX10_line_104 rfl (lv_at hl 0 rfl) ?_
          refine lv_bipush (v := 42) hx hb dX10_line_105 (by decide) ?_
          refine lv_aload_n hx hb dX10_line_107 rfl (lv_at hl 0 rfl) ?_
          refine lv_iload_n hx hb dX10_line_108 rfl (lv_at hl 1 rfl) ?_
          obtain ⟨r75, hc77, hF⟩ := bind_some hF
          try dsimp only at hF
          refine cV_i (As := [.int p1]) (rest := [.int 42, .ref (am 0)]) hx hb hml hown hw hK hN hA hl.1 hP hD hS k_1730 k_1732 k_46 k_90 k_1733 (met_X10_lenderAt l D cy _ am o65 p1 r75 hc77) (fun _ _ _ => trivial) Xok_T (gM (am := am) (r := 0) (m := o65) (f := (o65 0)) (by decide) rfl) rfl ⟨rfl, rfl⟩ (n := 1) (by decide +kernel) rfl ⟨Nat.le_of_ble_eq_true rfl, Nat.le_of_ble_eq_true rfl⟩ ⟨Nat.le_of_ble_eq_true rfl, Nat.le_of_ble_eq_true rfl⟩ (Nat.le_of_ble_eq_true rfl) rfl dX10_line_109 (fun H locs hP hD hS => ?_)
          obtain ⟨o79, hc80, hF⟩ := bind_some hF
          try dsimp only at hF
          refine cV_v (As := [.int 42, .int r75]) (rest := []) hx hb hml hown hw hK hN hA hl.1 hP hD hS k_1936 k_1938 k_73 k_90 k_1939 (met_X10_both l D cy _ am o65 42 r75 o79 hc80) (fun _ _ _ => trivial) Xok_T (gM (am := am) (r := 0) (m := o65) (f := (o65 0)) (by decide) rfl) rfl ⟨rfl, rfl⟩ (n := 2) (by decide +kernel) rfl ⟨Nat.le_of_ble_eq_true rfl, Nat.le_of_ble_eq_true rfl⟩ ⟨Nat.le_of_ble_eq_true rfl, Nat.le_of_ble_eq_true rfl⟩ (Nat.le_of_ble_eq_true rfl) rfl dX10_line_112 (fun H locs hP hD hS => ?_)
          refine lv_aload_n hx hb dX10_line_115 rfl (lv_at hl 0 rfl) ?_
          refine get' (ci := 12) (fs := mF am (o79 0)) (v := .int ((o79 0) 17)) hx hb hw inWX10 hown hK hP (gM (am := am) (r := 0) (m := o79) (f := (o79 0)) (by decide) rfl) rfl 17 (by decide) k_1587 rfl rfl dX10_line_116 ?_
          cases hF
          exact hret _ _ _ _ _ _ hP hD hS rfl rfl dX10_line_119
      · replace hF := (if_neg h70).symm.trans hF
        refine lv_aload_n hx hb dX10_line_90 rfl (lv_at hl 0 rfl) ?_
        refine lv_bipush (v := 63) hx hb dX10_line_91 (by decide) ?_
        obtain ⟨o82, hc83, hF⟩ := bind_some hF
        try dsimp only at hF
        refine cV_v (As := [.int 63]) (rest := []) hx hb hml hown hw hK hN hA hl.1 hP hD hS k_1932 k_1934 k_72 k_90 k_1935 (met_X10_writes l D cy _ am o65 63 o82 hc83) (fun _ _ _ => trivial) Xok_T (gM (am := am) (r := 0) (m := o65) (f := (o65 0)) (by decide) rfl) rfl ⟨rfl, rfl⟩ (n := 1) (by decide +kernel) rfl ⟨Nat.le_of_ble_eq_true rfl, Nat.le_of_ble_eq_true rfl⟩ ⟨Nat.le_of_ble_eq_true rfl, Nat.le_of_ble_eq_true rfl⟩ (Nat.le_of_ble_eq_true rfl) rfl dX10_line_93 (fun H locs hP hD hS => ?_)
        refine lv_aload_n hx hb dX10_line_96 rfl (lv_at hl 0 rfl) ?_
        refine lv_iload_n hx hb dX10_line_97 rfl (lv_at hl 1 rfl) ?_
        obtain ⟨r84, hc86, hF⟩ := bind_some hF
        try dsimp only at hF
        refine cV_i (As := [.int p1]) (rest := []) hx hb hml hown hw hK hN hA hl.1 hP hD hS k_1730 k_1732 k_46 k_90 k_1733 (met_X10_lenderAt l D cy _ am o82 p1 r84 hc86) (fun _ _ _ => trivial) Xok_T (gM (am := am) (r := 0) (m := o82) (f := (o82 0)) (by decide) rfl) rfl ⟨rfl, rfl⟩ (n := 1) (by decide +kernel) rfl ⟨Nat.le_of_ble_eq_true rfl, Nat.le_of_ble_eq_true rfl⟩ ⟨Nat.le_of_ble_eq_true rfl, Nat.le_of_ble_eq_true rfl⟩ (Nat.le_of_ble_eq_true rfl) rfl dX10_line_98 (fun H locs hP hD hS => ?_)
        refine lv_if_lt (tgt := 115) hx hb dX10_line_101 (by decide) (fun h87 => ?_) (fun h87 => ?_)
        · replace hF := (if_pos h87).symm.trans hF
          refine lv_aload_n hx hb dX10_line_115 rfl (lv_at hl 0 rfl) ?_
          refine get' (ci := 12) (fs := mF am (o82 0)) (v := .int ((o82 0) 17)) hx hb hw inWX10 hown hK hP (gM (am := am) (r := 0) (m := o82) (f := (o82 0)) (by decide) rfl) rfl 17 (by decide) k_1587 rfl rfl dX10_line_116 ?_
          cases hF
          exact hret _ _ _ _ _ _ hP hD hS rfl rfl dX10_line_119
        · replace hF := (if_neg h87).symm.trans hF
          refine lv_aload_n hx hb dX10_line_104 rfl (lv_at hl 0 rfl) ?_
          refine lv_bipush (v := 42) hx hb dX10_line_105 (by decide) ?_
          refine lv_aload_n hx hb dX10_line_107 rfl (lv_at hl 0 rfl) ?_
          refine lv_iload_n hx hb dX10_line_108 rfl (lv_at hl 1 rfl) ?_
          obtain ⟨r88, hc90, hF⟩ := bind_some hF
          try dsimp only at hF
          refine cV_i (As := [.int p1]) (rest := [.int 42, .ref (am 0)]) hx hb hml hown hw hK hN hA hl.1 hP hD hS k_1730 k_1732 k_46 k_90 k_1733 (met_X10_lenderAt l D cy _ am o82 p1 r88 hc90) (fun _ _ _ => trivial) Xok_T (gM (am := am) (r := 0) (m := o82) (f := (o82 0)) (by decide) rfl) rfl ⟨rfl, rfl⟩ (n := 1) (by decide +kernel) rfl ⟨Nat.le_of_ble_eq_true rfl, Nat.le_of_ble_eq_true rfl⟩ ⟨Nat.le_of_ble_eq_true rfl, Nat.le_of_ble_eq_true rfl⟩ (Nat.le_of_ble_eq_true rfl) rfl dX10_line_109 (fun H locs hP hD hS => ?_)
          obtain ⟨o92, hc93, hF⟩ := bind_some hF
          try dsimp only at hF
          refine cV_v (As := [.int 42, .int r88]) (rest := []) hx hb hml hown hw hK hN hA hl.1 hP hD hS k_1936 k_1938 k_73 k_90 k_1939 (met_X10_both l D cy _ am o82 42 r88 o92 hc93) (fun _ _ _ => trivial) Xok_T (gM (am := am) (r := 0) (m := o82) (f := (o82 0)) (by decide) rfl) rfl ⟨rfl, rfl⟩ (n := 2) (by decide +kernel) rfl ⟨Nat.le_of_ble_eq_true rfl, Nat.le_of_ble_eq_true rfl⟩ ⟨Nat.le_of_ble_eq_true rfl, Nat.le_of_ble_eq_true rfl⟩ (Nat.le_of_ble_eq_true rfl) rfl dX10_line_112 (fun H locs hP hD hS => ?_)
          refine lv_aload_n hx hb dX10_line_115 rfl (lv_at hl 0 rfl) ?_
          refine get' (ci := 12) (fs := mF am (o92 0)) (v := .int ((o92 0) 17)) hx hb hw inWX10 hown hK hP (gM (am := am) (r := 0) (m := o92) (f := (o92 0)) (by decide) rfl) rfl 17 (by decide) k_1587 rfl rfl dX10_line_116 ?_
          cases hF
          exact hret _ _ _ _ _ _ hP hD hS rfl rfl dX10_line_119
  · replace hF := (if_pos h8).symm.trans hF
    refine lv_iconst (v := 0) hx hb dX10_line_12 (by decide) ?_
    cases hF
    exact hret _ _ _ _ _ _ hP hD hS rfl rfl dX10_line_13
def D_X10_account (m0 : Nat → Nat → Int32) (p1 : Int32) : Option (Int32 × (Nat → Nat → Int32)) := if (D_X10_in p1 0 12) = 0 then (some (0, (D_X10_isThere m0 (D_X10_in p1 0 12)).2)) else (if p1 = 0 then (if inb 0 1152 then (some ((((D_X10_isThere m0 (D_X10_in p1 0 12)).2 1) (0 : Int32).toNatClampNeg), (D_X10_isThere m0 (D_X10_in p1 0 12)).2)) else none) else (if p1 = 1 then ((D_X10_ofClouds (D_X10_isThere m0 (D_X10_in p1 0 12)).2 p1).bind (fun r11 => some (r11, (D_X10_isThere m0 (D_X10_in p1 0 12)).2))) else (if p1 = 2 then ((D_X10_ofClouds (D_X10_isThere m0 (D_X10_in p1 0 12)).2 p1).bind (fun r15 => some (r15, (D_X10_isThere m0 (D_X10_in p1 0 12)).2))) else (if p1 = 3 then ((D_X10_owned (D_X10_isThere m0 (D_X10_in p1 0 12)).2).bind (fun r19 => some (r19, (D_X10_isThere m0 (D_X10_in p1 0 12)).2))) else (if p1 = 4 then (if inb (p1 - 3) 1152 then (some ((((D_X10_isThere m0 (D_X10_in p1 0 12)).2 1) (p1 - 3).toNatClampNeg), (D_X10_isThere m0 (D_X10_in p1 0 12)).2)) else none) else (if p1 = 5 then (if inb (p1 - 3) 1152 then (some ((((D_X10_isThere m0 (D_X10_in p1 0 12)).2 1) (p1 - 3).toNatClampNeg), (D_X10_isThere m0 (D_X10_in p1 0 12)).2)) else none) else (if p1 = 6 then (if inb (p1 - 3) 1152 then (some ((((D_X10_isThere m0 (D_X10_in p1 0 12)).2 1) (p1 - 3).toNatClampNeg), (D_X10_isThere m0 (D_X10_in p1 0 12)).2)) else none) else (if p1 = 7 then (if inb (p1 - 3) 1152 then (some ((((D_X10_isThere m0 (D_X10_in p1 0 12)).2 1) (p1 - 3).toNatClampNeg), (D_X10_isThere m0 (D_X10_in p1 0 12)).2)) else none) else (if p1 = 8 then (if inb (p1 - 3) 1152 then (some ((((D_X10_isThere m0 (D_X10_in p1 0 12)).2 1) (p1 - 3).toNatClampNeg), (D_X10_isThere m0 (D_X10_in p1 0 12)).2)) else none) else (if p1 = 9 then (if inb (p1 - 3) 1152 then (some ((((D_X10_isThere m0 (D_X10_in p1 0 12)).2 1) (p1 - 3).toNatClampNeg), (D_X10_isThere m0 (D_X10_in p1 0 12)).2)) else none) else (if p1 = 10 then (if inb (p1 - 3) 1152 then (some ((((D_X10_isThere m0 (D_X10_in p1 0 12)).2 1) (p1 - 3).toNatClampNeg), (D_X10_isThere m0 (D_X10_in p1 0 12)).2)) else none) else (if p1 = 11 then (some ((((D_X10_isThere m0 (D_X10_in p1 0 12)).2 0) 10), (D_X10_isThere m0 (D_X10_in p1 0 12)).2)) else (some ((((D_X10_isThere m0 (D_X10_in p1 0 12)).2 0) 2), (D_X10_isThere m0 (D_X10_in p1 0 12)).2))))))))))))))
abbrev rm_X10_account : Room := { frames := 3, cells := 0, slots := 0, locals := 66 }
set_option maxHeartbeats 4000000 in
set_option maxRecDepth 100000 in
theorem met_X10_account (l : Launch) (D : va_G) (cy : Nat → ClassId) (sz : Nat) (am : Nat → Nat) (m0 : Nat → Nat → Int32) (p1 : Int32)  (r : Int32) (t' : Nat → Nat → Int32) (hF : D_X10_account m0 p1 = some (r, t')) : MI l yX10_account cX10_account 2 (some .int) rm_X10_account D cy (mW cy am m0) sz (fun _ => True) [.ref (am 0), .int p1] r (mW cy am t') := by
  refine MI.of (by decide +kernel) (Nat.le_of_ble_eq_true rfl) ?_
  intro p e s m args below meth c A ls Q hAt _ hP hD hA hS hl hret
  obtain ⟨hx, hb, hr, hml, hown, hw, hlk, hK, hN⟩ := hAt
  have hown : s.vm.findClass "CloudDeedsModel" = some m.cls := hown
  have hl : lv_has ls 2 [(0, .ref (am 0)), (1, .int p1)] := hl
  refine lv_aload_n hx hb dX10_account_0 rfl (lv_at hl 0 rfl) ?_
  refine lv_iload_n hx hb dX10_account_1 rfl (lv_at hl 1 rfl) ?_
  refine lv_iconst (v := 0) hx hb dX10_account_2 (by decide) ?_
  refine lv_bipush (v := 12) hx hb dX10_account_3 (by decide) ?_
  refine cS_i (As := [.int p1, .int 0, .int 12]) (rest := [.ref (am 0)]) hx hb hml hown hw hK hN hA hl.1 hP hD hS k_1656 k_1657 k_90 k_1658 (met_X10_in l D cy _ (mW cy am m0) p1 0 12 (D_X10_in p1 0 12) rfl) (fun _ _ _ => trivial) Xok_T ⟨rfl, rfl⟩ (n := 3) (by decide +kernel) rfl ⟨Nat.le_of_ble_eq_true rfl, Nat.le_of_ble_eq_true rfl⟩ ⟨Nat.le_of_ble_eq_true rfl, Nat.le_of_ble_eq_true rfl⟩ (Nat.le_of_ble_eq_true rfl) rfl dX10_account_5 (fun H locs hP hD hS => ?_)
  refine cV_i (As := [.int (D_X10_in p1 0 12)]) (rest := []) hx hb hml hown hw hK hN hA hl.1 hP hD hS k_1633 k_1635 k_28 k_90 k_1636 (met_X10_isThere l D cy _ am m0 (D_X10_in p1 0 12) (bz_X10_in ..) (D_X10_in p1 0 12) (D_X10_isThere m0 (D_X10_in p1 0 12)).2 (rs_X10_isThere ..)) (fun _ _ _ => trivial) Xok_T (gM (am := am) (r := 0) (m := m0) (f := (m0 0)) (by decide) rfl) rfl ⟨rfl, rfl⟩ (n := 1) (by decide +kernel) rfl ⟨Nat.le_of_ble_eq_true rfl, Nat.le_of_ble_eq_true rfl⟩ ⟨Nat.le_of_ble_eq_true rfl, Nat.le_of_ble_eq_true rfl⟩ (Nat.le_of_ble_eq_true rfl) rfl dX10_account_8 (fun H locs hP hD hS => ?_)
  refine lv_if_ne (tgt := 16) hx hb dX10_account_11 (by decide) (fun h7 => ?_) (fun h7 => ?_)
  · replace hF := (if_neg h7).symm.trans hF
    refine lv_iload_n hx hb dX10_account_16 rfl (lv_at hl 1 rfl) ?_
    by_cases h8 : p1 = 0
    · replace hF := (if_pos h8).symm.trans hF
      refine lv_tableIn (tgt := 80) (off := 63) hx hb dX10_account_17 (by rw [h8]; decide) (by rw [h8]; decide) (by rw [h8]; decide) (by decide) ?_
      refine lv_aload_n hx hb dX10_account_80 rfl (lv_at hl 0 rfl) ?_
      refine get' (ci := 12) (fs := mF am ((D_X10_isThere m0 (D_X10_in p1 0 12)).2 0)) (v := .ref (am 1)) hx hb hw inWX10 hown hK hP (gM (am := am) (r := 0) (m := (D_X10_isThere m0 (D_X10_in p1 0 12)).2) (f := ((D_X10_isThere m0 (D_X10_in p1 0 12)).2 0)) (by decide) rfl) rfl 1 (by decide) k_1571 rfl rfl dX10_account_81 ?_
      refine lv_iconst (v := 0) hx hb dX10_account_84 (by decide) ?_
      obtain ⟨h9, hF⟩ := ite_some hF
      refine va_iald (n := 1152) (f := ((D_X10_isThere m0 (D_X10_in p1 0 12)).2 1)) hx hb hK hP _ 0 (gM (am := am) (r := 1) (m := (D_X10_isThere m0 (D_X10_in p1 0 12)).2) (f := ((D_X10_isThere m0 (D_X10_in p1 0 12)).2 1)) (by decide) rfl) rfl (vp_inb h9) dX10_account_85 ?_
      cases hF
      exact hret _ _ _ _ _ _ hP hD hS rfl rfl dX10_account_86
    · replace hF := (if_neg h8).symm.trans hF
      by_cases h10 : p1 = 1
      · replace hF := (if_pos h10).symm.trans hF
        refine lv_tableIn (tgt := 87) (off := 70) hx hb dX10_account_17 (by rw [h10]; decide) (by rw [h10]; decide) (by rw [h10]; decide) (by decide) ?_
        refine lv_aload_n hx hb dX10_account_87 rfl (lv_at hl 0 rfl) ?_
        refine lv_iload_n hx hb dX10_account_88 rfl (lv_at hl 1 rfl) ?_
        obtain ⟨r11, hc13, hF⟩ := bind_some hF
        try dsimp only at hF
        refine cV_i (As := [.int p1]) (rest := []) hx hb hml hown hw hK hN hA hl.1 hP hD hS k_1952 k_1954 k_74 k_90 k_1955 (met_X10_ofClouds l D cy _ am (D_X10_isThere m0 (D_X10_in p1 0 12)).2 p1 r11 hc13) (fun _ _ _ => trivial) Xok_T (gM (am := am) (r := 0) (m := (D_X10_isThere m0 (D_X10_in p1 0 12)).2) (f := ((D_X10_isThere m0 (D_X10_in p1 0 12)).2 0)) (by decide) rfl) rfl ⟨rfl, rfl⟩ (n := 1) (by decide +kernel) rfl ⟨Nat.le_of_ble_eq_true rfl, Nat.le_of_ble_eq_true rfl⟩ ⟨Nat.le_of_ble_eq_true rfl, Nat.le_of_ble_eq_true rfl⟩ (Nat.le_of_ble_eq_true rfl) rfl dX10_account_89 (fun H locs hP hD hS => ?_)
        cases hF
        exact hret _ _ _ _ _ _ hP hD hS rfl rfl dX10_account_92
      · replace hF := (if_neg h10).symm.trans hF
        by_cases h14 : p1 = 2
        · replace hF := (if_pos h14).symm.trans hF
          refine lv_tableIn (tgt := 87) (off := 70) hx hb dX10_account_17 (by rw [h14]; decide) (by rw [h14]; decide) (by rw [h14]; decide) (by decide) ?_
          refine lv_aload_n hx hb dX10_account_87 rfl (lv_at hl 0 rfl) ?_
          refine lv_iload_n hx hb dX10_account_88 rfl (lv_at hl 1 rfl) ?_
          obtain ⟨r15, hc17, hF⟩ := bind_some hF
          try dsimp only at hF
          refine cV_i (As := [.int p1]) (rest := []) hx hb hml hown hw hK hN hA hl.1 hP hD hS k_1952 k_1954 k_74 k_90 k_1955 (met_X10_ofClouds l D cy _ am (D_X10_isThere m0 (D_X10_in p1 0 12)).2 p1 r15 hc17) (fun _ _ _ => trivial) Xok_T (gM (am := am) (r := 0) (m := (D_X10_isThere m0 (D_X10_in p1 0 12)).2) (f := ((D_X10_isThere m0 (D_X10_in p1 0 12)).2 0)) (by decide) rfl) rfl ⟨rfl, rfl⟩ (n := 1) (by decide +kernel) rfl ⟨Nat.le_of_ble_eq_true rfl, Nat.le_of_ble_eq_true rfl⟩ ⟨Nat.le_of_ble_eq_true rfl, Nat.le_of_ble_eq_true rfl⟩ (Nat.le_of_ble_eq_true rfl) rfl dX10_account_89 (fun H locs hP hD hS => ?_)
          cases hF
          exact hret _ _ _ _ _ _ hP hD hS rfl rfl dX10_account_92
        · replace hF := (if_neg h14).symm.trans hF
          by_cases h18 : p1 = 3
          · replace hF := (if_pos h18).symm.trans hF
            refine lv_tableIn (tgt := 93) (off := 76) hx hb dX10_account_17 (by rw [h18]; decide) (by rw [h18]; decide) (by rw [h18]; decide) (by decide) ?_
            refine lv_aload_n hx hb dX10_account_93 rfl (lv_at hl 0 rfl) ?_
            obtain ⟨r19, hc21, hF⟩ := bind_some hF
            try dsimp only at hF
            refine cV_i (As := []) (rest := []) hx hb hml hown hw hK hN hA hl.1 hP hD hS k_1679 k_1681 k_36 k_90 k_1682 (met_X10_owned l D cy _ am (D_X10_isThere m0 (D_X10_in p1 0 12)).2 r19 hc21) (fun _ _ _ => trivial) Xok_T (gM (am := am) (r := 0) (m := (D_X10_isThere m0 (D_X10_in p1 0 12)).2) (f := ((D_X10_isThere m0 (D_X10_in p1 0 12)).2 0)) (by decide) rfl) rfl ⟨rfl, rfl⟩ (n := 0) (by decide +kernel) rfl ⟨Nat.le_of_ble_eq_true rfl, Nat.le_of_ble_eq_true rfl⟩ ⟨Nat.le_of_ble_eq_true rfl, Nat.le_of_ble_eq_true rfl⟩ (Nat.le_of_ble_eq_true rfl) rfl dX10_account_94 (fun H locs hP hD hS => ?_)
            cases hF
            exact hret _ _ _ _ _ _ hP hD hS rfl rfl dX10_account_97
          · replace hF := (if_neg h18).symm.trans hF
            by_cases h22 : p1 = 4
            · replace hF := (if_pos h22).symm.trans hF
              refine lv_tableIn (tgt := 98) (off := 81) hx hb dX10_account_17 (by rw [h22]; decide) (by rw [h22]; decide) (by rw [h22]; decide) (by decide) ?_
              refine lv_aload_n hx hb dX10_account_98 rfl (lv_at hl 0 rfl) ?_
              refine get' (ci := 12) (fs := mF am ((D_X10_isThere m0 (D_X10_in p1 0 12)).2 0)) (v := .ref (am 1)) hx hb hw inWX10 hown hK hP (gM (am := am) (r := 0) (m := (D_X10_isThere m0 (D_X10_in p1 0 12)).2) (f := ((D_X10_isThere m0 (D_X10_in p1 0 12)).2 0)) (by decide) rfl) rfl 1 (by decide) k_1571 rfl rfl dX10_account_99 ?_
              refine lv_iload_n hx hb dX10_account_102 rfl (lv_at hl 1 rfl) ?_
              refine lv_iconst (v := 3) hx hb dX10_account_103 (by decide) ?_
              refine lv_isub hx hb dX10_account_104 ?_
              obtain ⟨h23, hF⟩ := ite_some hF
              refine va_iald (n := 1152) (f := ((D_X10_isThere m0 (D_X10_in p1 0 12)).2 1)) hx hb hK hP _ 0 (gM (am := am) (r := 1) (m := (D_X10_isThere m0 (D_X10_in p1 0 12)).2) (f := ((D_X10_isThere m0 (D_X10_in p1 0 12)).2 1)) (by decide) rfl) rfl (vp_inb h23) dX10_account_105 ?_
              cases hF
              exact hret _ _ _ _ _ _ hP hD hS rfl rfl dX10_account_106
            · replace hF := (if_neg h22).symm.trans hF
              by_cases h24 : p1 = 5
              · replace hF := (if_pos h24).symm.trans hF
                refine lv_tableIn (tgt := 98) (off := 81) hx hb dX10_account_17 (by rw [h24]; decide) (by rw [h24]; decide) (by rw [h24]; decide) (by decide) ?_
                refine lv_aload_n hx hb dX10_account_98 rfl (lv_at hl 0 rfl) ?_
                refine get' (ci := 12) (fs := mF am ((D_X10_isThere m0 (D_X10_in p1 0 12)).2 0)) (v := .ref (am 1)) hx hb hw inWX10 hown hK hP (gM (am := am) (r := 0) (m := (D_X10_isThere m0 (D_X10_in p1 0 12)).2) (f := ((D_X10_isThere m0 (D_X10_in p1 0 12)).2 0)) (by decide) rfl) rfl 1 (by decide) k_1571 rfl rfl dX10_account_99 ?_
                refine lv_iload_n hx hb dX10_account_102 rfl (lv_at hl 1 rfl) ?_
                refine lv_iconst (v := 3) hx hb dX10_account_103 (by decide) ?_
                refine lv_isub hx hb dX10_account_104 ?_
                obtain ⟨h25, hF⟩ := ite_some hF
                refine va_iald (n := 1152) (f := ((D_X10_isThere m0 (D_X10_in p1 0 12)).2 1)) hx hb hK hP _ 0 (gM (am := am) (r := 1) (m := (D_X10_isThere m0 (D_X10_in p1 0 12)).2) (f := ((D_X10_isThere m0 (D_X10_in p1 0 12)).2 1)) (by decide) rfl) rfl (vp_inb h25) dX10_account_105 ?_
                cases hF
                exact hret _ _ _ _ _ _ hP hD hS rfl rfl dX10_account_106
              · replace hF := (if_neg h24).symm.trans hF
                by_cases h26 : p1 = 6
                · replace hF := (if_pos h26).symm.trans hF
                  refine lv_tableIn (tgt := 98) (off := 81) hx hb dX10_account_17 (by rw [h26]; decide) (by rw [h26]; decide) (by rw [h26]; decide) (by decide) ?_
                  refine lv_aload_n hx hb dX10_account_98 rfl (lv_at hl 0 rfl) ?_
                  refine get' (ci := 12) (fs := mF am ((D_X10_isThere m0 (D_X10_in p1 0 12)).2 0)) (v := .ref (am 1)) hx hb hw inWX10 hown hK hP (gM (am := am) (r := 0) (m := (D_X10_isThere m0 (D_X10_in p1 0 12)).2) (f := ((D_X10_isThere m0 (D_X10_in p1 0 12)).2 0)) (by decide) rfl) rfl 1 (by decide) k_1571 rfl rfl dX10_account_99 ?_
                  refine lv_iload_n hx hb dX10_account_102 rfl (lv_at hl 1 rfl) ?_
                  refine lv_iconst (v := 3) hx hb dX10_account_103 (by decide) ?_
                  refine lv_isub hx hb dX10_account_104 ?_
                  obtain ⟨h27, hF⟩ := ite_some hF
                  refine va_iald (n := 1152) (f := ((D_X10_isThere m0 (D_X10_in p1 0 12)).2 1)) hx hb hK hP _ 0 (gM (am := am) (r := 1) (m := (D_X10_isThere m0 (D_X10_in p1 0 12)).2) (f := ((D_X10_isThere m0 (D_X10_in p1 0 12)).2 1)) (by decide) rfl) rfl (vp_inb h27) dX10_account_105 ?_
                  cases hF
                  exact hret _ _ _ _ _ _ hP hD hS rfl rfl dX10_account_106
                · replace hF := (if_neg h26).symm.trans hF
                  by_cases h28 : p1 = 7
                  · replace hF := (if_pos h28).symm.trans hF
                    refine lv_tableIn (tgt := 98) (off := 81) hx hb dX10_account_17 (by rw [h28]; decide) (by rw [h28]; decide) (by rw [h28]; decide) (by decide) ?_
                    refine lv_aload_n hx hb dX10_account_98 rfl (lv_at hl 0 rfl) ?_
                    refine get' (ci := 12) (fs := mF am ((D_X10_isThere m0 (D_X10_in p1 0 12)).2 0)) (v := .ref (am 1)) hx hb hw inWX10 hown hK hP (gM (am := am) (r := 0) (m := (D_X10_isThere m0 (D_X10_in p1 0 12)).2) (f := ((D_X10_isThere m0 (D_X10_in p1 0 12)).2 0)) (by decide) rfl) rfl 1 (by decide) k_1571 rfl rfl dX10_account_99 ?_
                    refine lv_iload_n hx hb dX10_account_102 rfl (lv_at hl 1 rfl) ?_
                    refine lv_iconst (v := 3) hx hb dX10_account_103 (by decide) ?_
                    refine lv_isub hx hb dX10_account_104 ?_
                    obtain ⟨h29, hF⟩ := ite_some hF
                    refine va_iald (n := 1152) (f := ((D_X10_isThere m0 (D_X10_in p1 0 12)).2 1)) hx hb hK hP _ 0 (gM (am := am) (r := 1) (m := (D_X10_isThere m0 (D_X10_in p1 0 12)).2) (f := ((D_X10_isThere m0 (D_X10_in p1 0 12)).2 1)) (by decide) rfl) rfl (vp_inb h29) dX10_account_105 ?_
                    cases hF
                    exact hret _ _ _ _ _ _ hP hD hS rfl rfl dX10_account_106
                  · replace hF := (if_neg h28).symm.trans hF
                    by_cases h30 : p1 = 8
                    · replace hF := (if_pos h30).symm.trans hF
                      refine lv_tableIn (tgt := 98) (off := 81) hx hb dX10_account_17 (by rw [h30]; decide) (by rw [h30]; decide) (by rw [h30]; decide) (by decide) ?_
                      refine lv_aload_n hx hb dX10_account_98 rfl (lv_at hl 0 rfl) ?_
                      refine get' (ci := 12) (fs := mF am ((D_X10_isThere m0 (D_X10_in p1 0 12)).2 0)) (v := .ref (am 1)) hx hb hw inWX10 hown hK hP (gM (am := am) (r := 0) (m := (D_X10_isThere m0 (D_X10_in p1 0 12)).2) (f := ((D_X10_isThere m0 (D_X10_in p1 0 12)).2 0)) (by decide) rfl) rfl 1 (by decide) k_1571 rfl rfl dX10_account_99 ?_
                      refine lv_iload_n hx hb dX10_account_102 rfl (lv_at hl 1 rfl) ?_
                      refine lv_iconst (v := 3) hx hb dX10_account_103 (by decide) ?_
                      refine lv_isub hx hb dX10_account_104 ?_
                      obtain ⟨h31, hF⟩ := ite_some hF
                      refine va_iald (n := 1152) (f := ((D_X10_isThere m0 (D_X10_in p1 0 12)).2 1)) hx hb hK hP _ 0 (gM (am := am) (r := 1) (m := (D_X10_isThere m0 (D_X10_in p1 0 12)).2) (f := ((D_X10_isThere m0 (D_X10_in p1 0 12)).2 1)) (by decide) rfl) rfl (vp_inb h31) dX10_account_105 ?_
                      cases hF
                      exact hret _ _ _ _ _ _ hP hD hS rfl rfl dX10_account_106
                    · replace hF := (if_neg h30).symm.trans hF
                      by_cases h32 : p1 = 9
                      · replace hF := (if_pos h32).symm.trans hF
                        refine lv_tableIn (tgt := 98) (off := 81) hx hb dX10_account_17 (by rw [h32]; decide) (by rw [h32]; decide) (by rw [h32]; decide) (by decide) ?_
                        refine lv_aload_n hx hb dX10_account_98 rfl (lv_at hl 0 rfl) ?_
                        refine get' (ci := 12) (fs := mF am ((D_X10_isThere m0 (D_X10_in p1 0 12)).2 0)) (v := .ref (am 1)) hx hb hw inWX10 hown hK hP (gM (am := am) (r := 0) (m := (D_X10_isThere m0 (D_X10_in p1 0 12)).2) (f := ((D_X10_isThere m0 (D_X10_in p1 0 12)).2 0)) (by decide) rfl) rfl 1 (by decide) k_1571 rfl rfl dX10_account_99 ?_
                        refine lv_iload_n hx hb dX10_account_102 rfl (lv_at hl 1 rfl) ?_
                        refine lv_iconst (v := 3) hx hb dX10_account_103 (by decide) ?_
                        refine lv_isub hx hb dX10_account_104 ?_
                        obtain ⟨h33, hF⟩ := ite_some hF
                        refine va_iald (n := 1152) (f := ((D_X10_isThere m0 (D_X10_in p1 0 12)).2 1)) hx hb hK hP _ 0 (gM (am := am) (r := 1) (m := (D_X10_isThere m0 (D_X10_in p1 0 12)).2) (f := ((D_X10_isThere m0 (D_X10_in p1 0 12)).2 1)) (by decide) rfl) rfl (vp_inb h33) dX10_account_105 ?_
                        cases hF
                        exact hret _ _ _ _ _ _ hP hD hS rfl rfl dX10_account_106
                      · replace hF := (if_neg h32).symm.trans hF
                        by_cases h34 : p1 = 10
                        · replace hF := (if_pos h34).symm.trans hF
                          refine lv_tableIn (tgt := 98) (off := 81) hx hb dX10_account_17 (by rw [h34]; decide) (by rw [h34]; decide) (by rw [h34]; decide) (by decide) ?_
                          refine lv_aload_n hx hb dX10_account_98 rfl (lv_at hl 0 rfl) ?_
                          refine get' (ci := 12) (fs := mF am ((D_X10_isThere m0 (D_X10_in p1 0 12)).2 0)) (v := .ref (am 1)) hx hb hw inWX10 hown hK hP (gM (am := am) (r := 0) (m := (D_X10_isThere m0 (D_X10_in p1 0 12)).2) (f := ((D_X10_isThere m0 (D_X10_in p1 0 12)).2 0)) (by decide) rfl) rfl 1 (by decide) k_1571 rfl rfl dX10_account_99 ?_
                          refine lv_iload_n hx hb dX10_account_102 rfl (lv_at hl 1 rfl) ?_
                          refine lv_iconst (v := 3) hx hb dX10_account_103 (by decide) ?_
                          refine lv_isub hx hb dX10_account_104 ?_
                          obtain ⟨h35, hF⟩ := ite_some hF
                          refine va_iald (n := 1152) (f := ((D_X10_isThere m0 (D_X10_in p1 0 12)).2 1)) hx hb hK hP _ 0 (gM (am := am) (r := 1) (m := (D_X10_isThere m0 (D_X10_in p1 0 12)).2) (f := ((D_X10_isThere m0 (D_X10_in p1 0 12)).2 1)) (by decide) rfl) rfl (vp_inb h35) dX10_account_105 ?_
                          cases hF
                          exact hret _ _ _ _ _ _ hP hD hS rfl rfl dX10_account_106
                        · replace hF := (if_neg h34).symm.trans hF
                          by_cases h36 : p1 = 11
                          · replace hF := (if_pos h36).symm.trans hF
                            refine lv_tableIn (tgt := 107) (off := 90) hx hb dX10_account_17 (by rw [h36]; decide) (by rw [h36]; decide) (by rw [h36]; decide) (by decide) ?_
                            refine lv_aload_n hx hb dX10_account_107 rfl (lv_at hl 0 rfl) ?_
                            refine get' (ci := 12) (fs := mF am ((D_X10_isThere m0 (D_X10_in p1 0 12)).2 0)) (v := .int (((D_X10_isThere m0 (D_X10_in p1 0 12)).2 0) 10)) hx hb hw inWX10 hown hK hP (gM (am := am) (r := 0) (m := (D_X10_isThere m0 (D_X10_in p1 0 12)).2) (f := ((D_X10_isThere m0 (D_X10_in p1 0 12)).2 0)) (by decide) rfl) rfl 10 (by decide) k_1580 rfl rfl dX10_account_108 ?_
                            cases hF
                            exact hret _ _ _ _ _ _ hP hD hS rfl rfl dX10_account_111
                          · replace hF := (if_neg h36).symm.trans hF
                            refine tableDf (tgt := 112) hx hb dX10_account_17 (fun z hz1 hz2 hz3 => by have eh8 := lv_neT h8 (show (0 : Int32).toInt = 0 by decide); have eh10 := lv_neT h10 (show (1 : Int32).toInt = 1 by decide); have eh14 := lv_neT h14 (show (2 : Int32).toInt = 2 by decide); have eh18 := lv_neT h18 (show (3 : Int32).toInt = 3 by decide); have eh22 := lv_neT h22 (show (4 : Int32).toInt = 4 by decide); have eh24 := lv_neT h24 (show (5 : Int32).toInt = 5 by decide); have eh26 := lv_neT h26 (show (6 : Int32).toInt = 6 by decide); have eh28 := lv_neT h28 (show (7 : Int32).toInt = 7 by decide); have eh30 := lv_neT h30 (show (8 : Int32).toInt = 8 by decide); have eh32 := lv_neT h32 (show (9 : Int32).toInt = 9 by decide); have eh34 := lv_neT h34 (show (10 : Int32).toInt = 10 by decide); have eh36 := lv_neT h36 (show (11 : Int32).toInt = 11 by decide); omega) (by decide) ?_
                            refine lv_aload_n hx hb dX10_account_112 rfl (lv_at hl 0 rfl) ?_
                            refine get' (ci := 12) (fs := mF am ((D_X10_isThere m0 (D_X10_in p1 0 12)).2 0)) (v := .int (((D_X10_isThere m0 (D_X10_in p1 0 12)).2 0) 2)) hx hb hw inWX10 hown hK hP (gM (am := am) (r := 0) (m := (D_X10_isThere m0 (D_X10_in p1 0 12)).2) (f := ((D_X10_isThere m0 (D_X10_in p1 0 12)).2 0)) (by decide) rfl) rfl 2 (by decide) k_1572 rfl rfl dX10_account_113 ?_
                            cases hF
                            exact hret _ _ _ _ _ _ hP hD hS rfl rfl dX10_account_116
  · replace hF := (if_pos h7).symm.trans hF
    refine lv_iconst (v := 0) hx hb dX10_account_14 (by decide) ?_
    cases hF
    exact hret _ _ _ _ _ _ hP hD hS rfl rfl dX10_account_15
def D_X10_sell (m0 : Nat → Nat → Int32) (p1 : Int32) (p2 : Int32) (p3 : Int32) : Option (Int32 × (Nat → Nat → Int32)) := (D_X10_begins m0).bind (fun o2 => (D_X10_sells o2 p1 p2 p3).bind (fun (r4, o5) => if is01 r4 then ((D_X10_ends o5 r4).bind (fun (r8, o9) => some (r8, o9))) else none))
abbrev rm_X10_sell : Room := { frames := 4, cells := 0, slots := 0, locals := 90 }
set_option maxHeartbeats 4000000 in
set_option maxRecDepth 100000 in
theorem met_X10_sell (l : Launch) (D : va_G) (cy : Nat → ClassId) (sz : Nat) (am : Nat → Nat) (m0 : Nat → Nat → Int32) (p1 : Int32) (p2 : Int32) (p3 : Int32)  (r : Int32) (t' : Nat → Nat → Int32) (hF : D_X10_sell m0 p1 p2 p3 = some (r, t')) : MI l yX10_sell cX10_sell 4 (some .int) rm_X10_sell D cy (mW cy am m0) sz (fun _ => True) [.ref (am 0), .int p1, .int p2, .int p3] r (mW cy am t') := by
  refine MI.of (by decide +kernel) (Nat.le_of_ble_eq_true rfl) ?_
  intro p e s m args below meth c A ls Q hAt _ hP hD hA hS hl hret
  obtain ⟨hx, hb, hr, hml, hown, hw, hlk, hK, hN⟩ := hAt
  have hown : s.vm.findClass "CloudDeedsModel" = some m.cls := hown
  have hl : lv_has ls 4 [(0, .ref (am 0)), (1, .int p1), (2, .int p2), (3, .int p3)] := hl
  refine lv_aload_n hx hb dX10_sell_0 rfl (lv_at hl 0 rfl) ?_
  obtain ⟨o2, hc3, hF⟩ := bind_some hF
  try dsimp only at hF
  refine cV_v (As := []) (rest := []) hx hb hml hown hw hK hN hA hl.1 hP hD hS k_1641 k_1643 k_29 k_90 k_1644 (met_X10_begins l D cy _ am m0 o2 hc3) (fun _ _ _ => trivial) Xok_T (gM (am := am) (r := 0) (m := m0) (f := (m0 0)) (by decide) rfl) rfl ⟨rfl, rfl⟩ (n := 0) (by decide +kernel) rfl ⟨Nat.le_of_ble_eq_true rfl, Nat.le_of_ble_eq_true rfl⟩ ⟨Nat.le_of_ble_eq_true rfl, Nat.le_of_ble_eq_true rfl⟩ (Nat.le_of_ble_eq_true rfl) rfl dX10_sell_1 (fun H locs hP hD hS => ?_)
  refine lv_aload_n hx hb dX10_sell_4 rfl (lv_at hl 0 rfl) ?_
  refine lv_aload_n hx hb dX10_sell_5 rfl (lv_at hl 0 rfl) ?_
  refine lv_iload_n hx hb dX10_sell_6 rfl (lv_at hl 1 rfl) ?_
  refine lv_iload_n hx hb dX10_sell_7 rfl (lv_at hl 2 rfl) ?_
  refine lv_iload_n hx hb dX10_sell_8 rfl (lv_at hl 3 rfl) ?_
  obtain ⟨⟨r4, o5⟩, hc6, hF⟩ := bind_some hF
  try dsimp only at hF
  refine cV_i (As := [.int p1, .int p2, .int p3]) (rest := [.ref (am 0)]) hx hb hml hown hw hK hN hA hl.1 hP hD hS k_1722 k_1724 k_44 k_90 k_1725 (met_X10_sells l D cy _ am o2 p1 p2 p3 r4 o5 hc6) (fun _ _ _ => trivial) Xok_T (gM (am := am) (r := 0) (m := o2) (f := (o2 0)) (by decide) rfl) rfl ⟨rfl, rfl⟩ (n := 3) (by decide +kernel) rfl ⟨Nat.le_of_ble_eq_true rfl, Nat.le_of_ble_eq_true rfl⟩ ⟨Nat.le_of_ble_eq_true rfl, Nat.le_of_ble_eq_true rfl⟩ (Nat.le_of_ble_eq_true rfl) rfl dX10_sell_9 (fun H locs hP hD hS => ?_)
  obtain ⟨hg7, hF⟩ := ite_some hF
  obtain ⟨⟨r8, o9⟩, hc10, hF⟩ := bind_some hF
  try dsimp only at hF
  refine cV_i (As := [.int r4]) (rest := []) hx hb hml hown hw hK hN hA hl.1 hP hD hS k_1667 k_1669 k_34 k_90 k_1670 (met_X10_ends l D cy _ am o5 r4 (is01_iff.mp hg7) r8 o9 hc10) (fun _ _ _ => trivial) Xok_T (gM (am := am) (r := 0) (m := o5) (f := (o5 0)) (by decide) rfl) rfl ⟨rfl, rfl⟩ (n := 1) (by decide +kernel) rfl ⟨Nat.le_of_ble_eq_true rfl, Nat.le_of_ble_eq_true rfl⟩ ⟨Nat.le_of_ble_eq_true rfl, Nat.le_of_ble_eq_true rfl⟩ (Nat.le_of_ble_eq_true rfl) rfl dX10_sell_12 (fun H locs hP hD hS => ?_)
  cases hF
  exact hret _ _ _ _ _ _ hP hD hS rfl rfl dX10_sell_15
def D_X10_pledge (m0 : Nat → Nat → Int32) (p1 : Int32) (p2 : Int32) : Option (Int32 × (Nat → Nat → Int32)) := (D_X10_begins m0).bind (fun o2 => (D_X10_pledges o2 p1 p2).bind (fun (r4, o5) => if is01 r4 then ((D_X10_ends o5 r4).bind (fun (r8, o9) => some (r8, o9))) else none))
abbrev rm_X10_pledge : Room := { frames := 4, cells := 0, slots := 0, locals := 88 }
set_option maxHeartbeats 4000000 in
set_option maxRecDepth 100000 in
theorem met_X10_pledge (l : Launch) (D : va_G) (cy : Nat → ClassId) (sz : Nat) (am : Nat → Nat) (m0 : Nat → Nat → Int32) (p1 : Int32) (p2 : Int32)  (r : Int32) (t' : Nat → Nat → Int32) (hF : D_X10_pledge m0 p1 p2 = some (r, t')) : MI l yX10_pledge cX10_pledge 3 (some .int) rm_X10_pledge D cy (mW cy am m0) sz (fun _ => True) [.ref (am 0), .int p1, .int p2] r (mW cy am t') := by
  refine MI.of (by decide +kernel) (Nat.le_of_ble_eq_true rfl) ?_
  intro p e s m args below meth c A ls Q hAt _ hP hD hA hS hl hret
  obtain ⟨hx, hb, hr, hml, hown, hw, hlk, hK, hN⟩ := hAt
  have hown : s.vm.findClass "CloudDeedsModel" = some m.cls := hown
  have hl : lv_has ls 3 [(0, .ref (am 0)), (1, .int p1), (2, .int p2)] := hl
  refine lv_aload_n hx hb dX10_pledge_0 rfl (lv_at hl 0 rfl) ?_
  obtain ⟨o2, hc3, hF⟩ := bind_some hF
  try dsimp only at hF
  refine cV_v (As := []) (rest := []) hx hb hml hown hw hK hN hA hl.1 hP hD hS k_1641 k_1643 k_29 k_90 k_1644 (met_X10_begins l D cy _ am m0 o2 hc3) (fun _ _ _ => trivial) Xok_T (gM (am := am) (r := 0) (m := m0) (f := (m0 0)) (by decide) rfl) rfl ⟨rfl, rfl⟩ (n := 0) (by decide +kernel) rfl ⟨Nat.le_of_ble_eq_true rfl, Nat.le_of_ble_eq_true rfl⟩ ⟨Nat.le_of_ble_eq_true rfl, Nat.le_of_ble_eq_true rfl⟩ (Nat.le_of_ble_eq_true rfl) rfl dX10_pledge_1 (fun H locs hP hD hS => ?_)
  refine lv_aload_n hx hb dX10_pledge_4 rfl (lv_at hl 0 rfl) ?_
  refine lv_aload_n hx hb dX10_pledge_5 rfl (lv_at hl 0 rfl) ?_
  refine lv_iload_n hx hb dX10_pledge_6 rfl (lv_at hl 1 rfl) ?_
  refine lv_iload_n hx hb dX10_pledge_7 rfl (lv_at hl 2 rfl) ?_
  obtain ⟨⟨r4, o5⟩, hc6, hF⟩ := bind_some hF
  try dsimp only at hF
  refine cV_i (As := [.int p1, .int p2]) (rest := [.ref (am 0)]) hx hb hml hown hw hK hN hA hl.1 hP hD hS k_1738 k_1740 k_47 k_90 k_1741 (met_X10_pledges l D cy _ am o2 p1 p2 r4 o5 hc6) (fun _ _ _ => trivial) Xok_T (gM (am := am) (r := 0) (m := o2) (f := (o2 0)) (by decide) rfl) rfl ⟨rfl, rfl⟩ (n := 2) (by decide +kernel) rfl ⟨Nat.le_of_ble_eq_true rfl, Nat.le_of_ble_eq_true rfl⟩ ⟨Nat.le_of_ble_eq_true rfl, Nat.le_of_ble_eq_true rfl⟩ (Nat.le_of_ble_eq_true rfl) rfl dX10_pledge_8 (fun H locs hP hD hS => ?_)
  obtain ⟨hg7, hF⟩ := ite_some hF
  obtain ⟨⟨r8, o9⟩, hc10, hF⟩ := bind_some hF
  try dsimp only at hF
  refine cV_i (As := [.int r4]) (rest := []) hx hb hml hown hw hK hN hA hl.1 hP hD hS k_1667 k_1669 k_34 k_90 k_1670 (met_X10_ends l D cy _ am o5 r4 (is01_iff.mp hg7) r8 o9 hc10) (fun _ _ _ => trivial) Xok_T (gM (am := am) (r := 0) (m := o5) (f := (o5 0)) (by decide) rfl) rfl ⟨rfl, rfl⟩ (n := 1) (by decide +kernel) rfl ⟨Nat.le_of_ble_eq_true rfl, Nat.le_of_ble_eq_true rfl⟩ ⟨Nat.le_of_ble_eq_true rfl, Nat.le_of_ble_eq_true rfl⟩ (Nat.le_of_ble_eq_true rfl) rfl dX10_pledge_11 (fun H locs hP hD hS => ?_)
  cases hF
  exact hret _ _ _ _ _ _ hP hD hS rfl rfl dX10_pledge_14
def D_X10_redeem (m0 : Nat → Nat → Int32) (p1 : Int32) : Option (Int32 × (Nat → Nat → Int32)) := (D_X10_begins m0).bind (fun o2 => (D_X10_redeems o2 p1).bind (fun (r4, o5) => if is01 r4 then ((D_X10_ends o5 r4).bind (fun (r8, o9) => some (r8, o9))) else none))
abbrev rm_X10_redeem : Room := { frames := 4, cells := 0, slots := 0, locals := 86 }
set_option maxHeartbeats 4000000 in
set_option maxRecDepth 100000 in
theorem met_X10_redeem (l : Launch) (D : va_G) (cy : Nat → ClassId) (sz : Nat) (am : Nat → Nat) (m0 : Nat → Nat → Int32) (p1 : Int32)  (r : Int32) (t' : Nat → Nat → Int32) (hF : D_X10_redeem m0 p1 = some (r, t')) : MI l yX10_redeem cX10_redeem 2 (some .int) rm_X10_redeem D cy (mW cy am m0) sz (fun _ => True) [.ref (am 0), .int p1] r (mW cy am t') := by
  refine MI.of (by decide +kernel) (Nat.le_of_ble_eq_true rfl) ?_
  intro p e s m args below meth c A ls Q hAt _ hP hD hA hS hl hret
  obtain ⟨hx, hb, hr, hml, hown, hw, hlk, hK, hN⟩ := hAt
  have hown : s.vm.findClass "CloudDeedsModel" = some m.cls := hown
  have hl : lv_has ls 2 [(0, .ref (am 0)), (1, .int p1)] := hl
  refine lv_aload_n hx hb dX10_redeem_0 rfl (lv_at hl 0 rfl) ?_
  obtain ⟨o2, hc3, hF⟩ := bind_some hF
  try dsimp only at hF
  refine cV_v (As := []) (rest := []) hx hb hml hown hw hK hN hA hl.1 hP hD hS k_1641 k_1643 k_29 k_90 k_1644 (met_X10_begins l D cy _ am m0 o2 hc3) (fun _ _ _ => trivial) Xok_T (gM (am := am) (r := 0) (m := m0) (f := (m0 0)) (by decide) rfl) rfl ⟨rfl, rfl⟩ (n := 0) (by decide +kernel) rfl ⟨Nat.le_of_ble_eq_true rfl, Nat.le_of_ble_eq_true rfl⟩ ⟨Nat.le_of_ble_eq_true rfl, Nat.le_of_ble_eq_true rfl⟩ (Nat.le_of_ble_eq_true rfl) rfl dX10_redeem_1 (fun H locs hP hD hS => ?_)
  refine lv_aload_n hx hb dX10_redeem_4 rfl (lv_at hl 0 rfl) ?_
  refine lv_aload_n hx hb dX10_redeem_5 rfl (lv_at hl 0 rfl) ?_
  refine lv_iload_n hx hb dX10_redeem_6 rfl (lv_at hl 1 rfl) ?_
  obtain ⟨⟨r4, o5⟩, hc6, hF⟩ := bind_some hF
  try dsimp only at hF
  refine cV_i (As := [.int p1]) (rest := [.ref (am 0)]) hx hb hml hown hw hK hN hA hl.1 hP hD hS k_1746 k_1748 k_48 k_90 k_1749 (met_X10_redeems l D cy _ am o2 p1 r4 o5 hc6) (fun _ _ _ => trivial) Xok_T (gM (am := am) (r := 0) (m := o2) (f := (o2 0)) (by decide) rfl) rfl ⟨rfl, rfl⟩ (n := 1) (by decide +kernel) rfl ⟨Nat.le_of_ble_eq_true rfl, Nat.le_of_ble_eq_true rfl⟩ ⟨Nat.le_of_ble_eq_true rfl, Nat.le_of_ble_eq_true rfl⟩ (Nat.le_of_ble_eq_true rfl) rfl dX10_redeem_7 (fun H locs hP hD hS => ?_)
  obtain ⟨hg7, hF⟩ := ite_some hF
  obtain ⟨⟨r8, o9⟩, hc10, hF⟩ := bind_some hF
  try dsimp only at hF
  refine cV_i (As := [.int r4]) (rest := []) hx hb hml hown hw hK hN hA hl.1 hP hD hS k_1667 k_1669 k_34 k_90 k_1670 (met_X10_ends l D cy _ am o5 r4 (is01_iff.mp hg7) r8 o9 hc10) (fun _ _ _ => trivial) Xok_T (gM (am := am) (r := 0) (m := o5) (f := (o5 0)) (by decide) rfl) rfl ⟨rfl, rfl⟩ (n := 1) (by decide +kernel) rfl ⟨Nat.le_of_ble_eq_true rfl, Nat.le_of_ble_eq_true rfl⟩ ⟨Nat.le_of_ble_eq_true rfl, Nat.le_of_ble_eq_true rfl⟩ (Nat.le_of_ble_eq_true rfl) rfl dX10_redeem_10 (fun H locs hP hD hS => ?_)
  cases hF
  exact hret _ _ _ _ _ _ hP hD hS rfl rfl dX10_redeem_13
def D_X10_wind (m0 : Nat → Nat → Int32) (p1 : Int32) : Option (Int32 × (Nat → Nat → Int32)) := (D_X10_begins m0).bind (fun o2 => (D_X10_blows o2 p1).bind (fun (r4, o5) => if is01 r4 then ((D_X10_ends o5 r4).bind (fun (r8, o9) => some (r8, o9))) else none))
abbrev rm_X10_wind : Room := { frames := 4, cells := 0, slots := 0, locals := 86 }
set_option maxHeartbeats 4000000 in
set_option maxRecDepth 100000 in
theorem met_X10_wind (l : Launch) (D : va_G) (cy : Nat → ClassId) (sz : Nat) (am : Nat → Nat) (m0 : Nat → Nat → Int32) (p1 : Int32)  (r : Int32) (t' : Nat → Nat → Int32) (hF : D_X10_wind m0 p1 = some (r, t')) : MI l yX10_wind cX10_wind 2 (some .int) rm_X10_wind D cy (mW cy am m0) sz (fun _ => True) [.ref (am 0), .int p1] r (mW cy am t') := by
  refine MI.of (by decide +kernel) (Nat.le_of_ble_eq_true rfl) ?_
  intro p e s m args below meth c A ls Q hAt _ hP hD hA hS hl hret
  obtain ⟨hx, hb, hr, hml, hown, hw, hlk, hK, hN⟩ := hAt
  have hown : s.vm.findClass "CloudDeedsModel" = some m.cls := hown
  have hl : lv_has ls 2 [(0, .ref (am 0)), (1, .int p1)] := hl
  refine lv_aload_n hx hb dX10_wind_0 rfl (lv_at hl 0 rfl) ?_
  obtain ⟨o2, hc3, hF⟩ := bind_some hF
  try dsimp only at hF
  refine cV_v (As := []) (rest := []) hx hb hml hown hw hK hN hA hl.1 hP hD hS k_1641 k_1643 k_29 k_90 k_1644 (met_X10_begins l D cy _ am m0 o2 hc3) (fun _ _ _ => trivial) Xok_T (gM (am := am) (r := 0) (m := m0) (f := (m0 0)) (by decide) rfl) rfl ⟨rfl, rfl⟩ (n := 0) (by decide +kernel) rfl ⟨Nat.le_of_ble_eq_true rfl, Nat.le_of_ble_eq_true rfl⟩ ⟨Nat.le_of_ble_eq_true rfl, Nat.le_of_ble_eq_true rfl⟩ (Nat.le_of_ble_eq_true rfl) rfl dX10_wind_1 (fun H locs hP hD hS => ?_)
  refine lv_aload_n hx hb dX10_wind_4 rfl (lv_at hl 0 rfl) ?_
  refine lv_aload_n hx hb dX10_wind_5 rfl (lv_at hl 0 rfl) ?_
  refine lv_iload_n hx hb dX10_wind_6 rfl (lv_at hl 1 rfl) ?_
  obtain ⟨⟨r4, o5⟩, hc6, hF⟩ := bind_some hF
  try dsimp only at hF
  refine cV_i (As := [.int p1]) (rest := [.ref (am 0)]) hx hb hml hown hw hK hN hA hl.1 hP hD hS k_1762 k_1764 k_51 k_90 k_1765 (met_X10_blows l D cy _ am o2 p1 r4 o5 hc6) (fun _ _ _ => trivial) Xok_T (gM (am := am) (r := 0) (m := o2) (f := (o2 0)) (by decide) rfl) rfl ⟨rfl, rfl⟩ (n := 1) (by decide +kernel) rfl ⟨Nat.le_of_ble_eq_true rfl, Nat.le_of_ble_eq_true rfl⟩ ⟨Nat.le_of_ble_eq_true rfl, Nat.le_of_ble_eq_true rfl⟩ (Nat.le_of_ble_eq_true rfl) rfl dX10_wind_7 (fun H locs hP hD hS => ?_)
  obtain ⟨hg7, hF⟩ := ite_some hF
  obtain ⟨⟨r8, o9⟩, hc10, hF⟩ := bind_some hF
  try dsimp only at hF
  refine cV_i (As := [.int r4]) (rest := []) hx hb hml hown hw hK hN hA hl.1 hP hD hS k_1667 k_1669 k_34 k_90 k_1670 (met_X10_ends l D cy _ am o5 r4 (is01_iff.mp hg7) r8 o9 hc10) (fun _ _ _ => trivial) Xok_T (gM (am := am) (r := 0) (m := o5) (f := (o5 0)) (by decide) rfl) rfl ⟨rfl, rfl⟩ (n := 1) (by decide +kernel) rfl ⟨Nat.le_of_ble_eq_true rfl, Nat.le_of_ble_eq_true rfl⟩ ⟨Nat.le_of_ble_eq_true rfl, Nat.le_of_ble_eq_true rfl⟩ (Nat.le_of_ble_eq_true rfl) rfl dX10_wind_10 (fun H locs hP hD hS => ?_)
  cases hF
  exact hret _ _ _ _ _ _ hP hD hS rfl rfl dX10_wind_13
def D_X10_dawn (m0 : Nat → Nat → Int32) : Option (Int32 × (Nat → Nat → Int32)) := (D_X10_begins m0).bind (fun o2 => (D_X10_dawns o2).bind (fun (r4, o5) => (D_X10_ends (va_up o5 0 (upd (o5 0) 4 r4)) 1).bind (fun (r7, o8) => some (r7, o8))))
abbrev rm_X10_dawn : Room := { frames := 4, cells := 0, slots := 0, locals := 87 }
set_option maxHeartbeats 4000000 in
set_option maxRecDepth 100000 in
theorem met_X10_dawn (l : Launch) (D : va_G) (cy : Nat → ClassId) (sz : Nat) (am : Nat → Nat) (m0 : Nat → Nat → Int32)  (r : Int32) (t' : Nat → Nat → Int32) (hF : D_X10_dawn m0 = some (r, t')) : MI l yX10_dawn cX10_dawn 1 (some .int) rm_X10_dawn D cy (mW cy am m0) sz (fun _ => True) [.ref (am 0)] r (mW cy am t') := by
  refine MI.of (by decide +kernel) (Nat.le_of_ble_eq_true rfl) ?_
  intro p e s m args below meth c A ls Q hAt _ hP hD hA hS hl hret
  obtain ⟨hx, hb, hr, hml, hown, hw, hlk, hK, hN⟩ := hAt
  have hown : s.vm.findClass "CloudDeedsModel" = some m.cls := hown
  have hl : lv_has ls 1 [(0, .ref (am 0))] := hl
  refine lv_aload_n hx hb dX10_dawn_0 rfl (lv_at hl 0 rfl) ?_
  obtain ⟨o2, hc3, hF⟩ := bind_some hF
  try dsimp only at hF
  refine cV_v (As := []) (rest := []) hx hb hml hown hw hK hN hA hl.1 hP hD hS k_1641 k_1643 k_29 k_90 k_1644 (met_X10_begins l D cy _ am m0 o2 hc3) (fun _ _ _ => trivial) Xok_T (gM (am := am) (r := 0) (m := m0) (f := (m0 0)) (by decide) rfl) rfl ⟨rfl, rfl⟩ (n := 0) (by decide +kernel) rfl ⟨Nat.le_of_ble_eq_true rfl, Nat.le_of_ble_eq_true rfl⟩ ⟨Nat.le_of_ble_eq_true rfl, Nat.le_of_ble_eq_true rfl⟩ (Nat.le_of_ble_eq_true rfl) rfl dX10_dawn_1 (fun H locs hP hD hS => ?_)
  refine lv_aload_n hx hb dX10_dawn_4 rfl (lv_at hl 0 rfl) ?_
  refine lv_aload_n hx hb dX10_dawn_5 rfl (lv_at hl 0 rfl) ?_
  obtain ⟨⟨r4, o5⟩, hc6, hF⟩ := bind_some hF
  try dsimp only at hF
  refine cV_i (As := []) (rest := [.ref (am 0)]) hx hb hml hown hw hK hN hA hl.1 hP hD hS k_1790 k_1792 k_56 k_90 k_1793 (met_X10_dawns l D cy _ am o2 r4 o5 hc6) (fun _ _ _ => trivial) Xok_T (gM (am := am) (r := 0) (m := o2) (f := (o2 0)) (by decide) rfl) rfl ⟨rfl, rfl⟩ (n := 0) (by decide +kernel) rfl ⟨Nat.le_of_ble_eq_true rfl, Nat.le_of_ble_eq_true rfl⟩ ⟨Nat.le_of_ble_eq_true rfl, Nat.le_of_ble_eq_true rfl⟩ (Nat.le_of_ble_eq_true rfl) rfl dX10_dawn_6 (fun H locs hP hD hS => ?_)
  refine put' (ci := 12) (fs := mF am (o5 0)) (v := .int r4) (ty := .int) (ws' := (mW cy am (va_up o5 0 (upd (o5 0) 4 r4)))) hx hb hw inWX10 tyX10 tyX10_ok nmX10 hown hK hP hD hS (gM (am := am) (r := 0) (m := o5) (f := (o5 0)) (by decide) rfl) rfl 4 (by decide) k_1574 rfl rfl (by decide +kernel) rfl rfl (Nat.le_of_ble_eq_true rfl) dX10_dawn_9 (sM (am := am) (r := 0) (m := o5) (g := (upd (o5 0) 4 r4)) (by decide)) (fun H locs hP hD hS => ?_)
  refine lv_aload_n hx hb dX10_dawn_12 rfl (lv_at hl 0 rfl) ?_
  refine lv_iconst (v := 1) hx hb dX10_dawn_13 (by decide) ?_
  obtain ⟨⟨r7, o8⟩, hc9, hF⟩ := bind_some hF
  try dsimp only at hF
  refine cV_i (As := [.int 1]) (rest := []) hx hb hml hown hw hK hN hA hl.1 hP hD hS k_1667 k_1669 k_34 k_90 k_1670 (met_X10_ends l D cy _ am (va_up o5 0 (upd (o5 0) 4 r4)) 1 (Or.inr rfl) r7 o8 hc9) (fun _ _ _ => trivial) Xok_T (gM (am := am) (r := 0) (m := (va_up o5 0 (upd (o5 0) 4 r4))) (f := (upd (o5 0) 4 r4)) (by decide) (va_up_self _ _ _)) rfl ⟨rfl, rfl⟩ (n := 1) (by decide +kernel) rfl ⟨Nat.le_of_ble_eq_true rfl, Nat.le_of_ble_eq_true rfl⟩ ⟨Nat.le_of_ble_eq_true rfl, Nat.le_of_ble_eq_true rfl⟩ (Nat.le_of_ble_eq_true rfl) rfl dX10_dawn_14 (fun H locs hP hD hS => ?_)
  cases hF
  exact hret _ _ _ _ _ _ hP hD hS rfl rfl dX10_dawn_17
def D_X10_cloudsAgain (m0 : Nat → Nat → Int32) (p1 : Int32) : Option (Int32 × (Nat → Nat → Int32)) := (D_X10_clouds m0 p1).bind (fun (r1, o2) => some (r1, o2))
abbrev rm_X10_cloudsAgain : Room := { frames := 4, cells := 0, slots := 0, locals := 89 }
set_option maxHeartbeats 4000000 in
set_option maxRecDepth 100000 in
theorem met_X10_cloudsAgain (l : Launch) (D : va_G) (cy : Nat → ClassId) (sz : Nat) (am : Nat → Nat) (m0 : Nat → Nat → Int32) (p1 : Int32)  (r : Int32) (t' : Nat → Nat → Int32) (hF : D_X10_cloudsAgain m0 p1 = some (r, t')) : MI l yX10_cloudsAgain cX10_cloudsAgain 2 (some .int) rm_X10_cloudsAgain D cy (mW cy am m0) sz (fun _ => True) [.ref (am 0), .int p1] r (mW cy am t') := by
  refine MI.of (by decide +kernel) (Nat.le_of_ble_eq_true rfl) ?_
  intro p e s m args below meth c A ls Q hAt _ hP hD hA hS hl hret
  obtain ⟨hx, hb, hr, hml, hown, hw, hlk, hK, hN⟩ := hAt
  have hown : s.vm.findClass "CloudDeedsModel" = some m.cls := hown
  have hl : lv_has ls 2 [(0, .ref (am 0)), (1, .int p1)] := hl
  refine lv_aload_n hx hb dX10_cloudsAgain_0 rfl (lv_at hl 0 rfl) ?_
  refine lv_iload_n hx hb dX10_cloudsAgain_1 rfl (lv_at hl 1 rfl) ?_
  obtain ⟨⟨r1, o2⟩, hc3, hF⟩ := bind_some hF
  try dsimp only at hF
  refine cV_i (As := [.int p1]) (rest := []) hx hb hml hown hw hK hN hA hl.1 hP hD hS k_1826 k_1819 k_1820 k_90 k_1821 (met_X10_clouds l D cy _ am m0 p1 r1 o2 hc3) (fun _ _ _ => trivial) Xok_T (gM (am := am) (r := 0) (m := m0) (f := (m0 0)) (by decide) rfl) rfl ⟨rfl, rfl⟩ (n := 1) (by decide +kernel) rfl ⟨Nat.le_of_ble_eq_true rfl, Nat.le_of_ble_eq_true rfl⟩ ⟨Nat.le_of_ble_eq_true rfl, Nat.le_of_ble_eq_true rfl⟩ (Nat.le_of_ble_eq_true rfl) rfl dX10_cloudsAgain_2 (fun H locs hP hD hS => ?_)
  cases hF
  exact hret _ _ _ _ _ _ hP hD hS rfl rfl dX10_cloudsAgain_5
def D_X10_cloudsBy (m0 : Nat → Nat → Int32) (p1 : Int32) (p2 : Int32) : Option (Int32 × (Nat → Nat → Int32)) := (D_X10_copies m0 0 11).bind (fun o2 => (D_X10_carries o2 p2).bind (fun o5 => (D_X10_dawns o5).bind (fun (r7, o8) => (D_X10_ofOwner o8 p1 5).bind (fun r10 => (D_X10_copies o8 11 0).bind (fun o14 => some (r10, o14))))))
abbrev rm_X10_cloudsBy : Room := { frames := 4, cells := 0, slots := 0, locals := 87 }
set_option maxHeartbeats 4000000 in
set_option maxRecDepth 100000 in
theorem met_X10_cloudsBy (l : Launch) (D : va_G) (cy : Nat → ClassId) (sz : Nat) (am : Nat → Nat) (m0 : Nat → Nat → Int32) (p1 : Int32) (p2 : Int32)  (r : Int32) (t' : Nat → Nat → Int32) (hF : D_X10_cloudsBy m0 p1 p2 = some (r, t')) : MI l yX10_cloudsBy cX10_cloudsBy 5 (some .int) rm_X10_cloudsBy D cy (mW cy am m0) sz (fun _ => True) [.ref (am 0), .int p1, .int p2] r (mW cy am t') := by
  refine MI.of (by decide +kernel) (Nat.le_of_ble_eq_true rfl) ?_
  intro p e s m args below meth c A ls Q hAt _ hP hD hA hS hl hret
  obtain ⟨hx, hb, hr, hml, hown, hw, hlk, hK, hN⟩ := hAt
  have hown : s.vm.findClass "CloudDeedsModel" = some m.cls := hown
  have hl : lv_has ls 5 [(0, .ref (am 0)), (1, .int p1), (2, .int p2)] := hl
  refine lv_aload_n hx hb dX10_cloudsBy_0 rfl (lv_at hl 0 rfl) ?_
  refine lv_iconst (v := 0) hx hb dX10_cloudsBy_1 (by decide) ?_
  refine lv_bipush (v := 11) hx hb dX10_cloudsBy_2 (by decide) ?_
  obtain ⟨o2, hc3, hF⟩ := bind_some hF
  try dsimp only at hF
  refine cV_v (As := [.int 0, .int 11]) (rest := []) hx hb hml hown hw hK hN hA hl.1 hP hD hS k_1645 k_1647 k_30 k_90 k_1648 (met_X10_copies l D cy _ am m0 0 11 o2 hc3) (fun _ _ _ => trivial) Xok_T (gM (am := am) (r := 0) (m := m0) (f := (m0 0)) (by decide) rfl) rfl ⟨rfl, rfl⟩ (n := 2) (by decide +kernel) rfl ⟨Nat.le_of_ble_eq_true rfl, Nat.le_of_ble_eq_true rfl⟩ ⟨Nat.le_of_ble_eq_true rfl, Nat.le_of_ble_eq_true rfl⟩ (Nat.le_of_ble_eq_true rfl) rfl dX10_cloudsBy_4 (fun H locs hP hD hS => ?_)
  refine lv_aload_n hx hb dX10_cloudsBy_7 rfl (lv_at hl 0 rfl) ?_
  refine lv_iload_n hx hb dX10_cloudsBy_8 rfl (lv_at hl 2 rfl) ?_
  obtain ⟨o5, hc6, hF⟩ := bind_some hF
  try dsimp only at hF
  refine cV_v (As := [.int p2]) (rest := []) hx hb hml hown hw hK hN hA hl.1 hP hD hS k_1766 k_1768 k_52 k_90 k_1769 (met_X10_carries l D cy _ am o2 p2 o5 hc6) (fun _ _ _ => trivial) Xok_T (gM (am := am) (r := 0) (m := o2) (f := (o2 0)) (by decide) rfl) rfl ⟨rfl, rfl⟩ (n := 1) (by decide +kernel) rfl ⟨Nat.le_of_ble_eq_true rfl, Nat.le_of_ble_eq_true rfl⟩ ⟨Nat.le_of_ble_eq_true rfl, Nat.le_of_ble_eq_true rfl⟩ (Nat.le_of_ble_eq_true rfl) rfl dX10_cloudsBy_9 (fun H locs hP hD hS => ?_)
  refine lv_aload_n hx hb dX10_cloudsBy_12 rfl (lv_at hl 0 rfl) ?_
  obtain ⟨⟨r7, o8⟩, hc9, hF⟩ := bind_some hF
  try dsimp only at hF
  refine cV_i (As := []) (rest := []) hx hb hml hown hw hK hN hA hl.1 hP hD hS k_1790 k_1792 k_56 k_90 k_1793 (met_X10_dawns l D cy _ am o5 r7 o8 hc9) (fun _ _ _ => trivial) Xok_T (gM (am := am) (r := 0) (m := o5) (f := (o5 0)) (by decide) rfl) rfl ⟨rfl, rfl⟩ (n := 0) (by decide +kernel) rfl ⟨Nat.le_of_ble_eq_true rfl, Nat.le_of_ble_eq_true rfl⟩ ⟨Nat.le_of_ble_eq_true rfl, Nat.le_of_ble_eq_true rfl⟩ (Nat.le_of_ble_eq_true rfl) rfl dX10_cloudsBy_13 (fun H locs hP hD hS => ?_)
  refine lv_istore_n (lv' := [(3, .int r7), (0, .ref (am 0)), (1, .int p1), (2, .int p2)]) hx hb dX10_cloudsBy_16 rfl hl (by decide) rfl (fun ls hl => ?_)
  refine lv_aload_n hx hb dX10_cloudsBy_17 rfl (lv_at hl 1 rfl) ?_
  refine lv_iload_n hx hb dX10_cloudsBy_18 rfl (lv_at hl 2 rfl) ?_
  refine lv_iconst (v := 5) hx hb dX10_cloudsBy_19 (by decide) ?_
  obtain ⟨r10, hc12, hF⟩ := bind_some hF
  try dsimp only at hF
  refine cV_i (As := [.int p1, .int 5]) (rest := []) hx hb hml hown hw hK hN hA hl.1 hP hD hS k_1810 k_1812 k_59 k_90 k_1813 (met_X10_ofOwner l D cy _ am o8 p1 5 r10 hc12) (fun _ _ _ => trivial) Xok_T (gM (am := am) (r := 0) (m := o8) (f := (o8 0)) (by decide) rfl) rfl ⟨rfl, rfl⟩ (n := 2) (by decide +kernel) rfl ⟨Nat.le_of_ble_eq_true rfl, Nat.le_of_ble_eq_true rfl⟩ ⟨Nat.le_of_ble_eq_true rfl, Nat.le_of_ble_eq_true rfl⟩ (Nat.le_of_ble_eq_true rfl) rfl dX10_cloudsBy_20 (fun H locs hP hD hS => ?_)
  refine lv_istore (lv' := [(4, .int r10), (3, .int r7), (0, .ref (am 0)), (1, .int p1), (2, .int p2)]) hx hb dX10_cloudsBy_23 hl (by decide) rfl (fun ls hl => ?_)
  refine lv_aload_n hx hb dX10_cloudsBy_25 rfl (lv_at hl 2 rfl) ?_
  refine lv_bipush (v := 11) hx hb dX10_cloudsBy_26 (by decide) ?_
  refine lv_iconst (v := 0) hx hb dX10_cloudsBy_28 (by decide) ?_
  obtain ⟨o14, hc15, hF⟩ := bind_some hF
  try dsimp only at hF
  refine cV_v (As := [.int 11, .int 0]) (rest := []) hx hb hml hown hw hK hN hA hl.1 hP hD hS k_1645 k_1647 k_30 k_90 k_1648 (met_X10_copies l D cy _ am o8 11 0 o14 hc15) (fun _ _ _ => trivial) Xok_T (gM (am := am) (r := 0) (m := o8) (f := (o8 0)) (by decide) rfl) rfl ⟨rfl, rfl⟩ (n := 2) (by decide +kernel) rfl ⟨Nat.le_of_ble_eq_true rfl, Nat.le_of_ble_eq_true rfl⟩ ⟨Nat.le_of_ble_eq_true rfl, Nat.le_of_ble_eq_true rfl⟩ (Nat.le_of_ble_eq_true rfl) rfl dX10_cloudsBy_29 (fun H locs hP hD hS => ?_)
  refine lv_iload hx hb dX10_cloudsBy_32 (lv_at hl 0 rfl) ?_
  cases hF
  exact hret _ _ _ _ _ _ hP hD hS rfl rfl dX10_cloudsBy_34
def L_X10_order_24 : Nat → (Nat → Nat → Int32) → (Int32) → (Int32) → (Nat → Nat → Int32) → Option ((Nat → Nat → Int32))
  | 0, _, _, _, _ => none
  | n24 + 1, m0, r1, i3h24, s24 => if 4 ≤ i3h24 then (if (D_X10_isWord r1) = 0 then (some (va_up s24 0 (upd (s24 0) 12 ((s24 0) 11)))) else ((D_X10_word (va_up s24 0 (upd (s24 0) 11 (((s24 0) 11) + 1))) r1).bind (fun o10 => if inb (4 * ((m0 0) 15)) 244 then (if r1 = 100 then (some (va_up o10 3 (upd (o10 3) ((4 * ((m0 0) 15)).toNatClampNeg) r1))) else (if r1 = 119 then ((D_X10_windNow (va_up o10 3 (upd (o10 3) ((4 * ((m0 0) 15)).toNatClampNeg) r1))).bind (fun (r52, o53) => if inb ((4 * ((m0 0) 15)) + 1) 244 then (if r1 = 99 then ((D_X10_behind (va_up o53 3 (upd (o53 3) (((4 * ((m0 0) 15)) + 1).toNatClampNeg) r52)) 32 1).bind (fun (r57, o58) => if inb ((4 * ((m0 0) 15)) + 2) 244 then ((D_X10_behind (va_up o58 3 (upd (o58 3) (((4 * ((m0 0) 15)) + 2).toNatClampNeg) r57)) 32 1).bind (fun (r61, o62) => if inb ((4 * ((m0 0) 15)) + 3) 244 then (some (va_up o62 3 (upd (o62 3) (((4 * ((m0 0) 15)) + 3).toNatClampNeg) r61))) else none)) else none)) else (if r1 = 112 then ((D_X10_behind (va_up o53 3 (upd (o53 3) (((4 * ((m0 0) 15)) + 1).toNatClampNeg) r52)) 62 1).bind (fun (r66, o67) => if inb ((4 * ((m0 0) 15)) + 2) 244 then (some (va_up o67 3 (upd (o67 3) (((4 * ((m0 0) 15)) + 2).toNatClampNeg) r66))) else none)) else (if r1 = 115 then ((D_X10_behind (va_up o53 3 (upd (o53 3) (((4 * ((m0 0) 15)) + 1).toNatClampNeg) r52)) 62 1).bind (fun (r71, o72) => if inb ((4 * ((m0 0) 15)) + 2) 244 then ((D_X10_behind (va_up o72 3 (upd (o72 3) (((4 * ((m0 0) 15)) + 2).toNatClampNeg) r71)) 61 2).bind (fun (r75, o76) => if inb ((4 * ((m0 0) 15)) + 3) 244 then (some (va_up o76 3 (upd (o76 3) (((4 * ((m0 0) 15)) + 3).toNatClampNeg) r75))) else none)) else none)) else (if r1 = 116 then ((D_X10_behind (va_up o53 3 (upd (o53 3) (((4 * ((m0 0) 15)) + 1).toNatClampNeg) r52)) 62 1).bind (fun (r80, o81) => if inb ((4 * ((m0 0) 15)) + 2) 244 then (some (va_up o81 3 (upd (o81 3) (((4 * ((m0 0) 15)) + 2).toNatClampNeg) r80))) else none)) else (if r1 = 118 then ((D_X10_vineOwner (va_up o53 3 (upd (o53 3) (((4 * ((m0 0) 15)) + 1).toNatClampNeg) r52))).bind (fun (r85, o86) => if inb ((4 * ((m0 0) 15)) + 2) 244 then (some (va_up o86 3 (upd (o86 3) (((4 * ((m0 0) 15)) + 2).toNatClampNeg) r85))) else none)) else (some (va_up o53 3 (upd (o53 3) (((4 * ((m0 0) 15)) + 1).toNatClampNeg) r52)))))))) else none)) else ((D_X10_behind (va_up o10 3 (upd (o10 3) ((4 * ((m0 0) 15)).toNatClampNeg) r1)) 32 1).bind (fun (r15, o16) => if inb ((4 * ((m0 0) 15)) + 1) 244 then (if r1 = 99 then ((D_X10_behind (va_up o16 3 (upd (o16 3) (((4 * ((m0 0) 15)) + 1).toNatClampNeg) r15)) 32 1).bind (fun (r20, o21) => if inb ((4 * ((m0 0) 15)) + 2) 244 then ((D_X10_behind (va_up o21 3 (upd (o21 3) (((4 * ((m0 0) 15)) + 2).toNatClampNeg) r20)) 32 1).bind (fun (r24, o25) => if inb ((4 * ((m0 0) 15)) + 3) 244 then (some (va_up o25 3 (upd (o25 3) (((4 * ((m0 0) 15)) + 3).toNatClampNeg) r24))) else none)) else none)) else (if r1 = 112 then ((D_X10_behind (va_up o16 3 (upd (o16 3) (((4 * ((m0 0) 15)) + 1).toNatClampNeg) r15)) 62 1).bind (fun (r29, o30) => if inb ((4 * ((m0 0) 15)) + 2) 244 then (some (va_up o30 3 (upd (o30 3) (((4 * ((m0 0) 15)) + 2).toNatClampNeg) r29))) else none)) else (if r1 = 115 then ((D_X10_behind (va_up o16 3 (upd (o16 3) (((4 * ((m0 0) 15)) + 1).toNatClampNeg) r15)) 62 1).bind (fun (r34, o35) => if inb ((4 * ((m0 0) 15)) + 2) 244 then ((D_X10_behind (va_up o35 3 (upd (o35 3) (((4 * ((m0 0) 15)) + 2).toNatClampNeg) r34)) 61 2).bind (fun (r38, o39) => if inb ((4 * ((m0 0) 15)) + 3) 244 then (some (va_up o39 3 (upd (o39 3) (((4 * ((m0 0) 15)) + 3).toNatClampNeg) r38))) else none)) else none)) else (if r1 = 116 then ((D_X10_behind (va_up o16 3 (upd (o16 3) (((4 * ((m0 0) 15)) + 1).toNatClampNeg) r15)) 62 1).bind (fun (r43, o44) => if inb ((4 * ((m0 0) 15)) + 2) 244 then (some (va_up o44 3 (upd (o44 3) (((4 * ((m0 0) 15)) + 2).toNatClampNeg) r43))) else none)) else (if r1 = 118 then ((D_X10_vineOwner (va_up o16 3 (upd (o16 3) (((4 * ((m0 0) 15)) + 1).toNatClampNeg) r15))).bind (fun (r48, o49) => if inb ((4 * ((m0 0) 15)) + 2) 244 then (some (va_up o49 3 (upd (o49 3) (((4 * ((m0 0) 15)) + 2).toNatClampNeg) r48))) else none)) else (some (va_up o16 3 (upd (o16 3) (((4 * ((m0 0) 15)) + 1).toNatClampNeg) r15)))))))) else none)))) else none))) else (if inb ((4 * ((m0 0) 15)) + i3h24) 244 then (L_X10_order_24 n24 m0 r1 (i3h24 + 1) (va_up s24 3 (upd (s24 3) (((4 * ((m0 0) 15)) + i3h24).toNatClampNeg) 0))) else none)
def D_X10_order (m0 : Nat → Nat → Int32) : Option ((Nat → Nat → Int32)) := (D_X10_sign (va_up m0 0 (upd (m0 0) 15 (((m0 0) 15) + 1)))).bind (fun r1 => L_X10_order_24 200 m0 r1 0 (va_up m0 0 (upd (m0 0) 15 (((m0 0) 15) + 1))))
abbrev rm_X10_order : Room := { frames := 4, cells := 0, slots := 0, locals := 87 }
set_option maxHeartbeats 4000000 in
set_option maxRecDepth 100000 in
theorem met_X10_order (l : Launch) (D : va_G) (cy : Nat → ClassId) (sz : Nat) (am : Nat → Nat) (m0 : Nat → Nat → Int32)  (t' : Nat → Nat → Int32) (hF : D_X10_order m0 = some t') : MV l yX10_order cX10_order 4 rm_X10_order D cy (mW cy am m0) sz (fun _ => True) [.ref (am 0)] (mW cy am t') := by
  refine MV.of (by decide +kernel) (Nat.le_of_ble_eq_true rfl) ?_
  intro p e s m args below meth c A ls Q hAt _ hP hD hA hS hl hret
  obtain ⟨hx, hb, hr, hml, hown, hw, hlk, hK, hN⟩ := hAt
  have hown : s.vm.findClass "CloudDeedsModel" = some m.cls := hown
  have hl : lv_has ls 4 [(0, .ref (am 0))] := hl
  refine lv_iconst (v := 4) hx hb dX10_order_0 (by decide) ?_
  refine lv_aload_n hx hb dX10_order_1 rfl (lv_at hl 0 rfl) ?_
  refine get' (ci := 12) (fs := mF am (m0 0)) (v := .int ((m0 0) 15)) hx hb hw inWX10 hown hK hP (gM (am := am) (r := 0) (m := m0) (f := (m0 0)) (by decide) rfl) rfl 15 (by decide) k_1585 rfl rfl dX10_order_2 ?_
  refine lv_imul hx hb dX10_order_5 ?_
  refine lv_istore_n (lv' := [(1, .int (4 * ((m0 0) 15))), (0, .ref (am 0))]) hx hb dX10_order_6 rfl hl (by decide) rfl (fun ls hl => ?_)
  refine lv_aload_n hx hb dX10_order_7 rfl (lv_at hl 1 rfl) ?_
  refine lv_dup hx hb dX10_order_8 rfl ?_
  refine get' (ci := 12) (fs := mF am (m0 0)) (v := .int ((m0 0) 15)) hx hb hw inWX10 hown hK hP (gM (am := am) (r := 0) (m := m0) (f := (m0 0)) (by decide) rfl) rfl 15 (by decide) k_1585 rfl rfl dX10_order_9 ?_
  refine lv_iconst (v := 1) hx hb dX10_order_12 (by decide) ?_
  refine lv_iadd hx hb dX10_order_13 ?_
  refine put' (ci := 12) (fs := mF am (m0 0)) (v := .int (((m0 0) 15) + 1)) (ty := .int) (ws' := (mW cy am (va_up m0 0 (upd (m0 0) 15 (((m0 0) 15) + 1))))) hx hb hw inWX10 tyX10 tyX10_ok nmX10 hown hK hP hD hS (gM (am := am) (r := 0) (m := m0) (f := (m0 0)) (by decide) rfl) rfl 15 (by decide) k_1585 rfl rfl (by decide +kernel) rfl rfl (Nat.le_of_ble_eq_true rfl) dX10_order_14 (sM (am := am) (r := 0) (m := m0) (g := (upd (m0 0) 15 (((m0 0) 15) + 1))) (by decide)) (fun H locs hP hD hS => ?_)
  refine lv_aload_n hx hb dX10_order_17 rfl (lv_at hl 1 rfl) ?_
  obtain ⟨r1, hc3, hF⟩ := bind_some hF
  try dsimp only at hF
  refine cV_i (As := []) (rest := []) hx hb hml hown hw hK hN hA hl.1 hP hD hS k_1885 k_1887 k_63 k_90 k_1888 (met_X10_sign l D cy _ am (va_up m0 0 (upd (m0 0) 15 (((m0 0) 15) + 1))) r1 hc3) (fun _ _ _ => trivial) Xok_T (gM (am := am) (r := 0) (m := (va_up m0 0 (upd (m0 0) 15 (((m0 0) 15) + 1)))) (f := (upd (m0 0) 15 (((m0 0) 15) + 1))) (by decide) (va_up_self _ _ _)) rfl ⟨rfl, rfl⟩ (n := 0) (by decide +kernel) rfl ⟨Nat.le_of_ble_eq_true rfl, Nat.le_of_ble_eq_true rfl⟩ ⟨Nat.le_of_ble_eq_true rfl, Nat.le_of_ble_eq_true rfl⟩ (Nat.le_of_ble_eq_true rfl) rfl dX10_order_18 (fun H locs hP hD hS => ?_)
  refine lv_istore_n (lv' := [(2, .int r1), (1, .int (4 * ((m0 0) 15))), (0, .ref (am 0))]) hx hb dX10_order_21 rfl hl (by decide) rfl (fun ls hl => ?_)
  refine lv_iconst (v := 0) hx hb dX10_order_22 (by decide) ?_
  refine lv_istore_n (lv' := [(3, .int 0), (2, .int r1), (1, .int (4 * ((m0 0) 15))), (0, .ref (am 0))]) hx hb dX10_order_23 rfl hl (by decide) rfl (fun ls hl => ?_)
  have loop24 : ∀ (n : Nat) (i3h24 : Int32) (s24 : Nat → Nat → Int32) (H : Heap) (locs : List Loc) (ls : Array Slot), L_X10_order_24 n m0 r1 i3h24 s24 = some t' → va_P D vwCl (mW cy am s24) H → va_D A (mW cy am s24) → va_S A s.heap H locs → lv_has ls 4 [(3, .int i3h24), (2, .int r1), (1, .int (4 * ((m0 0) 15))), (0, .ref (am 0))] → W p l e rm_X10_order s m args below meth c H locs 0 0 Q (F0 m 24 ls []) := by
    intro n
    induction n with
    | zero => intro i3h24 s24 H locs ls hF _ _ _ _; exact absurd hF (by simp [L_X10_order_24])
    | succ n24 ih24 =>
      intro i3h24 s24 H locs ls hF hP hD hS hl
      refine lv_iload_n hx hb dX10_order_24 rfl (lv_at hl 0 rfl) ?_
      refine lv_iconst (v := 4) hx hb dX10_order_25 (by decide) ?_
      refine lv_icmp_ge (tgt := 44) hx hb dX10_order_26 (by decide) (fun h4 => ?_) (fun h4 => ?_)
      · replace hF := (if_pos h4).symm.trans hF
        refine lv_iload_n hx hb dX10_order_44 rfl (lv_at hl 1 rfl) ?_
        refine cS_i (As := [.int r1]) (rest := []) hx hb hml hown hw hK hN hA hl.1 hP hD hS k_1889 k_1890 k_90 k_1891 (met_X10_isWord l D cy _ (mW cy am s24) r1 (D_X10_isWord r1) rfl) (fun _ _ _ => trivial) Xok_T ⟨rfl, rfl⟩ (n := 1) (by decide +kernel) rfl ⟨Nat.le_of_ble_eq_true rfl, Nat.le_of_ble_eq_true rfl⟩ ⟨Nat.le_of_ble_eq_true rfl, Nat.le_of_ble_eq_true rfl⟩ (Nat.le_of_ble_eq_true rfl) rfl dX10_order_45 (fun H locs hP hD hS => ?_)
        refine lv_if_ne (tgt := 60) hx hb dX10_order_48 (by decide) (fun h8 => ?_) (fun h8 => ?_)
        · replace hF := (if_neg h8).symm.trans hF
          refine lv_aload_n hx hb dX10_order_60 rfl (lv_at hl 3 rfl) ?_
          refine lv_dup hx hb dX10_order_61 rfl ?_
          refine get' (ci := 12) (fs := mF am (s24 0)) (v := .int ((s24 0) 11)) hx hb hw inWX10 hown hK hP (gM (am := am) (r := 0) (m := s24) (f := (s24 0)) (by decide) rfl) rfl 11 (by decide) k_1581 rfl rfl dX10_order_62 ?_
          refine lv_iconst (v := 1) hx hb dX10_order_65 (by decide) ?_
          refine lv_iadd hx hb dX10_order_66 ?_
          refine put' (ci := 12) (fs := mF am (s24 0)) (v := .int (((s24 0) 11) + 1)) (ty := .int) (ws' := (mW cy am (va_up s24 0 (upd (s24 0) 11 (((s24 0) 11) + 1))))) hx hb hw inWX10 tyX10 tyX10_ok nmX10 hown hK hP hD hS (gM (am := am) (r := 0) (m := s24) (f := (s24 0)) (by decide) rfl) rfl 11 (by decide) k_1581 rfl rfl (by decide +kernel) rfl rfl (Nat.le_of_ble_eq_true rfl) dX10_order_67 (sM (am := am) (r := 0) (m := s24) (g := (upd (s24 0) 11 (((s24 0) 11) + 1))) (by decide)) (fun H locs hP hD hS => ?_)
          refine lv_aload_n hx hb dX10_order_70 rfl (lv_at hl 3 rfl) ?_
          refine lv_iload_n hx hb dX10_order_71 rfl (lv_at hl 1 rfl) ?_
          obtain ⟨o10, hc11, hF⟩ := bind_some hF
          try dsimp only at hF
          refine cV_v (As := [.int r1]) (rest := []) hx hb hml hown hw hK hN hA hl.1 hP hD hS k_1892 k_1894 k_64 k_90 k_1895 (met_X10_word l D cy _ am (va_up s24 0 (upd (s24 0) 11 (((s24 0) 11) + 1))) r1 o10 hc11) (fun _ _ _ => trivial) Xok_T (gM (am := am) (r := 0) (m := (va_up s24 0 (upd (s24 0) 11 (((s24 0) 11) + 1)))) (f := (upd (s24 0) 11 (((s24 0) 11) + 1))) (by decide) (va_up_self _ _ _)) rfl ⟨rfl, rfl⟩ (n := 1) (by decide +kernel) rfl ⟨Nat.le_of_ble_eq_true rfl, Nat.le_of_ble_eq_true rfl⟩ ⟨Nat.le_of_ble_eq_true rfl, Nat.le_of_ble_eq_true rfl⟩ (Nat.le_of_ble_eq_true rfl) rfl dX10_order_72 (fun H locs hP hD hS => ?_)
          refine lv_aload_n hx hb dX10_order_75 rfl (lv_at hl 3 rfl) ?_
          refine get' (ci := 12) (fs := mF am (o10 0)) (v := .ref (am 3)) hx hb hw inWX10 hown hK hP (gM (am := am) (r := 0) (m := o10) (f := (o10 0)) (by decide) rfl) rfl 14 (by decide) k_1584 rfl rfl dX10_order_76 ?_
          refine lv_iload_n hx hb dX10_order_79 rfl (lv_at hl 2 rfl) ?_
          refine lv_iload_n hx hb dX10_order_80 rfl (lv_at hl 1 rfl) ?_
          obtain ⟨h12, hF⟩ := ite_some hF
          refine iast' (n := 244) (f := (o10 3)) (ws' := (mW cy am (va_up o10 3 (upd (o10 3) ((4 * ((m0 0) 15)).toNatClampNeg) r1)))) hx hb hK hP hD hS (gM (am := am) (r := 3) (m := o10) (f := (o10 3)) (by decide) rfl) (t0 := 0) rfl (vp_inb h12) dX10_order_81 (sM (am := am) (r := 3) (m := o10) (g := (upd (o10 3) ((4 * ((m0 0) 15)).toNatClampNeg) r1)) (by decide)) (fun H locs hP hD hS => ?_)
          refine lv_iload_n hx hb dX10_order_82 rfl (lv_at hl 1 rfl) ?_
          refine lv_bipush (v := 100) hx hb dX10_order_83 (by decide) ?_
          refine lv_icmp_ne (tgt := 89) hx hb dX10_order_85 (by decide) (fun h13 => ?_) (fun h13 => ?_)
          · replace hF := (if_neg h13).symm.trans hF
            refine lv_aload_n hx hb dX10_order_89 rfl (lv_at hl 3 rfl) ?_
            refine get' (ci := 12) (fs := mF am (o10 0)) (v := .ref (am 3)) hx hb hw inWX10 hown hK hP (gM (am := am) (r := 0) (m := (va_up o10 3 (upd (o10 3) ((4 * ((m0 0) 15)).toNatClampNeg) r1))) (f := (o10 0)) (by decide) ((va_up_ne _ _ (by decide)).trans rfl)) rfl 14 (by decide) k_1584 rfl rfl dX10_order_90 ?_
            refine lv_iload_n hx hb dX10_order_93 rfl (lv_at hl 2 rfl) ?_
            refine lv_iconst (v := 1) hx hb dX10_order_94 (by decide) ?_
            refine lv_iadd hx hb dX10_order_95 ?_
            refine lv_iload_n hx hb dX10_order_96 rfl (lv_at hl 1 rfl) ?_
            refine lv_bipush (v := 119) hx hb dX10_order_97 (by decide) ?_
            refine lv_icmp_ne (tgt := 109) hx hb dX10_order_99 (by decide) (fun h14 => ?_) (fun h14 => ?_)
            · replace hF := (if_neg h14).symm.trans hF
              refine lv_aload_n hx hb dX10_order_109 rfl (lv_at hl 3 rfl) ?_
              refine lv_bipush (v := 32) hx hb dX10_order_110 (by decide) ?_
              refine lv_iconst (v := 1) hx hb dX10_order_112 (by decide) ?_
              obtain ⟨⟨r15, o16⟩, hc17, hF⟩ := bind_some hF
              try dsimp only at hF
              refine cV_i (As := [.int 32, .int 1]) (rest := [.int ((4 * ((m0 0) 15)) + 1), .ref (am 3)]) hx hb hml hown hw hK hN hA hl.1 hP hD hS k_1912 k_1914 k_69 k_90 k_1915 (met_X10_behind l D cy _ am (va_up o10 3 (upd (o10 3) ((4 * ((m0 0) 15)).toNatClampNeg) r1)) 32 1 r15 o16 hc17) (fun _ _ _ => trivial) Xok_T (gM (am := am) (r := 0) (m := (va_up o10 3 (upd (o10 3) ((4 * ((m0 0) 15)).toNatClampNeg) r1))) (f := (o10 0)) (by decide) ((va_up_ne _ _ (by decide)).trans rfl)) rfl ⟨rfl, rfl⟩ (n := 2) (by decide +kernel) rfl ⟨Nat.le_of_ble_eq_true rfl, Nat.le_of_ble_eq_true rfl⟩ ⟨Nat.le_of_ble_eq_true rfl, Nat.le_of_ble_eq_true rfl⟩ (Nat.le_of_ble_eq_true rfl) rfl dX10_order_113 (fun H locs hP hD hS => ?_)
              obtain ⟨h18, hF⟩ := ite_some hF
              refine iast' (n := 244) (f := (o16 3)) (ws' := (mW cy am (va_up o16 3 (upd (o16 3) (((4 * ((m0 0) 15)) + 1).toNatClampNeg) r15)))) hx hb hK hP hD hS (gM (am := am) (r := 3) (m := o16) (f := (o16 3)) (by decide) rfl) (t0 := 0) rfl (vp_inb h18) dX10_order_116 (sM (am := am) (r := 3) (m := o16) (g := (upd (o16 3) (((4 * ((m0 0) 15)) + 1).toNatClampNeg) r15)) (by decide)) (fun H locs hP hD hS => ?_)
              refine lv_iload_n hx hb dX10_order_117 rfl (lv_at hl 1 rfl) ?_
              by_cases h19 : r1 = 99
              · replace hF := (if_pos h19).symm.trans hF
                refine lv_lookup (tgt := 168) (off := 50) hx hb dX10_order_118 (by decide) (by rw [h19]; decide) (by decide) ?_
                refine lv_aload_n hx hb dX10_order_168 rfl (lv_at hl 3 rfl) ?_
                refine get' (ci := 12) (fs := mF am (o16 0)) (v := .ref (am 3)) hx hb hw inWX10 hown hK hP (gM (am := am) (r := 0) (m := (va_up o16 3 (upd (o16 3) (((4 * ((m0 0) 15)) + 1).toNatClampNeg) r15))) (f := (o16 0)) (by decide) ((va_up_ne _ _ (by decide)).trans rfl)) rfl 14 (by decide) k_1584 rfl rfl dX10_order_169 ?_
                refine lv_iload_n hx hb dX10_order_172 rfl (lv_at hl 2 rfl) ?_
                refine lv_iconst (v := 2) hx hb dX10_order_173 (by decide) ?_
                refine lv_iadd hx hb dX10_order_174 ?_
                refine lv_aload_n hx hb dX10_order_175 rfl (lv_at hl 3 rfl) ?_
                refine lv_bipush (v := 32) hx hb dX10_order_176 (by decide) ?_
                refine lv_iconst (v := 1) hx hb dX10_order_178 (by decide) ?_
                obtain ⟨⟨r20, o21⟩, hc22, hF⟩ := bind_some hF
                try dsimp only at hF
                refine cV_i (As := [.int 32, .int 1]) (rest := [.int ((4 * ((m0 0) 15)) + 2), .ref (am 3)]) hx hb hml hown hw hK hN hA hl.1 hP hD hS k_1912 k_1914 k_69 k_90 k_1915 (met_X10_behind l D cy _ am (va_up o16 3 (upd (o16 3) (((4 * ((m0 0) 15)) + 1).toNatClampNeg) r15)) 32 1 r20 o21 hc22) (fun _ _ _ => trivial) Xok_T (gM (am := am) (r := 0) (m := (va_up o16 3 (upd (o16 3) (((4 * ((m0 0) 15)) + 1).toNatClampNeg) r15))) (f := (o16 0)) (by decide) ((va_up_ne _ _ (by decide)).trans rfl)) rfl ⟨rfl, rfl⟩ (n := 2) (by decide +kernel) rfl ⟨Nat.le_of_ble_eq_true rfl, Nat.le_of_ble_eq_true rfl⟩ ⟨Nat.le_of_ble_eq_true rfl, Nat.le_of_ble_eq_true rfl⟩ (Nat.le_of_ble_eq_true rfl) rfl dX10_order_179 (fun H locs hP hD hS => ?_)
                obtain ⟨h23, hF⟩ := ite_some hF
                refine iast' (n := 244) (f := (o21 3)) (ws' := (mW cy am (va_up o21 3 (upd (o21 3) (((4 * ((m0 0) 15)) + 2).toNatClampNeg) r20)))) hx hb hK hP hD hS (gM (am := am) (r := 3) (m := o21) (f := (o21 3)) (by decide) rfl) (t0 := 0) rfl (vp_inb h23) dX10_order_182 (sM (am := am) (r := 3) (m := o21) (g := (upd (o21 3) (((4 * ((m0 0) 15)) + 2).toNatClampNeg) r20)) (by decide)) (fun H locs hP hD hS => ?_)
                refine lv_aload_n hx hb dX10_order_183 rfl (lv_at hl 3 rfl) ?_
                refine get' (ci := 12) (fs := mF am (o21 0)) (v := .ref (am 3)) hx hb hw inWX10 hown hK hP (gM (am := am) (r := 0) (m := (va_up o21 3 (upd (o21 3) (((4 * ((m0 0) 15)) + 2).toNatClampNeg) r20))) (f := (o21 0)) (by decide) ((va_up_ne _ _ (by decide)).trans rfl)) rfl 14 (by decide) k_1584 rfl rfl dX10_order_184 ?_
                refine lv_iload_n hx hb dX10_order_187 rfl (lv_at hl 2 rfl) ?_
                refine lv_iconst (v := 3) hx hb dX10_order_188 (by decide) ?_
                refine lv_iadd hx hb dX10_order_189 ?_
                refine lv_aload_n hx hb dX10_order_190 rfl (lv_at hl 3 rfl) ?_
                refine lv_bipush (v := 32) hx hb dX10_order_191 (by decide) ?_
                refine lv_iconst (v := 1) hx hb dX10_order_193 (by decide) ?_
                obtain ⟨⟨r24, o25⟩, hc26, hF⟩ := bind_some hF
                try dsimp only at hF
                refine cV_i (As := [.int 32, .int 1]) (rest := [.int ((4 * ((m0 0) 15)) + 3), .ref (am 3)]) hx hb hml hown hw hK hN hA hl.1 hP hD hS k_1912 k_1914 k_69 k_90 k_1915 (met_X10_behind l D cy _ am (va_up o21 3 (upd (o21 3) (((4 * ((m0 0) 15)) + 2).toNatClampNeg) r20)) 32 1 r24 o25 hc26) (fun _ _ _ => trivial) Xok_T (gM (am := am) (r := 0) (m := (va_up o21 3 (upd (o21 3) (((4 * ((m0 0) 15)) + 2).toNatClampNeg) r20))) (f := (o21 0)) (by decide) ((va_up_ne _ _ (by decide)).trans rfl)) rfl ⟨rfl, rfl⟩ (n := 2) (by decide +kernel) rfl ⟨Nat.le_of_ble_eq_true rfl, Nat.le_of_ble_eq_true rfl⟩ ⟨Nat.le_of_ble_eq_true rfl, Nat.le_of_ble_eq_true rfl⟩ (Nat.le_of_ble_eq_true rfl) rfl dX10_order_194 (fun H locs hP hD hS => ?_)
                obtain ⟨h27, hF⟩ := ite_some hF
                refine iast' (n := 244) (f := (o25 3)) (ws' := (mW cy am (va_up o25 3 (upd (o25 3) (((4 * ((m0 0) 15)) + 3).toNatClampNeg) r24)))) hx hb hK hP hD hS (gM (am := am) (r := 3) (m := o25) (f := (o25 3)) (by decide) rfl) (t0 := 0) rfl (vp_inb h27) dX10_order_197 (sM (am := am) (r := 3) (m := o25) (g := (upd (o25 3) (((4 * ((m0 0) 15)) + 3).toNatClampNeg) r24)) (by decide)) (fun H locs hP hD hS => ?_)
                refine lv_goto (tgt := 267) hx hb dX10_order_198 (by decide) ?_
                cases hF
                exact hret _ _ _ _ _ hP hD hS rfl dX10_order_267
              · replace hF := (if_neg h19).symm.trans hF
                by_cases h28 : r1 = 112
                · replace hF := (if_pos h28).symm.trans hF
                  refine lv_lookup (tgt := 216) (off := 98) hx hb dX10_order_118 (by decide) (by rw [h28]; decide) (by decide) ?_
                  refine lv_aload_n hx hb dX10_order_216 rfl (lv_at hl 3 rfl) ?_
                  refine get' (ci := 12) (fs := mF am (o16 0)) (v := .ref (am 3)) hx hb hw inWX10 hown hK hP (gM (am := am) (r := 0) (m := (va_up o16 3 (upd (o16 3) (((4 * ((m0 0) 15)) + 1).toNatClampNeg) r15))) (f := (o16 0)) (by decide) ((va_up_ne _ _ (by decide)).trans rfl)) rfl 14 (by decide) k_1584 rfl rfl dX10_order_217 ?_
                  refine lv_iload_n hx hb dX10_order_220 rfl (lv_at hl 2 rfl) ?_
                  refine lv_iconst (v := 2) hx hb dX10_order_221 (by decide) ?_
                  refine lv_iadd hx hb dX10_order_222 ?_
                  refine lv_aload_n hx hb dX10_order_223 rfl (lv_at hl 3 rfl) ?_
                  refine lv_bipush (v := 62) hx hb dX10_order_224 (by decide) ?_
                  refine lv_iconst (v := 1) hx hb dX10_order_226 (by decide) ?_
                  obtain ⟨⟨r29, o30⟩, hc31, hF⟩ := bind_some hF
                  try dsimp only at hF
                  refine cV_i (As := [.int 62, .int 1]) (rest := [.int ((4 * ((m0 0) 15)) + 2), .ref (am 3)]) hx hb hml hown hw hK hN hA hl.1 hP hD hS k_1912 k_1914 k_69 k_90 k_1915 (met_X10_behind l D cy _ am (va_up o16 3 (upd (o16 3) (((4 * ((m0 0) 15)) + 1).toNatClampNeg) r15)) 62 1 r29 o30 hc31) (fun _ _ _ => trivial) Xok_T (gM (am := am) (r := 0) (m := (va_up o16 3 (upd (o16 3) (((4 * ((m0 0) 15)) + 1).toNatClampNeg) r15))) (f := (o16 0)) (by decide) ((va_up_ne _ _ (by decide)).trans rfl)) rfl ⟨rfl, rfl⟩ (n := 2) (by decide +kernel) rfl ⟨Nat.le_of_ble_eq_true rfl, Nat.le_of_ble_eq_true rfl⟩ ⟨Nat.le_of_ble_eq_true rfl, Nat.le_of_ble_eq_true rfl⟩ (Nat.le_of_ble_eq_true rfl) rfl dX10_order_227 (fun H locs hP hD hS => ?_)
                  obtain ⟨h32, hF⟩ := ite_some hF
                  refine iast' (n := 244) (f := (o30 3)) (ws' := (mW cy am (va_up o30 3 (upd (o30 3) (((4 * ((m0 0) 15)) + 2).toNatClampNeg) r29)))) hx hb hK hP hD hS (gM (am := am) (r := 3) (m := o30) (f := (o30 3)) (by decide) rfl) (t0 := 0) rfl (vp_inb h32) dX10_order_230 (sM (am := am) (r := 3) (m := o30) (g := (upd (o30 3) (((4 * ((m0 0) 15)) + 2).toNatClampNeg) r29)) (by decide)) (fun H locs hP hD hS => ?_)
                  refine lv_goto (tgt := 267) hx hb dX10_order_231 (by decide) ?_
                  cases hF
                  exact hret _ _ _ _ _ hP hD hS rfl dX10_order_267
                · replace hF := (if_neg h28).symm.trans hF
                  by_cases h33 : r1 = 115
                  · replace hF := (if_pos h33).symm.trans hF
                    refine lv_lookup (tgt := 234) (off := 116) hx hb dX10_order_118 (by decide) (by rw [h33]; decide) (by decide) ?_
                    refine lv_aload_n hx hb dX10_order_234 rfl (lv_at hl 3 rfl) ?_
                    refine get' (ci := 12) (fs := mF am (o16 0)) (v := .ref (am 3)) hx hb hw inWX10 hown hK hP (gM (am := am) (r := 0) (m := (va_up o16 3 (upd (o16 3) (((4 * ((m0 0) 15)) + 1).toNatClampNeg) r15))) (f := (o16 0)) (by decide) ((va_up_ne _ _ (by decide)).trans rfl)) rfl 14 (by decide) k_1584 rfl rfl dX10_order_235 ?_
                    refine lv_iload_n hx hb dX10_order_238 rfl (lv_at hl 2 rfl) ?_
                    refine lv_iconst (v := 2) hx hb dX10_order_239 (by decide) ?_
                    refine lv_iadd hx hb dX10_order_240 ?_
                    refine lv_aload_n hx hb dX10_order_241 rfl (lv_at hl 3 rfl) ?_
                    refine lv_bipush (v := 62) hx hb dX10_order_242 (by decide) ?_
                    refine lv_iconst (v := 1) hx hb dX10_order_244 (by decide) ?_
                    obtain ⟨⟨r34, o35⟩, hc36, hF⟩ := bind_some hF
                    try dsimp only at hF
                    refine cV_i (As := [.int 62, .int 1]) (rest := [.int ((4 * ((m0 0) 15)) + 2), .ref (am 3)]) hx hb hml hown hw hK hN hA hl.1 hP hD hS k_1912 k_1914 k_69 k_90 k_1915 (met_X10_behind l D cy _ am (va_up o16 3 (upd (o16 3) (((4 * ((m0 0) 15)) + 1).toNatClampNeg) r15)) 62 1 r34 o35 hc36) (fun _ _ _ => trivial) Xok_T (gM (am := am) (r := 0) (m := (va_up o16 3 (upd (o16 3) (((4 * ((m0 0) 15)) + 1).toNatClampNeg) r15))) (f := (o16 0)) (by decide) ((va_up_ne _ _ (by decide)).trans rfl)) rfl ⟨rfl, rfl⟩ (n := 2) (by decide +kernel) rfl ⟨Nat.le_of_ble_eq_true rfl, Nat.le_of_ble_eq_true rfl⟩ ⟨Nat.le_of_ble_eq_true rfl, Nat.le_of_ble_eq_true rfl⟩ (Nat.le_of_ble_eq_true rfl) rfl dX10_order_245 (fun H locs hP hD hS => ?_)
                    obtain ⟨h37, hF⟩ := ite_some hF
                    refine iast' (n := 244) (f := (o35 3)) (ws' := (mW cy am (va_up o35 3 (upd (o35 3) (((4 * ((m0 0) 15)) + 2).toNatClampNeg) r34)))) hx hb hK hP hD hS (gM (am := am) (r := 3) (m := o35) (f := (o35 3)) (by decide) rfl) (t0 := 0) rfl (vp_inb h37) dX10_order_248 (sM (am := am) (r := 3) (m := o35) (g := (upd (o35 3) (((4 * ((m0 0) 15)) + 2).toNatClampNeg) r34)) (by decide)) (fun H locs hP hD hS => ?_)
                    refine lv_aload_n hx hb dX10_order_249 rfl (lv_at hl 3 rfl) ?_
                    refine get' (ci := 12) (fs := mF am (o35 0)) (v := .ref (am 3)) hx hb hw inWX10 hown hK hP (gM (am := am) (r := 0) (m := (va_up o35 3 (upd (o35 3) (((4 * ((m0 0) 15)) + 2).toNatClampNeg) r34))) (f := (o35 0)) (by decide) ((va_up_ne _ _ (by decide)).trans rfl)) rfl 14 (by decide) k_1584 rfl rfl dX10_order_250 ?_
                    refine lv_iload_n hx hb dX10_order_253 rfl (lv_at hl 2 rfl) ?_
                    refine lv_iconst (v := 3) hx hb dX10_order_254 (by decide) ?_
                    refine lv_iadd hx hb dX10_order_255 ?_
                    refine lv_aload_n hx hb dX10_order_256 rfl (lv_at hl 3 rfl) ?_
                    refine lv_bipush (v := 61) hx hb dX10_order_257 (by decide) ?_
                    refine lv_iconst (v := 2) hx hb dX10_order_259 (by decide) ?_
                    obtain ⟨⟨r38, o39⟩, hc40, hF⟩ := bind_some hF
                    try dsimp only at hF
                    refine cV_i (As := [.int 61, .int 2]) (rest := [.int ((4 * ((m0 0) 15)) + 3), .ref (am 3)]) hx hb hml hown hw hK hN hA hl.1 hP hD hS k_1912 k_1914 k_69 k_90 k_1915 (met_X10_behind l D cy _ am (va_up o35 3 (upd (o35 3) (((4 * ((m0 0) 15)) + 2).toNatClampNeg) r34)) 61 2 r38 o39 hc40) (fun _ _ _ => trivial) Xok_T (gM (am := am) (r := 0) (m := (va_up o35 3 (upd (o35 3) (((4 * ((m0 0) 15)) + 2).toNatClampNeg) r34))) (f := (o35 0)) (by decide) ((va_up_ne _ _ (by decide)).trans rfl)) rfl ⟨rfl, rfl⟩ (n := 2) (by decide +kernel) rfl ⟨Nat.le_of_ble_eq_true rfl, Nat.le_of_ble_eq_true rfl⟩ ⟨Nat.le_of_ble_eq_true rfl, Nat.le_of_ble_eq_true rfl⟩ (Nat.le_of_ble_eq_true rfl) rfl dX10_order_260 (fun H locs hP hD hS => ?_)
                    obtain ⟨h41, hF⟩ := ite_some hF
                    refine iast' (n := 244) (f := (o39 3)) (ws' := (mW cy am (va_up o39 3 (upd (o39 3) (((4 * ((m0 0) 15)) + 3).toNatClampNeg) r38)))) hx hb hK hP hD hS (gM (am := am) (r := 3) (m := o39) (f := (o39 3)) (by decide) rfl) (t0 := 0) rfl (vp_inb h41) dX10_order_263 (sM (am := am) (r := 3) (m := o39) (g := (upd (o39 3) (((4 * ((m0 0) 15)) + 3).toNatClampNeg) r38)) (by decide)) (fun H locs hP hD hS => ?_)
                    refine lv_goto (tgt := 267) hx hb dX10_order_264 (by decide) ?_
                    cases hF
                    exact hret _ _ _ _ _ hP hD hS rfl dX10_order_267
                  · replace hF := (if_neg h33).symm.trans hF
                    by_cases h42 : r1 = 116
                    · replace hF := (if_pos h42).symm.trans hF
                      refine lv_lookup (tgt := 216) (off := 98) hx hb dX10_order_118 (by decide) (by rw [h42]; decide) (by decide) ?_
                      refine lv_aload_n hx hb dX10_order_216 rfl (lv_at hl 3 rfl) ?_
                      refine get' (ci := 12) (fs := mF am (o16 0)) (v := .ref (am 3)) hx hb hw inWX10 hown hK hP (gM (am := am) (r := 0) (m := (va_up o16 3 (upd (o16 3) (((4 * ((m0 0) 15)) + 1).toNatClampNeg) r15))) (f := (o16 0)) (by decide) ((va_up_ne _ _ (by decide)).trans rfl)) rfl 14 (by decide) k_1584 rfl rfl dX10_order_217 ?_
                      refine lv_iload_n hx hb dX10_order_220 rfl (lv_at hl 2 rfl) ?_
                      refine lv_iconst (v := 2) hx hb dX10_order_221 (by decide) ?_
                      refine lv_iadd hx hb dX10_order_222 ?_
                      refine lv_aload_n hx hb dX10_order_223 rfl (lv_at hl 3 rfl) ?_
                      refine lv_bipush (v := 62) hx hb dX10_order_224 (by decide) ?_
                      refine lv_iconst (v := 1) hx hb dX10_order_226 (by decide) ?_
                      obtain ⟨⟨r43, o44⟩, hc45, hF⟩ := bind_some hF
                      try dsimp only at hF
                      refine cV_i (As := [.int 62, .int 1]) (rest := [.int ((4 * ((m0 0) 15)) + 2), .ref (am 3)]) hx hb hml hown hw hK hN hA hl.1 hP hD hS k_1912 k_1914 k_69 k_90 k_1915 (met_X10_behind l D cy _ am (va_up o16 3 (upd (o16 3) (((4 * ((m0 0) 15)) + 1).toNatClampNeg) r15)) 62 1 r43 o44 hc45) (fun _ _ _ => trivial) Xok_T (gM (am := am) (r := 0) (m := (va_up o16 3 (upd (o16 3) (((4 * ((m0 0) 15)) + 1).toNatClampNeg) r15))) (f := (o16 0)) (by decide) ((va_up_ne _ _ (by decide)).trans rfl)) rfl ⟨rfl, rfl⟩ (n := 2) (by decide +kernel) rfl ⟨Nat.le_of_ble_eq_true rfl, Nat.le_of_ble_eq_true rfl⟩ ⟨Nat.le_of_ble_eq_true rfl, Nat.le_of_ble_eq_true rfl⟩ (Nat.le_of_ble_eq_true rfl) rfl dX10_order_227 (fun H locs hP hD hS => ?_)
                      obtain ⟨h46, hF⟩ := ite_some hF
                      refine iast' (n := 244) (f := (o44 3)) (ws' := (mW cy am (va_up o44 3 (upd (o44 3) (((4 * ((m0 0) 15)) + 2).toNatClampNeg) r43)))) hx hb hK hP hD hS (gM (am := am) (r := 3) (m := o44) (f := (o44 3)) (by decide) rfl) (t0 := 0) rfl (vp_inb h46) dX10_order_230 (sM (am := am) (r := 3) (m := o44) (g := (upd (o44 3) (((4 * ((m0 0) 15)) + 2).toNatClampNeg) r43)) (by decide)) (fun H locs hP hD hS => ?_)
                      refine lv_goto (tgt := 267) hx hb dX10_order_231 (by decide) ?_
                      cases hF
                      exact hret _ _ _ _ _ hP hD hS rfl dX10_order_267
                    · replace hF := (if_neg h42).symm.trans hF
                      by_cases h47 : r1 = 118
                      · replace hF := (if_pos h47).symm.trans hF
                        refine lv_lookup (tgt := 201) (off := 83) hx hb dX10_order_118 (by decide) (by rw [h47]; decide) (by decide) ?_
                        refine lv_aload_n hx hb dX10_order_201 rfl (lv_at hl 3 rfl) ?_
                        refine get' (ci := 12) (fs := mF am (o16 0)) (v := .ref (am 3)) hx hb hw inWX10 hown hK hP (gM (am := am) (r := 0) (m := (va_up o16 3 (upd (o16 3) (((4 * ((m0 0) 15)) + 1).toNatClampNeg) r15))) (f := (o16 0)) (by decide) ((va_up_ne _ _ (by decide)).trans rfl)) rfl 14 (by decide) k_1584 rfl rfl dX10_order_202 ?_
                        refine lv_iload_n hx hb dX10_order_205 rfl (lv_at hl 2 rfl) ?_
                        refine lv_iconst (v := 2) hx hb dX10_order_206 (by decide) ?_
                        refine lv_iadd hx hb dX10_order_207 ?_
                        refine lv_aload_n hx hb dX10_order_208 rfl (lv_at hl 3 rfl) ?_
                        obtain ⟨⟨r48, o49⟩, hc50, hF⟩ := bind_some hF
                        try dsimp only at hF
                        refine cV_i (As := []) (rest := [.int ((4 * ((m0 0) 15)) + 2), .ref (am 3)]) hx hb hml hown hw hK hN hA hl.1 hP hD hS k_1916 k_1918 k_70 k_90 k_1919 (met_X10_vineOwner l D cy _ am (va_up o16 3 (upd (o16 3) (((4 * ((m0 0) 15)) + 1).toNatClampNeg) r15)) r48 o49 hc50) (fun _ _ _ => trivial) Xok_T (gM (am := am) (r := 0) (m := (va_up o16 3 (upd (o16 3) (((4 * ((m0 0) 15)) + 1).toNatClampNeg) r15))) (f := (o16 0)) (by decide) ((va_up_ne _ _ (by decide)).trans rfl)) rfl ⟨rfl, rfl⟩ (n := 0) (by decide +kernel) rfl ⟨Nat.le_of_ble_eq_true rfl, Nat.le_of_ble_eq_true rfl⟩ ⟨Nat.le_of_ble_eq_true rfl, Nat.le_of_ble_eq_true rfl⟩ (Nat.le_of_ble_eq_true rfl) rfl dX10_order_209 (fun H locs hP hD hS => ?_)
                        obtain ⟨h51, hF⟩ := ite_some hF
                        refine iast' (n := 244) (f := (o49 3)) (ws' := (mW cy am (va_up o49 3 (upd (o49 3) (((4 * ((m0 0) 15)) + 2).toNatClampNeg) r48)))) hx hb hK hP hD hS (gM (am := am) (r := 3) (m := o49) (f := (o49 3)) (by decide) rfl) (t0 := 0) rfl (vp_inb h51) dX10_order_212 (sM (am := am) (r := 3) (m := o49) (g := (upd (o49 3) (((4 * ((m0 0) 15)) + 2).toNatClampNeg) r48)) (by decide)) (fun H locs hP hD hS => ?_)
                        refine lv_goto (tgt := 267) hx hb dX10_order_213 (by decide) ?_
                        cases hF
                        exact hret _ _ _ _ _ hP hD hS rfl dX10_order_267
                      · replace hF := (if_neg h47).symm.trans hF
                        refine lv_lookup (tgt := 267) (off := 149) hx hb dX10_order_118 (by decide) ((lv_osw h19 (show (99 : Int32).toInt = 99 by decide)).trans ((lv_osw h28 (show (112 : Int32).toInt = 112 by decide)).trans ((lv_osw h33 (show (115 : Int32).toInt = 115 by decide)).trans ((lv_osw h42 (show (116 : Int32).toInt = 116 by decide)).trans ((lv_osw h47 (show (118 : Int32).toInt = 118 by decide)).trans rfl))))) (by decide) ?_
                        cases hF
                        exact hret _ _ _ _ _ hP hD hS rfl dX10_order_267
            · replace hF := (if_pos h14).symm.trans hF
              refine lv_aload_n hx hb dX10_order_102 rfl (lv_at hl 3 rfl) ?_
              obtain ⟨⟨r52, o53⟩, hc54, hF⟩ := bind_some hF
              try dsimp only at hF
              refine cV_i (As := []) (rest := [.int ((4 * ((m0 0) 15)) + 1), .ref (am 3)]) hx hb hml hown hw hK hN hA hl.1 hP hD hS k_1904 k_1906 k_67 k_90 k_1907 (met_X10_windNow l D cy _ am (va_up o10 3 (upd (o10 3) ((4 * ((m0 0) 15)).toNatClampNeg) r1)) r52 o53 hc54) (fun _ _ _ => trivial) Xok_T (gM (am := am) (r := 0) (m := (va_up o10 3 (upd (o10 3) ((4 * ((m0 0) 15)).toNatClampNeg) r1))) (f := (o10 0)) (by decide) ((va_up_ne _ _ (by decide)).trans rfl)) rfl ⟨rfl, rfl⟩ (n := 0) (by decide +kernel) rfl ⟨Nat.le_of_ble_eq_true rfl, Nat.le_of_ble_eq_true rfl⟩ ⟨Nat.le_of_ble_eq_true rfl, Nat.le_of_ble_eq_true rfl⟩ (Nat.le_of_ble_eq_true rfl) rfl dX10_order_103 (fun H locs hP hD hS => ?_)
              refine lv_goto (tgt := 116) hx hb dX10_order_106 (by decide) ?_
              obtain ⟨h55, hF⟩ := ite_some hF
              refine iast' (n := 244) (f := (o53 3)) (ws' := (mW cy am (va_up o53 3 (upd (o53 3) (((4 * ((m0 0) 15)) + 1).toNatClampNeg) r52)))) hx hb hK hP hD hS (gM (am := am) (r := 3) (m := o53) (f := (o53 3)) (by decide) rfl) (t0 := 0) rfl (vp_inb h55) dX10_order_116 (sM (am := am) (r := 3) (m := o53) (g := (upd (o53 3) (((4 * ((m0 0) 15)) + 1).toNatClampNeg) r52)) (by decide)) (fun H locs hP hD hS => ?_)
              refine lv_iload_n hx hb dX10_order_117 rfl (lv_at hl 1 rfl) ?_
              by_cases h56 : r1 = 99
              · replace hF := (if_pos h56).symm.trans hF
                refine lv_lookup (tgt := 168) (off := 50) hx hb dX10_order_118 (by decide) (by rw [h56]; decide) (by decide) ?_
                refine lv_aload_n hx hb dX10_order_168 rfl (lv_at hl 3 rfl) ?_
                refine get' (ci := 12) (fs := mF am (o53 0)) (v := .ref (am 3)) hx hb hw inWX10 hown hK hP (gM (am := am) (r := 0) (m := (va_up o53 3 (upd (o53 3) (((4 * ((m0 0) 15)) + 1).toNatClampNeg) r52))) (f := (o53 0)) (by decide) ((va_up_ne _ _ (by decide)).trans rfl)) rfl 14 (by decide) k_1584 rfl rfl dX10_order_169 ?_
                refine lv_iload_n hx hb dX10_order_172 rfl (lv_at hl 2 rfl) ?_
                refine lv_iconst (v := 2) hx hb dX10_order_173 (by decide) ?_
                refine lv_iadd hx hb dX10_order_174 ?_
                refine lv_aload_n hx hb dX10_order_175 rfl (lv_at hl 3 rfl) ?_
                refine lv_bipush (v := 32) hx hb dX10_order_176 (by decide) ?_
                refine lv_iconst (v := 1) hx hb dX10_order_178 (by decide) ?_
                obtain ⟨⟨r57, o58⟩, hc59, hF⟩ := bind_some hF
                try dsimp only at hF
                refine cV_i (As := [.int 32, .int 1]) (rest := [.int ((4 * ((m0 0) 15)) + 2), .ref (am 3)]) hx hb hml hown hw hK hN hA hl.1 hP hD hS k_1912 k_1914 k_69 k_90 k_1915 (met_X10_behind l D cy _ am (va_up o53 3 (upd (o53 3) (((4 * ((m0 0) 15)) + 1).toNatClampNeg) r52)) 32 1 r57 o58 hc59) (fun _ _ _ => trivial) Xok_T (gM (am := am) (r := 0) (m := (va_up o53 3 (upd (o53 3) (((4 * ((m0 0) 15)) + 1).toNatClampNeg) r52))) (f := (o53 0)) (by decide) ((va_up_ne _ _ (by decide)).trans rfl)) rfl ⟨rfl, rfl⟩ (n := 2) (by decide +kernel) rfl ⟨Nat.le_of_ble_eq_true rfl, Nat.le_of_ble_eq_true rfl⟩ ⟨Nat.le_of_ble_eq_true rfl, Nat.le_of_ble_eq_true rfl⟩ (Nat.le_of_ble_eq_true rfl) rfl dX10_order_179 (fun H locs hP hD hS => ?_)
                obtain ⟨h60, hF⟩ := ite_some hF
                refine iast' (n := 244) (f := (o58 3)) (ws' := (mW cy am (va_up o58 3 (upd (o58 3) (((4 * ((m0 0) 15)) + 2).toNatClampNeg) r57)))) hx hb hK hP hD hS (gM (am := am) (r := 3) (m := o58) (f := (o58 3)) (by decide) rfl) (t0 := 0) rfl (vp_inb h60) dX10_order_182 (sM (am := am) (r := 3) (m := o58) (g := (upd (o58 3) (((4 * ((m0 0) 15)) + 2).toNatClampNeg) r57)) (by decide)) (fun H locs hP hD hS => ?_)
                refine lv_aload_n hx hb dX10_order_183 rfl (lv_at hl 3 rfl) ?_
                refine get' (ci := 12) (fs := mF am (o58 0)) (v := .ref (am 3)) hx hb hw inWX10 hown hK hP (gM (am := am) (r := 0) (m := (va_up o58 3 (upd (o58 3) (((4 * ((m0 0) 15)) + 2).toNatClampNeg) r57))) (f := (o58 0)) (by decide) ((va_up_ne _ _ (by decide)).trans rfl)) rfl 14 (by decide) k_1584 rfl rfl dX10_order_184 ?_
                refine lv_iload_n hx hb dX10_order_187 rfl (lv_at hl 2 rfl) ?_
                refine lv_iconst (v := 3) hx hb dX10_order_188 (by decide) ?_
                refine lv_iadd hx hb dX10_order_189 ?_
                refine lv_aload_n hx hb dX10_order_190 rfl (lv_at hl 3 rfl) ?_
                refine lv_bipush (v := 32) hx hb dX10_order_191 (by decide) ?_
                refine lv_iconst (v := 1) hx hb dX10_order_193 (by decide) ?_
                obtain ⟨⟨r61, o62⟩, hc63, hF⟩ := bind_some hF
                try dsimp only at hF
                refine cV_i (As := [.int 32, .int 1]) (rest := [.int ((4 * ((m0 0) 15)) + 3), .ref (am 3)]) hx hb hml hown hw hK hN hA hl.1 hP hD hS k_1912 k_1914 k_69 k_90 k_1915 (met_X10_behind l D cy _ am (va_up o58 3 (upd (o58 3) (((4 * ((m0 0) 15)) + 2).toNatClampNeg) r57)) 32 1 r61 o62 hc63) (fun _ _ _ => trivial) Xok_T (gM (am := am) (r := 0) (m := (va_up o58 3 (upd (o58 3) (((4 * ((m0 0) 15)) + 2).toNatClampNeg) r57))) (f := (o58 0)) (by decide) ((va_up_ne _ _ (by decide)).trans rfl)) rfl ⟨rfl, rfl⟩ (n := 2) (by decide +kernel) rfl ⟨Nat.le_of_ble_eq_true rfl, Nat.le_of_ble_eq_true rfl⟩ ⟨Nat.le_of_ble_eq_true rfl, Nat.le_of_ble_eq_true rfl⟩ (Nat.le_of_ble_eq_true rfl) rfl dX10_order_194 (fun H locs hP hD hS => ?_)
                obtain ⟨h64, hF⟩ := ite_some hF
                refine iast' (n := 244) (f := (o62 3)) (ws' := (mW cy am (va_up o62 3 (upd (o62 3) (((4 * ((m0 0) 15)) + 3).toNatClampNeg) r61)))) hx hb hK hP hD hS (gM (am := am) (r := 3) (m := o62) (f := (o62 3)) (by decide) rfl) (t0 := 0) rfl (vp_inb h64) dX10_order_197 (sM (am := am) (r := 3) (m := o62) (g := (upd (o62 3) (((4 * ((m0 0) 15)) + 3).toNatClampNeg) r61)) (by decide)) (fun H locs hP hD hS => ?_)
                refine lv_goto (tgt := 267) hx hb dX10_order_198 (by decide) ?_
                cases hF
                exact hret _ _ _ _ _ hP hD hS rfl dX10_order_267
              · replace hF := (if_neg h56).symm.trans hF
                by_cases h65 : r1 = 112
                · replace hF := (if_pos h65).symm.trans hF
                  refine lv_lookup (tgt := 216) (off := 98) hx hb dX10_order_118 (by decide) (by rw [h65]; decide) (by decide) ?_
                  refine lv_aload_n hx hb dX10_order_216 rfl (lv_at hl 3 rfl) ?_
                  refine get' (ci := 12) (fs := mF am (o53 0)) (v := .ref (am 3)) hx hb hw inWX10 hown hK hP (gM (am := am) (r := 0) (m := (va_up o53 3 (upd (o53 3) (((4 * ((m0 0) 15)) + 1).toNatClampNeg) r52))) (f := (o53 0)) (by decide) ((va_up_ne _ _ (by decide)).trans rfl)) rfl 14 (by decide) k_1584 rfl rfl dX10_order_217 ?_
                  refine lv_iload_n hx hb dX10_order_220 rfl (lv_at hl 2 rfl) ?_
                  refine lv_iconst (v := 2) hx hb dX10_order_221 (by decide) ?_
                  refine lv_iadd hx hb dX10_order_222 ?_
                  refine lv_aload_n hx hb dX10_order_223 rfl (lv_at hl 3 rfl) ?_
                  refine lv_bipush (v := 62) hx hb dX10_order_224 (by decide) ?_
                  refine lv_iconst (v := 1) hx hb dX10_order_226 (by decide) ?_
                  obtain ⟨⟨r66, o67⟩, hc68, hF⟩ := bind_some hF
                  try dsimp only at hF
                  refine cV_i (As := [.int 62, .int 1]) (rest := [.int ((4 * ((m0 0) 15)) + 2), .ref (am 3)]) hx hb hml hown hw hK hN hA hl.1 hP hD hS k_1912 k_1914 k_69 k_90 k_1915 (met_X10_behind l D cy _ am (va_up o53 3 (upd (o53 3) (((4 * ((m0 0) 15)) + 1).toNatClampNeg) r52)) 62 1 r66 o67 hc68) (fun _ _ _ => trivial) Xok_T (gM (am := am) (r := 0) (m := (va_up o53 3 (upd (o53 3) (((4 * ((m0 0) 15)) + 1).toNatClampNeg) r52))) (f := (o53 0)) (by decide) ((va_up_ne _ _ (by decide)).trans rfl)) rfl ⟨rfl, rfl⟩ (n := 2) (by decide +kernel) rfl ⟨Nat.le_of_ble_eq_true rfl, Nat.le_of_ble_eq_true rfl⟩ ⟨Nat.le_of_ble_eq_true rfl, Nat.le_of_ble_eq_true rfl⟩ (Nat.le_of_ble_eq_true rfl) rfl dX10_order_227 (fun H locs hP hD hS => ?_)
                  obtain ⟨h69, hF⟩ := ite_some hF
                  refine iast' (n := 244) (f := (o67 3)) (ws' := (mW cy am (va_up o67 3 (upd (o67 3) (((4 * ((m0 0) 15)) + 2).toNatClampNeg) r66)))) hx hb hK hP hD hS (gM (am := am) (r := 3) (m := o67) (f := (o67 3)) (by decide) rfl) (t0 := 0) rfl (vp_inb h69) dX10_order_230 (sM (am := am) (r := 3) (m := o67) (g := (upd (o67 3) (((4 * ((m0 0) 15)) + 2).toNatClampNeg) r66)) (by decide)) (fun H locs hP hD hS => ?_)
                  refine lv_goto (tgt := 267) hx hb dX10_order_231 (by decide) ?_
                  cases hF
                  exact hret _ _ _ _ _ hP hD hS rfl dX10_order_267
                · replace hF := (if_neg h65).symm.trans hF
                  by_cases h70 : r1 = 115
                  · replace hF := (if_pos h70).symm.trans hF
                    refine lv_lookup (tgt := 234) (off := 116) hx hb dX10_order_118 (by decide) (by rw [h70]; decide) (by decide) ?_
                    refine lv_aload_n hx hb dX10_order_234 rfl (lv_at hl 3 rfl) ?_
                    refine get' (ci := 12) (fs := mF am (o53 0)) (v := .ref (am 3)) hx hb hw inWX10 hown hK hP (gM (am := am) (r := 0) (m := (va_up o53 3 (upd (o53 3) (((4 * ((m0 0) 15)) + 1).toNatClampNeg) r52))) (f := (o53 0)) (by decide) ((va_up_ne _ _ (by decide)).trans rfl)) rfl 14 (by decide) k_1584 rfl rfl dX10_order_235 ?_
                    refine lv_iload_n hx hb dX10_order_238 rfl (lv_at hl 2 rfl) ?_
                    refine lv_iconst (v := 2) hx hb dX10_order_239 (by decide) ?_
                    refine lv_iadd hx hb dX10_order_240 ?_
                    refine lv_aload_n hx hb dX10_order_241 rfl (lv_at hl 3 rfl) ?_
                    refine lv_bipush (v := 62) hx hb dX10_order_242 (by decide) ?_
                    refine lv_iconst (v := 1) hx hb dX10_order_244 (by decide) ?_
                    obtain ⟨⟨r71, o72⟩, hc73, hF⟩ := bind_some hF
                    try dsimp only at hF
                    refine cV_i (As := [.int 62, .int 1]) (rest := [.int ((4 * ((m0 0) 15)) + 2), .ref (am 3)]) hx hb hml hown hw hK hN hA hl.1 hP hD hS k_1912 k_1914 k_69 k_90 k_1915 (met_X10_behind l D cy _ am (va_up o53 3 (upd (o53 3) (((4 * ((m0 0) 15)) + 1).toNatClampNeg) r52)) 62 1 r71 o72 hc73) (fun _ _ _ => trivial) Xok_T (gM (am := am) (r := 0) (m := (va_up o53 3 (upd (o53 3) (((4 * ((m0 0) 15)) + 1).toNatClampNeg) r52))) (f := (o53 0)) (by decide) ((va_up_ne _ _ (by decide)).trans rfl)) rfl ⟨rfl, rfl⟩ (n := 2) (by decide +kernel) rfl ⟨Nat.le_of_ble_eq_true rfl, Nat.le_of_ble_eq_true rfl⟩ ⟨Nat.le_of_ble_eq_true rfl, Nat.le_of_ble_eq_true rfl⟩ (Nat.le_of_ble_eq_true rfl) rfl dX10_order_245 (fun H locs hP hD hS => ?_)
                    obtain ⟨h74, hF⟩ := ite_some hF
                    refine iast' (n := 244) (f := (o72 3)) (ws' := (mW cy am (va_up o72 3 (upd (o72 3) (((4 * ((m0 0) 15)) + 2).toNatClampNeg) r71)))) hx hb hK hP hD hS (gM (am := am) (r := 3) (m := o72) (f := (o72 3)) (by decide) rfl) (t0 := 0) rfl (vp_inb h74) dX10_order_248 (sM (am := am) (r := 3) (m := o72) (g := (upd (o72 3) (((4 * ((m0 0) 15)) + 2).toNatClampNeg) r71)) (by decide)) (fun H locs hP hD hS => ?_)
                    refine lv_aload_n hx hb dX10_order_249 rfl (lv_at hl 3 rfl) ?_
                    refine get' (ci := 12) (fs := mF am (o72 0)) (v := .ref (am 3)) hx hb hw inWX10 hown hK hP (gM (am := am) (r := 0) (m := (va_up o72 3 (upd (o72 3) (((4 * ((m0 0) 15)) + 2).toNatClampNeg) r71))) (f := (o72 0)) (by decide) ((va_up_ne _ _ (by decide)).trans rfl)) rfl 14 (by decide) k_1584 rfl rfl dX10_order_250 ?_
                    refine lv_iload_n hx hb dX10_order_253 rfl (lv_at hl 2 rfl) ?_
                    refine lv_iconst (v := 3) hx hb dX10_order_254 (by decide) ?_
                    refine lv_iadd hx hb dX10_order_255 ?_
                    refine lv_aload_n hx hb dX10_order_256 rfl (lv_at hl 3 rfl) ?_
                    refine lv_bipush (v := 61) hx hb dX10_order_257 (by decide) ?_
                    refine lv_iconst (v := 2) hx hb dX10_order_259 (by decide) ?_
                    obtain ⟨⟨r75, o76⟩, hc77, hF⟩ := bind_some hF
                    try dsimp only at hF
                    refine cV_i (As := [.int 61, .int 2]) (rest := [.int ((4 * ((m0 0) 15)) + 3), .ref (am 3)]) hx hb hml hown hw hK hN hA hl.1 hP hD hS k_1912 k_1914 k_69 k_90 k_1915 (met_X10_behind l D cy _ am (va_up o72 3 (upd (o72 3) (((4 * ((m0 0) 15)) + 2).toNatClampNeg) r71)) 61 2 r75 o76 hc77) (fun _ _ _ => trivial) Xok_T (gM (am := am) (r := 0) (m := (va_up o72 3 (upd (o72 3) (((4 * ((m0 0) 15)) + 2).toNatClampNeg) r71))) (f := (o72 0)) (by decide) ((va_up_ne _ _ (by decide)).trans rfl)) rfl ⟨rfl, rfl⟩ (n := 2) (by decide +kernel) rfl ⟨Nat.le_of_ble_eq_true rfl, Nat.le_of_ble_eq_true rfl⟩ ⟨Nat.le_of_ble_eq_true rfl, Nat.le_of_ble_eq_true rfl⟩ (Nat.le_of_ble_eq_true rfl) rfl dX10_order_260 (fun H locs hP hD hS => ?_)
                    obtain ⟨h78, hF⟩ := ite_some hF
                    refine iast' (n := 244) (f := (o76 3)) (ws' := (mW cy am (va_up o76 3 (upd (o76 3) (((4 * ((m0 0) 15)) + 3).toNatClampNeg) r75)))) hx hb hK hP hD hS (gM (am := am) (r := 3) (m := o76) (f := (o76 3)) (by decide) rfl) (t0 := 0) rfl (vp_inb h78) dX10_order_263 (sM (am := am) (r := 3) (m := o76) (g := (upd (o76 3) (((4 * ((m0 0) 15)) + 3).toNatClampNeg) r75)) (by decide)) (fun H locs hP hD hS => ?_)
                    refine lv_goto (tgt := 267) hx hb dX10_order_264 (by decide) ?_
                    cases hF
                    exact hret _ _ _ _ _ hP hD hS rfl dX10_order_267
                  · replace hF := (if_neg h70).symm.trans hF
                    by_cases h79 : r1 = 116
                    · replace hF := (if_pos h79).symm.trans hF
                      refine lv_lookup (tgt := 216) (off := 98) hx hb dX10_order_118 (by decide) (by rw [h79]; decide) (by decide) ?_
                      refine lv_aload_n hx hb dX10_order_216 rfl (lv_at hl 3 rfl) ?_
                      refine get' (ci := 12) (fs := mF am (o53 0)) (v := .ref (am 3)) hx hb hw inWX10 hown hK hP (gM (am := am) (r := 0) (m := (va_up o53 3 (upd (o53 3) (((4 * ((m0 0) 15)) + 1).toNatClampNeg) r52))) (f := (o53 0)) (by decide) ((va_up_ne _ _ (by decide)).trans rfl)) rfl 14 (by decide) k_1584 rfl rfl dX10_order_217 ?_
                      refine lv_iload_n hx hb dX10_order_220 rfl (lv_at hl 2 rfl) ?_
                      refine lv_iconst (v := 2) hx hb dX10_order_221 (by decide) ?_
                      refine lv_iadd hx hb dX10_order_222 ?_
                      refine lv_aload_n hx hb dX10_order_223 rfl (lv_at hl 3 rfl) ?_
                      refine lv_bipush (v := 62) hx hb dX10_order_224 (by decide) ?_
                      refine lv_iconst (v := 1) hx hb dX10_order_226 (by decide) ?_
                      obtain ⟨⟨r80, o81⟩, hc82, hF⟩ := bind_some hF
                      try dsimp only at hF
                      refine cV_i (As := [.int 62, .int 1]) (rest := [.int ((4 * ((m0 0) 15)) + 2), .ref (am 3)]) hx hb hml hown hw hK hN hA hl.1 hP hD hS k_1912 k_1914 k_69 k_90 k_1915 (met_X10_behind l D cy _ am (va_up o53 3 (upd (o53 3) (((4 * ((m0 0) 15)) + 1).toNatClampNeg) r52)) 62 1 r80 o81 hc82) (fun _ _ _ => trivial) Xok_T (gM (am := am) (r := 0) (m := (va_up o53 3 (upd (o53 3) (((4 * ((m0 0) 15)) + 1).toNatClampNeg) r52))) (f := (o53 0)) (by decide) ((va_up_ne _ _ (by decide)).trans rfl)) rfl ⟨rfl, rfl⟩ (n := 2) (by decide +kernel) rfl ⟨Nat.le_of_ble_eq_true rfl, Nat.le_of_ble_eq_true rfl⟩ ⟨Nat.le_of_ble_eq_true rfl, Nat.le_of_ble_eq_true rfl⟩ (Nat.le_of_ble_eq_true rfl) rfl dX10_order_227 (fun H locs hP hD hS => ?_)
                      obtain ⟨h83, hF⟩ := ite_some hF
                      refine iast' (n := 244) (f := (o81 3)) (ws' := (mW cy am (va_up o81 3 (upd (o81 3) (((4 * ((m0 0) 15)) + 2).toNatClampNeg) r80)))) hx hb hK hP hD hS (gM (am := am) (r := 3) (m := o81) (f := (o81 3)) (by decide) rfl) (t0 := 0) rfl (vp_inb h83) dX10_order_230 (sM (am := am) (r := 3) (m := o81) (g := (upd (o81 3) (((4 * ((m0 0) 15)) + 2).toNatClampNeg) r80)) (by decide)) (fun H locs hP hD hS => ?_)
                      refine lv_goto (tgt := 267) hx hb dX10_order_231 (by decide) ?_
                      cases hF
                      exact hret _ _ _ _ _ hP hD hS rfl dX10_order_267
                    · replace hF := (if_neg h79).symm.trans hF
                      by_cases h84 : r1 = 118
                      · replace hF := (if_pos h84).symm.trans hF
                        refine lv_lookup (tgt := 201) (off := 83) hx hb dX10_order_118 (by decide) (by rw [h84]; decide) (by decide) ?_
                        refine lv_aload_n hx hb dX10_order_201 rfl (lv_at hl 3 rfl) ?_
                        refine get' (ci := 12) (fs := mF am (o53 0)) (v := .ref (am 3)) hx hb hw inWX10 hown hK hP (gM (am := am) (r := 0) (m := (va_up o53 3 (upd (o53 3) (((4 * ((m0 0) 15)) + 1).toNatClampNeg) r52))) (f := (o53 0)) (by decide) ((va_up_ne _ _ (by decide)).trans rfl)) rfl 14 (by decide) k_1584 rfl rfl dX10_order_202 ?_
                        refine lv_iload_n hx hb dX10_order_205 rfl (lv_at hl 2 rfl) ?_
                        refine lv_iconst (v := 2) hx hb dX10_order_206 (by decide) ?_
                        refine lv_iadd hx hb dX10_order_207 ?_
                        refine lv_aload_n hx hb dX10_order_208 rfl (lv_at hl 3 rfl) ?_
                        obtain ⟨⟨r85, o86⟩, hc87, hF⟩ := bind_some hF
                        try dsimp only at hF
                        refine cV_i (As := []) (rest := [.int ((4 * ((m0 0) 15)) + 2), .ref (am 3)]) hx hb hml hown hw hK hN hA hl.1 hP hD hS k_1916 k_1918 k_70 k_90 k_1919 (met_X10_vineOwner l D cy _ am (va_up o53 3 (upd (o53 3) (((4 * ((m0 0) 15)) + 1).toNatClampNeg) r52)) r85 o86 hc87) (fun _ _ _ => trivial) Xok_T (gM (am := am) (r := 0) (m := (va_up o53 3 (upd (o53 3) (((4 * ((m0 0) 15)) + 1).toNatClampNeg) r52))) (f := (o53 0)) (by decide) ((va_up_ne _ _ (by decide)).trans rfl)) rfl ⟨rfl, rfl⟩ (n := 0) (by decide +kernel) rfl ⟨Nat.le_of_ble_eq_true rfl, Nat.le_of_ble_eq_true rfl⟩ ⟨Nat.le_of_ble_eq_true rfl, Nat.le_of_ble_eq_true rfl⟩ (Nat.le_of_ble_eq_true rfl) rfl dX10_order_209 (fun H locs hP hD hS => ?_)
                        obtain ⟨h88, hF⟩ := ite_some hF
                        refine iast' (n := 244) (f := (o86 3)) (ws' := (mW cy am (va_up o86 3 (upd (o86 3) (((4 * ((m0 0) 15)) + 2).toNatClampNeg) r85)))) hx hb hK hP hD hS (gM (am := am) (r := 3) (m := o86) (f := (o86 3)) (by decide) rfl) (t0 := 0) rfl (vp_inb h88) dX10_order_212 (sM (am := am) (r := 3) (m := o86) (g := (upd (o86 3) (((4 * ((m0 0) 15)) + 2).toNatClampNeg) r85)) (by decide)) (fun H locs hP hD hS => ?_)
                        refine lv_goto (tgt := 267) hx hb dX10_order_213 (by decide) ?_
                        cases hF
                        exact hret _ _ _ _ _ hP hD hS rfl dX10_order_267
                      · replace hF := (if_neg h84).symm.trans hF
                        refine lv_lookup (tgt := 267) (off := 149) hx hb dX10_order_118 (by decide) ((lv_osw h56 (show (99 : Int32).toInt = 99 by decide)).trans ((lv_osw h65 (show (112 : Int32).toInt = 112 by decide)).trans ((lv_osw h70 (show (115 : Int32).toInt = 115 by decide)).trans ((lv_osw h79 (show (116 : Int32).toInt = 116 by decide)).trans ((lv_osw h84 (show (118 : Int32).toInt = 118 by decide)).trans rfl))))) (by decide) ?_
                        cases hF
                        exact hret _ _ _ _ _ hP hD hS rfl dX10_order_267
          · replace hF := (if_pos h13).symm.trans hF
            cases hF
            exact hret _ _ _ _ _ hP hD hS rfl dX10_order_88
        · replace hF := (if_pos h8).symm.trans hF
          refine lv_aload_n hx hb dX10_order_51 rfl (lv_at hl 3 rfl) ?_
          refine lv_aload_n hx hb dX10_order_52 rfl (lv_at hl 3 rfl) ?_
          refine get' (ci := 12) (fs := mF am (s24 0)) (v := .int ((s24 0) 11)) hx hb hw inWX10 hown hK hP (gM (am := am) (r := 0) (m := s24) (f := (s24 0)) (by decide) rfl) rfl 11 (by decide) k_1581 rfl rfl dX10_order_53 ?_
          refine put' (ci := 12) (fs := mF am (s24 0)) (v := .int ((s24 0) 11)) (ty := .int) (ws' := (mW cy am (va_up s24 0 (upd (s24 0) 12 ((s24 0) 11))))) hx hb hw inWX10 tyX10 tyX10_ok nmX10 hown hK hP hD hS (gM (am := am) (r := 0) (m := s24) (f := (s24 0)) (by decide) rfl) rfl 12 (by decide) k_1582 rfl rfl (by decide +kernel) rfl rfl (Nat.le_of_ble_eq_true rfl) dX10_order_56 (sM (am := am) (r := 0) (m := s24) (g := (upd (s24 0) 12 ((s24 0) 11))) (by decide)) (fun H locs hP hD hS => ?_)
          cases hF
          exact hret _ _ _ _ _ hP hD hS rfl dX10_order_59
      · replace hF := (if_neg h4).symm.trans hF
        refine lv_aload_n hx hb dX10_order_29 rfl (lv_at hl 3 rfl) ?_
        refine get' (ci := 12) (fs := mF am (s24 0)) (v := .ref (am 3)) hx hb hw inWX10 hown hK hP (gM (am := am) (r := 0) (m := s24) (f := (s24 0)) (by decide) rfl) rfl 14 (by decide) k_1584 rfl rfl dX10_order_30 ?_
        refine lv_iload_n hx hb dX10_order_33 rfl (lv_at hl 2 rfl) ?_
        refine lv_iload_n hx hb dX10_order_34 rfl (lv_at hl 0 rfl) ?_
        refine lv_iadd hx hb dX10_order_35 ?_
        refine lv_iconst (v := 0) hx hb dX10_order_36 (by decide) ?_
        obtain ⟨h89, hF⟩ := ite_some hF
        refine iast' (n := 244) (f := (s24 3)) (ws' := (mW cy am (va_up s24 3 (upd (s24 3) (((4 * ((m0 0) 15)) + i3h24).toNatClampNeg) 0)))) hx hb hK hP hD hS (gM (am := am) (r := 3) (m := s24) (f := (s24 3)) (by decide) rfl) (t0 := 0) rfl (vp_inb h89) dX10_order_37 (sM (am := am) (r := 3) (m := s24) (g := (upd (s24 3) (((4 * ((m0 0) 15)) + i3h24).toNatClampNeg) 0)) (by decide)) (fun H locs hP hD hS => ?_)
        refine lv_iinc (v := (i3h24 + 1)) (lv' := [(3, .int (i3h24 + 1)), (2, .int r1), (1, .int (4 * ((m0 0) 15))), (0, .ref (am 0))]) hx hb dX10_order_38 hl (k := 0) rfl rfl (by decide) rfl (fun ls hl => ?_)
        refine lv_goto (tgt := 24) hx hb dX10_order_41 (by decide) ?_
        exact ih24 (i3h24 + 1) (va_up s24 3 (upd (s24 3) (((4 * ((m0 0) 15)) + i3h24).toNatClampNeg) 0)) _ _ _ hF hP hD hS (lv_sub hl [0, 1, 2, 3] rfl)
  exact loop24 200 0 (va_up m0 0 (upd (m0 0) 15 (((m0 0) 15) + 1))) _ _ _ hF hP hD hS (lv_sub hl [0, 1, 2, 3] rfl)
def D_X10_does (m0 : Nat → Nat → Int32) (p1 : Int32) : Option (Int32 × (Nat → Nat → Int32)) := if inb (p1 + 1) 244 then (if inb (p1 + 2) 244 then (if inb (p1 + 3) 244 then (if inb p1 244 then (if ((m0 3) p1.toNatClampNeg) = 99 then ((D_X10_comes m0 ((m0 3) (p1 + 1).toNatClampNeg) ((m0 3) (p1 + 2).toNatClampNeg) ((m0 3) (p1 + 3).toNatClampNeg)).bind (fun (r6, o7) => if is01 r6 then (some (r6, o7)) else none)) else (if ((m0 3) p1.toNatClampNeg) = 104 then ((D_X10_hails m0 ((m0 3) (p1 + 1).toNatClampNeg)).bind (fun (r11, o12) => if is01 r11 then (some (r11, o12)) else none)) else (if ((m0 3) p1.toNatClampNeg) = 112 then ((D_X10_pledges m0 ((m0 3) (p1 + 1).toNatClampNeg) ((m0 3) (p1 + 2).toNatClampNeg)).bind (fun (r16, o17) => if is01 r16 then (some (r16, o17)) else none)) else (if ((m0 3) p1.toNatClampNeg) = 114 then ((D_X10_redeems m0 ((m0 3) (p1 + 1).toNatClampNeg)).bind (fun (r21, o22) => if is01 r21 then (some (r21, o22)) else none)) else (if ((m0 3) p1.toNatClampNeg) = 115 then ((D_X10_sells m0 ((m0 3) (p1 + 1).toNatClampNeg) ((m0 3) (p1 + 2).toNatClampNeg) ((m0 3) (p1 + 3).toNatClampNeg)).bind (fun (r26, o27) => if is01 r26 then (some (r26, o27)) else none)) else (if ((m0 3) p1.toNatClampNeg) = 116 then ((D_X10_entitles m0 ((m0 3) (p1 + 1).toNatClampNeg) ((m0 3) (p1 + 2).toNatClampNeg)).bind (fun (r31, o32) => if is01 r31 then (some (r31, o32)) else none)) else (if ((m0 3) p1.toNatClampNeg) = 118 then ((D_X10_belongs m0 ((m0 3) (p1 + 1).toNatClampNeg) ((m0 3) (p1 + 2).toNatClampNeg)).bind (fun (r36, o37) => if is01 r36 then (some (r36, o37)) else none)) else (if ((m0 3) p1.toNatClampNeg) = 119 then ((D_X10_blows m0 ((m0 3) (p1 + 1).toNatClampNeg)).bind (fun (r41, o42) => if is01 r41 then (some (r41, o42)) else none)) else ((D_X10_dawns m0).bind (fun (r45, o46) => some (1, o46))))))))))) else none) else none) else none) else none
abbrev rm_X10_does : Room := { frames := 4, cells := 0, slots := 0, locals := 90 }
set_option maxHeartbeats 4000000 in
set_option maxRecDepth 100000 in
theorem met_X10_does (l : Launch) (D : va_G) (cy : Nat → ClassId) (sz : Nat) (am : Nat → Nat) (m0 : Nat → Nat → Int32) (p1 : Int32)  (r : Int32) (t' : Nat → Nat → Int32) (hF : D_X10_does m0 p1 = some (r, t')) : MI l yX10_does cX10_does 6 (some .boolean) rm_X10_does D cy (mW cy am m0) sz (fun _ => True) [.ref (am 0), .int p1] r (mW cy am t') := by
  refine MZ.of (by decide +kernel) (Nat.le_of_ble_eq_true rfl) ?_
  intro p e s m args below meth c A ls Q hAt _ hP hD hA hS hl hret
  obtain ⟨hx, hb, hr, hml, hown, hw, hlk, hK, hN⟩ := hAt
  have hown : s.vm.findClass "CloudDeedsModel" = some m.cls := hown
  have hl : lv_has ls 6 [(0, .ref (am 0)), (1, .int p1)] := hl
  refine lv_aload_n hx hb dX10_does_0 rfl (lv_at hl 0 rfl) ?_
  refine get' (ci := 12) (fs := mF am (m0 0)) (v := .ref (am 3)) hx hb hw inWX10 hown hK hP (gM (am := am) (r := 0) (m := m0) (f := (m0 0)) (by decide) rfl) rfl 14 (by decide) k_1584 rfl rfl dX10_does_1 ?_
  refine lv_iload_n hx hb dX10_does_4 rfl (lv_at hl 1 rfl) ?_
  refine lv_iconst (v := 1) hx hb dX10_does_5 (by decide) ?_
  refine lv_iadd hx hb dX10_does_6 ?_
  obtain ⟨h1, hF⟩ := ite_some hF
  refine va_iald (n := 244) (f := (m0 3)) hx hb hK hP _ 0 (gM (am := am) (r := 3) (m := m0) (f := (m0 3)) (by decide) rfl) rfl (vp_inb h1) dX10_does_7 ?_
  refine lv_istore_n (lv' := [(2, .int ((m0 3) (p1 + 1).toNatClampNeg)), (0, .ref (am 0)), (1, .int p1)]) hx hb dX10_does_8 rfl hl (by decide) rfl (fun ls hl => ?_)
  refine lv_aload_n hx hb dX10_does_9 rfl (lv_at hl 1 rfl) ?_
  refine get' (ci := 12) (fs := mF am (m0 0)) (v := .ref (am 3)) hx hb hw inWX10 hown hK hP (gM (am := am) (r := 0) (m := m0) (f := (m0 0)) (by decide) rfl) rfl 14 (by decide) k_1584 rfl rfl dX10_does_10 ?_
  refine lv_iload_n hx hb dX10_does_13 rfl (lv_at hl 2 rfl) ?_
  refine lv_iconst (v := 2) hx hb dX10_does_14 (by decide) ?_
  refine lv_iadd hx hb dX10_does_15 ?_
  obtain ⟨h2, hF⟩ := ite_some hF
  refine va_iald (n := 244) (f := (m0 3)) hx hb hK hP _ 0 (gM (am := am) (r := 3) (m := m0) (f := (m0 3)) (by decide) rfl) rfl (vp_inb h2) dX10_does_16 ?_
  refine lv_istore_n (lv' := [(3, .int ((m0 3) (p1 + 2).toNatClampNeg)), (2, .int ((m0 3) (p1 + 1).toNatClampNeg)), (0, .ref (am 0)), (1, .int p1)]) hx hb dX10_does_17 rfl hl (by decide) rfl (fun ls hl => ?_)
  refine lv_aload_n hx hb dX10_does_18 rfl (lv_at hl 2 rfl) ?_
  refine get' (ci := 12) (fs := mF am (m0 0)) (v := .ref (am 3)) hx hb hw inWX10 hown hK hP (gM (am := am) (r := 0) (m := m0) (f := (m0 0)) (by decide) rfl) rfl 14 (by decide) k_1584 rfl rfl dX10_does_19 ?_
  refine lv_iload_n hx hb dX10_does_22 rfl (lv_at hl 3 rfl) ?_
  refine lv_iconst (v := 3) hx hb dX10_does_23 (by decide) ?_
  refine lv_iadd hx hb dX10_does_24 ?_
  obtain ⟨h3, hF⟩ := ite_some hF
  refine va_iald (n := 244) (f := (m0 3)) hx hb hK hP _ 0 (gM (am := am) (r := 3) (m := m0) (f := (m0 3)) (by decide) rfl) rfl (vp_inb h3) dX10_does_25 ?_
  refine lv_istore (lv' := [(4, .int ((m0 3) (p1 + 3).toNatClampNeg)), (3, .int ((m0 3) (p1 + 2).toNatClampNeg)), (2, .int ((m0 3) (p1 + 1).toNatClampNeg)), (0, .ref (am 0)), (1, .int p1)]) hx hb dX10_does_26 hl (by decide) rfl (fun ls hl => ?_)
  refine lv_aload_n hx hb dX10_does_28 rfl (lv_at hl 3 rfl) ?_
  refine get' (ci := 12) (fs := mF am (m0 0)) (v := .ref (am 3)) hx hb hw inWX10 hown hK hP (gM (am := am) (r := 0) (m := m0) (f := (m0 0)) (by decide) rfl) rfl 14 (by decide) k_1584 rfl rfl dX10_does_29 ?_
  refine lv_iload_n hx hb dX10_does_32 rfl (lv_at hl 4 rfl) ?_
  obtain ⟨h4, hF⟩ := ite_some hF
  refine va_iald (n := 244) (f := (m0 3)) hx hb hK hP _ 0 (gM (am := am) (r := 3) (m := m0) (f := (m0 3)) (by decide) rfl) rfl (vp_inb h4) dX10_does_33 ?_
  by_cases h5 : ((m0 3) p1.toNatClampNeg) = 99
  · replace hF := (if_pos h5).symm.trans hF
    refine lv_tableIn (tgt := 132) (off := 98) hx hb dX10_does_34 (by rw [h5]; decide) (by rw [h5]; decide) (by rw [h5]; decide) (by decide) ?_
    refine lv_aload_n hx hb dX10_does_132 rfl (lv_at hl 3 rfl) ?_
    refine lv_iload_n hx hb dX10_does_133 rfl (lv_at hl 2 rfl) ?_
    refine lv_iload_n hx hb dX10_does_134 rfl (lv_at hl 1 rfl) ?_
    refine lv_iload hx hb dX10_does_135 (lv_at hl 0 rfl) ?_
    obtain ⟨⟨r6, o7⟩, hc8, hF⟩ := bind_some hF
    try dsimp only at hF
    refine cV_i (As := [.int ((m0 3) (p1 + 1).toNatClampNeg), .int ((m0 3) (p1 + 2).toNatClampNeg), .int ((m0 3) (p1 + 3).toNatClampNeg)]) (rest := []) hx hb hml hown hw hK hN hA hl.1 hP hD hS k_1649 k_1651 k_31 k_90 k_1652 (met_X10_comes l D cy _ am m0 ((m0 3) (p1 + 1).toNatClampNeg) ((m0 3) (p1 + 2).toNatClampNeg) ((m0 3) (p1 + 3).toNatClampNeg) r6 o7 hc8) (fun _ _ _ => trivial) Xok_T (gM (am := am) (r := 0) (m := m0) (f := (m0 0)) (by decide) rfl) rfl ⟨rfl, rfl⟩ (n := 3) (by decide +kernel) rfl ⟨Nat.le_of_ble_eq_true rfl, Nat.le_of_ble_eq_true rfl⟩ ⟨Nat.le_of_ble_eq_true rfl, Nat.le_of_ble_eq_true rfl⟩ (Nat.le_of_ble_eq_true rfl) rfl dX10_does_137 (fun H locs hP hD hS => ?_)
    obtain ⟨hg9, hF⟩ := ite_some hF
    cases hF
    exact hret _ _ _ _ _ _ hP hD hS rfl rfl (nar_z (is01_iff.mp hg9)) dX10_does_140
  · replace hF := (if_neg h5).symm.trans hF
    by_cases h10 : ((m0 3) p1.toNatClampNeg) = 104
    · replace hF := (if_pos h10).symm.trans hF
      refine lv_tableIn (tgt := 183) (off := 149) hx hb dX10_does_34 (by rw [h10]; decide) (by rw [h10]; decide) (by rw [h10]; decide) (by decide) ?_
      refine lv_aload_n hx hb dX10_does_183 rfl (lv_at hl 3 rfl) ?_
      refine lv_iload_n hx hb dX10_does_184 rfl (lv_at hl 2 rfl) ?_
      obtain ⟨⟨r11, o12⟩, hc13, hF⟩ := bind_some hF
      try dsimp only at hF
      refine cV_i (As := [.int ((m0 3) (p1 + 1).toNatClampNeg)]) (rest := []) hx hb hml hown hw hK hN hA hl.1 hP hD hS k_1778 k_1780 k_54 k_90 k_1781 (met_X10_hails l D cy _ am m0 ((m0 3) (p1 + 1).toNatClampNeg) r11 o12 hc13) (fun _ _ _ => trivial) Xok_T (gM (am := am) (r := 0) (m := m0) (f := (m0 0)) (by decide) rfl) rfl ⟨rfl, rfl⟩ (n := 1) (by decide +kernel) rfl ⟨Nat.le_of_ble_eq_true rfl, Nat.le_of_ble_eq_true rfl⟩ ⟨Nat.le_of_ble_eq_true rfl, Nat.le_of_ble_eq_true rfl⟩ (Nat.le_of_ble_eq_true rfl) rfl dX10_does_185 (fun H locs hP hD hS => ?_)
      obtain ⟨hg14, hF⟩ := ite_some hF
      cases hF
      exact hret _ _ _ _ _ _ hP hD hS rfl rfl (nar_z (is01_iff.mp hg14)) dX10_does_188
    · replace hF := (if_neg h10).symm.trans hF
      by_cases h15 : ((m0 3) p1.toNatClampNeg) = 112
      · replace hF := (if_pos h15).symm.trans hF
        refine lv_tableIn (tgt := 164) (off := 130) hx hb dX10_does_34 (by rw [h15]; decide) (by rw [h15]; decide) (by rw [h15]; decide) (by decide) ?_
        refine lv_aload_n hx hb dX10_does_164 rfl (lv_at hl 3 rfl) ?_
        refine lv_iload_n hx hb dX10_does_165 rfl (lv_at hl 2 rfl) ?_
        refine lv_iload_n hx hb dX10_does_166 rfl (lv_at hl 1 rfl) ?_
        obtain ⟨⟨r16, o17⟩, hc18, hF⟩ := bind_some hF
        try dsimp only at hF
        refine cV_i (As := [.int ((m0 3) (p1 + 1).toNatClampNeg), .int ((m0 3) (p1 + 2).toNatClampNeg)]) (rest := []) hx hb hml hown hw hK hN hA hl.1 hP hD hS k_1738 k_1740 k_47 k_90 k_1741 (met_X10_pledges l D cy _ am m0 ((m0 3) (p1 + 1).toNatClampNeg) ((m0 3) (p1 + 2).toNatClampNeg) r16 o17 hc18) (fun _ _ _ => trivial) Xok_T (gM (am := am) (r := 0) (m := m0) (f := (m0 0)) (by decide) rfl) rfl ⟨rfl, rfl⟩ (n := 2) (by decide +kernel) rfl ⟨Nat.le_of_ble_eq_true rfl, Nat.le_of_ble_eq_true rfl⟩ ⟨Nat.le_of_ble_eq_true rfl, Nat.le_of_ble_eq_true rfl⟩ (Nat.le_of_ble_eq_true rfl) rfl dX10_does_167 (fun H locs hP hD hS => ?_)
        obtain ⟨hg19, hF⟩ := ite_some hF
        cases hF
        exact hret _ _ _ _ _ _ hP hD hS rfl rfl (nar_z (is01_iff.mp hg19)) dX10_does_170
      · replace hF := (if_neg h15).symm.trans hF
        by_cases h20 : ((m0 3) p1.toNatClampNeg) = 114
        · replace hF := (if_pos h20).symm.trans hF
          refine lv_tableIn (tgt := 171) (off := 137) hx hb dX10_does_34 (by rw [h20]; decide) (by rw [h20]; decide) (by rw [h20]; decide) (by decide) ?_
          refine lv_aload_n hx hb dX10_does_171 rfl (lv_at hl 3 rfl) ?_
          refine lv_iload_n hx hb dX10_does_172 rfl (lv_at hl 2 rfl) ?_
          obtain ⟨⟨r21, o22⟩, hc23, hF⟩ := bind_some hF
          try dsimp only at hF
          refine cV_i (As := [.int ((m0 3) (p1 + 1).toNatClampNeg)]) (rest := []) hx hb hml hown hw hK hN hA hl.1 hP hD hS k_1746 k_1748 k_48 k_90 k_1749 (met_X10_redeems l D cy _ am m0 ((m0 3) (p1 + 1).toNatClampNeg) r21 o22 hc23) (fun _ _ _ => trivial) Xok_T (gM (am := am) (r := 0) (m := m0) (f := (m0 0)) (by decide) rfl) rfl ⟨rfl, rfl⟩ (n := 1) (by decide +kernel) rfl ⟨Nat.le_of_ble_eq_true rfl, Nat.le_of_ble_eq_true rfl⟩ ⟨Nat.le_of_ble_eq_true rfl, Nat.le_of_ble_eq_true rfl⟩ (Nat.le_of_ble_eq_true rfl) rfl dX10_does_173 (fun H locs hP hD hS => ?_)
          obtain ⟨hg24, hF⟩ := ite_some hF
          cases hF
          exact hret _ _ _ _ _ _ hP hD hS rfl rfl (nar_z (is01_iff.mp hg24)) dX10_does_176
        · replace hF := (if_neg h20).symm.trans hF
          by_cases h25 : ((m0 3) p1.toNatClampNeg) = 115
          · replace hF := (if_pos h25).symm.trans hF
            refine lv_tableIn (tgt := 155) (off := 121) hx hb dX10_does_34 (by rw [h25]; decide) (by rw [h25]; decide) (by rw [h25]; decide) (by decide) ?_
            refine lv_aload_n hx hb dX10_does_155 rfl (lv_at hl 3 rfl) ?_
            refine lv_iload_n hx hb dX10_does_156 rfl (lv_at hl 2 rfl) ?_
            refine lv_iload_n hx hb dX10_does_157 rfl (lv_at hl 1 rfl) ?_
            refine lv_iload hx hb dX10_does_158 (lv_at hl 0 rfl) ?_
            obtain ⟨⟨r26, o27⟩, hc28, hF⟩ := bind_some hF
            try dsimp only at hF
            refine cV_i (As := [.int ((m0 3) (p1 + 1).toNatClampNeg), .int ((m0 3) (p1 + 2).toNatClampNeg), .int ((m0 3) (p1 + 3).toNatClampNeg)]) (rest := []) hx hb hml hown hw hK hN hA hl.1 hP hD hS k_1722 k_1724 k_44 k_90 k_1725 (met_X10_sells l D cy _ am m0 ((m0 3) (p1 + 1).toNatClampNeg) ((m0 3) (p1 + 2).toNatClampNeg) ((m0 3) (p1 + 3).toNatClampNeg) r26 o27 hc28) (fun _ _ _ => trivial) Xok_T (gM (am := am) (r := 0) (m := m0) (f := (m0 0)) (by decide) rfl) rfl ⟨rfl, rfl⟩ (n := 3) (by decide +kernel) rfl ⟨Nat.le_of_ble_eq_true rfl, Nat.le_of_ble_eq_true rfl⟩ ⟨Nat.le_of_ble_eq_true rfl, Nat.le_of_ble_eq_true rfl⟩ (Nat.le_of_ble_eq_true rfl) rfl dX10_does_160 (fun H locs hP hD hS => ?_)
            obtain ⟨hg29, hF⟩ := ite_some hF
            cases hF
            exact hret _ _ _ _ _ _ hP hD hS rfl rfl (nar_z (is01_iff.mp hg29)) dX10_does_163
          · replace hF := (if_neg h25).symm.trans hF
            by_cases h30 : ((m0 3) p1.toNatClampNeg) = 116
            · replace hF := (if_pos h30).symm.trans hF
              refine lv_tableIn (tgt := 148) (off := 114) hx hb dX10_does_34 (by rw [h30]; decide) (by rw [h30]; decide) (by rw [h30]; decide) (by decide) ?_
              refine lv_aload_n hx hb dX10_does_148 rfl (lv_at hl 3 rfl) ?_
              refine lv_iload_n hx hb dX10_does_149 rfl (lv_at hl 2 rfl) ?_
              refine lv_iload_n hx hb dX10_does_150 rfl (lv_at hl 1 rfl) ?_
              obtain ⟨⟨r31, o32⟩, hc33, hF⟩ := bind_some hF
              try dsimp only at hF
              refine cV_i (As := [.int ((m0 3) (p1 + 1).toNatClampNeg), .int ((m0 3) (p1 + 2).toNatClampNeg)]) (rest := []) hx hb hml hown hw hK hN hA hl.1 hP hD hS k_1687 k_1689 k_37 k_90 k_1690 (met_X10_entitles l D cy _ am m0 ((m0 3) (p1 + 1).toNatClampNeg) ((m0 3) (p1 + 2).toNatClampNeg) r31 o32 hc33) (fun _ _ _ => trivial) Xok_T (gM (am := am) (r := 0) (m := m0) (f := (m0 0)) (by decide) rfl) rfl ⟨rfl, rfl⟩ (n := 2) (by decide +kernel) rfl ⟨Nat.le_of_ble_eq_true rfl, Nat.le_of_ble_eq_true rfl⟩ ⟨Nat.le_of_ble_eq_true rfl, Nat.le_of_ble_eq_true rfl⟩ (Nat.le_of_ble_eq_true rfl) rfl dX10_does_151 (fun H locs hP hD hS => ?_)
              obtain ⟨hg34, hF⟩ := ite_some hF
              cases hF
              exact hret _ _ _ _ _ _ hP hD hS rfl rfl (nar_z (is01_iff.mp hg34)) dX10_does_154
            · replace hF := (if_neg h30).symm.trans hF
              by_cases h35 : ((m0 3) p1.toNatClampNeg) = 118
              · replace hF := (if_pos h35).symm.trans hF
                refine lv_tableIn (tgt := 141) (off := 107) hx hb dX10_does_34 (by rw [h35]; decide) (by rw [h35]; decide) (by rw [h35]; decide) (by decide) ?_
                refine lv_aload_n hx hb dX10_does_141 rfl (lv_at hl 3 rfl) ?_
                refine lv_iload_n hx hb dX10_does_142 rfl (lv_at hl 2 rfl) ?_
                refine lv_iload_n hx hb dX10_does_143 rfl (lv_at hl 1 rfl) ?_
                obtain ⟨⟨r36, o37⟩, hc38, hF⟩ := bind_some hF
                try dsimp only at hF
                refine cV_i (As := [.int ((m0 3) (p1 + 1).toNatClampNeg), .int ((m0 3) (p1 + 2).toNatClampNeg)]) (rest := []) hx hb hml hown hw hK hN hA hl.1 hP hD hS k_1675 k_1677 k_35 k_90 k_1678 (met_X10_belongs l D cy _ am m0 ((m0 3) (p1 + 1).toNatClampNeg) ((m0 3) (p1 + 2).toNatClampNeg) r36 o37 hc38) (fun _ _ _ => trivial) Xok_T (gM (am := am) (r := 0) (m := m0) (f := (m0 0)) (by decide) rfl) rfl ⟨rfl, rfl⟩ (n := 2) (by decide +kernel) rfl ⟨Nat.le_of_ble_eq_true rfl, Nat.le_of_ble_eq_true rfl⟩ ⟨Nat.le_of_ble_eq_true rfl, Nat.le_of_ble_eq_true rfl⟩ (Nat.le_of_ble_eq_true rfl) rfl dX10_does_144 (fun H locs hP hD hS => ?_)
                obtain ⟨hg39, hF⟩ := ite_some hF
                cases hF
                exact hret _ _ _ _ _ _ hP hD hS rfl rfl (nar_z (is01_iff.mp hg39)) dX10_does_147
              · replace hF := (if_neg h35).symm.trans hF
                by_cases h40 : ((m0 3) p1.toNatClampNeg) = 119
                · replace hF := (if_pos h40).symm.trans hF
                  refine lv_tableIn (tgt := 177) (off := 143) hx hb dX10_does_34 (by rw [h40]; decide) (by rw [h40]; decide) (by rw [h40]; decide) (by decide) ?_
                  refine lv_aload_n hx hb dX10_does_177 rfl (lv_at hl 3 rfl) ?_
                  refine lv_iload_n hx hb dX10_does_178 rfl (lv_at hl 2 rfl) ?_
                  obtain ⟨⟨r41, o42⟩, hc43, hF⟩ := bind_some hF
                  try dsimp only at hF
                  refine cV_i (As := [.int ((m0 3) (p1 + 1).toNatClampNeg)]) (rest := []) hx hb hml hown hw hK hN hA hl.1 hP hD hS k_1762 k_1764 k_51 k_90 k_1765 (met_X10_blows l D cy _ am m0 ((m0 3) (p1 + 1).toNatClampNeg) r41 o42 hc43) (fun _ _ _ => trivial) Xok_T (gM (am := am) (r := 0) (m := m0) (f := (m0 0)) (by decide) rfl) rfl ⟨rfl, rfl⟩ (n := 1) (by decide +kernel) rfl ⟨Nat.le_of_ble_eq_true rfl, Nat.le_of_ble_eq_true rfl⟩ ⟨Nat.le_of_ble_eq_true rfl, Nat.le_of_ble_eq_true rfl⟩ (Nat.le_of_ble_eq_true rfl) rfl dX10_does_179 (fun H locs hP hD hS => ?_)
                  obtain ⟨hg44, hF⟩ := ite_some hF
                  cases hF
                  exact hret _ _ _ _ _ _ hP hD hS rfl rfl (nar_z (is01_iff.mp hg44)) dX10_does_182
                · replace hF := (if_neg h40).symm.trans hF
                  refine tableDf (tgt := 189) hx hb dX10_does_34 (fun z hz1 hz2 hz3 => by have eh5 := lv_neT h5 (show (99 : Int32).toInt = 99 by decide); have eh10 := lv_neT h10 (show (104 : Int32).toInt = 104 by decide); have eh15 := lv_neT h15 (show (112 : Int32).toInt = 112 by decide); have eh20 := lv_neT h20 (show (114 : Int32).toInt = 114 by decide); have eh25 := lv_neT h25 (show (115 : Int32).toInt = 115 by decide); have eh30 := lv_neT h30 (show (116 : Int32).toInt = 116 by decide); have eh35 := lv_neT h35 (show (118 : Int32).toInt = 118 by decide); have eh40 := lv_neT h40 (show (119 : Int32).toInt = 119 by decide); rcases (show z = 100 ∨ z = 101 ∨ z = 102 ∨ z = 103 ∨ z = 105 ∨ z = 106 ∨ z = 107 ∨ z = 108 ∨ z = 109 ∨ z = 110 ∨ z = 111 ∨ z = 113 ∨ z = 117 by omega) with rfl | rfl | rfl | rfl | rfl | rfl | rfl | rfl | rfl | rfl | rfl | rfl | rfl <;> rfl) (by decide) ?_
                  refine lv_aload_n hx hb dX10_does_189 rfl (lv_at hl 3 rfl) ?_
                  obtain ⟨⟨r45, o46⟩, hc47, hF⟩ := bind_some hF
                  try dsimp only at hF
                  refine cV_i (As := []) (rest := []) hx hb hml hown hw hK hN hA hl.1 hP hD hS k_1790 k_1792 k_56 k_90 k_1793 (met_X10_dawns l D cy _ am m0 r45 o46 hc47) (fun _ _ _ => trivial) Xok_T (gM (am := am) (r := 0) (m := m0) (f := (m0 0)) (by decide) rfl) rfl ⟨rfl, rfl⟩ (n := 0) (by decide +kernel) rfl ⟨Nat.le_of_ble_eq_true rfl, Nat.le_of_ble_eq_true rfl⟩ ⟨Nat.le_of_ble_eq_true rfl, Nat.le_of_ble_eq_true rfl⟩ (Nat.le_of_ble_eq_true rfl) rfl dX10_does_190 (fun H locs hP hD hS => ?_)
                  refine lv_istore (lv' := [(5, .int r45), (4, .int ((m0 3) (p1 + 3).toNatClampNeg)), (3, .int ((m0 3) (p1 + 2).toNatClampNeg)), (2, .int ((m0 3) (p1 + 1).toNatClampNeg)), (0, .ref (am 0)), (1, .int p1)]) hx hb dX10_does_193 hl (by decide) rfl (fun ls hl => ?_)
                  refine lv_iconst (v := 1) hx hb dX10_does_195 (by decide) ?_
                  cases hF
                  exact hret _ _ _ _ _ _ hP hD hS rfl rfl rfl dX10_does_196
def D_X10_would (m0 : Nat → Nat → Int32) (p1 : Int32) (p2 : Int32) : Option (Int32 × (Nat → Nat → Int32)) := if (D_X10_isOwner p1) = 0 then (some (0, (va_up m0 0 (upd (m0 0) 0 1)))) else (if (D_X10_in p2 (-3) 3) = 0 then (some (0, (va_up m0 0 (upd (m0 0) 0 2)))) else ((D_X10_cloudsBy (va_up m0 0 (upd (m0 0) 0 0)) p1 p2).bind (fun (r11, o12) => some (r11, o12))))
abbrev rm_X10_would : Room := { frames := 5, cells := 0, slots := 0, locals := 111 }
set_option maxHeartbeats 4000000 in
set_option maxRecDepth 100000 in
theorem met_X10_would (l : Launch) (D : va_G) (cy : Nat → ClassId) (sz : Nat) (am : Nat → Nat) (m0 : Nat → Nat → Int32) (p1 : Int32) (p2 : Int32)  (r : Int32) (t' : Nat → Nat → Int32) (hF : D_X10_would m0 p1 p2 = some (r, t')) : MI l yX10_would cX10_would 3 (some .int) rm_X10_would D cy (mW cy am m0) sz (fun _ => True) [.ref (am 0), .int p1, .int p2] r (mW cy am t') := by
  refine MI.of (by decide +kernel) (Nat.le_of_ble_eq_true rfl) ?_
  intro p e s m args below meth c A ls Q hAt _ hP hD hA hS hl hret
  obtain ⟨hx, hb, hr, hml, hown, hw, hlk, hK, hN⟩ := hAt
  have hown : s.vm.findClass "CloudDeedsModel" = some m.cls := hown
  have hl : lv_has ls 3 [(0, .ref (am 0)), (1, .int p1), (2, .int p2)] := hl
  refine lv_aload_n hx hb dX10_would_0 rfl (lv_at hl 0 rfl) ?_
  refine lv_iload_n hx hb dX10_would_1 rfl (lv_at hl 1 rfl) ?_
  refine cS_i (As := [.int p1]) (rest := [.ref (am 0)]) hx hb hml hown hw hK hN hA hl.1 hP hD hS k_1695 k_1696 k_90 k_1697 (met_X10_isOwner l D cy _ (mW cy am m0) p1 (D_X10_isOwner p1) rfl) (fun _ _ _ => trivial) Xok_T ⟨rfl, rfl⟩ (n := 1) (by decide +kernel) rfl ⟨Nat.le_of_ble_eq_true rfl, Nat.le_of_ble_eq_true rfl⟩ ⟨Nat.le_of_ble_eq_true rfl, Nat.le_of_ble_eq_true rfl⟩ (Nat.le_of_ble_eq_true rfl) rfl dX10_would_2 (fun H locs hP hD hS => ?_)
  refine lv_if_ne (tgt := 12) hx hb dX10_would_5 (by decide) (fun h4 => ?_) (fun h4 => ?_)
  · replace hF := (if_neg h4).symm.trans hF
    refine lv_iload_n hx hb dX10_would_12 rfl (lv_at hl 2 rfl) ?_
    refine lv_bipush (v := (-3)) hx hb dX10_would_13 (by decide) ?_
    refine lv_iconst (v := 3) hx hb dX10_would_15 (by decide) ?_
    refine cS_i (As := [.int p2, .int (-3), .int 3]) (rest := [.ref (am 0)]) hx hb hml hown hw hK hN hA hl.1 hP hD hS k_1656 k_1657 k_90 k_1658 (met_X10_in l D cy _ (mW cy am m0) p2 (-3) 3 (D_X10_in p2 (-3) 3) rfl) (fun _ _ _ => trivial) Xok_T ⟨rfl, rfl⟩ (n := 3) (by decide +kernel) rfl ⟨Nat.le_of_ble_eq_true rfl, Nat.le_of_ble_eq_true rfl⟩ ⟨Nat.le_of_ble_eq_true rfl, Nat.le_of_ble_eq_true rfl⟩ (Nat.le_of_ble_eq_true rfl) rfl dX10_would_16 (fun H locs hP hD hS => ?_)
    refine lv_if_eq (tgt := 26) hx hb dX10_would_19 (by decide) (fun h8 => ?_) (fun h8 => ?_)
    · replace hF := (if_pos h8).symm.trans hF
      refine lv_iconst (v := 2) hx hb dX10_would_26 (by decide) ?_
      refine put' (ci := 12) (fs := mF am (m0 0)) (v := .int 2) (ty := .int) (ws' := (mW cy am (va_up m0 0 (upd (m0 0) 0 2)))) hx hb hw inWX10 tyX10 tyX10_ok nmX10 hown hK hP hD hS (gM (am := am) (r := 0) (m := m0) (f := (m0 0)) (by decide) rfl) rfl 0 (by decide) k_1570 rfl rfl (by decide +kernel) rfl rfl (Nat.le_of_ble_eq_true rfl) dX10_would_27 (sM (am := am) (r := 0) (m := m0) (g := (upd (m0 0) 0 2)) (by decide)) (fun H locs hP hD hS => ?_)
      refine lv_aload_n hx hb dX10_would_30 rfl (lv_at hl 0 rfl) ?_
      refine get' (ci := 12) (fs := mF am (upd (m0 0) 0 2)) (v := .int 2) hx hb hw inWX10 hown hK hP (gM (am := am) (r := 0) (m := (va_up m0 0 (upd (m0 0) 0 2))) (f := (upd (m0 0) 0 2)) (by decide) (va_up_self _ _ _)) rfl 0 (by decide) k_1570 rfl rfl dX10_would_31 ?_
      refine lv_if_ne (tgt := 46) hx hb dX10_would_34 (by decide) (fun _ => ?_) (fun h => absurd h (by decide))
      refine lv_iconst (v := 0) hx hb dX10_would_46 (by decide) ?_
      cases hF
      exact hret _ _ _ _ _ _ hP hD hS rfl rfl dX10_would_47
    · replace hF := (if_neg h8).symm.trans hF
      refine lv_iconst (v := 0) hx hb dX10_would_22 (by decide) ?_
      refine lv_goto (tgt := 27) hx hb dX10_would_23 (by decide) ?_
      refine put' (ci := 12) (fs := mF am (m0 0)) (v := .int 0) (ty := .int) (ws' := (mW cy am (va_up m0 0 (upd (m0 0) 0 0)))) hx hb hw inWX10 tyX10 tyX10_ok nmX10 hown hK hP hD hS (gM (am := am) (r := 0) (m := m0) (f := (m0 0)) (by decide) rfl) rfl 0 (by decide) k_1570 rfl rfl (by decide +kernel) rfl rfl (Nat.le_of_ble_eq_true rfl) dX10_would_27 (sM (am := am) (r := 0) (m := m0) (g := (upd (m0 0) 0 0)) (by decide)) (fun H locs hP hD hS => ?_)
      refine lv_aload_n hx hb dX10_would_30 rfl (lv_at hl 0 rfl) ?_
      refine get' (ci := 12) (fs := mF am (upd (m0 0) 0 0)) (v := .int 0) hx hb hw inWX10 hown hK hP (gM (am := am) (r := 0) (m := (va_up m0 0 (upd (m0 0) 0 0))) (f := (upd (m0 0) 0 0)) (by decide) (va_up_self _ _ _)) rfl 0 (by decide) k_1570 rfl rfl dX10_would_31 ?_
      refine lv_if_ne (tgt := 46) hx hb dX10_would_34 (by decide) (fun h => absurd h (by decide)) (fun _ => ?_)
      refine lv_aload_n hx hb dX10_would_37 rfl (lv_at hl 0 rfl) ?_
      refine lv_iload_n hx hb dX10_would_38 rfl (lv_at hl 1 rfl) ?_
      refine lv_iload_n hx hb dX10_would_39 rfl (lv_at hl 2 rfl) ?_
      obtain ⟨⟨r11, o12⟩, hc13, hF⟩ := bind_some hF
      try dsimp only at hF
      refine cV_i (As := [.int p1, .int p2]) (rest := []) hx hb hml hown hw hK hN hA hl.1 hP hD hS k_1840 k_1842 k_60 k_90 k_1843 (met_X10_cloudsBy l D cy _ am (va_up m0 0 (upd (m0 0) 0 0)) p1 p2 r11 o12 hc13) (fun _ _ _ => trivial) Xok_T (gM (am := am) (r := 0) (m := (va_up m0 0 (upd (m0 0) 0 0))) (f := (upd (m0 0) 0 0)) (by decide) (va_up_self _ _ _)) rfl ⟨rfl, rfl⟩ (n := 2) (by decide +kernel) rfl ⟨Nat.le_of_ble_eq_true rfl, Nat.le_of_ble_eq_true rfl⟩ ⟨Nat.le_of_ble_eq_true rfl, Nat.le_of_ble_eq_true rfl⟩ (Nat.le_of_ble_eq_true rfl) rfl dX10_would_40 (fun H locs hP hD hS => ?_)
      refine lv_goto (tgt := 47) hx hb dX10_would_43 (by decide) ?_
      cases hF
      exact hret _ _ _ _ _ _ hP hD hS rfl rfl dX10_would_47
  · replace hF := (if_pos h4).symm.trans hF
    refine lv_iconst (v := 1) hx hb dX10_would_8 (by decide) ?_
    refine lv_goto (tgt := 27) hx hb dX10_would_9 (by decide) ?_
    refine put' (ci := 12) (fs := mF am (m0 0)) (v := .int 1) (ty := .int) (ws' := (mW cy am (va_up m0 0 (upd (m0 0) 0 1)))) hx hb hw inWX10 tyX10 tyX10_ok nmX10 hown hK hP hD hS (gM (am := am) (r := 0) (m := m0) (f := (m0 0)) (by decide) rfl) rfl 0 (by decide) k_1570 rfl rfl (by decide +kernel) rfl rfl (Nat.le_of_ble_eq_true rfl) dX10_would_27 (sM (am := am) (r := 0) (m := m0) (g := (upd (m0 0) 0 1)) (by decide)) (fun H locs hP hD hS => ?_)
    refine lv_aload_n hx hb dX10_would_30 rfl (lv_at hl 0 rfl) ?_
    refine get' (ci := 12) (fs := mF am (upd (m0 0) 0 1)) (v := .int 1) hx hb hw inWX10 hown hK hP (gM (am := am) (r := 0) (m := (va_up m0 0 (upd (m0 0) 0 1))) (f := (upd (m0 0) 0 1)) (by decide) (va_up_self _ _ _)) rfl 0 (by decide) k_1570 rfl rfl dX10_would_31 ?_
    refine lv_if_ne (tgt := 46) hx hb dX10_would_34 (by decide) (fun _ => ?_) (fun h => absurd h (by decide))
    refine lv_iconst (v := 0) hx hb dX10_would_46 (by decide) ?_
    cases hF
    exact hret _ _ _ _ _ _ hP hD hS rfl rfl dX10_would_47
def L_X10_bestWind_19 : Nat → (Nat → Nat → Int32) → (Int32) → (Int32) → (Int32) → (Nat → Nat → Int32) → Option (Int32 × (Nat → Nat → Int32))
  | 0, _, _, _, _, _ => none
  | n19 + 1, m0, p1, i3h19, i2h19, s19 => if 4 ≤ i3h19 then (some (i2h19, s19)) else ((D_X10_cloudsBy s19 p1 i3h19).bind (fun (r9, o10) => (D_X10_cloudsBy o10 p1 i2h19).bind (fun (r12, o13) => if r9 ≤ r12 then (L_X10_bestWind_19 n19 m0 p1 (i3h19 + 1) i2h19 o13) else (L_X10_bestWind_19 n19 m0 p1 (i3h19 + 1) i3h19 o13))))
def D_X10_bestWind (m0 : Nat → Nat → Int32) (p1 : Int32) : Option (Int32 × (Nat → Nat → Int32)) := if (D_X10_isOwner p1) = 0 then (some (0, (D_X10_isThere m0 (D_X10_isOwner p1)).2)) else (L_X10_bestWind_19 200 m0 p1 (-2) (-3) (D_X10_isThere m0 (D_X10_isOwner p1)).2)
abbrev rm_X10_bestWind : Room := { frames := 5, cells := 0, slots := 0, locals := 111 }
set_option maxHeartbeats 4000000 in
set_option maxRecDepth 100000 in
theorem met_X10_bestWind (l : Launch) (D : va_G) (cy : Nat → ClassId) (sz : Nat) (am : Nat → Nat) (m0 : Nat → Nat → Int32) (p1 : Int32)  (r : Int32) (t' : Nat → Nat → Int32) (hF : D_X10_bestWind m0 p1 = some (r, t')) : MI l yX10_bestWind cX10_bestWind 4 (some .int) rm_X10_bestWind D cy (mW cy am m0) sz (fun _ => True) [.ref (am 0), .int p1] r (mW cy am t') := by
  refine MI.of (by decide +kernel) (Nat.le_of_ble_eq_true rfl) ?_
  intro p e s m args below meth c A ls Q hAt _ hP hD hA hS hl hret
  obtain ⟨hx, hb, hr, hml, hown, hw, hlk, hK, hN⟩ := hAt
  have hown : s.vm.findClass "CloudDeedsModel" = some m.cls := hown
  have hl : lv_has ls 4 [(0, .ref (am 0)), (1, .int p1)] := hl
  refine lv_aload_n hx hb dX10_bestWind_0 rfl (lv_at hl 0 rfl) ?_
  refine lv_iload_n hx hb dX10_bestWind_1 rfl (lv_at hl 1 rfl) ?_
  refine cS_i (As := [.int p1]) (rest := [.ref (am 0)]) hx hb hml hown hw hK hN hA hl.1 hP hD hS k_1695 k_1696 k_90 k_1697 (met_X10_isOwner l D cy _ (mW cy am m0) p1 (D_X10_isOwner p1) rfl) (fun _ _ _ => trivial) Xok_T ⟨rfl, rfl⟩ (n := 1) (by decide +kernel) rfl ⟨Nat.le_of_ble_eq_true rfl, Nat.le_of_ble_eq_true rfl⟩ ⟨Nat.le_of_ble_eq_true rfl, Nat.le_of_ble_eq_true rfl⟩ (Nat.le_of_ble_eq_true rfl) rfl dX10_bestWind_2 (fun H locs hP hD hS => ?_)
  refine cV_i (As := [.int (D_X10_isOwner p1)]) (rest := []) hx hb hml hown hw hK hN hA hl.1 hP hD hS k_1633 k_1635 k_28 k_90 k_1636 (met_X10_isThere l D cy _ am m0 (D_X10_isOwner p1) (bz_X10_isOwner ..) (D_X10_isOwner p1) (D_X10_isThere m0 (D_X10_isOwner p1)).2 (rs_X10_isThere ..)) (fun _ _ _ => trivial) Xok_T (gM (am := am) (r := 0) (m := m0) (f := (m0 0)) (by decide) rfl) rfl ⟨rfl, rfl⟩ (n := 1) (by decide +kernel) rfl ⟨Nat.le_of_ble_eq_true rfl, Nat.le_of_ble_eq_true rfl⟩ ⟨Nat.le_of_ble_eq_true rfl, Nat.le_of_ble_eq_true rfl⟩ (Nat.le_of_ble_eq_true rfl) rfl dX10_bestWind_5 (fun H locs hP hD hS => ?_)
  refine lv_if_ne (tgt := 13) hx hb dX10_bestWind_8 (by decide) (fun h7 => ?_) (fun h7 => ?_)
  · replace hF := (if_neg h7).symm.trans hF
    refine lv_bipush (v := (-3)) hx hb dX10_bestWind_13 (by decide) ?_
    refine lv_istore_n (lv' := [(2, .int (-3)), (0, .ref (am 0)), (1, .int p1)]) hx hb dX10_bestWind_15 rfl hl (by decide) rfl (fun ls hl => ?_)
    refine lv_bipush (v := (-2)) hx hb dX10_bestWind_16 (by decide) ?_
    refine lv_istore_n (lv' := [(3, .int (-2)), (2, .int (-3)), (0, .ref (am 0)), (1, .int p1)]) hx hb dX10_bestWind_18 rfl hl (by decide) rfl (fun ls hl => ?_)
    have loop19 : ∀ (n : Nat) (i3h19 : Int32) (i2h19 : Int32) (s19 : Nat → Nat → Int32) (H : Heap) (locs : List Loc) (ls : Array Slot), L_X10_bestWind_19 n m0 p1 i3h19 i2h19 s19 = some (r, t') → va_P D vwCl (mW cy am s19) H → va_D A (mW cy am s19) → va_S A s.heap H locs → lv_has ls 4 [(3, .int i3h19), (2, .int i2h19), (0, .ref (am 0)), (1, .int p1)] → W p l e rm_X10_bestWind s m args below meth c H locs 0 0 Q (F0 m 19 ls []) := by
      intro n
      induction n with
      | zero => intro i3h19 i2h19 s19 H locs ls hF _ _ _ _; exact absurd hF (by simp [L_X10_bestWind_19])
      | succ n19 ih19 =>
        intro i3h19 i2h19 s19 H locs ls hF hP hD hS hl
        refine lv_iload_n hx hb dX10_bestWind_19 rfl (lv_at hl 0 rfl) ?_
        refine lv_iconst (v := 4) hx hb dX10_bestWind_20 (by decide) ?_
        refine lv_icmp_ge (tgt := 51) hx hb dX10_bestWind_21 (by decide) (fun h8 => ?_) (fun h8 => ?_)
        · replace hF := (if_pos h8).symm.trans hF
          refine lv_iload_n hx hb dX10_bestWind_51 rfl (lv_at hl 1 rfl) ?_
          cases hF
          exact hret _ _ _ _ _ _ hP hD hS rfl rfl dX10_bestWind_52
        · replace hF := (if_neg h8).symm.trans hF
          refine lv_aload_n hx hb dX10_bestWind_24 rfl (lv_at hl 2 rfl) ?_
          refine lv_iload_n hx hb dX10_bestWind_25 rfl (lv_at hl 3 rfl) ?_
          refine lv_iload_n hx hb dX10_bestWind_26 rfl (lv_at hl 0 rfl) ?_
          obtain ⟨⟨r9, o10⟩, hc11, hF⟩ := bind_some hF
          try dsimp only at hF
          refine cV_i (As := [.int p1, .int i3h19]) (rest := []) hx hb hml hown hw hK hN hA hl.1 hP hD hS k_1840 k_1842 k_60 k_90 k_1843 (met_X10_cloudsBy l D cy _ am s19 p1 i3h19 r9 o10 hc11) (fun _ _ _ => trivial) Xok_T (gM (am := am) (r := 0) (m := s19) (f := (s19 0)) (by decide) rfl) rfl ⟨rfl, rfl⟩ (n := 2) (by decide +kernel) rfl ⟨Nat.le_of_ble_eq_true rfl, Nat.le_of_ble_eq_true rfl⟩ ⟨Nat.le_of_ble_eq_true rfl, Nat.le_of_ble_eq_true rfl⟩ (Nat.le_of_ble_eq_true rfl) rfl dX10_bestWind_27 (fun H locs hP hD hS => ?_)
          refine lv_aload_n hx hb dX10_bestWind_30 rfl (lv_at hl 2 rfl) ?_
          refine lv_iload_n hx hb dX10_bestWind_31 rfl (lv_at hl 3 rfl) ?_
          refine lv_iload_n hx hb dX10_bestWind_32 rfl (lv_at hl 1 rfl) ?_
          obtain ⟨⟨r12, o13⟩, hc14, hF⟩ := bind_some hF
          try dsimp only at hF
          refine cV_i (As := [.int p1, .int i2h19]) (rest := [.int r9]) hx hb hml hown hw hK hN hA hl.1 hP hD hS k_1840 k_1842 k_60 k_90 k_1843 (met_X10_cloudsBy l D cy _ am o10 p1 i2h19 r12 o13 hc14) (fun _ _ _ => trivial) Xok_T (gM (am := am) (r := 0) (m := o10) (f := (o10 0)) (by decide) rfl) rfl ⟨rfl, rfl⟩ (n := 2) (by decide +kernel) rfl ⟨Nat.le_of_ble_eq_true rfl, Nat.le_of_ble_eq_true rfl⟩ ⟨Nat.le_of_ble_eq_true rfl, Nat.le_of_ble_eq_true rfl⟩ (Nat.le_of_ble_eq_true rfl) rfl dX10_bestWind_33 (fun H locs hP hD hS => ?_)
          refine lv_icmp_le (tgt := 43) hx hb dX10_bestWind_36 (by decide) (fun h15 => ?_) (fun h15 => ?_)
          · replace hF := (if_pos h15).symm.trans hF
            refine lv_iload_n hx hb dX10_bestWind_43 rfl (lv_at hl 1 rfl) ?_
            refine lv_istore_n (lv' := [(2, .int i2h19), (3, .int i3h19), (0, .ref (am 0)), (1, .int p1)]) hx hb dX10_bestWind_44 rfl hl (by decide) rfl (fun ls hl => ?_)
            refine lv_iinc (v := (i3h19 + 1)) (lv' := [(3, .int (i3h19 + 1)), (2, .int i2h19), (0, .ref (am 0)), (1, .int p1)]) hx hb dX10_bestWind_45 hl (k := 1) rfl rfl (by decide) rfl (fun ls hl => ?_)
            refine lv_goto (tgt := 19) hx hb dX10_bestWind_48 (by decide) ?_
            exact ih19 (i3h19 + 1) i2h19 o13 _ _ _ hF hP hD hS (lv_sub hl [0, 1, 2, 3] rfl)
          · replace hF := (if_neg h15).symm.trans hF
            refine lv_iload_n hx hb dX10_bestWind_39 rfl (lv_at hl 0 rfl) ?_
            refine lv_goto (tgt := 44) hx hb dX10_bestWind_40 (by decide) ?_
            refine lv_istore_n (lv' := [(2, .int i3h19), (3, .int i3h19), (0, .ref (am 0)), (1, .int p1)]) hx hb dX10_bestWind_44 rfl hl (by decide) rfl (fun ls hl => ?_)
            refine lv_iinc (v := (i3h19 + 1)) (lv' := [(3, .int (i3h19 + 1)), (2, .int i3h19), (0, .ref (am 0)), (1, .int p1)]) hx hb dX10_bestWind_45 hl (k := 1) rfl rfl (by decide) rfl (fun ls hl => ?_)
            refine lv_goto (tgt := 19) hx hb dX10_bestWind_48 (by decide) ?_
            exact ih19 (i3h19 + 1) i3h19 o13 _ _ _ hF hP hD hS (lv_sub hl [0, 1, 2, 3] rfl)
    exact loop19 200 (-2) (-3) (D_X10_isThere m0 (D_X10_isOwner p1)).2 _ _ _ hF hP hD hS (lv_sub hl [0, 1, 2, 3] rfl)
  · replace hF := (if_pos h7).symm.trans hF
    refine lv_iconst (v := 0) hx hb dX10_bestWind_11 (by decide) ?_
    cases hF
    exact hret _ _ _ _ _ _ hP hD hS rfl rfl dX10_bestWind_12
def L_X10_parse_19 : Nat → (Nat → Nat → Int32) → (Nat → Nat → Int32) → (Nat → Nat → Int32) → Option ((Nat → Nat → Int32))
  | 0, _, _, _ => none
  | n19 + 1, m0, o2, s19 => if 0 ≤ ((s19 0) 12) then (if 0 ≤ ((s19 0) 12) then (some s19) else (if ((s19 0) 10) ≤ ((s19 0) 11) then (some s19) else (some (va_up s19 0 (upd (s19 0) 12 ((s19 0) 11)))))) else ((D_X10_sign s19).bind (fun r7 => if r7 = 59 then ((D_X10_order (va_up s19 0 (upd (s19 0) 11 (((s19 0) 11) + 1)))).bind (fun o14 => L_X10_parse_19 n19 m0 o2 o14)) else (if 0 ≤ ((s19 0) 12) then (some s19) else (if ((s19 0) 10) ≤ ((s19 0) 11) then (some s19) else (some (va_up s19 0 (upd (s19 0) 12 ((s19 0) 11))))))))
def D_X10_parse (m0 : Nat → Nat → Int32) : Option ((Nat → Nat → Int32)) := (D_X10_order (va_up m0 0 (upd (upd (upd (m0 0) 11 0) 12 (-1)) 15 0))).bind (fun o2 => L_X10_parse_19 200 m0 o2 o2)
abbrev rm_X10_parse : Room := { frames := 5, cells := 0, slots := 0, locals := 110 }
set_option maxHeartbeats 4000000 in
set_option maxRecDepth 100000 in
theorem met_X10_parse (l : Launch) (D : va_G) (cy : Nat → ClassId) (sz : Nat) (am : Nat → Nat) (m0 : Nat → Nat → Int32)  (t' : Nat → Nat → Int32) (hF : D_X10_parse m0 = some t') : MV l yX10_parse cX10_parse 1 rm_X10_parse D cy (mW cy am m0) sz (fun _ => True) [.ref (am 0)] (mW cy am t') := by
  refine MV.of (by decide +kernel) (Nat.le_of_ble_eq_true rfl) ?_
  intro p e s m args below meth c A ls Q hAt _ hP hD hA hS hl hret
  obtain ⟨hx, hb, hr, hml, hown, hw, hlk, hK, hN⟩ := hAt
  have hown : s.vm.findClass "CloudDeedsModel" = some m.cls := hown
  have hl : lv_has ls 1 [(0, .ref (am 0))] := hl
  refine lv_aload_n hx hb dX10_parse_0 rfl (lv_at hl 0 rfl) ?_
  refine lv_iconst (v := 0) hx hb dX10_parse_1 (by decide) ?_
  refine put' (ci := 12) (fs := mF am (m0 0)) (v := .int 0) (ty := .int) (ws' := (mW cy am (va_up m0 0 (upd (m0 0) 11 0)))) hx hb hw inWX10 tyX10 tyX10_ok nmX10 hown hK hP hD hS (gM (am := am) (r := 0) (m := m0) (f := (m0 0)) (by decide) rfl) rfl 11 (by decide) k_1581 rfl rfl (by decide +kernel) rfl rfl (Nat.le_of_ble_eq_true rfl) dX10_parse_2 (sM (am := am) (r := 0) (m := m0) (g := (upd (m0 0) 11 0)) (by decide)) (fun H locs hP hD hS => ?_)
  refine lv_aload_n hx hb dX10_parse_5 rfl (lv_at hl 0 rfl) ?_
  refine lv_iconst (v := (-1)) hx hb dX10_parse_6 (by decide) ?_
  refine put' (ci := 12) (fs := mF am (upd (m0 0) 11 0)) (v := .int (-1)) (ty := .int) (ws' := (mW cy am (va_up m0 0 (upd (upd (m0 0) 11 0) 12 (-1))))) hx hb hw inWX10 tyX10 tyX10_ok nmX10 hown hK hP hD hS (gM (am := am) (r := 0) (m := (va_up m0 0 (upd (m0 0) 11 0))) (f := (upd (m0 0) 11 0)) (by decide) (va_up_self _ _ _)) rfl 12 (by decide) k_1582 rfl rfl (by decide +kernel) rfl rfl (Nat.le_of_ble_eq_true rfl) dX10_parse_7 ((sM (am := am) (r := 0) (m := (va_up m0 0 (upd (m0 0) 11 0))) (g := (upd (upd (m0 0) 11 0) 12 (-1))) (by decide)).trans (congrArg (fun z => mW cy am z) (up_up _ _ _ _))) (fun H locs hP hD hS => ?_)
  refine lv_aload_n hx hb dX10_parse_10 rfl (lv_at hl 0 rfl) ?_
  refine lv_iconst (v := 0) hx hb dX10_parse_11 (by decide) ?_
  refine put' (ci := 12) (fs := mF am (upd (upd (m0 0) 11 0) 12 (-1))) (v := .int 0) (ty := .int) (ws' := (mW cy am (va_up m0 0 (upd (upd (upd (m0 0) 11 0) 12 (-1)) 15 0)))) hx hb hw inWX10 tyX10 tyX10_ok nmX10 hown hK hP hD hS (gM (am := am) (r := 0) (m := (va_up m0 0 (upd (upd (m0 0) 11 0) 12 (-1)))) (f := (upd (upd (m0 0) 11 0) 12 (-1))) (by decide) (va_up_self _ _ _)) rfl 15 (by decide) k_1585 rfl rfl (by decide +kernel) rfl rfl (Nat.le_of_ble_eq_true rfl) dX10_parse_12 ((sM (am := am) (r := 0) (m := (va_up m0 0 (upd (upd (m0 0) 11 0) 12 (-1)))) (g := (upd (upd (upd (m0 0) 11 0) 12 (-1)) 15 0)) (by decide)).trans (congrArg (fun z => mW cy am z) (up_up _ _ _ _))) (fun H locs hP hD hS => ?_)
  refine lv_aload_n hx hb dX10_parse_15 rfl (lv_at hl 0 rfl) ?_
  obtain ⟨o2, hc3, hF⟩ := bind_some hF
  try dsimp only at hF
  refine cV_v (As := []) (rest := []) hx hb hml hown hw hK hN hA hl.1 hP hD hS k_1881 k_1883 k_62 k_90 k_1884 (met_X10_order l D cy _ am (va_up m0 0 (upd (upd (upd (m0 0) 11 0) 12 (-1)) 15 0)) o2 hc3) (fun _ _ _ => trivial) Xok_T (gM (am := am) (r := 0) (m := (va_up m0 0 (upd (upd (upd (m0 0) 11 0) 12 (-1)) 15 0))) (f := (upd (upd (upd (m0 0) 11 0) 12 (-1)) 15 0)) (by decide) (va_up_self _ _ _)) rfl ⟨rfl, rfl⟩ (n := 0) (by decide +kernel) rfl ⟨Nat.le_of_ble_eq_true rfl, Nat.le_of_ble_eq_true rfl⟩ ⟨Nat.le_of_ble_eq_true rfl, Nat.le_of_ble_eq_true rfl⟩ (Nat.le_of_ble_eq_true rfl) rfl dX10_parse_16 (fun H locs hP hD hS => ?_)
  have loop19 : ∀ (n : Nat) (s19 : Nat → Nat → Int32) (H : Heap) (locs : List Loc) (ls : Array Slot), L_X10_parse_19 n m0 o2 s19 = some t' → va_P D vwCl (mW cy am s19) H → va_D A (mW cy am s19) → va_S A s.heap H locs → lv_has ls 1 [(0, .ref (am 0))] → W p l e rm_X10_parse s m args below meth c H locs 0 0 Q (F0 m 19 ls []) := by
    intro n
    induction n with
    | zero => intro s19 H locs ls hF _ _ _ _; exact absurd hF (by simp [L_X10_parse_19])
    | succ n19 ih19 =>
      intro s19 H locs ls hF hP hD hS hl
      refine lv_aload_n hx hb dX10_parse_19 rfl (lv_at hl 0 rfl) ?_
      refine get' (ci := 12) (fs := mF am (s19 0)) (v := .int ((s19 0) 12)) hx hb hw inWX10 hown hK hP (gM (am := am) (r := 0) (m := s19) (f := (s19 0)) (by decide) rfl) rfl 12 (by decide) k_1582 rfl rfl dX10_parse_20 ?_
      refine lv_if_ge (tgt := 52) hx hb dX10_parse_23 (by decide) (fun h4 => ?_) (fun h4 => ?_)
      · replace hF := (if_pos h4).symm.trans hF
        refine lv_aload_n hx hb dX10_parse_52 rfl (lv_at hl 0 rfl) ?_
        refine get' (ci := 12) (fs := mF am (s19 0)) (v := .int ((s19 0) 12)) hx hb hw inWX10 hown hK hP (gM (am := am) (r := 0) (m := s19) (f := (s19 0)) (by decide) rfl) rfl 12 (by decide) k_1582 rfl rfl dX10_parse_53 ?_
        refine lv_if_ge (tgt := 78) hx hb dX10_parse_56 (by decide) (fun h5 => ?_) (fun h5 => ?_)
        · replace hF := (if_pos h5).symm.trans hF
          cases hF
          exact hret _ _ _ _ _ hP hD hS rfl dX10_parse_78
        · replace hF := (if_neg h5).symm.trans hF
          refine lv_aload_n hx hb dX10_parse_59 rfl (lv_at hl 0 rfl) ?_
          refine get' (ci := 12) (fs := mF am (s19 0)) (v := .int ((s19 0) 11)) hx hb hw inWX10 hown hK hP (gM (am := am) (r := 0) (m := s19) (f := (s19 0)) (by decide) rfl) rfl 11 (by decide) k_1581 rfl rfl dX10_parse_60 ?_
          refine lv_aload_n hx hb dX10_parse_63 rfl (lv_at hl 0 rfl) ?_
          refine get' (ci := 12) (fs := mF am (s19 0)) (v := .int ((s19 0) 10)) hx hb hw inWX10 hown hK hP (gM (am := am) (r := 0) (m := s19) (f := (s19 0)) (by decide) rfl) rfl 10 (by decide) k_1580 rfl rfl dX10_parse_64 ?_
          refine lv_icmp_ge (tgt := 78) hx hb dX10_parse_67 (by decide) (fun h6 => ?_) (fun h6 => ?_)
          · replace hF := (if_pos h6).symm.trans hF
            cases hF
            exact hret _ _ _ _ _ hP hD hS rfl dX10_parse_78
          · replace hF := (if_neg h6).symm.trans hF
            refine lv_aload_n hx hb dX10_parse_70 rfl (lv_at hl 0 rfl) ?_
            refine lv_aload_n hx hb dX10_parse_71 rfl (lv_at hl 0 rfl) ?_
            refine get' (ci := 12) (fs := mF am (s19 0)) (v := .int ((s19 0) 11)) hx hb hw inWX10 hown hK hP (gM (am := am) (r := 0) (m := s19) (f := (s19 0)) (by decide) rfl) rfl 11 (by decide) k_1581 rfl rfl dX10_parse_72 ?_
            refine put' (ci := 12) (fs := mF am (s19 0)) (v := .int ((s19 0) 11)) (ty := .int) (ws' := (mW cy am (va_up s19 0 (upd (s19 0) 12 ((s19 0) 11))))) hx hb hw inWX10 tyX10 tyX10_ok nmX10 hown hK hP hD hS (gM (am := am) (r := 0) (m := s19) (f := (s19 0)) (by decide) rfl) rfl 12 (by decide) k_1582 rfl rfl (by decide +kernel) rfl rfl (Nat.le_of_ble_eq_true rfl) dX10_parse_75 (sM (am := am) (r := 0) (m := s19) (g := (upd (s19 0) 12 ((s19 0) 11))) (by decide)) (fun H locs hP hD hS => ?_)
            cases hF
            exact hret _ _ _ _ _ hP hD hS rfl dX10_parse_78
      · replace hF := (if_neg h4).symm.trans hF
        refine lv_aload_n hx hb dX10_parse_26 rfl (lv_at hl 0 rfl) ?_
        obtain ⟨r7, hc9, hF⟩ := bind_some hF
        try dsimp only at hF
        refine cV_i (As := []) (rest := []) hx hb hml hown hw hK hN hA hl.1 hP hD hS k_1885 k_1887 k_63 k_90 k_1888 (met_X10_sign l D cy _ am s19 r7 hc9) (fun _ _ _ => trivial) Xok_T (gM (am := am) (r := 0) (m := s19) (f := (s19 0)) (by decide) rfl) rfl ⟨rfl, rfl⟩ (n := 0) (by decide +kernel) rfl ⟨Nat.le_of_ble_eq_true rfl, Nat.le_of_ble_eq_true rfl⟩ ⟨Nat.le_of_ble_eq_true rfl, Nat.le_of_ble_eq_true rfl⟩ (Nat.le_of_ble_eq_true rfl) rfl dX10_parse_27 (fun H locs hP hD hS => ?_)
        refine lv_bipush (v := 59) hx hb dX10_parse_30 (by decide) ?_
        refine lv_icmp_ne (tgt := 52) hx hb dX10_parse_32 (by decide) (fun h10 => ?_) (fun h10 => ?_)
        · replace hF := (if_neg h10).symm.trans hF
          refine lv_aload_n hx hb dX10_parse_52 rfl (lv_at hl 0 rfl) ?_
          refine get' (ci := 12) (fs := mF am (s19 0)) (v := .int ((s19 0) 12)) hx hb hw inWX10 hown hK hP (gM (am := am) (r := 0) (m := s19) (f := (s19 0)) (by decide) rfl) rfl 12 (by decide) k_1582 rfl rfl dX10_parse_53 ?_
          refine lv_if_ge (tgt := 78) hx hb dX10_parse_56 (by decide) (fun h11 => ?_) (fun h11 => ?_)
          · replace hF := (if_pos h11).symm.trans hF
            cases hF
            exact hret _ _ _ _ _ hP hD hS rfl dX10_parse_78
          · replace hF := (if_neg h11).symm.trans hF
            refine lv_aload_n hx hb dX10_parse_59 rfl (lv_at hl 0 rfl) ?_
            refine get' (ci := 12) (fs := mF am (s19 0)) (v := .int ((s19 0) 11)) hx hb hw inWX10 hown hK hP (gM (am := am) (r := 0) (m := s19) (f := (s19 0)) (by decide) rfl) rfl 11 (by decide) k_1581 rfl rfl dX10_parse_60 ?_
            refine lv_aload_n hx hb dX10_parse_63 rfl (lv_at hl 0 rfl) ?_
            refine get' (ci := 12) (fs := mF am (s19 0)) (v := .int ((s19 0) 10)) hx hb hw inWX10 hown hK hP (gM (am := am) (r := 0) (m := s19) (f := (s19 0)) (by decide) rfl) rfl 10 (by decide) k_1580 rfl rfl dX10_parse_64 ?_
            refine lv_icmp_ge (tgt := 78) hx hb dX10_parse_67 (by decide) (fun h12 => ?_) (fun h12 => ?_)
            · replace hF := (if_pos h12).symm.trans hF
              cases hF
              exact hret _ _ _ _ _ hP hD hS rfl dX10_parse_78
            · replace hF := (if_neg h12).symm.trans hF
              refine lv_aload_n hx hb dX10_parse_70 rfl (lv_at hl 0 rfl) ?_
              refine lv_aload_n hx hb dX10_parse_71 rfl (lv_at hl 0 rfl) ?_
              refine get' (ci := 12) (fs := mF am (s19 0)) (v := .int ((s19 0) 11)) hx hb hw inWX10 hown hK hP (gM (am := am) (r := 0) (m := s19) (f := (s19 0)) (by decide) rfl) rfl 11 (by decide) k_1581 rfl rfl dX10_parse_72 ?_
              refine put' (ci := 12) (fs := mF am (s19 0)) (v := .int ((s19 0) 11)) (ty := .int) (ws' := (mW cy am (va_up s19 0 (upd (s19 0) 12 ((s19 0) 11))))) hx hb hw inWX10 tyX10 tyX10_ok nmX10 hown hK hP hD hS (gM (am := am) (r := 0) (m := s19) (f := (s19 0)) (by decide) rfl) rfl 12 (by decide) k_1582 rfl rfl (by decide +kernel) rfl rfl (Nat.le_of_ble_eq_true rfl) dX10_parse_75 (sM (am := am) (r := 0) (m := s19) (g := (upd (s19 0) 12 ((s19 0) 11))) (by decide)) (fun H locs hP hD hS => ?_)
              cases hF
              exact hret _ _ _ _ _ hP hD hS rfl dX10_parse_78
        · replace hF := (if_pos h10).symm.trans hF
          refine lv_aload_n hx hb dX10_parse_35 rfl (lv_at hl 0 rfl) ?_
          refine lv_dup hx hb dX10_parse_36 rfl ?_
          refine get' (ci := 12) (fs := mF am (s19 0)) (v := .int ((s19 0) 11)) hx hb hw inWX10 hown hK hP (gM (am := am) (r := 0) (m := s19) (f := (s19 0)) (by decide) rfl) rfl 11 (by decide) k_1581 rfl rfl dX10_parse_37 ?_
          refine lv_iconst (v := 1) hx hb dX10_parse_40 (by decide) ?_
          refine lv_iadd hx hb dX10_parse_41 ?_
          refine put' (ci := 12) (fs := mF am (s19 0)) (v := .int (((s19 0) 11) + 1)) (ty := .int) (ws' := (mW cy am (va_up s19 0 (upd (s19 0) 11 (((s19 0) 11) + 1))))) hx hb hw inWX10 tyX10 tyX10_ok nmX10 hown hK hP hD hS (gM (am := am) (r := 0) (m := s19) (f := (s19 0)) (by decide) rfl) rfl 11 (by decide) k_1581 rfl rfl (by decide +kernel) rfl rfl (Nat.le_of_ble_eq_true rfl) dX10_parse_42 (sM (am := am) (r := 0) (m := s19) (g := (upd (s19 0) 11 (((s19 0) 11) + 1))) (by decide)) (fun H locs hP hD hS => ?_)
          refine lv_aload_n hx hb dX10_parse_45 rfl (lv_at hl 0 rfl) ?_
          obtain ⟨o14, hc15, hF⟩ := bind_some hF
          try dsimp only at hF
          refine cV_v (As := []) (rest := []) hx hb hml hown hw hK hN hA hl.1 hP hD hS k_1881 k_1883 k_62 k_90 k_1884 (met_X10_order l D cy _ am (va_up s19 0 (upd (s19 0) 11 (((s19 0) 11) + 1))) o14 hc15) (fun _ _ _ => trivial) Xok_T (gM (am := am) (r := 0) (m := (va_up s19 0 (upd (s19 0) 11 (((s19 0) 11) + 1)))) (f := (upd (s19 0) 11 (((s19 0) 11) + 1))) (by decide) (va_up_self _ _ _)) rfl ⟨rfl, rfl⟩ (n := 0) (by decide +kernel) rfl ⟨Nat.le_of_ble_eq_true rfl, Nat.le_of_ble_eq_true rfl⟩ ⟨Nat.le_of_ble_eq_true rfl, Nat.le_of_ble_eq_true rfl⟩ (Nat.le_of_ble_eq_true rfl) rfl dX10_parse_46 (fun H locs hP hD hS => ?_)
          refine lv_goto (tgt := 19) hx hb dX10_parse_49 (by decide) ?_
          exact ih19  o14 _ _ _ hF hP hD hS (lv_sub hl [0] rfl)
  exact loop19 200  o2 _ _ _ hF hP hD hS (lv_sub hl [0] rfl)
def L_X10_run_37 : Nat → (Nat → Nat → Int32) → (Nat → Nat → Int32) → (Nat → Nat → Int32) → (Int32) → (Nat → Nat → Int32) → Option (Int32 × (Nat → Nat → Int32))
  | 0, _, _, _, _, _ => none
  | n37 + 1, m0, o2, o6, i1h37, s37 => if ((s37 0) 15) ≤ i1h37 then (if i1h37 = ((s37 0) 15) then ((D_X10_ends (va_up s37 0 (upd (s37 0) 4 ((s37 0) 15))) 1).bind (fun (r16, o17) => some (r16, (va_up o17 0 (upd (o17 0) 0 0))))) else ((D_X10_ends (va_up s37 0 (upd (upd (upd (upd (upd (s37 0) 7 ((s37 0) 5)) 8 ((s37 0) 6)) 5 10) 6 i1h37) 4 ((s37 0) 15))) 0).bind (fun (r11, o12) => some (r11, (va_up o12 0 (upd (o12 0) 0 2)))))) else ((D_X10_does s37 (4 * i1h37)).bind (fun (r20, o21) => if r20 = 0 then (if i1h37 = ((o21 0) 15) then ((D_X10_ends (va_up o21 0 (upd (o21 0) 4 ((o21 0) 15))) 1).bind (fun (r31, o32) => some (r31, (va_up o32 0 (upd (o32 0) 0 0))))) else ((D_X10_ends (va_up o21 0 (upd (upd (upd (upd (upd (o21 0) 7 ((o21 0) 5)) 8 ((o21 0) 6)) 5 10) 6 i1h37) 4 ((o21 0) 15))) 0).bind (fun (r26, o27) => some (r26, (va_up o27 0 (upd (o27 0) 0 2)))))) else (L_X10_run_37 n37 m0 o2 o6 (i1h37 + 1) o21)))
def D_X10_run (m0 : Nat → Nat → Int32) : Option (Int32 × (Nat → Nat → Int32)) := (D_X10_parse m0).bind (fun o2 => if ((o2 0) 12) < 0 then ((D_X10_begins (va_up o2 0 (upd (o2 0) 10 0))).bind (fun o6 => L_X10_run_37 200 m0 o2 o6 0 o6)) else (some (0, (va_up o2 0 (upd (upd (upd (o2 0) 10 0) 13 ((o2 0) 12)) 0 1)))))
abbrev rm_X10_run : Room := { frames := 6, cells := 0, slots := 0, locals := 130 }
set_option maxHeartbeats 4000000 in
set_option maxRecDepth 100000 in
theorem met_X10_run (l : Launch) (D : va_G) (cy : Nat → ClassId) (sz : Nat) (am : Nat → Nat) (m0 : Nat → Nat → Int32)  (r : Int32) (t' : Nat → Nat → Int32) (hF : D_X10_run m0 = some (r, t')) : MI l yX10_run cX10_run 4 (some .int) rm_X10_run D cy (mW cy am m0) sz (fun _ => True) [.ref (am 0)] r (mW cy am t') := by
  refine MI.of (by decide +kernel) (Nat.le_of_ble_eq_true rfl) ?_
  intro p e s m args below meth c A ls Q hAt _ hP hD hA hS hl hret
  obtain ⟨hx, hb, hr, hml, hown, hw, hlk, hK, hN⟩ := hAt
  have hown : s.vm.findClass "CloudDeedsModel" = some m.cls := hown
  have hl : lv_has ls 4 [(0, .ref (am 0))] := hl
  refine lv_aload_n hx hb dX10_run_0 rfl (lv_at hl 0 rfl) ?_
  obtain ⟨o2, hc3, hF⟩ := bind_some hF
  try dsimp only at hF
  refine cV_v (As := []) (rest := []) hx hb hml hown hw hK hN hA hl.1 hP hD hS k_1877 k_1879 k_61 k_90 k_1880 (met_X10_parse l D cy _ am m0 o2 hc3) (fun _ _ _ => trivial) Xok_T (gM (am := am) (r := 0) (m := m0) (f := (m0 0)) (by decide) rfl) rfl ⟨rfl, rfl⟩ (n := 0) (by decide +kernel) rfl ⟨Nat.le_of_ble_eq_true rfl, Nat.le_of_ble_eq_true rfl⟩ ⟨Nat.le_of_ble_eq_true rfl, Nat.le_of_ble_eq_true rfl⟩ (Nat.le_of_ble_eq_true rfl) rfl dX10_run_1 (fun H locs hP hD hS => ?_)
  refine lv_aload_n hx hb dX10_run_4 rfl (lv_at hl 0 rfl) ?_
  refine lv_iconst (v := 0) hx hb dX10_run_5 (by decide) ?_
  refine put' (ci := 12) (fs := mF am (o2 0)) (v := .int 0) (ty := .int) (ws' := (mW cy am (va_up o2 0 (upd (o2 0) 10 0)))) hx hb hw inWX10 tyX10 tyX10_ok nmX10 hown hK hP hD hS (gM (am := am) (r := 0) (m := o2) (f := (o2 0)) (by decide) rfl) rfl 10 (by decide) k_1580 rfl rfl (by decide +kernel) rfl rfl (Nat.le_of_ble_eq_true rfl) dX10_run_6 (sM (am := am) (r := 0) (m := o2) (g := (upd (o2 0) 10 0)) (by decide)) (fun H locs hP hD hS => ?_)
  refine lv_aload_n hx hb dX10_run_9 rfl (lv_at hl 0 rfl) ?_
  refine get' (ci := 12) (fs := mF am (upd (o2 0) 10 0)) (v := .int ((o2 0) 12)) hx hb hw inWX10 hown hK hP (gM (am := am) (r := 0) (m := (va_up o2 0 (upd (o2 0) 10 0))) (f := (upd (o2 0) 10 0)) (by decide) (va_up_self _ _ _)) rfl 12 (by decide) k_1582 rfl rfl dX10_run_10 ?_
  refine lv_if_lt (tgt := 31) hx hb dX10_run_13 (by decide) (fun h4 => ?_) (fun h4 => ?_)
  · replace hF := (if_pos h4).symm.trans hF
    refine lv_aload_n hx hb dX10_run_31 rfl (lv_at hl 0 rfl) ?_
    obtain ⟨o6, hc7, hF⟩ := bind_some hF
    try dsimp only at hF
    refine cV_v (As := []) (rest := []) hx hb hml hown hw hK hN hA hl.1 hP hD hS k_1641 k_1643 k_29 k_90 k_1644 (met_X10_begins l D cy _ am (va_up o2 0 (upd (o2 0) 10 0)) o6 hc7) (fun _ _ _ => trivial) Xok_T (gM (am := am) (r := 0) (m := (va_up o2 0 (upd (o2 0) 10 0))) (f := (upd (o2 0) 10 0)) (by decide) (va_up_self _ _ _)) rfl ⟨rfl, rfl⟩ (n := 0) (by decide +kernel) rfl ⟨Nat.le_of_ble_eq_true rfl, Nat.le_of_ble_eq_true rfl⟩ ⟨Nat.le_of_ble_eq_true rfl, Nat.le_of_ble_eq_true rfl⟩ (Nat.le_of_ble_eq_true rfl) rfl dX10_run_32 (fun H locs hP hD hS => ?_)
    refine lv_iconst (v := 0) hx hb dX10_run_35 (by decide) ?_
    refine lv_istore_n (lv' := [(1, .int 0), (0, .ref (am 0))]) hx hb dX10_run_36 rfl hl (by decide) rfl (fun ls hl => ?_)
    have loop37 : ∀ (n : Nat) (i1h37 : Int32) (s37 : Nat → Nat → Int32) (H : Heap) (locs : List Loc) (ls : Array Slot), L_X10_run_37 n m0 o2 o6 i1h37 s37 = some (r, t') → va_P D vwCl (mW cy am s37) H → va_D A (mW cy am s37) → va_S A s.heap H locs → lv_has ls 4 [(1, .int i1h37), (0, .ref (am 0))] → W p l e rm_X10_run s m args below meth c H locs 0 0 Q (F0 m 37 ls []) := by
      intro n
      induction n with
      | zero => intro i1h37 s37 H locs ls hF _ _ _ _; exact absurd hF (by simp [L_X10_run_37])
      | succ n37 ih37 =>
        intro i1h37 s37 H locs ls hF hP hD hS hl
        refine lv_iload_n hx hb dX10_run_37 rfl (lv_at hl 0 rfl) ?_
        refine lv_aload_n hx hb dX10_run_38 rfl (lv_at hl 1 rfl) ?_
        refine get' (ci := 12) (fs := mF am (s37 0)) (v := .int ((s37 0) 15)) hx hb hw inWX10 hown hK hP (gM (am := am) (r := 0) (m := s37) (f := (s37 0)) (by decide) rfl) rfl 15 (by decide) k_1585 rfl rfl dX10_run_39 ?_
        refine lv_icmp_ge (tgt := 61) hx hb dX10_run_42 (by decide) (fun h8 => ?_) (fun h8 => ?_)
        · replace hF := (if_pos h8).symm.trans hF
          refine lv_iload_n hx hb dX10_run_61 rfl (lv_at hl 0 rfl) ?_
          refine lv_aload_n hx hb dX10_run_62 rfl (lv_at hl 1 rfl) ?_
          refine get' (ci := 12) (fs := mF am (s37 0)) (v := .int ((s37 0) 15)) hx hb hw inWX10 hown hK hP (gM (am := am) (r := 0) (m := s37) (f := (s37 0)) (by decide) rfl) rfl 15 (by decide) k_1585 rfl rfl dX10_run_63 ?_
          refine lv_icmp_ne (tgt := 73) hx hb dX10_run_66 (by decide) (fun h9 => ?_) (fun h9 => ?_)
          · replace hF := (if_neg h9).symm.trans hF
            refine lv_iconst (v := 0) hx hb dX10_run_73 (by decide) ?_
            refine lv_istore_n (lv' := [(2, .int 0), (1, .int i1h37), (0, .ref (am 0))]) hx hb dX10_run_74 rfl hl (by decide) rfl (fun ls hl => ?_)
            refine lv_iload_n hx hb dX10_run_75 rfl (lv_at hl 0 rfl) ?_
            refine lv_if_ne (tgt := 106) hx hb dX10_run_76 (by decide) (fun h => absurd h (by decide)) (fun _ => ?_)
            refine lv_aload_n hx hb dX10_run_79 rfl (lv_at hl 2 rfl) ?_
            refine lv_aload_n hx hb dX10_run_80 rfl (lv_at hl 2 rfl) ?_
            refine get' (ci := 12) (fs := mF am (s37 0)) (v := .int ((s37 0) 5)) hx hb hw inWX10 hown hK hP (gM (am := am) (r := 0) (m := s37) (f := (s37 0)) (by decide) rfl) rfl 5 (by decide) k_1575 rfl rfl dX10_run_81 ?_
            refine put' (ci := 12) (fs := mF am (s37 0)) (v := .int ((s37 0) 5)) (ty := .int) (ws' := (mW cy am (va_up s37 0 (upd (s37 0) 7 ((s37 0) 5))))) hx hb hw inWX10 tyX10 tyX10_ok nmX10 hown hK hP hD hS (gM (am := am) (r := 0) (m := s37) (f := (s37 0)) (by decide) rfl) rfl 7 (by decide) k_1577 rfl rfl (by decide +kernel) rfl rfl (Nat.le_of_ble_eq_true rfl) dX10_run_84 (sM (am := am) (r := 0) (m := s37) (g := (upd (s37 0) 7 ((s37 0) 5))) (by decide)) (fun H locs hP hD hS => ?_)
            refine lv_aload_n hx hb dX10_run_87 rfl (lv_at hl 2 rfl) ?_
            refine lv_aload_n hx hb dX10_run_88 rfl (lv_at hl 2 rfl) ?_
            refine get' (ci := 12) (fs := mF am (upd (s37 0) 7 ((s37 0) 5))) (v := .int ((s37 0) 6)) hx hb hw inWX10 hown hK hP (gM (am := am) (r := 0) (m := (va_up s37 0 (upd (s37 0) 7 ((s37 0) 5)))) (f := (upd (s37 0) 7 ((s37 0) 5))) (by decide) (va_up_self _ _ _)) rfl 6 (by decide) k_1576 rfl rfl dX10_run_89 ?_
            refine put' (ci := 12) (fs := mF am (upd (s37 0) 7 ((s37 0) 5))) (v := .int ((s37 0) 6)) (ty := .int) (ws' := (mW cy am (va_up s37 0 (upd (upd (s37 0) 7 ((s37 0) 5)) 8 ((s37 0) 6))))) hx hb hw inWX10 tyX10 tyX10_ok nmX10 hown hK hP hD hS (gM (am := am) (r := 0) (m := (va_up s37 0 (upd (s37 0) 7 ((s37 0) 5)))) (f := (upd (s37 0) 7 ((s37 0) 5))) (by decide) (va_up_self _ _ _)) rfl 8 (by decide) k_1578 rfl rfl (by decide +kernel) rfl rfl (Nat.le_of_ble_eq_true rfl) dX10_run_92 ((sM (am := am) (r := 0) (m := (va_up s37 0 (upd (s37 0) 7 ((s37 0) 5)))) (g := (upd (upd (s37 0) 7 ((s37 0) 5)) 8 ((s37 0) 6))) (by decide)).trans (congrArg (fun z => mW cy am z) (up_up _ _ _ _))) (fun H locs hP hD hS => ?_)
            refine lv_aload_n hx hb dX10_run_95 rfl (lv_at hl 2 rfl) ?_
            refine lv_bipush (v := 10) hx hb dX10_run_96 (by decide) ?_
            refine put' (ci := 12) (fs := mF am (upd (upd (s37 0) 7 ((s37 0) 5)) 8 ((s37 0) 6))) (v := .int 10) (ty := .int) (ws' := (mW cy am (va_up s37 0 (upd (upd (upd (s37 0) 7 ((s37 0) 5)) 8 ((s37 0) 6)) 5 10)))) hx hb hw inWX10 tyX10 tyX10_ok nmX10 hown hK hP hD hS (gM (am := am) (r := 0) (m := (va_up s37 0 (upd (upd (s37 0) 7 ((s37 0) 5)) 8 ((s37 0) 6)))) (f := (upd (upd (s37 0) 7 ((s37 0) 5)) 8 ((s37 0) 6))) (by decide) (va_up_self _ _ _)) rfl 5 (by decide) k_1575 rfl rfl (by decide +kernel) rfl rfl (Nat.le_of_ble_eq_true rfl) dX10_run_98 ((sM (am := am) (r := 0) (m := (va_up s37 0 (upd (upd (s37 0) 7 ((s37 0) 5)) 8 ((s37 0) 6)))) (g := (upd (upd (upd (s37 0) 7 ((s37 0) 5)) 8 ((s37 0) 6)) 5 10)) (by decide)).trans (congrArg (fun z => mW cy am z) (up_up _ _ _ _))) (fun H locs hP hD hS => ?_)
            refine lv_aload_n hx hb dX10_run_101 rfl (lv_at hl 2 rfl) ?_
            refine lv_iload_n hx hb dX10_run_102 rfl (lv_at hl 1 rfl) ?_
            refine put' (ci := 12) (fs := mF am (upd (upd (upd (s37 0) 7 ((s37 0) 5)) 8 ((s37 0) 6)) 5 10)) (v := .int i1h37) (ty := .int) (ws' := (mW cy am (va_up s37 0 (upd (upd (upd (upd (s37 0) 7 ((s37 0) 5)) 8 ((s37 0) 6)) 5 10) 6 i1h37)))) hx hb hw inWX10 tyX10 tyX10_ok nmX10 hown hK hP hD hS (gM (am := am) (r := 0) (m := (va_up s37 0 (upd (upd (upd (s37 0) 7 ((s37 0) 5)) 8 ((s37 0) 6)) 5 10))) (f := (upd (upd (upd (s37 0) 7 ((s37 0) 5)) 8 ((s37 0) 6)) 5 10)) (by decide) (va_up_self _ _ _)) rfl 6 (by decide) k_1576 rfl rfl (by decide +kernel) rfl rfl (Nat.le_of_ble_eq_true rfl) dX10_run_103 ((sM (am := am) (r := 0) (m := (va_up s37 0 (upd (upd (upd (s37 0) 7 ((s37 0) 5)) 8 ((s37 0) 6)) 5 10))) (g := (upd (upd (upd (upd (s37 0) 7 ((s37 0) 5)) 8 ((s37 0) 6)) 5 10) 6 i1h37)) (by decide)).trans (congrArg (fun z => mW cy am z) (up_up _ _ _ _))) (fun H locs hP hD hS => ?_)
            refine lv_aload_n hx hb dX10_run_106 rfl (lv_at hl 2 rfl) ?_
            refine lv_aload_n hx hb dX10_run_107 rfl (lv_at hl 2 rfl) ?_
            refine get' (ci := 12) (fs := mF am (upd (upd (upd (upd (s37 0) 7 ((s37 0) 5)) 8 ((s37 0) 6)) 5 10) 6 i1h37)) (v := .int ((s37 0) 15)) hx hb hw inWX10 hown hK hP (gM (am := am) (r := 0) (m := (va_up s37 0 (upd (upd (upd (upd (s37 0) 7 ((s37 0) 5)) 8 ((s37 0) 6)) 5 10) 6 i1h37))) (f := (upd (upd (upd (upd (s37 0) 7 ((s37 0) 5)) 8 ((s37 0) 6)) 5 10) 6 i1h37)) (by decide) (va_up_self _ _ _)) rfl 15 (by decide) k_1585 rfl rfl dX10_run_108 ?_
            refine put' (ci := 12) (fs := mF am (upd (upd (upd (upd (s37 0) 7 ((s37 0) 5)) 8 ((s37 0) 6)) 5 10) 6 i1h37)) (v := .int ((s37 0) 15)) (ty := .int) (ws' := (mW cy am (va_up s37 0 (upd (upd (upd (upd (upd (s37 0) 7 ((s37 0) 5)) 8 ((s37 0) 6)) 5 10) 6 i1h37) 4 ((s37 0) 15))))) hx hb hw inWX10 tyX10 tyX10_ok nmX10 hown hK hP hD hS (gM (am := am) (r := 0) (m := (va_up s37 0 (upd (upd (upd (upd (s37 0) 7 ((s37 0) 5)) 8 ((s37 0) 6)) 5 10) 6 i1h37))) (f := (upd (upd (upd (upd (s37 0) 7 ((s37 0) 5)) 8 ((s37 0) 6)) 5 10) 6 i1h37)) (by decide) (va_up_self _ _ _)) rfl 4 (by decide) k_1574 rfl rfl (by decide +kernel) rfl rfl (Nat.le_of_ble_eq_true rfl) dX10_run_111 ((sM (am := am) (r := 0) (m := (va_up s37 0 (upd (upd (upd (upd (s37 0) 7 ((s37 0) 5)) 8 ((s37 0) 6)) 5 10) 6 i1h37))) (g := (upd (upd (upd (upd (upd (s37 0) 7 ((s37 0) 5)) 8 ((s37 0) 6)) 5 10) 6 i1h37) 4 ((s37 0) 15))) (by decide)).trans (congrArg (fun z => mW cy am z) (up_up _ _ _ _))) (fun H locs hP hD hS => ?_)
            refine lv_aload_n hx hb dX10_run_114 rfl (lv_at hl 2 rfl) ?_
            refine lv_iload_n hx hb dX10_run_115 rfl (lv_at hl 0 rfl) ?_
            obtain ⟨⟨r11, o12⟩, hc13, hF⟩ := bind_some hF
            try dsimp only at hF
            refine cV_i (As := [.int 0]) (rest := []) hx hb hml hown hw hK hN hA hl.1 hP hD hS k_1667 k_1669 k_34 k_90 k_1670 (met_X10_ends l D cy _ am (va_up s37 0 (upd (upd (upd (upd (upd (s37 0) 7 ((s37 0) 5)) 8 ((s37 0) 6)) 5 10) 6 i1h37) 4 ((s37 0) 15))) 0 (Or.inl rfl) r11 o12 hc13) (fun _ _ _ => trivial) Xok_T (gM (am := am) (r := 0) (m := (va_up s37 0 (upd (upd (upd (upd (upd (s37 0) 7 ((s37 0) 5)) 8 ((s37 0) 6)) 5 10) 6 i1h37) 4 ((s37 0) 15)))) (f := (upd (upd (upd (upd (upd (s37 0) 7 ((s37 0) 5)) 8 ((s37 0) 6)) 5 10) 6 i1h37) 4 ((s37 0) 15))) (by decide) (va_up_self _ _ _)) rfl ⟨rfl, rfl⟩ (n := 1) (by decide +kernel) rfl ⟨Nat.le_of_ble_eq_true rfl, Nat.le_of_ble_eq_true rfl⟩ ⟨Nat.le_of_ble_eq_true rfl, Nat.le_of_ble_eq_true rfl⟩ (Nat.le_of_ble_eq_true rfl) rfl dX10_run_116 (fun H locs hP hD hS => ?_)
            refine lv_istore_n (lv' := [(3, .int r11), (2, .int 0), (1, .int i1h37), (0, .ref (am 0))]) hx hb dX10_run_119 rfl hl (by decide) rfl (fun ls hl => ?_)
            refine lv_aload_n hx hb dX10_run_120 rfl (lv_at hl 3 rfl) ?_
            refine lv_iload_n hx hb dX10_run_121 rfl (lv_at hl 1 rfl) ?_
            refine lv_if_eq (tgt := 129) hx hb dX10_run_122 (by decide) (fun _ => ?_) (fun h => absurd h (by decide))
            refine lv_iconst (v := 2) hx hb dX10_run_129 (by decide) ?_
            refine put' (ci := 12) (fs := mF am (o12 0)) (v := .int 2) (ty := .int) (ws' := (mW cy am (va_up o12 0 (upd (o12 0) 0 2)))) hx hb hw inWX10 tyX10 tyX10_ok nmX10 hown hK hP hD hS (gM (am := am) (r := 0) (m := o12) (f := (o12 0)) (by decide) rfl) rfl 0 (by decide) k_1570 rfl rfl (by decide +kernel) rfl rfl (Nat.le_of_ble_eq_true rfl) dX10_run_130 (sM (am := am) (r := 0) (m := o12) (g := (upd (o12 0) 0 2)) (by decide)) (fun H locs hP hD hS => ?_)
            refine lv_iload_n hx hb dX10_run_133 rfl (lv_at hl 0 rfl) ?_
            cases hF
            exact hret _ _ _ _ _ _ hP hD hS rfl rfl dX10_run_134
          · replace hF := (if_pos h9).symm.trans hF
            refine lv_iconst (v := 1) hx hb dX10_run_69 (by decide) ?_
            refine lv_goto (tgt := 74) hx hb dX10_run_70 (by decide) ?_
            refine lv_istore_n (lv' := [(2, .int 1), (1, .int i1h37), (0, .ref (am 0))]) hx hb dX10_run_74 rfl hl (by decide) rfl (fun ls hl => ?_)
            refine lv_iload_n hx hb dX10_run_75 rfl (lv_at hl 0 rfl) ?_
            refine lv_if_ne (tgt := 106) hx hb dX10_run_76 (by decide) (fun _ => ?_) (fun h => absurd h (by decide))
            refine lv_aload_n hx hb dX10_run_106 rfl (lv_at hl 2 rfl) ?_
            refine lv_aload_n hx hb dX10_run_107 rfl (lv_at hl 2 rfl) ?_
            refine get' (ci := 12) (fs := mF am (s37 0)) (v := .int ((s37 0) 15)) hx hb hw inWX10 hown hK hP (gM (am := am) (r := 0) (m := s37) (f := (s37 0)) (by decide) rfl) rfl 15 (by decide) k_1585 rfl rfl dX10_run_108 ?_
            refine put' (ci := 12) (fs := mF am (s37 0)) (v := .int ((s37 0) 15)) (ty := .int) (ws' := (mW cy am (va_up s37 0 (upd (s37 0) 4 ((s37 0) 15))))) hx hb hw inWX10 tyX10 tyX10_ok nmX10 hown hK hP hD hS (gM (am := am) (r := 0) (m := s37) (f := (s37 0)) (by decide) rfl) rfl 4 (by decide) k_1574 rfl rfl (by decide +kernel) rfl rfl (Nat.le_of_ble_eq_true rfl) dX10_run_111 (sM (am := am) (r := 0) (m := s37) (g := (upd (s37 0) 4 ((s37 0) 15))) (by decide)) (fun H locs hP hD hS => ?_)
            refine lv_aload_n hx hb dX10_run_114 rfl (lv_at hl 2 rfl) ?_
            refine lv_iload_n hx hb dX10_run_115 rfl (lv_at hl 0 rfl) ?_
            obtain ⟨⟨r16, o17⟩, hc18, hF⟩ := bind_some hF
            try dsimp only at hF
            refine cV_i (As := [.int 1]) (rest := []) hx hb hml hown hw hK hN hA hl.1 hP hD hS k_1667 k_1669 k_34 k_90 k_1670 (met_X10_ends l D cy _ am (va_up s37 0 (upd (s37 0) 4 ((s37 0) 15))) 1 (Or.inr rfl) r16 o17 hc18) (fun _ _ _ => trivial) Xok_T (gM (am := am) (r := 0) (m := (va_up s37 0 (upd (s37 0) 4 ((s37 0) 15)))) (f := (upd (s37 0) 4 ((s37 0) 15))) (by decide) (va_up_self _ _ _)) rfl ⟨rfl, rfl⟩ (n := 1) (by decide +kernel) rfl ⟨Nat.le_of_ble_eq_true rfl, Nat.le_of_ble_eq_true rfl⟩ ⟨Nat.le_of_ble_eq_true rfl, Nat.le_of_ble_eq_true rfl⟩ (Nat.le_of_ble_eq_true rfl) rfl dX10_run_116 (fun H locs hP hD hS => ?_)
            refine lv_istore_n (lv' := [(3, .int r16), (2, .int 1), (1, .int i1h37), (0, .ref (am 0))]) hx hb dX10_run_119 rfl hl (by decide) rfl (fun ls hl => ?_)
            refine lv_aload_n hx hb dX10_run_120 rfl (lv_at hl 3 rfl) ?_
            refine lv_iload_n hx hb dX10_run_121 rfl (lv_at hl 1 rfl) ?_
            refine lv_if_eq (tgt := 129) hx hb dX10_run_122 (by decide) (fun h => absurd h (by decide)) (fun _ => ?_)
            refine lv_iconst (v := 0) hx hb dX10_run_125 (by decide) ?_
            refine lv_goto (tgt := 130) hx hb dX10_run_126 (by decide) ?_
            refine put' (ci := 12) (fs := mF am (o17 0)) (v := .int 0) (ty := .int) (ws' := (mW cy am (va_up o17 0 (upd (o17 0) 0 0)))) hx hb hw inWX10 tyX10 tyX10_ok nmX10 hown hK hP hD hS (gM (am := am) (r := 0) (m := o17) (f := (o17 0)) (by decide) rfl) rfl 0 (by decide) k_1570 rfl rfl (by decide +kernel) rfl rfl (Nat.le_of_ble_eq_true rfl) dX10_run_130 (sM (am := am) (r := 0) (m := o17) (g := (upd (o17 0) 0 0)) (by decide)) (fun H locs hP hD hS => ?_)
            refine lv_iload_n hx hb dX10_run_133 rfl (lv_at hl 0 rfl) ?_
            cases hF
            exact hret _ _ _ _ _ _ hP hD hS rfl rfl dX10_run_134
        · replace hF := (if_neg h8).symm.trans hF
          refine lv_aload_n hx hb dX10_run_45 rfl (lv_at hl 1 rfl) ?_
          refine lv_iconst (v := 4) hx hb dX10_run_46 (by decide) ?_
          refine lv_iload_n hx hb dX10_run_47 rfl (lv_at hl 0 rfl) ?_
          refine lv_imul hx hb dX10_run_48 ?_
          obtain ⟨⟨r20, o21⟩, hc22, hF⟩ := bind_some hF
          try dsimp only at hF
          refine cV_i (As := [.int (4 * i1h37)]) (rest := []) hx hb hml hown hw hK hN hA hl.1 hP hD hS k_1920 k_1922 k_71 k_90 k_1923 (met_X10_does l D cy _ am s37 (4 * i1h37) r20 o21 hc22) (fun _ _ _ => trivial) Xok_T (gM (am := am) (r := 0) (m := s37) (f := (s37 0)) (by decide) rfl) rfl ⟨rfl, rfl⟩ (n := 1) (by decide +kernel) rfl ⟨Nat.le_of_ble_eq_true rfl, Nat.le_of_ble_eq_true rfl⟩ ⟨Nat.le_of_ble_eq_true rfl, Nat.le_of_ble_eq_true rfl⟩ (Nat.le_of_ble_eq_true rfl) rfl dX10_run_49 (fun H locs hP hD hS => ?_)
          refine lv_if_eq (tgt := 61) hx hb dX10_run_52 (by decide) (fun h23 => ?_) (fun h23 => ?_)
          · replace hF := (if_pos h23).symm.trans hF
            refine lv_iload_n hx hb dX10_run_61 rfl (lv_at hl 0 rfl) ?_
            refine lv_aload_n hx hb dX10_run_62 rfl (lv_at hl 1 rfl) ?_
            refine get' (ci := 12) (fs := mF am (o21 0)) (v := .int ((o21 0) 15)) hx hb hw inWX10 hown hK hP (gM (am := am) (r := 0) (m := o21) (f := (o21 0)) (by decide) rfl) rfl 15 (by decide) k_1585 rfl rfl dX10_run_63 ?_
            refine lv_icmp_ne (tgt := 73) hx hb dX10_run_66 (by decide) (fun h24 => ?_) (fun h24 => ?_)
            · replace hF := (if_neg h24).symm.trans hF
              refine lv_iconst (v := 0) hx hb dX10_run_73 (by decide) ?_
              refine lv_istore_n (lv' := [(2, .int 0), (1, .int i1h37), (0, .ref (am 0))]) hx hb dX10_run_74 rfl hl (by decide) rfl (fun ls hl => ?_)
              refine lv_iload_n hx hb dX10_run_75 rfl (lv_at hl 0 rfl) ?_
              refine lv_if_ne (tgt := 106) hx hb dX10_run_76 (by decide) (fun h => absurd h (by decide)) (fun _ => ?_)
              refine lv_aload_n hx hb dX10_run_79 rfl (lv_at hl 2 rfl) ?_
              refine lv_aload_n hx hb dX10_run_80 rfl (lv_at hl 2 rfl) ?_
              refine get' (ci := 12) (fs := mF am (o21 0)) (v := .int ((o21 0) 5)) hx hb hw inWX10 hown hK hP (gM (am := am) (r := 0) (m := o21) (f := (o21 0)) (by decide) rfl) rfl 5 (by decide) k_1575 rfl rfl dX10_run_81 ?_
              refine put' (ci := 12) (fs := mF am (o21 0)) (v := .int ((o21 0) 5)) (ty := .int) (ws' := (mW cy am (va_up o21 0 (upd (o21 0) 7 ((o21 0) 5))))) hx hb hw inWX10 tyX10 tyX10_ok nmX10 hown hK hP hD hS (gM (am := am) (r := 0) (m := o21) (f := (o21 0)) (by decide) rfl) rfl 7 (by decide) k_1577 rfl rfl (by decide +kernel) rfl rfl (Nat.le_of_ble_eq_true rfl) dX10_run_84 (sM (am := am) (r := 0) (m := o21) (g := (upd (o21 0) 7 ((o21 0) 5))) (by decide)) (fun H locs hP hD hS => ?_)
              refine lv_aload_n hx hb dX10_run_87 rfl (lv_at hl 2 rfl) ?_
              refine lv_aload_n hx hb dX10_run_88 rfl (lv_at hl 2 rfl) ?_
              refine get' (ci := 12) (fs := mF am (upd (o21 0) 7 ((o21 0) 5))) (v := .int ((o21 0) 6)) hx hb hw inWX10 hown hK hP (gM (am := am) (r := 0) (m := (va_up o21 0 (upd (o21 0) 7 ((o21 0) 5)))) (f := (upd (o21 0) 7 ((o21 0) 5))) (by decide) (va_up_self _ _ _)) rfl 6 (by decide) k_1576 rfl rfl dX10_run_89 ?_
              refine put' (ci := 12) (fs := mF am (upd (o21 0) 7 ((o21 0) 5))) (v := .int ((o21 0) 6)) (ty := .int) (ws' := (mW cy am (va_up o21 0 (upd (upd (o21 0) 7 ((o21 0) 5)) 8 ((o21 0) 6))))) hx hb hw inWX10 tyX10 tyX10_ok nmX10 hown hK hP hD hS (gM (am := am) (r := 0) (m := (va_up o21 0 (upd (o21 0) 7 ((o21 0) 5)))) (f := (upd (o21 0) 7 ((o21 0) 5))) (by decide) (va_up_self _ _ _)) rfl 8 (by decide) k_1578 rfl rfl (by decide +kernel) rfl rfl (Nat.le_of_ble_eq_true rfl) dX10_run_92 ((sM (am := am) (r := 0) (m := (va_up o21 0 (upd (o21 0) 7 ((o21 0) 5)))) (g := (upd (upd (o21 0) 7 ((o21 0) 5)) 8 ((o21 0) 6))) (by decide)).trans (congrArg (fun z => mW cy am z) (up_up _ _ _ _))) (fun H locs hP hD hS => ?_)
              refine lv_aload_n hx hb dX10_run_95 rfl (lv_at hl 2 rfl) ?_
              refine lv_bipush (v := 10) hx hb dX10_run_96 (by decide) ?_
              refine put' (ci := 12) (fs := mF am (upd (upd (o21 0) 7 ((o21 0) 5)) 8 ((o21 0) 6))) (v := .int 10) (ty := .int) (ws' := (mW cy am (va_up o21 0 (upd (upd (upd (o21 0) 7 ((o21 0) 5)) 8 ((o21 0) 6)) 5 10)))) hx hb hw inWX10 tyX10 tyX10_ok nmX10 hown hK hP hD hS (gM (am := am) (r := 0) (m := (va_up o21 0 (upd (upd (o21 0) 7 ((o21 0) 5)) 8 ((o21 0) 6)))) (f := (upd (upd (o21 0) 7 ((o21 0) 5)) 8 ((o21 0) 6))) (by decide) (va_up_self _ _ _)) rfl 5 (by decide) k_1575 rfl rfl (by decide +kernel) rfl rfl (Nat.le_of_ble_eq_true rfl) dX10_run_98 ((sM (am := am) (r := 0) (m := (va_up o21 0 (upd (upd (o21 0) 7 ((o21 0) 5)) 8 ((o21 0) 6)))) (g := (upd (upd (upd (o21 0) 7 ((o21 0) 5)) 8 ((o21 0) 6)) 5 10)) (by decide)).trans (congrArg (fun z => mW cy am z) (up_up _ _ _ _))) (fun H locs hP hD hS => ?_)
              refine lv_aload_n hx hb dX10_run_101 rfl (lv_at hl 2 rfl) ?_
              refine lv_iload_n hx hb dX10_run_102 rfl (lv_at hl 1 rfl) ?_
              refine put' (ci := 12) (fs := mF am (upd (upd (upd (o21 0) 7 ((o21 0) 5)) 8 ((o21 0) 6)) 5 10)) (v := .int i1h37) (ty := .int) (ws' := (mW cy am (va_up o21 0 (upd (upd (upd (upd (o21 0) 7 ((o21 0) 5)) 8 ((o21 0) 6)) 5 10) 6 i1h37)))) hx hb hw inWX10 tyX10 tyX10_ok nmX10 hown hK hP hD hS (gM (am := am) (r := 0) (m := (va_up o21 0 (upd (upd (upd (o21 0) 7 ((o21 0) 5)) 8 ((o21 0) 6)) 5 10))) (f := (upd (upd (upd (o21 0) 7 ((o21 0) 5)) 8 ((o21 0) 6)) 5 10)) (by decide) (va_up_self _ _ _)) rfl 6 (by decide) k_1576 rfl rfl (by decide +kernel) rfl rfl (Nat.le_of_ble_eq_true rfl) dX10_run_103 ((sM (am := am) (r := 0) (m := (va_up o21 0 (upd (upd (upd (o21 0) 7 ((o21 0) 5)) 8 ((o21 0) 6)) 5 10))) (g := (upd (upd (upd (upd (o21 0) 7 ((o21 0) 5)) 8 ((o21 0) 6)) 5 10) 6 i1h37)) (by decide)).trans (congrArg (fun z => mW cy am z) (up_up _ _ _ _))) (fun H locs hP hD hS => ?_)
              refine lv_aload_n hx hb dX10_run_106 rfl (lv_at hl 2 rfl) ?_
              refine lv_aload_n hx hb dX10_run_107 rfl (lv_at hl 2 rfl) ?_
              refine get' (ci := 12) (fs := mF am (upd (upd (upd (upd (o21 0) 7 ((o21 0) 5)) 8 ((o21 0) 6)) 5 10) 6 i1h37)) (v := .int ((o21 0) 15)) hx hb hw inWX10 hown hK hP (gM (am := am) (r := 0) (m := (va_up o21 0 (upd (upd (upd (upd (o21 0) 7 ((o21 0) 5)) 8 ((o21 0) 6)) 5 10) 6 i1h37))) (f := (upd (upd (upd (upd (o21 0) 7 ((o21 0) 5)) 8 ((o21 0) 6)) 5 10) 6 i1h37)) (by decide) (va_up_self _ _ _)) rfl 15 (by decide) k_1585 rfl rfl dX10_run_108 ?_
              refine put' (ci := 12) (fs := mF am (upd (upd (upd (upd (o21 0) 7 ((o21 0) 5)) 8 ((o21 0) 6)) 5 10) 6 i1h37)) (v := .int ((o21 0) 15)) (ty := .int) (ws' := (mW cy am (va_up o21 0 (upd (upd (upd (upd (upd (o21 0) 7 ((o21 0) 5)) 8 ((o21 0) 6)) 5 10) 6 i1h37) 4 ((o21 0) 15))))) hx hb hw inWX10 tyX10 tyX10_ok nmX10 hown hK hP hD hS (gM (am := am) (r := 0) (m := (va_up o21 0 (upd (upd (upd (upd (o21 0) 7 ((o21 0) 5)) 8 ((o21 0) 6)) 5 10) 6 i1h37))) (f := (upd (upd (upd (upd (o21 0) 7 ((o21 0) 5)) 8 ((o21 0) 6)) 5 10) 6 i1h37)) (by decide) (va_up_self _ _ _)) rfl 4 (by decide) k_1574 rfl rfl (by decide +kernel) rfl rfl (Nat.le_of_ble_eq_true rfl) dX10_run_111 ((sM (am := am) (r := 0) (m := (va_up o21 0 (upd (upd (upd (upd (o21 0) 7 ((o21 0) 5)) 8 ((o21 0) 6)) 5 10) 6 i1h37))) (g := (upd (upd (upd (upd (upd (o21 0) 7 ((o21 0) 5)) 8 ((o21 0) 6)) 5 10) 6 i1h37) 4 ((o21 0) 15))) (by decide)).trans (congrArg (fun z => mW cy am z) (up_up _ _ _ _))) (fun H locs hP hD hS => ?_)
              refine lv_aload_n hx hb dX10_run_114 rfl (lv_at hl 2 rfl) ?_
              refine lv_iload_n hx hb dX10_run_115 rfl (lv_at hl 0 rfl) ?_
              obtain ⟨⟨r26, o27⟩, hc28, hF⟩ := bind_some hF
              try dsimp only at hF
              refine cV_i (As := [.int 0]) (rest := []) hx hb hml hown hw hK hN hA hl.1 hP hD hS k_1667 k_1669 k_34 k_90 k_1670 (met_X10_ends l D cy _ am (va_up o21 0 (upd (upd (upd (upd (upd (o21 0) 7 ((o21 0) 5)) 8 ((o21 0) 6)) 5 10) 6 i1h37) 4 ((o21 0) 15))) 0 (Or.inl rfl) r26 o27 hc28) (fun _ _ _ => trivial) Xok_T (gM (am := am) (r := 0) (m := (va_up o21 0 (upd (upd (upd (upd (upd (o21 0) 7 ((o21 0) 5)) 8 ((o21 0) 6)) 5 10) 6 i1h37) 4 ((o21 0) 15)))) (f := (upd (upd (upd (upd (upd (o21 0) 7 ((o21 0) 5)) 8 ((o21 0) 6)) 5 10) 6 i1h37) 4 ((o21 0) 15))) (by decide) (va_up_self _ _ _)) rfl ⟨rfl, rfl⟩ (n := 1) (by decide +kernel) rfl ⟨Nat.le_of_ble_eq_true rfl, Nat.le_of_ble_eq_true rfl⟩ ⟨Nat.le_of_ble_eq_true rfl, Nat.le_of_ble_eq_true rfl⟩ (Nat.le_of_ble_eq_true rfl) rfl dX10_run_116 (fun H locs hP hD hS => ?_)
              refine lv_istore_n (lv' := [(3, .int r26), (2, .int 0), (1, .int i1h37), (0, .ref (am 0))]) hx hb dX10_run_119 rfl hl (by decide) rfl (fun ls hl => ?_)
              refine lv_aload_n hx hb dX10_run_120 rfl (lv_at hl 3 rfl) ?_
              refine lv_iload_n hx hb dX10_run_121 rfl (lv_at hl 1 rfl) ?_
              refine lv_if_eq (tgt := 129) hx hb dX10_run_122 (by decide) (fun _ => ?_) (fun h => absurd h (by decide))
              refine lv_iconst (v := 2) hx hb dX10_run_129 (by decide) ?_
              refine put' (ci := 12) (fs := mF am (o27 0)) (v := .int 2) (ty := .int) (ws' := (mW cy am (va_up o27 0 (upd (o27 0) 0 2)))) hx hb hw inWX10 tyX10 tyX10_ok nmX10 hown hK hP hD hS (gM (am := am) (r := 0) (m := o27) (f := (o27 0)) (by decide) rfl) rfl 0 (by decide) k_1570 rfl rfl (by decide +kernel) rfl rfl (Nat.le_of_ble_eq_true rfl) dX10_run_130 (sM (am := am) (r := 0) (m := o27) (g := (upd (o27 0) 0 2)) (by decide)) (fun H locs hP hD hS => ?_)
              refine lv_iload_n hx hb dX10_run_133 rfl (lv_at hl 0 rfl) ?_
              cases hF
              exact hret _ _ _ _ _ _ hP hD hS rfl rfl dX10_run_134
            · replace hF := (if_pos h24).symm.trans hF
              refine lv_iconst (v := 1) hx hb dX10_run_69 (by decide) ?_
              refine lv_goto (tgt := 74) hx hb dX10_run_70 (by decide) ?_
              refine lv_istore_n (lv' := [(2, .int 1), (1, .int i1h37), (0, .ref (am 0))]) hx hb dX10_run_74 rfl hl (by decide) rfl (fun ls hl => ?_)
              refine lv_iload_n hx hb dX10_run_75 rfl (lv_at hl 0 rfl) ?_
              refine lv_if_ne (tgt := 106) hx hb dX10_run_76 (by decide) (fun _ => ?_) (fun h => absurd h (by decide))
              refine lv_aload_n hx hb dX10_run_106 rfl (lv_at hl 2 rfl) ?_
              refine lv_aload_n hx hb dX10_run_107 rfl (lv_at hl 2 rfl) ?_
              refine get' (ci := 12) (fs := mF am (o21 0)) (v := .int ((o21 0) 15)) hx hb hw inWX10 hown hK hP (gM (am := am) (r := 0) (m := o21) (f := (o21 0)) (by decide) rfl) rfl 15 (by decide) k_1585 rfl rfl dX10_run_108 ?_
              refine put' (ci := 12) (fs := mF am (o21 0)) (v := .int ((o21 0) 15)) (ty := .int) (ws' := (mW cy am (va_up o21 0 (upd (o21 0) 4 ((o21 0) 15))))) hx hb hw inWX10 tyX10 tyX10_ok nmX10 hown hK hP hD hS (gM (am := am) (r := 0) (m := o21) (f := (o21 0)) (by decide) rfl) rfl 4 (by decide) k_1574 rfl rfl (by decide +kernel) rfl rfl (Nat.le_of_ble_eq_true rfl) dX10_run_111 (sM (am := am) (r := 0) (m := o21) (g := (upd (o21 0) 4 ((o21 0) 15))) (by decide)) (fun H locs hP hD hS => ?_)
              refine lv_aload_n hx hb dX10_run_114 rfl (lv_at hl 2 rfl) ?_
              refine lv_iload_n hx hb dX10_run_115 rfl (lv_at hl 0 rfl) ?_
              obtain ⟨⟨r31, o32⟩, hc33, hF⟩ := bind_some hF
              try dsimp only at hF
              refine cV_i (As := [.int 1]) (rest := []) hx hb hml hown hw hK hN hA hl.1 hP hD hS k_1667 k_1669 k_34 k_90 k_1670 (met_X10_ends l D cy _ am (va_up o21 0 (upd (o21 0) 4 ((o21 0) 15))) 1 (Or.inr rfl) r31 o32 hc33) (fun _ _ _ => trivial) Xok_T (gM (am := am) (r := 0) (m := (va_up o21 0 (upd (o21 0) 4 ((o21 0) 15)))) (f := (upd (o21 0) 4 ((o21 0) 15))) (by decide) (va_up_self _ _ _)) rfl ⟨rfl, rfl⟩ (n := 1) (by decide +kernel) rfl ⟨Nat.le_of_ble_eq_true rfl, Nat.le_of_ble_eq_true rfl⟩ ⟨Nat.le_of_ble_eq_true rfl, Nat.le_of_ble_eq_true rfl⟩ (Nat.le_of_ble_eq_true rfl) rfl dX10_run_116 (fun H locs hP hD hS => ?_)
              refine lv_istore_n (lv' := [(3, .int r31), (2, .int 1), (1, .int i1h37), (0, .ref (am 0))]) hx hb dX10_run_119 rfl hl (by decide) rfl (fun ls hl => ?_)
              refine lv_aload_n hx hb dX10_run_120 rfl (lv_at hl 3 rfl) ?_
              refine lv_iload_n hx hb dX10_run_121 rfl (lv_at hl 1 rfl) ?_
              refine lv_if_eq (tgt := 129) hx hb dX10_run_122 (by decide) (fun h => absurd h (by decide)) (fun _ => ?_)
              refine lv_iconst (v := 0) hx hb dX10_run_125 (by decide) ?_
              refine lv_goto (tgt := 130) hx hb dX10_run_126 (by decide) ?_
              refine put' (ci := 12) (fs := mF am (o32 0)) (v := .int 0) (ty := .int) (ws' := (mW cy am (va_up o32 0 (upd (o32 0) 0 0)))) hx hb hw inWX10 tyX10 tyX10_ok nmX10 hown hK hP hD hS (gM (am := am) (r := 0) (m := o32) (f := (o32 0)) (by decide) rfl) rfl 0 (by decide) k_1570 rfl rfl (by decide +kernel) rfl rfl (Nat.le_of_ble_eq_true rfl) dX10_run_130 (sM (am := am) (r := 0) (m := o32) (g := (upd (o32 0) 0 0)) (by decide)) (fun H locs hP hD hS => ?_)
              refine lv_iload_n hx hb dX10_run_133 rfl (lv_at hl 0 rfl) ?_
              cases hF
              exact hret _ _ _ _ _ _ hP hD hS rfl rfl dX10_run_134
          · replace hF := (if_neg h23).symm.trans hF
            refine lv_iinc (v := (i1h37 + 1)) (lv' := [(1, .int (i1h37 + 1)), (0, .ref (am 0))]) hx hb dX10_run_55 hl (k := 0) rfl rfl (by decide) rfl (fun ls hl => ?_)
            refine lv_goto (tgt := 37) hx hb dX10_run_58 (by decide) ?_
            exact ih37 (i1h37 + 1) o21 _ _ _ hF hP hD hS (lv_sub hl [0, 1] rfl)
    exact loop37 200 0 o6 _ _ _ hF hP hD hS (lv_sub hl [0, 1] rfl)
  · replace hF := (if_neg h4).symm.trans hF
    refine lv_aload_n hx hb dX10_run_16 rfl (lv_at hl 0 rfl) ?_
    refine lv_aload_n hx hb dX10_run_17 rfl (lv_at hl 0 rfl) ?_
    refine get' (ci := 12) (fs := mF am (upd (o2 0) 10 0)) (v := .int ((o2 0) 12)) hx hb hw inWX10 hown hK hP (gM (am := am) (r := 0) (m := (va_up o2 0 (upd (o2 0) 10 0))) (f := (upd (o2 0) 10 0)) (by decide) (va_up_self _ _ _)) rfl 12 (by decide) k_1582 rfl rfl dX10_run_18 ?_
    refine put' (ci := 12) (fs := mF am (upd (o2 0) 10 0)) (v := .int ((o2 0) 12)) (ty := .int) (ws' := (mW cy am (va_up o2 0 (upd (upd (o2 0) 10 0) 13 ((o2 0) 12))))) hx hb hw inWX10 tyX10 tyX10_ok nmX10 hown hK hP hD hS (gM (am := am) (r := 0) (m := (va_up o2 0 (upd (o2 0) 10 0))) (f := (upd (o2 0) 10 0)) (by decide) (va_up_self _ _ _)) rfl 13 (by decide) k_1583 rfl rfl (by decide +kernel) rfl rfl (Nat.le_of_ble_eq_true rfl) dX10_run_21 ((sM (am := am) (r := 0) (m := (va_up o2 0 (upd (o2 0) 10 0))) (g := (upd (upd (o2 0) 10 0) 13 ((o2 0) 12))) (by decide)).trans (congrArg (fun z => mW cy am z) (up_up _ _ _ _))) (fun H locs hP hD hS => ?_)
    refine lv_aload_n hx hb dX10_run_24 rfl (lv_at hl 0 rfl) ?_
    refine lv_iconst (v := 1) hx hb dX10_run_25 (by decide) ?_
    refine put' (ci := 12) (fs := mF am (upd (upd (o2 0) 10 0) 13 ((o2 0) 12))) (v := .int 1) (ty := .int) (ws' := (mW cy am (va_up o2 0 (upd (upd (upd (o2 0) 10 0) 13 ((o2 0) 12)) 0 1)))) hx hb hw inWX10 tyX10 tyX10_ok nmX10 hown hK hP hD hS (gM (am := am) (r := 0) (m := (va_up o2 0 (upd (upd (o2 0) 10 0) 13 ((o2 0) 12)))) (f := (upd (upd (o2 0) 10 0) 13 ((o2 0) 12))) (by decide) (va_up_self _ _ _)) rfl 0 (by decide) k_1570 rfl rfl (by decide +kernel) rfl rfl (Nat.le_of_ble_eq_true rfl) dX10_run_26 ((sM (am := am) (r := 0) (m := (va_up o2 0 (upd (upd (o2 0) 10 0) 13 ((o2 0) 12)))) (g := (upd (upd (upd (o2 0) 10 0) 13 ((o2 0) 12)) 0 1)) (by decide)).trans (congrArg (fun z => mW cy am z) (up_up _ _ _ _))) (fun H locs hP hD hS => ?_)
    refine lv_iconst (v := 0) hx hb dX10_run_29 (by decide) ?_
    cases hF
    exact hret _ _ _ _ _ _ hP hD hS rfl rfl dX10_run_30
