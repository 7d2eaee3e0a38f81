def L_J6_stringSize_0f7a4_16 : Nat → (Int32) → (Int32) → (Int32) → Option (Int32)
  | 0, _, _, _ => none
  | n16 + 1, p1, i3h16, i2h16 => if 10 ≤ i3h16 then (some (10 + 1)) else (if p1 ≤ i2h16 then (L_J6_stringSize_0f7a4_16 n16 p1 (i3h16 + 1) (10 * i2h16)) else (some (i3h16 + 1)))
def L_J6_stringSize_0f7a4_16_2 : Nat → (Int32) → (Int32) → (Int32) → Option (Int32)
  | 0, _, _, _ => none
  | n16 + 1, p1, i3h16, i2h16 => if 10 ≤ i3h16 then (some (10 + 0)) else (if (-p1) ≤ i2h16 then (L_J6_stringSize_0f7a4_16_2 n16 p1 (i3h16 + 1) (10 * i2h16)) else (some (i3h16 + 0)))
def D_J6_stringSize_0f7a4 (p1 : Int32) : Option (Int32) := if p1 < 0 then (L_J6_stringSize_0f7a4_16 200 p1 1 (-10)) else (L_J6_stringSize_0f7a4_16_2 200 p1 1 (-10))
abbrev rm_J6_stringSize_0f7a4 : Room := { frames := 0, cells := 0, slots := 0, locals := 0 }
set_option maxHeartbeats 4000000 in
set_option maxRecDepth 100000 in
theorem met_J6_stringSize_0f7a4 (l : Launch) (D : va_G) (cy : Nat → ClassId) (sz : Nat) (ws : va_W) (p1 : Int32)  (r : Int32) (hF : D_J6_stringSize_0f7a4 p1 = some r) : MI l yJ6_stringSize_0f7a4 cJ6_stringSize_0f7a4 4 (some .int) rm_J6_stringSize_0f7a4 D cy ws sz (fun _ => True) [.int p1] r ws := by
  refine MI.of (by decide +kernel) (Nat.le_of_ble_eq_true rfl) ?_
  intro p e s m args below meth c A ls Q hAt _ hP hD hA hS hl hret
  obtain ⟨hx, hb, hr, hml, hown, hw, hlk, hK, hN⟩ := hAt
  have hown : s.vm.findClass "java/lang/Integer" = some m.cls := hown
  have hl : lv_has ls 4 [(0, .int p1)] := hl
  refine lv_iconst (v := 1) hx hb dJ6_stringSize_0f7a4_0 (by decide) ?_
  refine lv_istore_n (lv' := [(1, .int 1), (0, .int p1)]) hx hb dJ6_stringSize_0f7a4_1 rfl hl (by decide) rfl (fun ls hl => ?_)
  refine lv_iload_n hx hb dJ6_stringSize_0f7a4_2 rfl (lv_at hl 1 rfl) ?_
  refine lv_if_lt (tgt := 11) hx hb dJ6_stringSize_0f7a4_3 (by decide) (fun h1 => ?_) (fun h1 => ?_)
  · replace hF := (if_pos h1).symm.trans hF
    refine lv_bipush (v := (-10)) hx hb dJ6_stringSize_0f7a4_11 (by decide) ?_
    refine lv_istore_n (lv' := [(2, .int (-10)), (1, .int 1), (0, .int p1)]) hx hb dJ6_stringSize_0f7a4_13 rfl hl (by decide) rfl (fun ls hl => ?_)
    refine lv_iconst (v := 1) hx hb dJ6_stringSize_0f7a4_14 (by decide) ?_
    refine lv_istore_n (lv' := [(3, .int 1), (2, .int (-10)), (1, .int 1), (0, .int p1)]) hx hb dJ6_stringSize_0f7a4_15 rfl hl (by decide) rfl (fun ls hl => ?_)
    have loop16 : ∀ (n : Nat) (i3h16 : Int32) (i2h16 : Int32) (H : Heap) (locs : List Loc) (ls : Array Slot), L_J6_stringSize_0f7a4_16 n p1 i3h16 i2h16 = some r → va_P D vwCl ws H → va_D A ws → va_S A s.heap H locs → lv_has ls 4 [(3, .int i3h16), (2, .int i2h16), (1, .int 1), (0, .int p1)] → W p l e rm_J6_stringSize_0f7a4 s m args below meth c H locs 0 0 Q (F0 m 16 ls []) := by
      intro n
      induction n with
      | zero => intro i3h16 i2h16 H locs ls hF _ _ _ _; exact absurd hF (by simp [L_J6_stringSize_0f7a4_16])
      | succ n16 ih16 =>
        intro i3h16 i2h16 H locs ls hF hP hD hS hl
        refine lv_iload_n hx hb dJ6_stringSize_0f7a4_16 rfl (lv_at hl 0 rfl) ?_
        refine lv_bipush (v := 10) hx hb dJ6_stringSize_0f7a4_17 (by decide) ?_
        refine lv_icmp_ge (tgt := 42) hx hb dJ6_stringSize_0f7a4_19 (by decide) (fun h2 => ?_) (fun h2 => ?_)
        · replace hF := (if_pos h2).symm.trans hF
          refine lv_bipush (v := 10) hx hb dJ6_stringSize_0f7a4_42 (by decide) ?_
          refine lv_iload_n hx hb dJ6_stringSize_0f7a4_44 rfl (lv_at hl 2 rfl) ?_
          refine lv_iadd hx hb dJ6_stringSize_0f7a4_45 ?_
          cases hF
          exact hret _ _ _ _ _ _ hP hD hS rfl rfl dJ6_stringSize_0f7a4_46
        · replace hF := (if_neg h2).symm.trans hF
          refine lv_iload_n hx hb dJ6_stringSize_0f7a4_22 rfl (lv_at hl 3 rfl) ?_
          refine lv_iload_n hx hb dJ6_stringSize_0f7a4_23 rfl (lv_at hl 1 rfl) ?_
          refine lv_icmp_le (tgt := 31) hx hb dJ6_stringSize_0f7a4_24 (by decide) (fun h3 => ?_) (fun h3 => ?_)
          · replace hF := (if_pos h3).symm.trans hF
            refine lv_bipush (v := 10) hx hb dJ6_stringSize_0f7a4_31 (by decide) ?_
            refine lv_iload_n hx hb dJ6_stringSize_0f7a4_33 rfl (lv_at hl 1 rfl) ?_
            refine lv_imul hx hb dJ6_stringSize_0f7a4_34 ?_
            refine lv_istore_n (lv' := [(2, .int (10 * i2h16)), (3, .int i3h16), (1, .int 1), (0, .int p1)]) hx hb dJ6_stringSize_0f7a4_35 rfl hl (by decide) rfl (fun ls hl => ?_)
            refine lv_iinc (v := (i3h16 + 1)) (lv' := [(3, .int (i3h16 + 1)), (2, .int (10 * i2h16)), (1, .int 1), (0, .int p1)]) hx hb dJ6_stringSize_0f7a4_36 hl (k := 1) rfl rfl (by decide) rfl (fun ls hl => ?_)
            refine lv_goto (tgt := 16) hx hb dJ6_stringSize_0f7a4_39 (by decide) ?_
            exact ih16 (i3h16 + 1) (10 * i2h16)  _ _ _ hF hP hD hS (lv_sub hl [0, 1, 2, 3] rfl)
          · replace hF := (if_neg h3).symm.trans hF
            refine lv_iload_n hx hb dJ6_stringSize_0f7a4_27 rfl (lv_at hl 0 rfl) ?_
            refine lv_iload_n hx hb dJ6_stringSize_0f7a4_28 rfl (lv_at hl 2 rfl) ?_
            refine lv_iadd hx hb dJ6_stringSize_0f7a4_29 ?_
            cases hF
            exact hret _ _ _ _ _ _ hP hD hS rfl rfl dJ6_stringSize_0f7a4_30
    exact loop16 200 1 (-10)  _ _ _ hF hP hD hS (lv_sub hl [0, 1, 2, 3] rfl)
  · replace hF := (if_neg h1).symm.trans hF
    refine lv_iconst (v := 0) hx hb dJ6_stringSize_0f7a4_6 (by decide) ?_
    refine lv_istore_n (lv' := [(1, .int 0), (0, .int p1)]) hx hb dJ6_stringSize_0f7a4_7 rfl hl (by decide) rfl (fun ls hl => ?_)
    refine lv_iload_n hx hb dJ6_stringSize_0f7a4_8 rfl (lv_at hl 1 rfl) ?_
    refine lv_ineg hx hb dJ6_stringSize_0f7a4_9 ?_
    refine lv_istore_n (lv' := [(0, .int (-p1)), (1, .int 0)]) hx hb dJ6_stringSize_0f7a4_10 rfl hl (by decide) rfl (fun ls hl => ?_)
    refine lv_bipush (v := (-10)) hx hb dJ6_stringSize_0f7a4_11 (by decide) ?_
    refine lv_istore_n (lv' := [(2, .int (-10)), (0, .int (-p1)), (1, .int 0)]) hx hb dJ6_stringSize_0f7a4_13 rfl hl (by decide) rfl (fun ls hl => ?_)
    refine lv_iconst (v := 1) hx hb dJ6_stringSize_0f7a4_14 (by decide) ?_
    refine lv_istore_n (lv' := [(3, .int 1), (2, .int (-10)), (0, .int (-p1)), (1, .int 0)]) hx hb dJ6_stringSize_0f7a4_15 rfl hl (by decide) rfl (fun ls hl => ?_)
    have loop16 : ∀ (n : Nat) (i3h16 : Int32) (i2h16 : Int32) (H : Heap) (locs : List Loc) (ls : Array Slot), L_J6_stringSize_0f7a4_16_2 n p1 i3h16 i2h16 = some r → va_P D vwCl ws H → va_D A ws → va_S A s.heap H locs → lv_has ls 4 [(3, .int i3h16), (2, .int i2h16), (0, .int (-p1)), (1, .int 0)] → W p l e rm_J6_stringSize_0f7a4 s m args below meth c H locs 0 0 Q (F0 m 16 ls []) := by
      intro n
      induction n with
      | zero => intro i3h16 i2h16 H locs ls hF _ _ _ _; exact absurd hF (by simp [L_J6_stringSize_0f7a4_16_2])
      | succ n16 ih16 =>
        intro i3h16 i2h16 H locs ls hF hP hD hS hl
        refine lv_iload_n hx hb dJ6_stringSize_0f7a4_16 rfl (lv_at hl 0 rfl) ?_
        refine lv_bipush (v := 10) hx hb dJ6_stringSize_0f7a4_17 (by decide) ?_
        refine lv_icmp_ge (tgt := 42) hx hb dJ6_stringSize_0f7a4_19 (by decide) (fun h4 => ?_) (fun h4 => ?_)
        · replace hF := (if_pos h4).symm.trans hF
          refine lv_bipush (v := 10) hx hb dJ6_stringSize_0f7a4_42 (by decide) ?_
          refine lv_iload_n hx hb dJ6_stringSize_0f7a4_44 rfl (lv_at hl 3 rfl) ?_
          refine lv_iadd hx hb dJ6_stringSize_0f7a4_45 ?_
          cases hF
          exact hret _ _ _ _ _ _ hP hD hS rfl rfl dJ6_stringSize_0f7a4_46
        · replace hF := (if_neg h4).symm.trans hF
          refine lv_iload_n hx hb dJ6_stringSize_0f7a4_22 rfl (lv_at hl 2 rfl) ?_
          refine lv_iload_n hx hb dJ6_stringSize_0f7a4_23 rfl (lv_at hl 1 rfl) ?_
          refine lv_icmp_le (tgt := 31) hx hb dJ6_stringSize_0f7a4_24 (by decide) (fun h5 => ?_) (fun h5 => ?_)
          · replace hF := (if_pos h5).symm.trans hF
            refine lv_bipush (v := 10) hx hb dJ6_stringSize_0f7a4_31 (by decide) ?_
            refine lv_iload_n hx hb dJ6_stringSize_0f7a4_33 rfl (lv_at hl 1 rfl) ?_
            refine lv_imul hx hb dJ6_stringSize_0f7a4_34 ?_
            refine lv_istore_n (lv' := [(2, .int (10 * i2h16)), (3, .int i3h16), (0, .int (-p1)), (1, .int 0)]) hx hb dJ6_stringSize_0f7a4_35 rfl hl (by decide) rfl (fun ls hl => ?_)
            refine lv_iinc (v := (i3h16 + 1)) (lv' := [(3, .int (i3h16 + 1)), (2, .int (10 * i2h16)), (0, .int (-p1)), (1, .int 0)]) hx hb dJ6_stringSize_0f7a4_36 hl (k := 1) rfl rfl (by decide) rfl (fun ls hl => ?_)
            refine lv_goto (tgt := 16) hx hb dJ6_stringSize_0f7a4_39 (by decide) ?_
            exact ih16 (i3h16 + 1) (10 * i2h16)  _ _ _ hF hP hD hS (lv_sub hl [0, 1, 2, 3] rfl)
          · replace hF := (if_neg h5).symm.trans hF
            refine lv_iload_n hx hb dJ6_stringSize_0f7a4_27 rfl (lv_at hl 0 rfl) ?_
            refine lv_iload_n hx hb dJ6_stringSize_0f7a4_28 rfl (lv_at hl 3 rfl) ?_
            refine lv_iadd hx hb dJ6_stringSize_0f7a4_29 ?_
            cases hF
            exact hret _ _ _ _ _ _ hP hD hS rfl rfl dJ6_stringSize_0f7a4_30
    exact loop16 200 1 (-10)  _ _ _ hF hP hD hS (lv_sub hl [0, 1, 2, 3] rfl)
def L_J6_getChars_ba4f3_22 : Nat → (Mem) → (Int32) → (Int32) → (Int32) → (Int32) → (Mem) → Option (Int32 × (Mem))
  | 0, _, _, _, _, _, _ => none
  | n22 + 1, x, p1, p2, i0h22, i5h22, s22 => if (-100) < i0h22 then (if inb (-i0h22) 100 then (if inb (i5h22 + (-1)) 16 then (if (-9) ≤ i0h22 then (some ((i5h22 + (-1)), (va_up s22 12 (va_up (s22 12) 32 (upd ((s22 12) 32) ((i5h22 + (-1)).toNatClampNeg) (vp_nar .byte (nI (48 + (-i0h22).toNatClampNeg % 10)))))))) else (none)) else none) else none) else (none)
def L_J6_getChars_ba4f3_22_2 : Nat → (Mem) → (Int32) → (Int32) → (Int32) → (Int32) → (Mem) → Option (Int32 × (Mem))
  | 0, _, _, _, _, _, _ => none
  | n22 + 1, x, p1, p2, i5h22, i0h22, s22 => if (-100) < i0h22 then (if inb (-i0h22) 100 then (if inb (i5h22 + (-1)) 16 then (if (-9) ≤ i0h22 then (if inb ((i5h22 + (-1)) + (-1)) 16 then (some (((i5h22 + (-1)) + (-1)), (va_up s22 12 (va_up (s22 12) 32 (upd (upd ((s22 12) 32) ((i5h22 + (-1)).toNatClampNeg) (vp_nar .byte (nI (48 + (-i0h22).toNatClampNeg % 10)))) (((i5h22 + (-1)) + (-1)).toNatClampNeg) (vp_nar .byte 45)))))) else none) else (none)) else none) else none) else (none)
def D_J6_getChars_ba4f3 (x : Mem) (p1 : Int32) (p2 : Int32) : Option (Int32 × (Mem)) := if 0 ≤ p1 then (L_J6_getChars_ba4f3_22 200 x p1 p2 (-p1) p2 x) else (L_J6_getChars_ba4f3_22_2 200 x p1 p2 p2 p1 x)
abbrev rm_J6_getChars_ba4f3 : Room := { frames := 0, cells := 0, slots := 0, locals := 0 }
set_option maxHeartbeats 4000000 in
set_option maxRecDepth 100000 in
theorem met_J6_getChars_ba4f3 (l : Launch) (D : va_G) (cy : Nat → ClassId) (sz : Nat) (ad : Nat → Nat → Nat) (en g : Nat → Nat) (x : Mem) (p1 : Int32) (p2 : Int32)  (r : Int32) (t' : Mem) (hF : D_J6_getChars_ba4f3 x p1 p2 = some (r, t')) : MIS l yJ6_getChars_ba4f3 cJ6_getChars_ba4f3 7 (some .int) rm_J6_getChars_ba4f3 D cy en g (cW cy ad en x) sz [.int p1, .int p2, .ref (ad 12 32)] r (cW cy ad en t') := by
  refine MIS.of (by decide +kernel) (Nat.le_of_ble_eq_true rfl) ?_
  intro p e s m args below meth c A ls Q hAt hST hP hD hA hS hl hret
  obtain ⟨hx, hb, hr, hml, hown, hw, hlk, hK, hN⟩ := hAt
  have hown : s.vm.findClass "java/lang/Integer" = some m.cls := hown
  have hl : lv_has ls 7 [(0, .int p1), (1, .int p2), (2, .ref (ad 12 32))] := hl
  refine lv_iload_n hx hb dJ6_getChars_ba4f3_0 rfl (lv_at hl 1 rfl) ?_
  refine lv_istore (lv' := [(5, .int p2), (0, .int p1), (1, .int p2), (2, .ref (ad 12 32))]) hx hb dJ6_getChars_ba4f3_1 hl (by decide) rfl (fun ls hl => ?_)
  refine lv_iload_n hx hb dJ6_getChars_ba4f3_3 rfl (lv_at hl 1 rfl) ?_
  refine lv_if_ge (tgt := 11) hx hb dJ6_getChars_ba4f3_4 (by decide) (fun h1 => ?_) (fun h1 => ?_)
  · replace hF := (if_pos h1).symm.trans hF
    refine lv_iconst (v := 0) hx hb dJ6_getChars_ba4f3_11 (by decide) ?_
    refine lv_istore (lv' := [(6, .int 0), (5, .int p2), (0, .int p1), (1, .int p2), (2, .ref (ad 12 32))]) hx hb dJ6_getChars_ba4f3_12 hl (by decide) rfl (fun ls hl => ?_)
    refine lv_iload hx hb dJ6_getChars_ba4f3_14 (lv_at hl 0 rfl) ?_
    refine lv_if_ne (tgt := 22) hx hb dJ6_getChars_ba4f3_16 (by decide) (fun h => absurd h (by decide)) (fun _ => ?_)
    refine lv_iload_n hx hb dJ6_getChars_ba4f3_19 rfl (lv_at hl 2 rfl) ?_
    refine lv_ineg hx hb dJ6_getChars_ba4f3_20 ?_
    refine lv_istore_n (lv' := [(0, .int (-p1)), (6, .int 0), (5, .int p2), (1, .int p2), (2, .ref (ad 12 32))]) hx hb dJ6_getChars_ba4f3_21 rfl hl (by decide) rfl (fun ls hl => ?_)
    have loop22 : ∀ (n : Nat) (i0h22 : Int32) (i5h22 : Int32) (s22 : Mem) (H : Heap) (locs : List Loc) (ls : Array Slot), L_J6_getChars_ba4f3_22 n x p1 p2 i0h22 i5h22 s22 = some (r, t') → va_P D vwCl (cW cy ad en s22) H → va_D A (cW cy ad en s22) → va_S A s.heap H locs → lv_has ls 7 [(0, .int i0h22), (6, .int 0), (5, .int i5h22), (1, .int p2), (2, .ref (ad 12 32))] → W p l e rm_J6_getChars_ba4f3 s m args below meth c H locs 0 0 Q (F0 m 22 ls []) := by
      intro n
      induction n with
      | zero => intro i0h22 i5h22 s22 H locs ls hF _ _ _ _; exact absurd hF (by simp [L_J6_getChars_ba4f3_22])
      | succ n22 ih22 =>
        intro i0h22 i5h22 s22 H locs ls hF hP hD hS hl
        refine lv_iload_n hx hb dJ6_getChars_ba4f3_22 rfl (lv_at hl 0 rfl) ?_
        refine lv_bipush (v := (-100)) hx hb dJ6_getChars_ba4f3_23 (by decide) ?_
        refine lv_icmp_gt (tgt := 72) hx hb dJ6_getChars_ba4f3_25 (by decide) (fun h3 => ?_) (fun h3 => ?_)
        · replace hF := (if_pos h3).symm.trans hF
          refine lv_aload_n hx hb dJ6_getChars_ba4f3_72 rfl (lv_at hl 4 rfl) ?_
          refine lv_iinc (v := (i5h22 + (-1))) (lv' := [(5, .int (i5h22 + (-1))), (0, .int i0h22), (6, .int 0), (1, .int p2), (2, .ref (ad 12 32))]) hx hb dJ6_getChars_ba4f3_73 hl (k := 2) rfl rfl (by decide) rfl (fun ls hl => ?_)
          refine lv_iload hx hb dJ6_getChars_ba4f3_76 (lv_at hl 0 rfl) ?_
          refine va_gets (n := "DigitOnes") (v := .ref (g 2)) hx hb hST.2.2.2.2.2.2.2.2.2.2.2.2.2.2.1 hS hown (hw _ k_747) (fun _ h9 => h9) dJ6_getChars_ba4f3_78 ?_
          refine lv_iload_n hx hb dJ6_getChars_ba4f3_81 rfl (lv_at hl 1 rfl) ?_
          refine lv_ineg hx hb dJ6_getChars_ba4f3_82 ?_
          obtain ⟨h4, hF⟩ := ite_some hF
          refine va_tb (v := .int (nI (48 + (-i0h22).toNatClampNeg % 10))) hx hb hST.2.2.2.2.2.2.2.2.2.2.2.2.2.2.2 hS (vp_inb h4) rfl dJ6_getChars_ba4f3_83 ?_
          obtain ⟨h5, hF⟩ := ite_some hF
          refine bast' (n := 16) (f := ((s22 12) 32)) (ws' := (cW cy ad en (va_up s22 12 (va_up (s22 12) 32 (upd ((s22 12) 32) ((i5h22 + (-1)).toNatClampNeg) (vp_nar .byte (nI (48 + (-i0h22).toNatClampNeg % 10)))))))) hx hb hK hP hD hS (gY (x := s22) (r := 32) (f := ((s22 12) 32)) (by decide) ((congrFun rfl _).trans rfl)) (t0 := 2) rfl (vp_inb h5) dJ6_getChars_ba4f3_84 ((sY (x := s22) (r := 32) (g := (upd ((s22 12) 32) ((i5h22 + (-1)).toNatClampNeg) (vp_nar .byte (nI (48 + (-i0h22).toNatClampNeg % 10))))) (by decide)).trans (congrArg (fun z => cW cy ad en (va_up s22 12 (va_up z 32 (upd ((s22 12) 32) ((i5h22 + (-1)).toNatClampNeg) (vp_nar .byte (nI (48 + (-i0h22).toNatClampNeg % 10))))))) rfl)) (fun H locs hP hD hS => ?_)
          refine lv_iload_n hx hb dJ6_getChars_ba4f3_85 rfl (lv_at hl 1 rfl) ?_
          refine lv_bipush (v := (-9)) hx hb dJ6_getChars_ba4f3_86 (by decide) ?_
          refine lv_icmp_ge (tgt := 104) hx hb dJ6_getChars_ba4f3_88 (by decide) (fun h6 => ?_) (fun h6 => ?_)
          · replace hF := (if_pos h6).symm.trans hF
            refine lv_iload hx hb dJ6_getChars_ba4f3_104 (lv_at hl 2 rfl) ?_
            refine lv_if_eq (tgt := 118) hx hb dJ6_getChars_ba4f3_106 (by decide) (fun _ => ?_) (fun h => absurd h (by decide))
            refine lv_iload hx hb dJ6_getChars_ba4f3_118 (lv_at hl 0 rfl) ?_
            obtain ⟨rfl, rfl⟩ := Prod.mk.inj (Option.some.inj hF)
            exact hret _ _ _ _ _ _ hP hD hS rfl rfl dJ6_getChars_ba4f3_120
          · replace hF := (if_neg h6).symm.trans hF
            exact absurd hF (by simp)
        · replace hF := (if_neg h3).symm.trans hF
          exact absurd hF (by simp)
    exact loop22 200 (-p1) p2 x _ _ _ hF hP hD hS (lv_sub hl [0, 1, 2, 3, 4] rfl)
  · replace hF := (if_neg h1).symm.trans hF
    refine lv_iconst (v := 1) hx hb dJ6_getChars_ba4f3_7 (by decide) ?_
    refine lv_goto (tgt := 12) hx hb dJ6_getChars_ba4f3_8 (by decide) ?_
    refine lv_istore (lv' := [(6, .int 1), (5, .int p2), (0, .int p1), (1, .int p2), (2, .ref (ad 12 32))]) hx hb dJ6_getChars_ba4f3_12 hl (by decide) rfl (fun ls hl => ?_)
    refine lv_iload hx hb dJ6_getChars_ba4f3_14 (lv_at hl 0 rfl) ?_
    refine lv_if_ne (tgt := 22) hx hb dJ6_getChars_ba4f3_16 (by decide) (fun _ => ?_) (fun h => absurd h (by decide))
    have loop22 : ∀ (n : Nat) (i5h22 : Int32) (i0h22 : Int32) (s22 : Mem) (H : Heap) (locs : List Loc) (ls : Array Slot), L_J6_getChars_ba4f3_22_2 n x p1 p2 i5h22 i0h22 s22 = some (r, t') → va_P D vwCl (cW cy ad en s22) H → va_D A (cW cy ad en s22) → va_S A s.heap H locs → lv_has ls 7 [(6, .int 1), (5, .int i5h22), (0, .int i0h22), (1, .int p2), (2, .ref (ad 12 32))] → W p l e rm_J6_getChars_ba4f3 s m args below meth c H locs 0 0 Q (F0 m 22 ls []) := by
      intro n
      induction n with
      | zero => intro i5h22 i0h22 s22 H locs ls hF _ _ _ _; exact absurd hF (by simp [L_J6_getChars_ba4f3_22_2])
      | succ n22 ih22 =>
        intro i5h22 i0h22 s22 H locs ls hF hP hD hS hl
        refine lv_iload_n hx hb dJ6_getChars_ba4f3_22 rfl (lv_at hl 2 rfl) ?_
        refine lv_bipush (v := (-100)) hx hb dJ6_getChars_ba4f3_23 (by decide) ?_
        refine lv_icmp_gt (tgt := 72) hx hb dJ6_getChars_ba4f3_25 (by decide) (fun h11 => ?_) (fun h11 => ?_)
        · replace hF := (if_pos h11).symm.trans hF
          refine lv_aload_n hx hb dJ6_getChars_ba4f3_72 rfl (lv_at hl 4 rfl) ?_
          refine lv_iinc (v := (i5h22 + (-1))) (lv' := [(5, .int (i5h22 + (-1))), (6, .int 1), (0, .int i0h22), (1, .int p2), (2, .ref (ad 12 32))]) hx hb dJ6_getChars_ba4f3_73 hl (k := 1) rfl rfl (by decide) rfl (fun ls hl => ?_)
          refine lv_iload hx hb dJ6_getChars_ba4f3_76 (lv_at hl 0 rfl) ?_
          refine va_gets (n := "DigitOnes") (v := .ref (g 2)) hx hb hST.2.2.2.2.2.2.2.2.2.2.2.2.2.2.1 hS hown (hw _ k_747) (fun _ h9 => h9) dJ6_getChars_ba4f3_78 ?_
          refine lv_iload_n hx hb dJ6_getChars_ba4f3_81 rfl (lv_at hl 2 rfl) ?_
          refine lv_ineg hx hb dJ6_getChars_ba4f3_82 ?_
          obtain ⟨h12, hF⟩ := ite_some hF
          refine va_tb (v := .int (nI (48 + (-i0h22).toNatClampNeg % 10))) hx hb hST.2.2.2.2.2.2.2.2.2.2.2.2.2.2.2 hS (vp_inb h12) rfl dJ6_getChars_ba4f3_83 ?_
          obtain ⟨h13, hF⟩ := ite_some hF
          refine bast' (n := 16) (f := ((s22 12) 32)) (ws' := (cW cy ad en (va_up s22 12 (va_up (s22 12) 32 (upd ((s22 12) 32) ((i5h22 + (-1)).toNatClampNeg) (vp_nar .byte (nI (48 + (-i0h22).toNatClampNeg % 10)))))))) hx hb hK hP hD hS (gY (x := s22) (r := 32) (f := ((s22 12) 32)) (by decide) ((congrFun rfl _).trans rfl)) (t0 := 2) rfl (vp_inb h13) dJ6_getChars_ba4f3_84 ((sY (x := s22) (r := 32) (g := (upd ((s22 12) 32) ((i5h22 + (-1)).toNatClampNeg) (vp_nar .byte (nI (48 + (-i0h22).toNatClampNeg % 10))))) (by decide)).trans (congrArg (fun z => cW cy ad en (va_up s22 12 (va_up z 32 (upd ((s22 12) 32) ((i5h22 + (-1)).toNatClampNeg) (vp_nar .byte (nI (48 + (-i0h22).toNatClampNeg % 10))))))) rfl)) (fun H locs hP hD hS => ?_)
          refine lv_iload_n hx hb dJ6_getChars_ba4f3_85 rfl (lv_at hl 2 rfl) ?_
          refine lv_bipush (v := (-9)) hx hb dJ6_getChars_ba4f3_86 (by decide) ?_
          refine lv_icmp_ge (tgt := 104) hx hb dJ6_getChars_ba4f3_88 (by decide) (fun h14 => ?_) (fun h14 => ?_)
          · replace hF := (if_pos h14).symm.trans hF
            refine lv_iload hx hb dJ6_getChars_ba4f3_104 (lv_at hl 1 rfl) ?_
            refine lv_if_eq (tgt := 118) hx hb dJ6_getChars_ba4f3_106 (by decide) (fun h => absurd h (by decide)) (fun _ => ?_)
            refine lv_aload_n hx hb dJ6_getChars_ba4f3_109 rfl (lv_at hl 4 rfl) ?_
            refine lv_iinc (v := ((i5h22 + (-1)) + (-1))) (lv' := [(5, .int ((i5h22 + (-1)) + (-1))), (6, .int 1), (0, .int i0h22), (1, .int p2), (2, .ref (ad 12 32))]) hx hb dJ6_getChars_ba4f3_110 hl (k := 0) rfl rfl (by decide) rfl (fun ls hl => ?_)
            refine lv_iload hx hb dJ6_getChars_ba4f3_113 (lv_at hl 0 rfl) ?_
            refine lv_bipush (v := 45) hx hb dJ6_getChars_ba4f3_115 (by decide) ?_
            obtain ⟨h16, hF⟩ := ite_some hF
            refine bast' (n := 16) (f := (upd ((s22 12) 32) ((i5h22 + (-1)).toNatClampNeg) (vp_nar .byte (nI (48 + (-i0h22).toNatClampNeg % 10))))) (ws' := (cW cy ad en (va_up s22 12 (va_up (s22 12) 32 (upd (upd ((s22 12) 32) ((i5h22 + (-1)).toNatClampNeg) (vp_nar .byte (nI (48 + (-i0h22).toNatClampNeg % 10)))) (((i5h22 + (-1)) + (-1)).toNatClampNeg) (vp_nar .byte 45)))))) hx hb hK hP hD hS (gY (x := (va_up s22 12 (va_up (s22 12) 32 (upd ((s22 12) 32) ((i5h22 + (-1)).toNatClampNeg) (vp_nar .byte (nI (48 + (-i0h22).toNatClampNeg % 10))))))) (r := 32) (f := (upd ((s22 12) 32) ((i5h22 + (-1)).toNatClampNeg) (vp_nar .byte (nI (48 + (-i0h22).toNatClampNeg % 10))))) (by decide) ((congrFun (va_up_self _ _ _) _).trans (va_up_self _ _ _))) (t0 := 2) rfl (vp_inb h16) dJ6_getChars_ba4f3_117 ((sT (x := s22) (r := 32) (o := (va_up (s22 12) 32 (upd ((s22 12) 32) ((i5h22 + (-1)).toNatClampNeg) (vp_nar .byte (nI (48 + (-i0h22).toNatClampNeg % 10)))))) (g := (upd (upd ((s22 12) 32) ((i5h22 + (-1)).toNatClampNeg) (vp_nar .byte (nI (48 + (-i0h22).toNatClampNeg % 10)))) (((i5h22 + (-1)) + (-1)).toNatClampNeg) (vp_nar .byte 45))) (by decide)).trans (congrArg (fun z => cW cy ad en (va_up s22 12 z)) (up_up _ _ _ _))) (fun H locs hP hD hS => ?_)
            refine lv_iload hx hb dJ6_getChars_ba4f3_118 (lv_at hl 0 rfl) ?_
            obtain ⟨rfl, rfl⟩ := Prod.mk.inj (Option.some.inj hF)
            exact hret _ _ _ _ _ _ hP hD hS rfl rfl dJ6_getChars_ba4f3_120
          · replace hF := (if_neg h14).symm.trans hF
            exact absurd hF (by simp)
        · replace hF := (if_neg h11).symm.trans hF
          exact absurd hF (by simp)
    exact loop22 200 p2 p1 x _ _ _ hF hP hD hS (lv_sub hl [0, 1, 2, 3, 4] rfl)
def D_J1_canEncode_fc78d (p1 : Int32) : Int32 := if 255 < p1 then (0) else (1)
abbrev rm_J1_canEncode_fc78d : Room := { frames := 0, cells := 0, slots := 0, locals := 0 }
set_option maxHeartbeats 4000000 in
set_option maxRecDepth 100000 in
theorem met_J1_canEncode_fc78d (l : Launch) (D : va_G) (cy : Nat → ClassId) (sz : Nat) (ws : va_W) (p1 : Int32)  (r : Int32) (hF : D_J1_canEncode_fc78d p1 = r) : MI l yJ1_canEncode_fc78d cJ1_canEncode_fc78d 1 (some .boolean) rm_J1_canEncode_fc78d D cy ws sz (fun _ => True) [.int p1] r ws := by
  refine MZ.of (by decide +kernel) (Nat.le_of_ble_eq_true rfl) ?_
  intro p e s m args below meth c A ls Q hAt _ hP hD hA hS hl hret
  obtain ⟨hx, hb, hr, hml, hown, hw, hlk, hK, hN⟩ := hAt
  have hown : s.vm.findClass "java/lang/StringLatin1" = some m.cls := hown
  have hl : lv_has ls 1 [(0, .int p1)] := hl
  refine lv_iload_n hx hb dJ1_canEncode_fc78d_0 rfl (lv_at hl 0 rfl) ?_
  refine lv_sipush (v := 255) hx hb dJ1_canEncode_fc78d_1 (by decide) ?_
  refine lv_icmp_gt (tgt := 11) hx hb dJ1_canEncode_fc78d_4 (by decide) (fun h1 => ?_) (fun h1 => ?_)
  · replace hF := (if_pos h1).symm.trans hF
    refine lv_iconst (v := 0) hx hb dJ1_canEncode_fc78d_11 (by decide) ?_
    cases hF
    exact hret _ _ _ _ _ _ hP hD hS rfl rfl rfl dJ1_canEncode_fc78d_12
  · replace hF := (if_neg h1).symm.trans hF
    refine lv_iconst (v := 1) hx hb dJ1_canEncode_fc78d_7 (by decide) ?_
    refine lv_goto (tgt := 12) hx hb dJ1_canEncode_fc78d_8 (by decide) ?_
    cases hF
    exact hret _ _ _ _ _ _ hP hD hS rfl rfl rfl dJ1_canEncode_fc78d_12
theorem bz_J1_canEncode_fc78d (p1 : Int32) : (D_J1_canEncode_fc78d p1) = 0 ∨ (D_J1_canEncode_fc78d p1) = 1 := by
  unfold D_J1_canEncode_fc78d
  repeat' split
  all_goals first | exact Or.inl rfl | exact Or.inr rfl | assumption
def D_J5_isLatin1_aae02 (x : Mem) : Int32 := if (((x 12) 31) 1) = 0 then (1) else (0)
abbrev rm_J5_isLatin1_aae02 : Room := { frames := 0, cells := 0, slots := 0, locals := 0 }
set_option maxHeartbeats 4000000 in
set_option maxRecDepth 100000 in
theorem met_J5_isLatin1_aae02 (l : Launch) (D : va_G) (cy : Nat → ClassId) (sz : Nat) (ad : Nat → Nat → Nat) (en g : Nat → Nat) (x : Mem)  (r : Int32) (hF : D_J5_isLatin1_aae02 x = r) : MIS l yJ5_isLatin1_aae02 cJ5_isLatin1_aae02 1 (some .boolean) rm_J5_isLatin1_aae02 D cy en g (cW cy ad en x) sz [.ref (ad 12 31)] r (cW cy ad en x) := by
  refine MZS.of (by decide +kernel) (Nat.le_of_ble_eq_true rfl) ?_
  intro p e s m args below meth c A ls Q hAt hST hP hD hA hS hl hret
  obtain ⟨hx, hb, hr, hml, hown, hw, hlk, hK, hN⟩ := hAt
  have hown : s.vm.findClass "java/lang/AbstractStringBuilder" = some m.cls := hown
  have hl : lv_has ls 1 [(0, .ref (ad 12 31))] := hl
  refine va_gets (n := "COMPACT_STRINGS") (v := .int 1) hx hb hST.2.2.2.2.2.2.2.2.2.2.1 hS hown (hw _ k_260) (fun _ h9 => h9) dJ5_isLatin1_aae02_0 ?_
  refine lv_if_eq (tgt := 17) hx hb dJ5_isLatin1_aae02_3 (by decide) (fun h => absurd h (by decide)) (fun _ => ?_)
  refine lv_aload_n hx hb dJ5_isLatin1_aae02_6 rfl (lv_at hl 0 rfl) ?_
  refine get' (ci := 1) (fs := [.ref (ad 12 32), .int (((x 12) 31) 1), .int (((x 12) 31) 2), .int (((x 12) 31) 3)]) (v := .int (((x 12) 31) 1)) hx hb hw inWJ4 hown hK hP (gY (x := x) (r := 31) (f := ((x 12) 31)) (by decide) ((congrFun rfl _).trans rfl)) rfl 1 (by decide) k_270 rfl rfl dJ5_isLatin1_aae02_7 ?_
  refine lv_if_ne (tgt := 17) hx hb dJ5_isLatin1_aae02_10 (by decide) (fun h2 => ?_) (fun h2 => ?_)
  · replace hF := (if_neg h2).symm.trans hF
    refine lv_iconst (v := 0) hx hb dJ5_isLatin1_aae02_17 (by decide) ?_
    cases hF
    exact hret _ _ _ _ _ _ hP hD hS rfl rfl rfl dJ5_isLatin1_aae02_18
  · replace hF := (if_pos h2).symm.trans hF
    refine lv_iconst (v := 1) hx hb dJ5_isLatin1_aae02_13 (by decide) ?_
    refine lv_goto (tgt := 18) hx hb dJ5_isLatin1_aae02_14 (by decide) ?_
    cases hF
    exact hret _ _ _ _ _ _ hP hD hS rfl rfl rfl dJ5_isLatin1_aae02_18
theorem bz_J5_isLatin1_aae02 (x : Mem) : (D_J5_isLatin1_aae02 x) = 0 ∨ (D_J5_isLatin1_aae02 x) = 1 := by
  unfold D_J5_isLatin1_aae02
  repeat' split
  all_goals first | exact Or.inl rfl | exact Or.inr rfl | assumption
def D_J5_length_8abf5 (x : Mem) : Int32 := (((x 12) 31) 3)
abbrev rm_J5_length_8abf5 : Room := { frames := 0, cells := 0, slots := 0, locals := 0 }
set_option maxHeartbeats 4000000 in
set_option maxRecDepth 100000 in
theorem met_J5_length_8abf5 (l : Launch) (D : va_G) (cy : Nat → ClassId) (sz : Nat) (ad : Nat → Nat → Nat) (en g : Nat → Nat) (x : Mem)  (r : Int32) (hF : D_J5_length_8abf5 x = r) : MI l yJ5_length_8abf5 cJ5_length_8abf5 1 (some .int) rm_J5_length_8abf5 D cy (cW cy ad en x) sz (fun _ => True) [.ref (ad 12 31)] r (cW cy ad en x) := by
  refine MI.of (by decide +kernel) (Nat.le_of_ble_eq_true rfl) ?_
  intro p e s m args below meth c A ls Q hAt _ hP hD hA hS hl hret
  obtain ⟨hx, hb, hr, hml, hown, hw, hlk, hK, hN⟩ := hAt
  have hown : s.vm.findClass "java/lang/AbstractStringBuilder" = some m.cls := hown
  have hl : lv_has ls 1 [(0, .ref (ad 12 31))] := hl
  refine lv_aload_n hx hb dJ5_length_8abf5_0 rfl (lv_at hl 0 rfl) ?_
  refine get' (ci := 1) (fs := [.ref (ad 12 32), .int (((x 12) 31) 1), .int (((x 12) 31) 2), .int (((x 12) 31) 3)]) (v := .int (((x 12) 31) 3)) hx hb hw inWJ4 hown hK hP (gY (x := x) (r := 31) (f := ((x 12) 31)) (by decide) ((congrFun rfl _).trans rfl)) rfl 3 (by decide) k_273 rfl rfl dJ5_length_8abf5_1 ?_
  cases hF
  exact hret _ _ _ _ _ _ hP hD hS rfl rfl dJ5_length_8abf5_4
def D_J5_ensureCapacityInternal_d00df (x : Mem) (p1 : Int32) : Option ((Mem)) := if (p1 - (16 >>> ((((x 12) 31) 1) &&& 31))) ≤ 0 then (some x) else (none)
abbrev rm_J5_ensureCapacityInternal_d00df : Room := { frames := 0, cells := 0, slots := 0, locals := 0 }
set_option maxHeartbeats 4000000 in
set_option maxRecDepth 100000 in
theorem met_J5_ensureCapacityInternal_d00df (l : Launch) (D : va_G) (cy : Nat → ClassId) (sz : Nat) (ad : Nat → Nat → Nat) (en g : Nat → Nat) (x : Mem) (p1 : Int32)  (t' : Mem) (hF : D_J5_ensureCapacityInternal_d00df x p1 = some t') : MVS l yJ5_ensureCapacityInternal_d00df cJ5_ensureCapacityInternal_d00df 3 rm_J5_ensureCapacityInternal_d00df D cy en g (cW cy ad en x) sz [.ref (ad 12 31), .int p1] (cW cy ad en t') := by
  refine MVS.of (by decide +kernel) (Nat.le_of_ble_eq_true rfl) ?_
  intro p e s m args below meth c A ls Q hAt hST hP hD hA hS hl hret
  obtain ⟨hx, hb, hr, hml, hown, hw, hlk, hK, hN⟩ := hAt
  have hown : s.vm.findClass "java/lang/AbstractStringBuilder" = some m.cls := hown
  have hl : lv_has ls 3 [(0, .ref (ad 12 31)), (1, .int p1)] := hl
  refine lv_aload_n hx hb dJ5_ensureCapacityInternal_d00df_0 rfl (lv_at hl 0 rfl) ?_
  refine get' (ci := 1) (fs := [.ref (ad 12 32), .int (((x 12) 31) 1), .int (((x 12) 31) 2), .int (((x 12) 31) 3)]) (v := .ref (ad 12 32)) hx hb hw inWJ4 hown hK hP (gY (x := x) (r := 31) (f := ((x 12) 31)) (by decide) ((congrFun rfl _).trans rfl)) rfl 0 (by decide) k_269 rfl rfl dJ5_ensureCapacityInternal_d00df_1 ?_
  refine va_alen (v := 16) hx hb hK hP _ 2 (gY (x := x) (r := 32) (f := ((x 12) 32)) (by decide) ((congrFun rfl _).trans rfl)) rfl (show Int32.ofNat 16 = 16 by decide) dJ5_ensureCapacityInternal_d00df_4 ?_
  refine lv_aload_n hx hb dJ5_ensureCapacityInternal_d00df_5 rfl (lv_at hl 0 rfl) ?_
  refine get' (ci := 1) (fs := [.ref (ad 12 32), .int (((x 12) 31) 1), .int (((x 12) 31) 2), .int (((x 12) 31) 3)]) (v := .int (((x 12) 31) 1)) hx hb hw inWJ4 hown hK hP (gY (x := x) (r := 31) (f := ((x 12) 31)) (by decide) ((congrFun rfl _).trans rfl)) rfl 1 (by decide) k_270 rfl rfl dJ5_ensureCapacityInternal_d00df_6 ?_
  refine lv_ishr hx hb dJ5_ensureCapacityInternal_d00df_9 ?_
  refine lv_istore_n (lv' := [(2, .int (16 >>> ((((x 12) 31) 1) &&& 31))), (0, .ref (ad 12 31)), (1, .int p1)]) hx hb dJ5_ensureCapacityInternal_d00df_10 rfl hl (by decide) rfl (fun ls hl => ?_)
  refine lv_iload_n hx hb dJ5_ensureCapacityInternal_d00df_11 rfl (lv_at hl 2 rfl) ?_
  refine lv_iload_n hx hb dJ5_ensureCapacityInternal_d00df_12 rfl (lv_at hl 0 rfl) ?_
  refine lv_isub hx hb dJ5_ensureCapacityInternal_d00df_13 ?_
  refine lv_if_le (tgt := 38) hx hb dJ5_ensureCapacityInternal_d00df_14 (by decide) (fun h1 => ?_) (fun h1 => ?_)
  · replace hF := (if_pos h1).symm.trans hF
    cases hF
    exact hret _ _ _ _ _ hP hD hS rfl dJ5_ensureCapacityInternal_d00df_38
  · replace hF := (if_neg h1).symm.trans hF
    exact absurd hF (by simp)
def D_J5_setLength_d00df (x : Mem) (p1 : Int32) : Option ((Mem)) := if 0 ≤ p1 then ((D_J5_ensureCapacityInternal_d00df x p1).bind (fun o3 => if p1 ≤ (((o3 12) 31) 3) then (if (((o3 12) 31) 3) ≤ p1 then (some (va_up o3 12 (va_up (o3 12) 31 (upd ((o3 12) 31) 3 p1)))) else (some (va_up o3 12 (va_up (o3 12) 31 (upd (upd ((o3 12) 31) 2 1) 3 p1))))) else (if (D_J5_isLatin1_aae02 o3) = 0 then (none) else (none)))) else (none)
abbrev rm_J5_setLength_d00df : Room := { frames := 1, cells := 0, slots := 0, locals := 22 }
set_option maxHeartbeats 4000000 in
set_option maxRecDepth 100000 in
theorem met_J5_setLength_d00df (l : Launch) (D : va_G) (cy : Nat → ClassId) (sz : Nat) (ad : Nat → Nat → Nat) (en g : Nat → Nat) (x : Mem) (p1 : Int32)  (t' : Mem) (hF : D_J5_setLength_d00df x p1 = some t') : MVS l yJ5_setLength_d00df cJ5_setLength_d00df 2 rm_J5_setLength_d00df D cy en g (cW cy ad en x) sz [.ref (ad 12 31), .int p1] (cW cy ad en t') := by
  refine MVS.of (by decide +kernel) (Nat.le_of_ble_eq_true rfl) ?_
  intro p e s m args below meth c A ls Q hAt hST hP hD hA hS hl hret
  obtain ⟨hx, hb, hr, hml, hown, hw, hlk, hK, hN⟩ := hAt
  have hown : s.vm.findClass "java/lang/AbstractStringBuilder" = some m.cls := hown
  have hl : lv_has ls 2 [(0, .ref (ad 12 31)), (1, .int p1)] := hl
  refine lv_iload_n hx hb dJ5_setLength_d00df_0 rfl (lv_at hl 1 rfl) ?_
  refine lv_if_ge (tgt := 13) hx hb dJ5_setLength_d00df_1 (by decide) (fun h1 => ?_) (fun h1 => ?_)
  · replace hF := (if_pos h1).symm.trans hF
    refine lv_aload_n hx hb dJ5_setLength_d00df_13 rfl (lv_at hl 0 rfl) ?_
    refine lv_iload_n hx hb dJ5_setLength_d00df_14 rfl (lv_at hl 1 rfl) ?_
    obtain ⟨o3, hc4, hF⟩ := bind_some hF
    try dsimp only at hF
    refine cP_v (As := [.int p1]) (rest := []) hx hb hml hown hw hK hN hA hl.1 hP hD hS k_685 k_1287 k_9000 k_687 k_31 k_688 (met_J5_ensureCapacityInternal_d00df l D cy _ ad en g x p1 o3 hc4) (ST_call hST hS (free_all hD hS hA)) Xok_S (gY (x := x) (r := 31) (f := ((x 12) 31)) (by decide) ((congrFun rfl _).trans rfl)) rfl ⟨rfl, rfl⟩ (n := 1) (by decide +kernel) rfl ⟨Nat.le_of_ble_eq_true rfl, Nat.le_of_ble_eq_true rfl⟩ ⟨Nat.le_of_ble_eq_true rfl, Nat.le_of_ble_eq_true rfl⟩ (Nat.le_of_ble_eq_true rfl) rfl dJ5_setLength_d00df_15 (fun H locs hP hD hS => ?_)
    refine lv_aload_n hx hb dJ5_setLength_d00df_18 rfl (lv_at hl 0 rfl) ?_
    refine get' (ci := 1) (fs := [.ref (ad 12 32), .int (((o3 12) 31) 1), .int (((o3 12) 31) 2), .int (((o3 12) 31) 3)]) (v := .int (((o3 12) 31) 3)) hx hb hw inWJ4 hown hK hP (gY (x := o3) (r := 31) (f := ((o3 12) 31)) (by decide) ((congrFun rfl _).trans rfl)) rfl 3 (by decide) k_273 rfl rfl dJ5_setLength_d00df_19 ?_
    refine lv_iload_n hx hb dJ5_setLength_d00df_22 rfl (lv_at hl 1 rfl) ?_
    refine lv_icmp_ge (tgt := 63) hx hb dJ5_setLength_d00df_23 (by decide) (fun h5 => ?_) (fun h5 => ?_)
    · replace hF := (if_pos h5).symm.trans hF
      refine lv_aload_n hx hb dJ5_setLength_d00df_63 rfl (lv_at hl 0 rfl) ?_
      refine get' (ci := 1) (fs := [.ref (ad 12 32), .int (((o3 12) 31) 1), .int (((o3 12) 31) 2), .int (((o3 12) 31) 3)]) (v := .int (((o3 12) 31) 3)) hx hb hw inWJ4 hown hK hP (gY (x := o3) (r := 31) (f := ((o3 12) 31)) (by decide) ((congrFun rfl _).trans rfl)) rfl 3 (by decide) k_273 rfl rfl dJ5_setLength_d00df_64 ?_
      refine lv_iload_n hx hb dJ5_setLength_d00df_67 rfl (lv_at hl 1 rfl) ?_
      refine lv_icmp_le (tgt := 76) hx hb dJ5_setLength_d00df_68 (by decide) (fun h6 => ?_) (fun h6 => ?_)
      · replace hF := (if_pos h6).symm.trans hF
        refine lv_aload_n hx hb dJ5_setLength_d00df_76 rfl (lv_at hl 0 rfl) ?_
        refine lv_iload_n hx hb dJ5_setLength_d00df_77 rfl (lv_at hl 1 rfl) ?_
        refine put' (ci := 1) (fs := [.ref (ad 12 32), .int (((o3 12) 31) 1), .int (((o3 12) 31) 2), .int (((o3 12) 31) 3)]) (v := .int p1) (ty := .int) (ws' := (cW cy ad en (va_up o3 12 (va_up (o3 12) 31 (upd ((o3 12) 31) 3 p1))))) hx hb hw inWJ4 tyJ4 tyJ4_ok nmJ4 hown hK hP hD hS (gY (x := o3) (r := 31) (f := ((o3 12) 31)) (by decide) ((congrFun rfl _).trans rfl)) rfl 3 (by decide) k_273 rfl rfl (by decide +kernel) rfl rfl (Nat.le_of_ble_eq_true rfl) dJ5_setLength_d00df_78 ((sY (x := o3) (r := 31) (g := (upd ((o3 12) 31) 3 p1)) (by decide)).trans (congrArg (fun z => cW cy ad en (va_up o3 12 (va_up z 31 (upd ((o3 12) 31) 3 p1)))) rfl)) (fun H locs hP hD hS => ?_)
        cases hF
        exact hret _ _ _ _ _ hP hD hS rfl dJ5_setLength_d00df_81
      · replace hF := (if_neg h6).symm.trans hF
        refine lv_aload_n hx hb dJ5_setLength_d00df_71 rfl (lv_at hl 0 rfl) ?_
        refine lv_iconst (v := 1) hx hb dJ5_setLength_d00df_72 (by decide) ?_
        refine put' (ci := 1) (fs := [.ref (ad 12 32), .int (((o3 12) 31) 1), .int (((o3 12) 31) 2), .int (((o3 12) 31) 3)]) (v := .int 1) (ty := .boolean) (ws' := (cW cy ad en (va_up o3 12 (va_up (o3 12) 31 (upd ((o3 12) 31) 2 1))))) hx hb hw inWJ4 tyJ4 tyJ4_ok nmJ4 hown hK hP hD hS (gY (x := o3) (r := 31) (f := ((o3 12) 31)) (by decide) ((congrFun rfl _).trans rfl)) rfl 2 (by decide) k_271 rfl rfl (by decide +kernel) rfl rfl (Nat.le_of_ble_eq_true rfl) dJ5_setLength_d00df_73 ((sY (x := o3) (r := 31) (g := (upd ((o3 12) 31) 2 1)) (by decide)).trans (congrArg (fun z => cW cy ad en (va_up o3 12 (va_up z 31 (upd ((o3 12) 31) 2 1)))) rfl)) (fun H locs hP hD hS => ?_)
        refine lv_aload_n hx hb dJ5_setLength_d00df_76 rfl (lv_at hl 0 rfl) ?_
        refine lv_iload_n hx hb dJ5_setLength_d00df_77 rfl (lv_at hl 1 rfl) ?_
        refine put' (ci := 1) (fs := [.ref (ad 12 32), .int ((upd ((o3 12) 31) 2 1) 1), .int ((upd ((o3 12) 31) 2 1) 2), .int ((upd ((o3 12) 31) 2 1) 3)]) (v := .int p1) (ty := .int) (ws' := (cW cy ad en (va_up o3 12 (va_up (o3 12) 31 (upd (upd ((o3 12) 31) 2 1) 3 p1))))) hx hb hw inWJ4 tyJ4 tyJ4_ok nmJ4 hown hK hP hD hS (gY (x := (va_up o3 12 (va_up (o3 12) 31 (upd ((o3 12) 31) 2 1)))) (r := 31) (f := (upd ((o3 12) 31) 2 1)) (by decide) ((congrFun (va_up_self _ _ _) _).trans (va_up_self _ _ _))) rfl 3 (by decide) k_273 rfl rfl (by decide +kernel) rfl rfl (Nat.le_of_ble_eq_true rfl) dJ5_setLength_d00df_78 ((sT (x := o3) (r := 31) (o := (va_up (o3 12) 31 (upd ((o3 12) 31) 2 1))) (g := (upd (upd ((o3 12) 31) 2 1) 3 p1)) (by decide)).trans (congrArg (fun z => cW cy ad en (va_up o3 12 z)) (up_up _ _ _ _))) (fun H locs hP hD hS => ?_)
        cases hF
        exact hret _ _ _ _ _ hP hD hS rfl dJ5_setLength_d00df_81
    · replace hF := (if_neg h5).symm.trans hF
      refine lv_aload_n hx hb dJ5_setLength_d00df_26 rfl (lv_at hl 0 rfl) ?_
      refine cU_i (As := []) (rest := []) hx hb hml hown hw hK hN hA hl.1 hP hD hS k_716 k_718 k_719 k_717 k_31 k_720 rfl (met_J5_isLatin1_aae02 l D cy _ ad en g o3 (D_J5_isLatin1_aae02 o3) rfl) (ST_call hST hS (free_all hD hS hA)) Xok_S (va_recv hK hP rfl (gY (x := o3) (r := 31) (f := ((o3 12) 31)) (by decide) ((congrFun rfl _).trans rfl))) ⟨rfl, rfl⟩ (n := 0) (by decide +kernel) rfl ⟨Nat.le_of_ble_eq_true rfl, Nat.le_of_ble_eq_true rfl⟩ ⟨Nat.le_of_ble_eq_true rfl, Nat.le_of_ble_eq_true rfl⟩ (Nat.le_of_ble_eq_true rfl) rfl dJ5_setLength_d00df_27 (fun H locs hP hD hS => ?_)
      refine lv_if_eq (tgt := 48) hx hb dJ5_setLength_d00df_30 (by decide) (fun h10 => ?_) (fun h10 => ?_)
      · replace hF := (if_pos h10).symm.trans hF
        exact absurd hF (by simp)
      · replace hF := (if_neg h10).symm.trans hF
        exact absurd hF (by simp)
  · replace hF := (if_neg h1).symm.trans hF
    exact absurd hF (by simp)
def D_J5_charAt_5068e (x : Mem) (p1 : Int32) : Option (Int32) := (D_J0_checkIndex_df160 p1 (if (16 >>> ((((x 12) 31) 1) &&& 31)) < (((x 12) 31) 3) then (16 >>> ((((x 12) 31) 1) &&& 31)) else (((x 12) 31) 3))).bind (fun o2 => if (((x 12) 31) 1) = 0 then (if inb p1 16 then (if isCh ((((((x 12) 32) p1.toNatClampNeg) &&& 255).toUInt32 % 65536).toInt32) then (some ((((((x 12) 32) p1.toNatClampNeg) &&& 255).toUInt32 % 65536).toInt32)) else none) else none) else (none))
abbrev rm_J5_charAt_5068e : Room := { frames := 3, cells := 0, slots := 0, locals := 73 }
set_option maxHeartbeats 4000000 in
set_option maxRecDepth 100000 in
theorem met_J5_charAt_5068e (l : Launch) (D : va_G) (cy : Nat → ClassId) (sz : Nat) (ad : Nat → Nat → Nat) (en g : Nat → Nat) (x : Mem) (p1 : Int32)  (r : Int32) (hF : D_J5_charAt_5068e x p1 = some r) : MIS l yJ5_charAt_5068e cJ5_charAt_5068e 5 (some .char) rm_J5_charAt_5068e D cy en g (cW cy ad en x) sz [.ref (ad 12 31), .int p1] r (cW cy ad en x) := by
  refine MCS.of (by decide +kernel) (Nat.le_of_ble_eq_true rfl) ?_
  intro p e s m args below meth c A ls Q hAt hST hP hD hA hS hl hret
  obtain ⟨hx, hb, hr, hml, hown, hw, hlk, hK, hN⟩ := hAt
  have hown : s.vm.findClass "java/lang/AbstractStringBuilder" = some m.cls := hown
  have hl : lv_has ls 5 [(0, .ref (ad 12 31)), (1, .int p1)] := hl
  refine lv_aload_n hx hb dJ5_charAt_5068e_0 rfl (lv_at hl 0 rfl) ?_
  refine get' (ci := 1) (fs := [.ref (ad 12 32), .int (((x 12) 31) 1), .int (((x 12) 31) 2), .int (((x 12) 31) 3)]) (v := .int (((x 12) 31) 1)) hx hb hw inWJ4 hown hK hP (gY (x := x) (r := 31) (f := ((x 12) 31)) (by decide) ((congrFun rfl _).trans rfl)) rfl 1 (by decide) k_270 rfl rfl dJ5_charAt_5068e_1 ?_
  refine lv_istore_n (lv' := [(2, .int (((x 12) 31) 1)), (0, .ref (ad 12 31)), (1, .int p1)]) hx hb dJ5_charAt_5068e_4 rfl hl (by decide) rfl (fun ls hl => ?_)
  refine lv_aload_n hx hb dJ5_charAt_5068e_5 rfl (lv_at hl 1 rfl) ?_
  refine get' (ci := 1) (fs := [.ref (ad 12 32), .int (((x 12) 31) 1), .int (((x 12) 31) 2), .int (((x 12) 31) 3)]) (v := .ref (ad 12 32)) hx hb hw inWJ4 hown hK hP (gY (x := x) (r := 31) (f := ((x 12) 31)) (by decide) ((congrFun rfl _).trans rfl)) rfl 0 (by decide) k_269 rfl rfl dJ5_charAt_5068e_6 ?_
  refine lv_astore_n (lv' := [(3, .ref (ad 12 32)), (2, .int (((x 12) 31) 1)), (0, .ref (ad 12 31)), (1, .int p1)]) hx hb dJ5_charAt_5068e_9 rfl hl (by decide) rfl (fun ls hl => ?_)
  refine lv_aload_n hx hb dJ5_charAt_5068e_10 rfl (lv_at hl 2 rfl) ?_
  refine get' (ci := 1) (fs := [.ref (ad 12 32), .int (((x 12) 31) 1), .int (((x 12) 31) 2), .int (((x 12) 31) 3)]) (v := .int (((x 12) 31) 3)) hx hb hw inWJ4 hown hK hP (gY (x := x) (r := 31) (f := ((x 12) 31)) (by decide) ((congrFun rfl _).trans rfl)) rfl 3 (by decide) k_273 rfl rfl dJ5_charAt_5068e_11 ?_
  refine lv_aload_n hx hb dJ5_charAt_5068e_14 rfl (lv_at hl 0 rfl) ?_
  refine va_alen (v := 16) hx hb hK hP _ 2 (gY (x := x) (r := 32) (f := ((x 12) 32)) (by decide) ((congrFun rfl _).trans rfl)) rfl (show Int32.ofNat 16 = 16 by decide) dJ5_charAt_5068e_15 ?_
  refine lv_iload_n hx hb dJ5_charAt_5068e_16 rfl (lv_at hl 1 rfl) ?_
  refine lv_ishr hx hb dJ5_charAt_5068e_17 ?_
  refine va_mmin hx hb (hml.trans hl.1.symm) hown (hw _ k_848) (hw _ k_526) (hw _ k_35) (hw _ k_527) (Nat.le_of_ble_eq_true rfl) (Nat.le_of_ble_eq_true rfl) (Nat.zero_le _) (Nat.zero_le _) dJ5_charAt_5068e_18 ?_
  refine lv_istore (lv' := [(4, .int (if (16 >>> ((((x 12) 31) 1) &&& 31)) < (((x 12) 31) 3) then (16 >>> ((((x 12) 31) 1) &&& 31)) else (((x 12) 31) 3))), (3, .ref (ad 12 32)), (2, .int (((x 12) 31) 1)), (0, .ref (ad 12 31)), (1, .int p1)]) hx hb dJ5_charAt_5068e_21 hl (by decide) rfl (fun ls hl => ?_)
  refine lv_iload_n hx hb dJ5_charAt_5068e_23 rfl (lv_at hl 4 rfl) ?_
  refine lv_iload hx hb dJ5_charAt_5068e_24 (lv_at hl 0 rfl) ?_
  obtain ⟨o2, hc3, hF⟩ := bind_some hF
  try dsimp only at hF
  refine cS_v (As := [.int p1, .int (if (16 >>> ((((x 12) 31) 1) &&& 31)) < (((x 12) 31) 3) then (16 >>> ((((x 12) 31) 1) &&& 31)) else (((x 12) 31) 3))]) (rest := []) hx hb hml hown hw hK hN hA hl.1 hP hD hS k_849 k_822 k_33 k_823 (met_J0_checkIndex_df160 l D cy _ en g (cW cy ad en x) p1 (if (16 >>> ((((x 12) 31) 1) &&& 31)) < (((x 12) 31) 3) then (16 >>> ((((x 12) 31) 1) &&& 31)) else (((x 12) 31) 3)) hc3) (ST_call hST hS (free_all hD hS hA)) Xok_S ⟨rfl, rfl⟩ (n := 2) (by decide +kernel) rfl ⟨Nat.le_of_ble_eq_true rfl, Nat.le_of_ble_eq_true rfl⟩ ⟨Nat.le_of_ble_eq_true rfl, Nat.le_of_ble_eq_true rfl⟩ (Nat.le_of_ble_eq_true rfl) rfl dJ5_charAt_5068e_26 (fun H locs hP hD hS => ?_)
  refine lv_iload_n hx hb dJ5_charAt_5068e_29 rfl (lv_at hl 2 rfl) ?_
  refine lv_if_ne (tgt := 42) hx hb dJ5_charAt_5068e_30 (by decide) (fun h4 => ?_) (fun h4 => ?_)
  · replace hF := (if_neg h4).symm.trans hF
    exact absurd hF (by simp)
  · replace hF := (if_pos h4).symm.trans hF
    refine lv_aload_n hx hb dJ5_charAt_5068e_33 rfl (lv_at hl 1 rfl) ?_
    refine lv_iload_n hx hb dJ5_charAt_5068e_34 rfl (lv_at hl 4 rfl) ?_
    obtain ⟨h5, hF⟩ := ite_some hF
    refine va_bald (n := 16) (f := ((x 12) 32)) hx hb hK hP _ 2 (gY (x := x) (r := 32) (f := ((x 12) 32)) (by decide) ((congrFun rfl _).trans rfl)) rfl (vp_inb h5) dJ5_charAt_5068e_35 ?_
    refine lv_sipush (v := 255) hx hb dJ5_charAt_5068e_36 (by decide) ?_
    refine lv_iand hx hb dJ5_charAt_5068e_39 ?_
    refine lv_i2c (v := (((((x 12) 32) p1.toNatClampNeg) &&& 255).toUInt32 % 65536).toInt32) hx hb dJ5_charAt_5068e_40 rfl ?_
    obtain ⟨hg6, hF⟩ := ite_some hF
    cases hF
    exact hret _ _ _ _ _ _ hP hD hS rfl rfl (isCh_iff.mp hg6) dJ5_charAt_5068e_41
def D_J5_append_3fe6f (x : Mem) (p1 : Int32) : Option ((Mem)) := (D_J5_ensureCapacityInternal_d00df x ((((x 12) 31) 3) + 1)).bind (fun o2 => if (D_J5_isLatin1_aae02 o2) = 0 then (if (D_J5_isLatin1_aae02 o2) = 0 then (none) else (none)) else (if (D_J1_canEncode_fc78d p1) = 0 then (if (D_J5_isLatin1_aae02 o2) = 0 then (none) else (none)) else (if inb (((o2 12) 31) 3) 16 then (some (va_up o2 12 (va_up (va_up (o2 12) 31 (upd ((o2 12) 31) 3 ((((o2 12) 31) 3) + 1))) 32 (upd ((o2 12) 32) ((((o2 12) 31) 3).toNatClampNeg) (vp_nar .byte (p1.toInt8.toInt32)))))) else none)))
abbrev rm_J5_append_3fe6f : Room := { frames := 1, cells := 0, slots := 0, locals := 22 }
set_option maxHeartbeats 4000000 in
set_option maxRecDepth 100000 in
theorem met_J5_append_3fe6f (l : Launch) (D : va_G) (cy : Nat → ClassId) (sz : Nat) (ad : Nat → Nat → Nat) (en g : Nat → Nat) (x : Mem) (p1 : Int32)  (t' : Mem) (hF : D_J5_append_3fe6f x p1 = some t') : MRS l yJ5_append_3fe6f cJ5_append_3fe6f 2 (some (.object "java/lang/AbstractStringBuilder")) rm_J5_append_3fe6f D cy en g (cW cy ad en x) sz [.ref (ad 12 31), .int p1] (ad 12 31) (cW cy ad en t') := by
  refine MRS.of ⟨_, rfl⟩ (by decide +kernel) (Nat.le_of_ble_eq_true rfl) ?_
  intro p e s m args below meth c A ls Q hAt hST hP hD hA hS hl hret
  obtain ⟨hx, hb, hr, hml, hown, hw, hlk, hK, hN⟩ := hAt
  have hown : s.vm.findClass "java/lang/AbstractStringBuilder" = some m.cls := hown
  have hl : lv_has ls 2 [(0, .ref (ad 12 31)), (1, .int p1)] := hl
  refine lv_aload_n hx hb dJ5_append_3fe6f_0 rfl (lv_at hl 0 rfl) ?_
  refine lv_aload_n hx hb dJ5_append_3fe6f_1 rfl (lv_at hl 0 rfl) ?_
  refine get' (ci := 1) (fs := [.ref (ad 12 32), .int (((x 12) 31) 1), .int (((x 12) 31) 2), .int (((x 12) 31) 3)]) (v := .int (((x 12) 31) 3)) hx hb hw inWJ4 hown hK hP (gY (x := x) (r := 31) (f := ((x 12) 31)) (by decide) ((congrFun rfl _).trans rfl)) rfl 3 (by decide) k_273 rfl rfl dJ5_append_3fe6f_2 ?_
  refine lv_iconst (v := 1) hx hb dJ5_append_3fe6f_5 (by decide) ?_
  refine lv_iadd hx hb dJ5_append_3fe6f_6 ?_
  obtain ⟨o2, hc3, hF⟩ := bind_some hF
  try dsimp only at hF
  refine cP_v (As := [.int ((((x 12) 31) 3) + 1)]) (rest := []) hx hb hml hown hw hK hN hA hl.1 hP hD hS k_685 k_1287 k_9000 k_687 k_31 k_688 (met_J5_ensureCapacityInternal_d00df l D cy _ ad en g x ((((x 12) 31) 3) + 1) o2 hc3) (ST_call hST hS (free_all hD hS hA)) Xok_S (gY (x := x) (r := 31) (f := ((x 12) 31)) (by decide) ((congrFun rfl _).trans rfl)) rfl ⟨rfl, rfl⟩ (n := 1) (by decide +kernel) rfl ⟨Nat.le_of_ble_eq_true rfl, Nat.le_of_ble_eq_true rfl⟩ ⟨Nat.le_of_ble_eq_true rfl, Nat.le_of_ble_eq_true rfl⟩ (Nat.le_of_ble_eq_true rfl) rfl dJ5_append_3fe6f_7 (fun H locs hP hD hS => ?_)
  refine lv_aload_n hx hb dJ5_append_3fe6f_10 rfl (lv_at hl 0 rfl) ?_
  refine cU_i (As := []) (rest := []) hx hb hml hown hw hK hN hA hl.1 hP hD hS k_716 k_718 k_719 k_717 k_31 k_720 rfl (met_J5_isLatin1_aae02 l D cy _ ad en g o2 (D_J5_isLatin1_aae02 o2) rfl) (ST_call hST hS (free_all hD hS hA)) Xok_S (va_recv hK hP rfl (gY (x := o2) (r := 31) (f := ((o2 12) 31)) (by decide) ((congrFun rfl _).trans rfl))) ⟨rfl, rfl⟩ (n := 0) (by decide +kernel) rfl ⟨Nat.le_of_ble_eq_true rfl, Nat.le_of_ble_eq_true rfl⟩ ⟨Nat.le_of_ble_eq_true rfl, Nat.le_of_ble_eq_true rfl⟩ (Nat.le_of_ble_eq_true rfl) rfl dJ5_append_3fe6f_11 (fun H locs hP hD hS => ?_)
  refine lv_if_eq (tgt := 45) hx hb dJ5_append_3fe6f_14 (by decide) (fun h7 => ?_) (fun h7 => ?_)
  · replace hF := (if_pos h7).symm.trans hF
    refine lv_aload_n hx hb dJ5_append_3fe6f_45 rfl (lv_at hl 0 rfl) ?_
    refine cU_i (As := []) (rest := []) hx hb hml hown hw hK hN hA hl.1 hP hD hS k_716 k_718 k_719 k_717 k_31 k_720 rfl (met_J5_isLatin1_aae02 l D cy _ ad en g o2 (D_J5_isLatin1_aae02 o2) rfl) (ST_call hST hS (free_all hD hS hA)) Xok_S (va_recv hK hP rfl (gY (x := o2) (r := 31) (f := ((o2 12) 31)) (by decide) ((congrFun rfl _).trans rfl))) ⟨rfl, rfl⟩ (n := 0) (by decide +kernel) rfl ⟨Nat.le_of_ble_eq_true rfl, Nat.le_of_ble_eq_true rfl⟩ ⟨Nat.le_of_ble_eq_true rfl, Nat.le_of_ble_eq_true rfl⟩ (Nat.le_of_ble_eq_true rfl) rfl dJ5_append_3fe6f_46 (fun H locs hP hD hS => ?_)
    refine lv_if_eq (tgt := 56) hx hb dJ5_append_3fe6f_49 (by decide) (fun h11 => ?_) (fun h11 => ?_)
    · replace hF := (if_pos h11).symm.trans hF
      exact absurd hF (by simp)
    · replace hF := (if_neg h11).symm.trans hF
      exact absurd hF (by simp)
  · replace hF := (if_neg h7).symm.trans hF
    refine lv_iload_n hx hb dJ5_append_3fe6f_17 rfl (lv_at hl 1 rfl) ?_
    refine cS_i (As := [.int p1]) (rest := []) hx hb hml hown hw hK hN hA hl.1 hP hD hS k_793 k_794 k_50 k_795 (met_J1_canEncode_fc78d l D cy _ (cW cy ad en o2) p1 (D_J1_canEncode_fc78d p1) rfl) (fun _ _ _ => trivial) Xok_T ⟨rfl, rfl⟩ (n := 1) (by decide +kernel) rfl ⟨Nat.le_of_ble_eq_true rfl, Nat.le_of_ble_eq_true rfl⟩ ⟨Nat.le_of_ble_eq_true rfl, Nat.le_of_ble_eq_true rfl⟩ (Nat.le_of_ble_eq_true rfl) rfl dJ5_append_3fe6f_18 (fun H locs hP hD hS => ?_)
    refine lv_if_eq (tgt := 45) hx hb dJ5_append_3fe6f_21 (by decide) (fun h15 => ?_) (fun h15 => ?_)
    · replace hF := (if_pos h15).symm.trans hF
      refine lv_aload_n hx hb dJ5_append_3fe6f_45 rfl (lv_at hl 0 rfl) ?_
      refine cU_i (As := []) (rest := []) hx hb hml hown hw hK hN hA hl.1 hP hD hS k_716 k_718 k_719 k_717 k_31 k_720 rfl (met_J5_isLatin1_aae02 l D cy _ ad en g o2 (D_J5_isLatin1_aae02 o2) rfl) (ST_call hST hS (free_all hD hS hA)) Xok_S (va_recv hK hP rfl (gY (x := o2) (r := 31) (f := ((o2 12) 31)) (by decide) ((congrFun rfl _).trans rfl))) ⟨rfl, rfl⟩ (n := 0) (by decide +kernel) rfl ⟨Nat.le_of_ble_eq_true rfl, Nat.le_of_ble_eq_true rfl⟩ ⟨Nat.le_of_ble_eq_true rfl, Nat.le_of_ble_eq_true rfl⟩ (Nat.le_of_ble_eq_true rfl) rfl dJ5_append_3fe6f_46 (fun H locs hP hD hS => ?_)
      refine lv_if_eq (tgt := 56) hx hb dJ5_append_3fe6f_49 (by decide) (fun h19 => ?_) (fun h19 => ?_)
      · replace hF := (if_pos h19).symm.trans hF
        exact absurd hF (by simp)
      · replace hF := (if_neg h19).symm.trans hF
        exact absurd hF (by simp)
    · replace hF := (if_neg h15).symm.trans hF
      refine lv_aload_n hx hb dJ5_append_3fe6f_24 rfl (lv_at hl 0 rfl) ?_
      refine get' (ci := 1) (fs := [.ref (ad 12 32), .int (((o2 12) 31) 1), .int (((o2 12) 31) 2), .int (((o2 12) 31) 3)]) (v := .ref (ad 12 32)) hx hb hw inWJ4 hown hK hP (gY (x := o2) (r := 31) (f := ((o2 12) 31)) (by decide) ((congrFun rfl _).trans rfl)) rfl 0 (by decide) k_269 rfl rfl dJ5_append_3fe6f_25 ?_
      refine lv_aload_n hx hb dJ5_append_3fe6f_28 rfl (lv_at hl 0 rfl) ?_
      refine lv_dup hx hb dJ5_append_3fe6f_29 rfl ?_
      refine get' (ci := 1) (fs := [.ref (ad 12 32), .int (((o2 12) 31) 1), .int (((o2 12) 31) 2), .int (((o2 12) 31) 3)]) (v := .int (((o2 12) 31) 3)) hx hb hw inWJ4 hown hK hP (gY (x := o2) (r := 31) (f := ((o2 12) 31)) (by decide) ((congrFun rfl _).trans rfl)) rfl 3 (by decide) k_273 rfl rfl dJ5_append_3fe6f_30 ?_
      refine lv_dup_x1 hx hb dJ5_append_3fe6f_33 rfl rfl ?_
      refine lv_iconst (v := 1) hx hb dJ5_append_3fe6f_34 (by decide) ?_
      refine lv_iadd hx hb dJ5_append_3fe6f_35 ?_
      refine put' (ci := 1) (fs := [.ref (ad 12 32), .int (((o2 12) 31) 1), .int (((o2 12) 31) 2), .int (((o2 12) 31) 3)]) (v := .int ((((o2 12) 31) 3) + 1)) (ty := .int) (ws' := (cW cy ad en (va_up o2 12 (va_up (o2 12) 31 (upd ((o2 12) 31) 3 ((((o2 12) 31) 3) + 1)))))) hx hb hw inWJ4 tyJ4 tyJ4_ok nmJ4 hown hK hP hD hS (gY (x := o2) (r := 31) (f := ((o2 12) 31)) (by decide) ((congrFun rfl _).trans rfl)) rfl 3 (by decide) k_273 rfl rfl (by decide +kernel) rfl rfl (Nat.le_of_ble_eq_true rfl) dJ5_append_3fe6f_36 ((sY (x := o2) (r := 31) (g := (upd ((o2 12) 31) 3 ((((o2 12) 31) 3) + 1))) (by decide)).trans (congrArg (fun z => cW cy ad en (va_up o2 12 (va_up z 31 (upd ((o2 12) 31) 3 ((((o2 12) 31) 3) + 1))))) rfl)) (fun H locs hP hD hS => ?_)
      refine lv_iload_n hx hb dJ5_append_3fe6f_39 rfl (lv_at hl 1 rfl) ?_
      refine lv_i2b (v := p1.toInt8.toInt32) hx hb dJ5_append_3fe6f_40 rfl ?_
      obtain ⟨h20, hF⟩ := ite_some hF
      refine bast' (n := 16) (f := ((o2 12) 32)) (ws' := (cW cy ad en (va_up o2 12 (va_up (va_up (o2 12) 31 (upd ((o2 12) 31) 3 ((((o2 12) 31) 3) + 1))) 32 (upd ((o2 12) 32) ((((o2 12) 31) 3).toNatClampNeg) (vp_nar .byte (p1.toInt8.toInt32))))))) hx hb hK hP hD hS (gY (x := (va_up o2 12 (va_up (o2 12) 31 (upd ((o2 12) 31) 3 ((((o2 12) 31) 3) + 1))))) (r := 32) (f := ((o2 12) 32)) (by decide) ((congrFun (va_up_self _ _ _) _).trans ((va_up_ne _ _ (by decide)).trans rfl))) (t0 := 2) rfl (vp_inb h20) dJ5_append_3fe6f_41 (sT (x := o2) (r := 32) (o := (va_up (o2 12) 31 (upd ((o2 12) 31) 3 ((((o2 12) 31) 3) + 1)))) (g := (upd ((o2 12) 32) ((((o2 12) 31) 3).toNatClampNeg) (vp_nar .byte (p1.toInt8.toInt32)))) (by decide)) (fun H locs hP hD hS => ?_)
      refine lv_goto (tgt := 75) hx hb dJ5_append_3fe6f_42 (by decide) ?_
      refine lv_aload_n hx hb dJ5_append_3fe6f_75 rfl (lv_at hl 0 rfl) ?_
      cases hF
      exact hret _ _ _ _ _ hP hD hS rfl dJ5_append_3fe6f_76
def D_J5_append_c97b9 (x : Mem) (p1 : Int32) : Option ((Mem)) := (D_J6_stringSize_0f7a4 p1).bind (fun r1 => (D_J5_ensureCapacityInternal_d00df x ((((x 12) 31) 3) + r1)).bind (fun o5 => if (D_J5_isLatin1_aae02 o5) = 0 then (none) else ((D_J6_getChars_ba4f3 o5 p1 ((((x 12) 31) 3) + r1)).bind (fun (r11, o12) => some (va_up o12 12 (va_up (o12 12) 31 (upd ((o12 12) 31) 3 ((((x 12) 31) 3) + r1))))))))
abbrev rm_J5_append_c97b9 : Room := { frames := 1, cells := 0, slots := 0, locals := 26 }
set_option maxHeartbeats 4000000 in
set_option maxRecDepth 100000 in
theorem met_J5_append_c97b9 (l : Launch) (D : va_G) (cy : Nat → ClassId) (sz : Nat) (ad : Nat → Nat → Nat) (en g : Nat → Nat) (x : Mem) (p1 : Int32)  (t' : Mem) (hF : D_J5_append_c97b9 x p1 = some t') : MRS l yJ5_append_c97b9 cJ5_append_c97b9 4 (some (.object "java/lang/AbstractStringBuilder")) rm_J5_append_c97b9 D cy en g (cW cy ad en x) sz [.ref (ad 12 31), .int p1] (ad 12 31) (cW cy ad en t') := by
  refine MRS.of ⟨_, rfl⟩ (by decide +kernel) (Nat.le_of_ble_eq_true rfl) ?_
  intro p e s m args below meth c A ls Q hAt hST hP hD hA hS hl hret
  obtain ⟨hx, hb, hr, hml, hown, hw, hlk, hK, hN⟩ := hAt
  have hown : s.vm.findClass "java/lang/AbstractStringBuilder" = some m.cls := hown
  have hl : lv_has ls 4 [(0, .ref (ad 12 31)), (1, .int p1)] := hl
  refine lv_aload_n hx hb dJ5_append_c97b9_0 rfl (lv_at hl 0 rfl) ?_
  refine get' (ci := 1) (fs := [.ref (ad 12 32), .int (((x 12) 31) 1), .int (((x 12) 31) 2), .int (((x 12) 31) 3)]) (v := .int (((x 12) 31) 3)) hx hb hw inWJ4 hown hK hP (gY (x := x) (r := 31) (f := ((x 12) 31)) (by decide) ((congrFun rfl _).trans rfl)) rfl 3 (by decide) k_273 rfl rfl dJ5_append_c97b9_1 ?_
  refine lv_istore_n (lv' := [(2, .int (((x 12) 31) 3)), (0, .ref (ad 12 31)), (1, .int p1)]) hx hb dJ5_append_c97b9_4 rfl hl (by decide) rfl (fun ls hl => ?_)
  refine lv_iload_n hx hb dJ5_append_c97b9_5 rfl (lv_at hl 0 rfl) ?_
  refine lv_iload_n hx hb dJ5_append_c97b9_6 rfl (lv_at hl 2 rfl) ?_
  obtain ⟨r1, hc3, hF⟩ := bind_some hF
  try dsimp only at hF
  refine cS_i (As := [.int p1]) (rest := [.int (((x 12) 31) 3)]) hx hb hml hown hw hK hN hA hl.1 hP hD hS k_741 k_742 k_46 k_743 (met_J6_stringSize_0f7a4 l D cy _ (cW cy ad en x) p1 r1 hc3) (fun _ _ _ => trivial) Xok_T ⟨rfl, rfl⟩ (n := 1) (by decide +kernel) rfl ⟨Nat.le_of_ble_eq_true rfl, Nat.le_of_ble_eq_true rfl⟩ ⟨Nat.le_of_ble_eq_true rfl, Nat.le_of_ble_eq_true rfl⟩ (Nat.le_of_ble_eq_true rfl) rfl dJ5_append_c97b9_7 (fun H locs hP hD hS => ?_)
  refine lv_iadd hx hb dJ5_append_c97b9_10 ?_
  refine lv_istore_n (lv' := [(3, .int ((((x 12) 31) 3) + r1)), (2, .int (((x 12) 31) 3)), (0, .ref (ad 12 31)), (1, .int p1)]) hx hb dJ5_append_c97b9_11 rfl hl (by decide) rfl (fun ls hl => ?_)
  refine lv_aload_n hx hb dJ5_append_c97b9_12 rfl (lv_at hl 2 rfl) ?_
  refine lv_iload_n hx hb dJ5_append_c97b9_13 rfl (lv_at hl 0 rfl) ?_
  obtain ⟨o5, hc6, hF⟩ := bind_some hF
  try dsimp only at hF
  refine cP_v (As := [.int ((((x 12) 31) 3) + r1)]) (rest := []) hx hb hml hown hw hK hN hA hl.1 hP hD hS k_685 k_1287 k_9000 k_687 k_31 k_688 (met_J5_ensureCapacityInternal_d00df l D cy _ ad en g x ((((x 12) 31) 3) + r1) o5 hc6) (ST_call hST hS (free_all hD hS hA)) Xok_S (gY (x := x) (r := 31) (f := ((x 12) 31)) (by decide) ((congrFun rfl _).trans rfl)) rfl ⟨rfl, rfl⟩ (n := 1) (by decide +kernel) rfl ⟨Nat.le_of_ble_eq_true rfl, Nat.le_of_ble_eq_true rfl⟩ ⟨Nat.le_of_ble_eq_true rfl, Nat.le_of_ble_eq_true rfl⟩ (Nat.le_of_ble_eq_true rfl) rfl dJ5_append_c97b9_14 (fun H locs hP hD hS => ?_)
  refine lv_aload_n hx hb dJ5_append_c97b9_17 rfl (lv_at hl 2 rfl) ?_
  refine cU_i (As := []) (rest := []) hx hb hml hown hw hK hN hA hl.1 hP hD hS k_716 k_718 k_719 k_717 k_31 k_720 rfl (met_J5_isLatin1_aae02 l D cy _ ad en g o5 (D_J5_isLatin1_aae02 o5) rfl) (ST_call hST hS (free_all hD hS hA)) Xok_S (va_recv hK hP rfl (gY (x := o5) (r := 31) (f := ((o5 12) 31)) (by decide) ((congrFun rfl _).trans rfl))) ⟨rfl, rfl⟩ (n := 0) (by decide +kernel) rfl ⟨Nat.le_of_ble_eq_true rfl, Nat.le_of_ble_eq_true rfl⟩ ⟨Nat.le_of_ble_eq_true rfl, Nat.le_of_ble_eq_true rfl⟩ (Nat.le_of_ble_eq_true rfl) rfl dJ5_append_c97b9_18 (fun H locs hP hD hS => ?_)
  refine lv_if_eq (tgt := 37) hx hb dJ5_append_c97b9_21 (by decide) (fun h10 => ?_) (fun h10 => ?_)
  · replace hF := (if_pos h10).symm.trans hF
    exact absurd hF (by simp)
  · replace hF := (if_neg h10).symm.trans hF
    refine lv_iload_n hx hb dJ5_append_c97b9_24 rfl (lv_at hl 3 rfl) ?_
    refine lv_iload_n hx hb dJ5_append_c97b9_25 rfl (lv_at hl 0 rfl) ?_
    refine lv_aload_n hx hb dJ5_append_c97b9_26 rfl (lv_at hl 2 rfl) ?_
    refine get' (ci := 1) (fs := [.ref (ad 12 32), .int (((o5 12) 31) 1), .int (((o5 12) 31) 2), .int (((o5 12) 31) 3)]) (v := .ref (ad 12 32)) hx hb hw inWJ4 hown hK hP (gY (x := o5) (r := 31) (f := ((o5 12) 31)) (by decide) ((congrFun rfl _).trans rfl)) rfl 0 (by decide) k_269 rfl rfl dJ5_append_c97b9_27 ?_
    obtain ⟨⟨r11, o12⟩, hc13, hF⟩ := bind_some hF
    try dsimp only at hF
    refine cS_i (As := [.int p1, .int ((((x 12) 31) 3) + r1), .ref (ad 12 32)]) (rest := []) hx hb hml hown hw hK hN hA hl.1 hP hD hS k_744 k_745 k_46 k_746 (met_J6_getChars_ba4f3 l D cy _ ad en g o5 p1 ((((x 12) 31) 3) + r1) r11 o12 hc13) (ST_call hST hS (free_all hD hS hA)) Xok_S ⟨rfl, rfl⟩ (n := 3) (by decide +kernel) rfl ⟨Nat.le_of_ble_eq_true rfl, Nat.le_of_ble_eq_true rfl⟩ ⟨Nat.le_of_ble_eq_true rfl, Nat.le_of_ble_eq_true rfl⟩ (Nat.le_of_ble_eq_true rfl) rfl dJ5_append_c97b9_30 (fun H locs hP hD hS => ?_)
    refine lv_pop hx hb dJ5_append_c97b9_33 rfl ?_
    refine lv_goto (tgt := 48) hx hb dJ5_append_c97b9_34 (by decide) ?_
    refine lv_aload_n hx hb dJ5_append_c97b9_48 rfl (lv_at hl 2 rfl) ?_
    refine lv_iload_n hx hb dJ5_append_c97b9_49 rfl (lv_at hl 0 rfl) ?_
    refine put' (ci := 1) (fs := [.ref (ad 12 32), .int (((o12 12) 31) 1), .int (((o12 12) 31) 2), .int (((o12 12) 31) 3)]) (v := .int ((((x 12) 31) 3) + r1)) (ty := .int) (ws' := (cW cy ad en (va_up o12 12 (va_up (o12 12) 31 (upd ((o12 12) 31) 3 ((((x 12) 31) 3) + r1)))))) hx hb hw inWJ4 tyJ4 tyJ4_ok nmJ4 hown hK hP hD hS (gY (x := o12) (r := 31) (f := ((o12 12) 31)) (by decide) ((congrFun rfl _).trans rfl)) rfl 3 (by decide) k_273 rfl rfl (by decide +kernel) rfl rfl (Nat.le_of_ble_eq_true rfl) dJ5_append_c97b9_50 ((sY (x := o12) (r := 31) (g := (upd ((o12 12) 31) 3 ((((x 12) 31) 3) + r1))) (by decide)).trans (congrArg (fun z => cW cy ad en (va_up o12 12 (va_up z 31 (upd ((o12 12) 31) 3 ((((x 12) 31) 3) + r1))))) rfl)) (fun H locs hP hD hS => ?_)
    refine lv_aload_n hx hb dJ5_append_c97b9_53 rfl (lv_at hl 2 rfl) ?_
    cases hF
    exact hret _ _ _ _ _ hP hD hS rfl dJ5_append_c97b9_54
def D_J4_append_cf468 (x : Mem) (p1 : Int32) : Option ((Mem)) := (D_J5_append_3fe6f x p1).bind (fun o2 => some o2)
abbrev rm_J4_append_cf468 : Room := { frames := 2, cells := 0, slots := 0, locals := 43 }
set_option maxHeartbeats 4000000 in
set_option maxRecDepth 100000 in
theorem met_J4_append_cf468 (l : Launch) (D : va_G) (cy : Nat → ClassId) (sz : Nat) (ad : Nat → Nat → Nat) (en g : Nat → Nat) (x : Mem) (p1 : Int32)  (t' : Mem) (hF : D_J4_append_cf468 x p1 = some t') : MRS l yJ4_append_cf468 cJ4_append_cf468 2 (some (.object "java/lang/StringBuilder")) rm_J4_append_cf468 D cy en g (cW cy ad en x) sz [.ref (ad 12 31), .int p1] (ad 12 31) (cW cy ad en t') := by
  refine MRS.of ⟨_, rfl⟩ (by decide +kernel) (Nat.le_of_ble_eq_true rfl) ?_
  intro p e s m args below meth c A ls Q hAt hST hP hD hA hS hl hret
  obtain ⟨hx, hb, hr, hml, hown, hw, hlk, hK, hN⟩ := hAt
  have hown : s.vm.findClass "java/lang/StringBuilder" = some m.cls := hown
  have hl : lv_has ls 2 [(0, .ref (ad 12 31)), (1, .int p1)] := hl
  refine lv_aload_n hx hb dJ4_append_cf468_0 rfl (lv_at hl 0 rfl) ?_
  refine lv_iload_n hx hb dJ4_append_cf468_1 rfl (lv_at hl 1 rfl) ?_
  obtain ⟨o2, hc3, hF⟩ := bind_some hF
  try dsimp only at hF
  refine cQ_r (As := [.int p1]) (rest := []) hx hb hml hown hw hK hN hA hl.1 hP hD hS k_790 k_1290 k_282 k_791 k_31 k_792 (met_J5_append_3fe6f l D cy _ ad en g x p1 o2 hc3) (ST_call hST hS (free_all hD hS hA)) Xok_S (gY (x := x) (r := 31) (f := ((x 12) 31)) (by decide) ((congrFun rfl _).trans rfl)) rfl ⟨rfl, rfl⟩ (n := 1) (by decide +kernel) rfl ⟨Nat.le_of_ble_eq_true rfl, Nat.le_of_ble_eq_true rfl⟩ ⟨Nat.le_of_ble_eq_true rfl, Nat.le_of_ble_eq_true rfl⟩ (Nat.le_of_ble_eq_true rfl) rfl dJ4_append_cf468_2 (fun H locs hP hD hS => ?_)
  refine lv_pop hx hb dJ4_append_cf468_5 rfl ?_
  refine lv_aload_n hx hb dJ4_append_cf468_6 rfl (lv_at hl 0 rfl) ?_
  cases hF
  exact hret _ _ _ _ _ hP hD hS rfl dJ4_append_cf468_7
def D_J4_append_bf812 (x : Mem) (p1 : Int32) : Option ((Mem)) := (D_J5_append_c97b9 x p1).bind (fun o2 => some o2)
abbrev rm_J4_append_bf812 : Room := { frames := 2, cells := 0, slots := 0, locals := 49 }
set_option maxHeartbeats 4000000 in
set_option maxRecDepth 100000 in
theorem met_J4_append_bf812 (l : Launch) (D : va_G) (cy : Nat → ClassId) (sz : Nat) (ad : Nat → Nat → Nat) (en g : Nat → Nat) (x : Mem) (p1 : Int32)  (t' : Mem) (hF : D_J4_append_bf812 x p1 = some t') : MRS l yJ4_append_bf812 cJ4_append_bf812 2 (some (.object "java/lang/StringBuilder")) rm_J4_append_bf812 D cy en g (cW cy ad en x) sz [.ref (ad 12 31), .int p1] (ad 12 31) (cW cy ad en t') := by
  refine MRS.of ⟨_, rfl⟩ (by decide +kernel) (Nat.le_of_ble_eq_true rfl) ?_
  intro p e s m args below meth c A ls Q hAt hST hP hD hA hS hl hret
  obtain ⟨hx, hb, hr, hml, hown, hw, hlk, hK, hN⟩ := hAt
  have hown : s.vm.findClass "java/lang/StringBuilder" = some m.cls := hown
  have hl : lv_has ls 2 [(0, .ref (ad 12 31)), (1, .int p1)] := hl
  refine lv_aload_n hx hb dJ4_append_bf812_0 rfl (lv_at hl 0 rfl) ?_
  refine lv_iload_n hx hb dJ4_append_bf812_1 rfl (lv_at hl 1 rfl) ?_
  obtain ⟨o2, hc3, hF⟩ := bind_some hF
  try dsimp only at hF
  refine cQ_r (As := [.int p1]) (rest := []) hx hb hml hown hw hK hN hA hl.1 hP hD hS k_738 k_1289 k_282 k_739 k_31 k_740 (met_J5_append_c97b9 l D cy _ ad en g x p1 o2 hc3) (ST_call hST hS (free_all hD hS hA)) Xok_S (gY (x := x) (r := 31) (f := ((x 12) 31)) (by decide) ((congrFun rfl _).trans rfl)) rfl ⟨rfl, rfl⟩ (n := 1) (by decide +kernel) rfl ⟨Nat.le_of_ble_eq_true rfl, Nat.le_of_ble_eq_true rfl⟩ ⟨Nat.le_of_ble_eq_true rfl, Nat.le_of_ble_eq_true rfl⟩ (Nat.le_of_ble_eq_true rfl) rfl dJ4_append_bf812_2 (fun H locs hP hD hS => ?_)
  refine lv_pop hx hb dJ4_append_bf812_5 rfl ?_
  refine lv_aload_n hx hb dJ4_append_bf812_6 rfl (lv_at hl 0 rfl) ?_
  cases hF
  exact hret _ _ _ _ _ hP hD hS rfl dJ4_append_bf812_7
def D_J4_length_8abf5 (x : Mem) : Int32 := (D_J5_length_8abf5 x)
abbrev rm_J4_length_8abf5 : Room := { frames := 1, cells := 0, slots := 0, locals := 20 }
set_option maxHeartbeats 4000000 in
set_option maxRecDepth 100000 in
theorem met_J4_length_8abf5 (l : Launch) (D : va_G) (cy : Nat → ClassId) (sz : Nat) (ad : Nat → Nat → Nat) (en g : Nat → Nat) (x : Mem)  (r : Int32) (hF : D_J4_length_8abf5 x = r) : MI l yJ4_length_8abf5 cJ4_length_8abf5 1 (some .int) rm_J4_length_8abf5 D cy (cW cy ad en x) sz (fun _ => True) [.ref (ad 12 31)] r (cW cy ad en x) := by
  refine MI.of (by decide +kernel) (Nat.le_of_ble_eq_true rfl) ?_
  intro p e s m args below meth c A ls Q hAt _ hP hD hA hS hl hret
  obtain ⟨hx, hb, hr, hml, hown, hw, hlk, hK, hN⟩ := hAt
  have hown : s.vm.findClass "java/lang/StringBuilder" = some m.cls := hown
  have hl : lv_has ls 1 [(0, .ref (ad 12 31))] := hl
  refine lv_aload_n hx hb dJ4_length_8abf5_0 rfl (lv_at hl 0 rfl) ?_
  refine cQ_i (As := []) (rest := []) hx hb hml hown hw hK hN hA hl.1 hP hD hS k_833 k_1292 k_282 k_834 k_31 k_835 (met_J5_length_8abf5 l D cy _ ad en g x (D_J5_length_8abf5 x) rfl) (fun _ _ _ => trivial) Xok_T (gY (x := x) (r := 31) (f := ((x 12) 31)) (by decide) ((congrFun rfl _).trans rfl)) rfl ⟨rfl, rfl⟩ (n := 0) (by decide +kernel) rfl ⟨Nat.le_of_ble_eq_true rfl, Nat.le_of_ble_eq_true rfl⟩ ⟨Nat.le_of_ble_eq_true rfl, Nat.le_of_ble_eq_true rfl⟩ (Nat.le_of_ble_eq_true rfl) rfl dJ4_length_8abf5_1 (fun H locs hP hD hS => ?_)
  cases hF
  exact hret _ _ _ _ _ _ hP hD hS rfl rfl dJ4_length_8abf5_4
def D_J4_charAt_5068e (x : Mem) (p1 : Int32) : Option (Int32) := (D_J5_charAt_5068e x p1).bind (fun r1 => if isCh r1 then (some r1) else none)
abbrev rm_J4_charAt_5068e : Room := { frames := 4, cells := 0, slots := 0, locals := 97 }
set_option maxHeartbeats 4000000 in
set_option maxRecDepth 100000 in
theorem met_J4_charAt_5068e (l : Launch) (D : va_G) (cy : Nat → ClassId) (sz : Nat) (ad : Nat → Nat → Nat) (en g : Nat → Nat) (x : Mem) (p1 : Int32)  (r : Int32) (hF : D_J4_charAt_5068e x p1 = some r) : MIS l yJ4_charAt_5068e cJ4_charAt_5068e 2 (some .char) rm_J4_charAt_5068e D cy en g (cW cy ad en x) sz [.ref (ad 12 31), .int p1] r (cW cy ad en x) := by
  refine MCS.of (by decide +kernel) (Nat.le_of_ble_eq_true rfl) ?_
  intro p e s m args below meth c A ls Q hAt hST hP hD hA hS hl hret
  obtain ⟨hx, hb, hr, hml, hown, hw, hlk, hK, hN⟩ := hAt
  have hown : s.vm.findClass "java/lang/StringBuilder" = some m.cls := hown
  have hl : lv_has ls 2 [(0, .ref (ad 12 31)), (1, .int p1)] := hl
  refine lv_aload_n hx hb dJ4_charAt_5068e_0 rfl (lv_at hl 0 rfl) ?_
  refine lv_iload_n hx hb dJ4_charAt_5068e_1 rfl (lv_at hl 1 rfl) ?_
  obtain ⟨r1, hc3, hF⟩ := bind_some hF
  try dsimp only at hF
  refine cQ_i (As := [.int p1]) (rest := []) hx hb hml hown hw hK hN hA hl.1 hP hD hS k_845 k_1293 k_282 k_846 k_31 k_847 (met_J5_charAt_5068e l D cy _ ad en g x p1 r1 hc3) (ST_call hST hS (free_all hD hS hA)) Xok_S (gY (x := x) (r := 31) (f := ((x 12) 31)) (by decide) ((congrFun rfl _).trans rfl)) rfl ⟨rfl, rfl⟩ (n := 1) (by decide +kernel) rfl ⟨Nat.le_of_ble_eq_true rfl, Nat.le_of_ble_eq_true rfl⟩ ⟨Nat.le_of_ble_eq_true rfl, Nat.le_of_ble_eq_true rfl⟩ (Nat.le_of_ble_eq_true rfl) rfl dJ4_charAt_5068e_2 (fun H locs hP hD hS => ?_)
  obtain ⟨hg4, hF⟩ := ite_some hF
  cases hF
  exact hret _ _ _ _ _ _ hP hD hS rfl rfl (isCh_iff.mp hg4) dJ4_charAt_5068e_5
def D_J4_setLength_d00df (x : Mem) (p1 : Int32) : Option ((Mem)) := (D_J5_setLength_d00df x p1).bind (fun o2 => some o2)
abbrev rm_J4_setLength_d00df : Room := { frames := 2, cells := 0, slots := 0, locals := 43 }
set_option maxHeartbeats 4000000 in
set_option maxRecDepth 100000 in
theorem met_J4_setLength_d00df (l : Launch) (D : va_G) (cy : Nat → ClassId) (sz : Nat) (ad : Nat → Nat → Nat) (en g : Nat → Nat) (x : Mem) (p1 : Int32)  (t' : Mem) (hF : D_J4_setLength_d00df x p1 = some t') : MVS l yJ4_setLength_d00df cJ4_setLength_d00df 2 rm_J4_setLength_d00df D cy en g (cW cy ad en x) sz [.ref (ad 12 31), .int p1] (cW cy ad en t') := by
  refine MVS.of (by decide +kernel) (Nat.le_of_ble_eq_true rfl) ?_
  intro p e s m args below meth c A ls Q hAt hST hP hD hA hS hl hret
  obtain ⟨hx, hb, hr, hml, hown, hw, hlk, hK, hN⟩ := hAt
  have hown : s.vm.findClass "java/lang/StringBuilder" = some m.cls := hown
  have hl : lv_has ls 2 [(0, .ref (ad 12 31)), (1, .int p1)] := hl
  refine lv_aload_n hx hb dJ4_setLength_d00df_0 rfl (lv_at hl 0 rfl) ?_
  refine lv_iload_n hx hb dJ4_setLength_d00df_1 rfl (lv_at hl 1 rfl) ?_
  obtain ⟨o2, hc3, hF⟩ := bind_some hF
  try dsimp only at hF
  refine cQ_v (As := [.int p1]) (rest := []) hx hb hml hown hw hK hN hA hl.1 hP hD hS k_682 k_1286 k_282 k_683 k_31 k_684 (met_J5_setLength_d00df l D cy _ ad en g x p1 o2 hc3) (ST_call hST hS (free_all hD hS hA)) Xok_S (gY (x := x) (r := 31) (f := ((x 12) 31)) (by decide) ((congrFun rfl _).trans rfl)) rfl ⟨rfl, rfl⟩ (n := 1) (by decide +kernel) rfl ⟨Nat.le_of_ble_eq_true rfl, Nat.le_of_ble_eq_true rfl⟩ ⟨Nat.le_of_ble_eq_true rfl, Nat.le_of_ble_eq_true rfl⟩ (Nat.le_of_ble_eq_true rfl) rfl dJ4_setLength_d00df_2 (fun H locs hP hD hS => ?_)
  cases hF
  exact hret _ _ _ _ _ hP hD hS rfl dJ4_setLength_d00df_5
def D_X1_writeTo (x : Mem) (k : Nat) (j : Nat) : Option ((Mem)) := (D_J4_append_cf468 x 64).bind (fun o2 => (D_J4_append_bf812 o2 (((o2 k) (j + 7)) 0)).bind (fun o5 => (D_J4_append_cf468 o5 58).bind (fun o8 => (D_J4_append_bf812 o8 (((o8 k) (j + 7)) 1)).bind (fun o11 => (D_J4_append_cf468 o11 47).bind (fun o14 => (D_J4_append_bf812 o14 (((o14 k) (j + 7)) 2)).bind (fun o17 => if (D_X1_hasTitle ((o17 k) (j + 7))) = 0 then (if (D_X1_hasTitleForOtherShape ((o17 k) (j + 7))) = 0 then (if (D_X1_isPledged ((o17 k) (j + 7))) = 0 then (some o17) else ((D_J4_append_cf468 o17 42).bind (fun o32 => (D_J4_append_bf812 o32 (((o32 k) (j + 7)) 5)).bind (fun o35 => some o35)))) else ((D_J4_append_cf468 o17 63).bind (fun o38 => if (D_X1_isPledged ((o38 k) (j + 7))) = 0 then (some o38) else ((D_J4_append_cf468 o38 42).bind (fun o45 => (D_J4_append_bf812 o45 (((o45 k) (j + 7)) 5)).bind (fun o48 => some o48)))))) else ((D_J4_append_cf468 o17 61).bind (fun o51 => (D_J4_append_bf812 o51 (((o51 k) (j + 7)) 3)).bind (fun o54 => if (D_X1_hasTitleForOtherShape ((o54 k) (j + 7))) = 0 then (if (D_X1_isPledged ((o54 k) (j + 7))) = 0 then (some o54) else ((D_J4_append_cf468 o54 42).bind (fun o65 => (D_J4_append_bf812 o65 (((o65 k) (j + 7)) 5)).bind (fun o68 => some o68)))) else ((D_J4_append_cf468 o54 63).bind (fun o71 => if (D_X1_isPledged ((o71 k) (j + 7))) = 0 then (some o71) else ((D_J4_append_cf468 o71 42).bind (fun o78 => (D_J4_append_bf812 o78 (((o78 k) (j + 7)) 5)).bind (fun o81 => some o81))))))))))))))
abbrev rm_X1_writeTo : Room := { frames := 3, cells := 0, slots := 0, locals := 70 }
set_option maxHeartbeats 4000000 in
set_option maxRecDepth 100000 in
theorem met_X1_writeTo (l : Launch) (D : va_G) (cy : Nat → ClassId) (sz : Nat) (ad : Nat → Nat → Nat) (en g : Nat → Nat) (x : Mem) (k : Nat) (hk : k < 12) (j : Nat) (hj : j + 7 < 13)  (t' : Mem) (hF : D_X1_writeTo x k j = some t') : MVS l yX1_writeTo cX1_writeTo 2 rm_X1_writeTo D cy en g (cW cy ad en x) sz [.ref (ad k (j + 7)), .ref (ad 12 31)] (cW cy ad en t') := by
  refine MVS.of (by decide +kernel) (Nat.le_of_ble_eq_true rfl) ?_
  intro p e s m args below meth c A ls Q hAt hST hP hD hA hS hl hret
  obtain ⟨hx, hb, hr, hml, hown, hw, hlk, hK, hN⟩ := hAt
  have hown : s.vm.findClass "CloudDeeds$Cloud" = some m.cls := hown
  have hl : lv_has ls 2 [(0, .ref (ad k (j + 7))), (1, .ref (ad 12 31))] := hl
  refine lv_aload_n hx hb dX1_writeTo_0 rfl (lv_at hl 1 rfl) ?_
  refine lv_bipush (v := 64) hx hb dX1_writeTo_1 (by decide) ?_
  obtain ⟨o2, hc3, hF⟩ := bind_some hF
  try dsimp only at hF
  refine cV_r (As := [.int 64]) (rest := []) hx hb hml hown hw hK hN hA hl.1 hP hD hS k_786 k_787 k_788 k_32 k_789 (met_J4_append_cf468 l D cy _ ad en g x 64 o2 hc3) (ST_call hST hS (free_all hD hS hA)) Xok_S (gY (x := x) (r := 31) (f := ((x 12) 31)) (by decide) ((congrFun rfl _).trans rfl)) rfl ⟨rfl, rfl⟩ (n := 1) (by decide +kernel) rfl ⟨Nat.le_of_ble_eq_true rfl, Nat.le_of_ble_eq_true rfl⟩ ⟨Nat.le_of_ble_eq_true rfl, Nat.le_of_ble_eq_true rfl⟩ (Nat.le_of_ble_eq_true rfl) rfl dX1_writeTo_3 (fun H locs hP hD hS => ?_)
  refine lv_aload_n hx hb dX1_writeTo_6 rfl (lv_at hl 0 rfl) ?_
  refine get' (ci := 4) (fs := cF ((o2 k) (j + 7))) (v := .int (((o2 k) (j + 7)) 0)) hx hb hw inWX1 hown hK hP (gX (x := o2) (k := k) (r := (j + 7)) (f := ((o2 k) (j + 7))) hk hj ((congrFun rfl _).trans rfl)) rfl 0 (by decide) k_90 rfl rfl dX1_writeTo_7 ?_
  obtain ⟨o5, hc6, hF⟩ := bind_some hF
  try dsimp only at hF
  refine cV_r (As := [.int (((o2 k) (j + 7)) 0)]) (rest := []) hx hb hml hown hw hK hN hA hl.1 hP hD hS k_827 k_735 k_736 k_32 k_737 (met_J4_append_bf812 l D cy _ ad en g o2 (((o2 k) (j + 7)) 0) o5 hc6) (ST_call hST hS (free_all hD hS hA)) Xok_S (gY (x := o2) (r := 31) (f := ((o2 12) 31)) (by decide) ((congrFun rfl _).trans rfl)) rfl ⟨rfl, rfl⟩ (n := 1) (by decide +kernel) rfl ⟨Nat.le_of_ble_eq_true rfl, Nat.le_of_ble_eq_true rfl⟩ ⟨Nat.le_of_ble_eq_true rfl, Nat.le_of_ble_eq_true rfl⟩ (Nat.le_of_ble_eq_true rfl) rfl dX1_writeTo_10 (fun H locs hP hD hS => ?_)
  refine lv_bipush (v := 58) hx hb dX1_writeTo_13 (by decide) ?_
  obtain ⟨o8, hc9, hF⟩ := bind_some hF
  try dsimp only at hF
  refine cV_r (As := [.int 58]) (rest := []) hx hb hml hown hw hK hN hA hl.1 hP hD hS k_786 k_787 k_788 k_32 k_789 (met_J4_append_cf468 l D cy _ ad en g o5 58 o8 hc9) (ST_call hST hS (free_all hD hS hA)) Xok_S (gY (x := o5) (r := 31) (f := ((o5 12) 31)) (by decide) ((congrFun rfl _).trans rfl)) rfl ⟨rfl, rfl⟩ (n := 1) (by decide +kernel) rfl ⟨Nat.le_of_ble_eq_true rfl, Nat.le_of_ble_eq_true rfl⟩ ⟨Nat.le_of_ble_eq_true rfl, Nat.le_of_ble_eq_true rfl⟩ (Nat.le_of_ble_eq_true rfl) rfl dX1_writeTo_15 (fun H locs hP hD hS => ?_)
  refine lv_aload_n hx hb dX1_writeTo_18 rfl (lv_at hl 0 rfl) ?_
  refine get' (ci := 4) (fs := cF ((o8 k) (j + 7))) (v := .int (((o8 k) (j + 7)) 1)) hx hb hw inWX1 hown hK hP (gX (x := o8) (k := k) (r := (j + 7)) (f := ((o8 k) (j + 7))) hk hj ((congrFun rfl _).trans rfl)) rfl 1 (by decide) k_92 rfl rfl dX1_writeTo_19 ?_
  obtain ⟨o11, hc12, hF⟩ := bind_some hF
  try dsimp only at hF
  refine cV_r (As := [.int (((o8 k) (j + 7)) 1)]) (rest := []) hx hb hml hown hw hK hN hA hl.1 hP hD hS k_827 k_735 k_736 k_32 k_737 (met_J4_append_bf812 l D cy _ ad en g o8 (((o8 k) (j + 7)) 1) o11 hc12) (ST_call hST hS (free_all hD hS hA)) Xok_S (gY (x := o8) (r := 31) (f := ((o8 12) 31)) (by decide) ((congrFun rfl _).trans rfl)) rfl ⟨rfl, rfl⟩ (n := 1) (by decide +kernel) rfl ⟨Nat.le_of_ble_eq_true rfl, Nat.le_of_ble_eq_true rfl⟩ ⟨Nat.le_of_ble_eq_true rfl, Nat.le_of_ble_eq_true rfl⟩ (Nat.le_of_ble_eq_true rfl) rfl dX1_writeTo_22 (fun H locs hP hD hS => ?_)
  refine lv_bipush (v := 47) hx hb dX1_writeTo_25 (by decide) ?_
  obtain ⟨o14, hc15, hF⟩ := bind_some hF
  try dsimp only at hF
  refine cV_r (As := [.int 47]) (rest := []) hx hb hml hown hw hK hN hA hl.1 hP hD hS k_786 k_787 k_788 k_32 k_789 (met_J4_append_cf468 l D cy _ ad en g o11 47 o14 hc15) (ST_call hST hS (free_all hD hS hA)) Xok_S (gY (x := o11) (r := 31) (f := ((o11 12) 31)) (by decide) ((congrFun rfl _).trans rfl)) rfl ⟨rfl, rfl⟩ (n := 1) (by decide +kernel) rfl ⟨Nat.le_of_ble_eq_true rfl, Nat.le_of_ble_eq_true rfl⟩ ⟨Nat.le_of_ble_eq_true rfl, Nat.le_of_ble_eq_true rfl⟩ (Nat.le_of_ble_eq_true rfl) rfl dX1_writeTo_27 (fun H locs hP hD hS => ?_)
  refine lv_aload_n hx hb dX1_writeTo_30 rfl (lv_at hl 0 rfl) ?_
  refine get' (ci := 4) (fs := cF ((o14 k) (j + 7))) (v := .int (((o14 k) (j + 7)) 2)) hx hb hw inWX1 hown hK hP (gX (x := o14) (k := k) (r := (j + 7)) (f := ((o14 k) (j + 7))) hk hj ((congrFun rfl _).trans rfl)) rfl 2 (by decide) k_93 rfl rfl dX1_writeTo_31 ?_
  obtain ⟨o17, hc18, hF⟩ := bind_some hF
  try dsimp only at hF
  refine cV_r (As := [.int (((o14 k) (j + 7)) 2)]) (rest := []) hx hb hml hown hw hK hN hA hl.1 hP hD hS k_827 k_735 k_736 k_32 k_737 (met_J4_append_bf812 l D cy _ ad en g o14 (((o14 k) (j + 7)) 2) o17 hc18) (ST_call hST hS (free_all hD hS hA)) Xok_S (gY (x := o14) (r := 31) (f := ((o14 12) 31)) (by decide) ((congrFun rfl _).trans rfl)) rfl ⟨rfl, rfl⟩ (n := 1) (by decide +kernel) rfl ⟨Nat.le_of_ble_eq_true rfl, Nat.le_of_ble_eq_true rfl⟩ ⟨Nat.le_of_ble_eq_true rfl, Nat.le_of_ble_eq_true rfl⟩ (Nat.le_of_ble_eq_true rfl) rfl dX1_writeTo_34 (fun H locs hP hD hS => ?_)
  refine lv_pop hx hb dX1_writeTo_37 rfl ?_
  refine lv_aload_n hx hb dX1_writeTo_38 rfl (lv_at hl 0 rfl) ?_
  refine cV_i (As := []) (rest := []) hx hb hml hown hw hK hN hA hl.1 hP hD hS k_555 k_556 k_557 k_24 k_558 (met_X1_hasTitle l D cy _ (cW cy ad en o17) (13 * k + (j + 7)) (ad k (j + 7)) ((o17 k) (j + 7)) (gX (x := o17) (k := k) (r := (j + 7)) (f := ((o17 k) (j + 7))) hk hj ((congrFun rfl _).trans rfl)) (D_X1_hasTitle ((o17 k) (j + 7))) rfl) (fun _ _ _ => trivial) Xok_T (gX (x := o17) (k := k) (r := (j + 7)) (f := ((o17 k) (j + 7))) hk hj ((congrFun rfl _).trans rfl)) rfl ⟨rfl, rfl⟩ (n := 0) (by decide +kernel) rfl ⟨Nat.le_of_ble_eq_true rfl, Nat.le_of_ble_eq_true rfl⟩ ⟨Nat.le_of_ble_eq_true rfl, Nat.le_of_ble_eq_true rfl⟩ (Nat.le_of_ble_eq_true rfl) rfl dX1_writeTo_39 (fun H locs hP hD hS => ?_)
  refine lv_if_eq (tgt := 59) hx hb dX1_writeTo_42 (by decide) (fun h22 => ?_) (fun h22 => ?_)
  · replace hF := (if_pos h22).symm.trans hF
    refine lv_aload_n hx hb dX1_writeTo_59 rfl (lv_at hl 0 rfl) ?_
    refine cV_i (As := []) (rest := []) hx hb hml hown hw hK hN hA hl.1 hP hD hS k_828 k_552 k_553 k_24 k_554 (met_X1_hasTitleForOtherShape l D cy _ (cW cy ad en o17) (13 * k + (j + 7)) (ad k (j + 7)) ((o17 k) (j + 7)) (gX (x := o17) (k := k) (r := (j + 7)) (f := ((o17 k) (j + 7))) hk hj ((congrFun rfl _).trans rfl)) (D_X1_hasTitleForOtherShape ((o17 k) (j + 7))) rfl) (fun _ _ _ => trivial) Xok_T (gX (x := o17) (k := k) (r := (j + 7)) (f := ((o17 k) (j + 7))) hk hj ((congrFun rfl _).trans rfl)) rfl ⟨rfl, rfl⟩ (n := 0) (by decide +kernel) rfl ⟨Nat.le_of_ble_eq_true rfl, Nat.le_of_ble_eq_true rfl⟩ ⟨Nat.le_of_ble_eq_true rfl, Nat.le_of_ble_eq_true rfl⟩ (Nat.le_of_ble_eq_true rfl) rfl dX1_writeTo_60 (fun H locs hP hD hS => ?_)
    refine lv_if_eq (tgt := 73) hx hb dX1_writeTo_63 (by decide) (fun h26 => ?_) (fun h26 => ?_)
    · replace hF := (if_pos h26).symm.trans hF
      refine lv_aload_n hx hb dX1_writeTo_73 rfl (lv_at hl 0 rfl) ?_
      refine cV_i (As := []) (rest := []) hx hb hml hown hw hK hN hA hl.1 hP hD hS k_420 k_421 k_422 k_24 k_423 (met_X1_isPledged l D cy _ (cW cy ad en o17) (13 * k + (j + 7)) (ad k (j + 7)) ((o17 k) (j + 7)) (gX (x := o17) (k := k) (r := (j + 7)) (f := ((o17 k) (j + 7))) hk hj ((congrFun rfl _).trans rfl)) (D_X1_isPledged ((o17 k) (j + 7))) rfl) (fun _ _ _ => trivial) Xok_T (gX (x := o17) (k := k) (r := (j + 7)) (f := ((o17 k) (j + 7))) hk hj ((congrFun rfl _).trans rfl)) rfl ⟨rfl, rfl⟩ (n := 0) (by decide +kernel) rfl ⟨Nat.le_of_ble_eq_true rfl, Nat.le_of_ble_eq_true rfl⟩ ⟨Nat.le_of_ble_eq_true rfl, Nat.le_of_ble_eq_true rfl⟩ (Nat.le_of_ble_eq_true rfl) rfl dX1_writeTo_74 (fun H locs hP hD hS => ?_)
      refine lv_if_eq (tgt := 94) hx hb dX1_writeTo_77 (by decide) (fun h30 => ?_) (fun h30 => ?_)
      · replace hF := (if_pos h30).symm.trans hF
        cases hF
        exact hret _ _ _ _ _ hP hD hS rfl dX1_writeTo_94
      · replace hF := (if_neg h30).symm.trans hF
        refine lv_aload_n hx hb dX1_writeTo_80 rfl (lv_at hl 1 rfl) ?_
        refine lv_bipush (v := 42) hx hb dX1_writeTo_81 (by decide) ?_
        obtain ⟨o32, hc33, hF⟩ := bind_some hF
        try dsimp only at hF
        refine cV_r (As := [.int 42]) (rest := []) hx hb hml hown hw hK hN hA hl.1 hP hD hS k_786 k_787 k_788 k_32 k_789 (met_J4_append_cf468 l D cy _ ad en g o17 42 o32 hc33) (ST_call hST hS (free_all hD hS hA)) Xok_S (gY (x := o17) (r := 31) (f := ((o17 12) 31)) (by decide) ((congrFun rfl _).trans rfl)) rfl ⟨rfl, rfl⟩ (n := 1) (by decide +kernel) rfl ⟨Nat.le_of_ble_eq_true rfl, Nat.le_of_ble_eq_true rfl⟩ ⟨Nat.le_of_ble_eq_true rfl, Nat.le_of_ble_eq_true rfl⟩ (Nat.le_of_ble_eq_true rfl) rfl dX1_writeTo_83 (fun H locs hP hD hS => ?_)
        refine lv_aload_n hx hb dX1_writeTo_86 rfl (lv_at hl 0 rfl) ?_
        refine get' (ci := 4) (fs := cF ((o32 k) (j + 7))) (v := .int (((o32 k) (j + 7)) 5)) hx hb hw inWX1 hown hK hP (gX (x := o32) (k := k) (r := (j + 7)) (f := ((o32 k) (j + 7))) hk hj ((congrFun rfl _).trans rfl)) rfl 5 (by decide) k_99 rfl rfl dX1_writeTo_87 ?_
        obtain ⟨o35, hc36, hF⟩ := bind_some hF
        try dsimp only at hF
        refine cV_r (As := [.int (((o32 k) (j + 7)) 5)]) (rest := []) hx hb hml hown hw hK hN hA hl.1 hP hD hS k_827 k_735 k_736 k_32 k_737 (met_J4_append_bf812 l D cy _ ad en g o32 (((o32 k) (j + 7)) 5) o35 hc36) (ST_call hST hS (free_all hD hS hA)) Xok_S (gY (x := o32) (r := 31) (f := ((o32 12) 31)) (by decide) ((congrFun rfl _).trans rfl)) rfl ⟨rfl, rfl⟩ (n := 1) (by decide +kernel) rfl ⟨Nat.le_of_ble_eq_true rfl, Nat.le_of_ble_eq_true rfl⟩ ⟨Nat.le_of_ble_eq_true rfl, Nat.le_of_ble_eq_true rfl⟩ (Nat.le_of_ble_eq_true rfl) rfl dX1_writeTo_90 (fun H locs hP hD hS => ?_)
        refine lv_pop hx hb dX1_writeTo_93 rfl ?_
        cases hF
        exact hret _ _ _ _ _ hP hD hS rfl dX1_writeTo_94
    · replace hF := (if_neg h26).symm.trans hF
      refine lv_aload_n hx hb dX1_writeTo_66 rfl (lv_at hl 1 rfl) ?_
      refine lv_bipush (v := 63) hx hb dX1_writeTo_67 (by decide) ?_
      obtain ⟨o38, hc39, hF⟩ := bind_some hF
      try dsimp only at hF
      refine cV_r (As := [.int 63]) (rest := []) hx hb hml hown hw hK hN hA hl.1 hP hD hS k_786 k_787 k_788 k_32 k_789 (met_J4_append_cf468 l D cy _ ad en g o17 63 o38 hc39) (ST_call hST hS (free_all hD hS hA)) Xok_S (gY (x := o17) (r := 31) (f := ((o17 12) 31)) (by decide) ((congrFun rfl _).trans rfl)) rfl ⟨rfl, rfl⟩ (n := 1) (by decide +kernel) rfl ⟨Nat.le_of_ble_eq_true rfl, Nat.le_of_ble_eq_true rfl⟩ ⟨Nat.le_of_ble_eq_true rfl, Nat.le_of_ble_eq_true rfl⟩ (Nat.le_of_ble_eq_true rfl) rfl dX1_writeTo_69 (fun H locs hP hD hS => ?_)
      refine lv_pop hx hb dX1_writeTo_72 rfl ?_
      refine lv_aload_n hx hb dX1_writeTo_73 rfl (lv_at hl 0 rfl) ?_
      refine cV_i (As := []) (rest := []) hx hb hml hown hw hK hN hA hl.1 hP hD hS k_420 k_421 k_422 k_24 k_423 (met_X1_isPledged l D cy _ (cW cy ad en o38) (13 * k + (j + 7)) (ad k (j + 7)) ((o38 k) (j + 7)) (gX (x := o38) (k := k) (r := (j + 7)) (f := ((o38 k) (j + 7))) hk hj ((congrFun rfl _).trans rfl)) (D_X1_isPledged ((o38 k) (j + 7))) rfl) (fun _ _ _ => trivial) Xok_T (gX (x := o38) (k := k) (r := (j + 7)) (f := ((o38 k) (j + 7))) hk hj ((congrFun rfl _).trans rfl)) rfl ⟨rfl, rfl⟩ (n := 0) (by decide +kernel) rfl ⟨Nat.le_of_ble_eq_true rfl, Nat.le_of_ble_eq_true rfl⟩ ⟨Nat.le_of_ble_eq_true rfl, Nat.le_of_ble_eq_true rfl⟩ (Nat.le_of_ble_eq_true rfl) rfl dX1_writeTo_74 (fun H locs hP hD hS => ?_)
      refine lv_if_eq (tgt := 94) hx hb dX1_writeTo_77 (by decide) (fun h43 => ?_) (fun h43 => ?_)
      · replace hF := (if_pos h43).symm.trans hF
        cases hF
        exact hret _ _ _ _ _ hP hD hS rfl dX1_writeTo_94
      · replace hF := (if_neg h43).symm.trans hF
        refine lv_aload_n hx hb dX1_writeTo_80 rfl (lv_at hl 1 rfl) ?_
        refine lv_bipush (v := 42) hx hb dX1_writeTo_81 (by decide) ?_
        obtain ⟨o45, hc46, hF⟩ := bind_some hF
        try dsimp only at hF
        refine cV_r (As := [.int 42]) (rest := []) hx hb hml hown hw hK hN hA hl.1 hP hD hS k_786 k_787 k_788 k_32 k_789 (met_J4_append_cf468 l D cy _ ad en g o38 42 o45 hc46) (ST_call hST hS (free_all hD hS hA)) Xok_S (gY (x := o38) (r := 31) (f := ((o38 12) 31)) (by decide) ((congrFun rfl _).trans rfl)) rfl ⟨rfl, rfl⟩ (n := 1) (by decide +kernel) rfl ⟨Nat.le_of_ble_eq_true rfl, Nat.le_of_ble_eq_true rfl⟩ ⟨Nat.le_of_ble_eq_true rfl, Nat.le_of_ble_eq_true rfl⟩ (Nat.le_of_ble_eq_true rfl) rfl dX1_writeTo_83 (fun H locs hP hD hS => ?_)
        refine lv_aload_n hx hb dX1_writeTo_86 rfl (lv_at hl 0 rfl) ?_
        refine get' (ci := 4) (fs := cF ((o45 k) (j + 7))) (v := .int (((o45 k) (j + 7)) 5)) hx hb hw inWX1 hown hK hP (gX (x := o45) (k := k) (r := (j + 7)) (f := ((o45 k) (j + 7))) hk hj ((congrFun rfl _).trans rfl)) rfl 5 (by decide) k_99 rfl rfl dX1_writeTo_87 ?_
        obtain ⟨o48, hc49, hF⟩ := bind_some hF
        try dsimp only at hF
        refine cV_r (As := [.int (((o45 k) (j + 7)) 5)]) (rest := []) hx hb hml hown hw hK hN hA hl.1 hP hD hS k_827 k_735 k_736 k_32 k_737 (met_J4_append_bf812 l D cy _ ad en g o45 (((o45 k) (j + 7)) 5) o48 hc49) (ST_call hST hS (free_all hD hS hA)) Xok_S (gY (x := o45) (r := 31) (f := ((o45 12) 31)) (by decide) ((congrFun rfl _).trans rfl)) rfl ⟨rfl, rfl⟩ (n := 1) (by decide +kernel) rfl ⟨Nat.le_of_ble_eq_true rfl, Nat.le_of_ble_eq_true rfl⟩ ⟨Nat.le_of_ble_eq_true rfl, Nat.le_of_ble_eq_true rfl⟩ (Nat.le_of_ble_eq_true rfl) rfl dX1_writeTo_90 (fun H locs hP hD hS => ?_)
        refine lv_pop hx hb dX1_writeTo_93 rfl ?_
        cases hF
        exact hret _ _ _ _ _ hP hD hS rfl dX1_writeTo_94
  · replace hF := (if_neg h22).symm.trans hF
    refine lv_aload_n hx hb dX1_writeTo_45 rfl (lv_at hl 1 rfl) ?_
    refine lv_bipush (v := 61) hx hb dX1_writeTo_46 (by decide) ?_
    obtain ⟨o51, hc52, hF⟩ := bind_some hF
    try dsimp only at hF
    refine cV_r (As := [.int 61]) (rest := []) hx hb hml hown hw hK hN hA hl.1 hP hD hS k_786 k_787 k_788 k_32 k_789 (met_J4_append_cf468 l D cy _ ad en g o17 61 o51 hc52) (ST_call hST hS (free_all hD hS hA)) Xok_S (gY (x := o17) (r := 31) (f := ((o17 12) 31)) (by decide) ((congrFun rfl _).trans rfl)) rfl ⟨rfl, rfl⟩ (n := 1) (by decide +kernel) rfl ⟨Nat.le_of_ble_eq_true rfl, Nat.le_of_ble_eq_true rfl⟩ ⟨Nat.le_of_ble_eq_true rfl, Nat.le_of_ble_eq_true rfl⟩ (Nat.le_of_ble_eq_true rfl) rfl dX1_writeTo_48 (fun H locs hP hD hS => ?_)
    refine lv_aload_n hx hb dX1_writeTo_51 rfl (lv_at hl 0 rfl) ?_
    refine get' (ci := 4) (fs := cF ((o51 k) (j + 7))) (v := .int (((o51 k) (j + 7)) 3)) hx hb hw inWX1 hown hK hP (gX (x := o51) (k := k) (r := (j + 7)) (f := ((o51 k) (j + 7))) hk hj ((congrFun rfl _).trans rfl)) rfl 3 (by decide) k_95 rfl rfl dX1_writeTo_52 ?_
    obtain ⟨o54, hc55, hF⟩ := bind_some hF
    try dsimp only at hF
    refine cV_r (As := [.int (((o51 k) (j + 7)) 3)]) (rest := []) hx hb hml hown hw hK hN hA hl.1 hP hD hS k_827 k_735 k_736 k_32 k_737 (met_J4_append_bf812 l D cy _ ad en g o51 (((o51 k) (j + 7)) 3) o54 hc55) (ST_call hST hS (free_all hD hS hA)) Xok_S (gY (x := o51) (r := 31) (f := ((o51 12) 31)) (by decide) ((congrFun rfl _).trans rfl)) rfl ⟨rfl, rfl⟩ (n := 1) (by decide +kernel) rfl ⟨Nat.le_of_ble_eq_true rfl, Nat.le_of_ble_eq_true rfl⟩ ⟨Nat.le_of_ble_eq_true rfl, Nat.le_of_ble_eq_true rfl⟩ (Nat.le_of_ble_eq_true rfl) rfl dX1_writeTo_55 (fun H locs hP hD hS => ?_)
    refine lv_pop hx hb dX1_writeTo_58 rfl ?_
    refine lv_aload_n hx hb dX1_writeTo_59 rfl (lv_at hl 0 rfl) ?_
    refine cV_i (As := []) (rest := []) hx hb hml hown hw hK hN hA hl.1 hP hD hS k_828 k_552 k_553 k_24 k_554 (met_X1_hasTitleForOtherShape l D cy _ (cW cy ad en o54) (13 * k + (j + 7)) (ad k (j + 7)) ((o54 k) (j + 7)) (gX (x := o54) (k := k) (r := (j + 7)) (f := ((o54 k) (j + 7))) hk hj ((congrFun rfl _).trans rfl)) (D_X1_hasTitleForOtherShape ((o54 k) (j + 7))) rfl) (fun _ _ _ => trivial) Xok_T (gX (x := o54) (k := k) (r := (j + 7)) (f := ((o54 k) (j + 7))) hk hj ((congrFun rfl _).trans rfl)) rfl ⟨rfl, rfl⟩ (n := 0) (by decide +kernel) rfl ⟨Nat.le_of_ble_eq_true rfl, Nat.le_of_ble_eq_true rfl⟩ ⟨Nat.le_of_ble_eq_true rfl, Nat.le_of_ble_eq_true rfl⟩ (Nat.le_of_ble_eq_true rfl) rfl dX1_writeTo_60 (fun H locs hP hD hS => ?_)
    refine lv_if_eq (tgt := 73) hx hb dX1_writeTo_63 (by decide) (fun h59 => ?_) (fun h59 => ?_)
    · replace hF := (if_pos h59).symm.trans hF
      refine lv_aload_n hx hb dX1_writeTo_73 rfl (lv_at hl 0 rfl) ?_
      refine cV_i (As := []) (rest := []) hx hb hml hown hw hK hN hA hl.1 hP hD hS k_420 k_421 k_422 k_24 k_423 (met_X1_isPledged l D cy _ (cW cy ad en o54) (13 * k + (j + 7)) (ad k (j + 7)) ((o54 k) (j + 7)) (gX (x := o54) (k := k) (r := (j + 7)) (f := ((o54 k) (j + 7))) hk hj ((congrFun rfl _).trans rfl)) (D_X1_isPledged ((o54 k) (j + 7))) rfl) (fun _ _ _ => trivial) Xok_T (gX (x := o54) (k := k) (r := (j + 7)) (f := ((o54 k) (j + 7))) hk hj ((congrFun rfl _).trans rfl)) rfl ⟨rfl, rfl⟩ (n := 0) (by decide +kernel) rfl ⟨Nat.le_of_ble_eq_true rfl, Nat.le_of_ble_eq_true rfl⟩ ⟨Nat.le_of_ble_eq_true rfl, Nat.le_of_ble_eq_true rfl⟩ (Nat.le_of_ble_eq_true rfl) rfl dX1_writeTo_74 (fun H locs hP hD hS => ?_)
      refine lv_if_eq (tgt := 94) hx hb dX1_writeTo_77 (by decide) (fun h63 => ?_) (fun h63 => ?_)
      · replace hF := (if_pos h63).symm.trans hF
        cases hF
        exact hret _ _ _ _ _ hP hD hS rfl dX1_writeTo_94
      · replace hF := (if_neg h63).symm.trans hF
        refine lv_aload_n hx hb dX1_writeTo_80 rfl (lv_at hl 1 rfl) ?_
        refine lv_bipush (v := 42) hx hb dX1_writeTo_81 (by decide) ?_
        obtain ⟨o65, hc66, hF⟩ := bind_some hF
        try dsimp only at hF
        refine cV_r (As := [.int 42]) (rest := []) hx hb hml hown hw hK hN hA hl.1 hP hD hS k_786 k_787 k_788 k_32 k_789 (met_J4_append_cf468 l D cy _ ad en g o54 42 o65 hc66) (ST_call hST hS (free_all hD hS hA)) Xok_S (gY (x := o54) (r := 31) (f := ((o54 12) 31)) (by decide) ((congrFun rfl _).trans rfl)) rfl ⟨rfl, rfl⟩ (n := 1) (by decide +kernel) rfl ⟨Nat.le_of_ble_eq_true rfl, Nat.le_of_ble_eq_true rfl⟩ ⟨Nat.le_of_ble_eq_true rfl, Nat.le_of_ble_eq_true rfl⟩ (Nat.le_of_ble_eq_true rfl) rfl dX1_writeTo_83 (fun H locs hP hD hS => ?_)
        refine lv_aload_n hx hb dX1_writeTo_86 rfl (lv_at hl 0 rfl) ?_
        refine get' (ci := 4) (fs := cF ((o65 k) (j + 7))) (v := .int (((o65 k) (j + 7)) 5)) hx hb hw inWX1 hown hK hP (gX (x := o65) (k := k) (r := (j + 7)) (f := ((o65 k) (j + 7))) hk hj ((congrFun rfl _).trans rfl)) rfl 5 (by decide) k_99 rfl rfl dX1_writeTo_87 ?_
        obtain ⟨o68, hc69, hF⟩ := bind_some hF
        try dsimp only at hF
        refine cV_r (As := [.int (((o65 k) (j + 7)) 5)]) (rest := []) hx hb hml hown hw hK hN hA hl.1 hP hD hS k_827 k_735 k_736 k_32 k_737 (met_J4_append_bf812 l D cy _ ad en g o65 (((o65 k) (j + 7)) 5) o68 hc69) (ST_call hST hS (free_all hD hS hA)) Xok_S (gY (x := o65) (r := 31) (f := ((o65 12) 31)) (by decide) ((congrFun rfl _).trans rfl)) rfl ⟨rfl, rfl⟩ (n := 1) (by decide +kernel) rfl ⟨Nat.le_of_ble_eq_true rfl, Nat.le_of_ble_eq_true rfl⟩ ⟨Nat.le_of_ble_eq_true rfl, Nat.le_of_ble_eq_true rfl⟩ (Nat.le_of_ble_eq_true rfl) rfl dX1_writeTo_90 (fun H locs hP hD hS => ?_)
        refine lv_pop hx hb dX1_writeTo_93 rfl ?_
        cases hF
        exact hret _ _ _ _ _ hP hD hS rfl dX1_writeTo_94
    · replace hF := (if_neg h59).symm.trans hF
      refine lv_aload_n hx hb dX1_writeTo_66 rfl (lv_at hl 1 rfl) ?_
      refine lv_bipush (v := 63) hx hb dX1_writeTo_67 (by decide) ?_
      obtain ⟨o71, hc72, hF⟩ := bind_some hF
      try dsimp only at hF
      refine cV_r (As := [.int 63]) (rest := []) hx hb hml hown hw hK hN hA hl.1 hP hD hS k_786 k_787 k_788 k_32 k_789 (met_J4_append_cf468 l D cy _ ad en g o54 63 o71 hc72) (ST_call hST hS (free_all hD hS hA)) Xok_S (gY (x := o54) (r := 31) (f := ((o54 12) 31)) (by decide) ((congrFun rfl _).trans rfl)) rfl ⟨rfl, rfl⟩ (n := 1) (by decide +kernel) rfl ⟨Nat.le_of_ble_eq_true rfl, Nat.le_of_ble_eq_true rfl⟩ ⟨Nat.le_of_ble_eq_true rfl, Nat.le_of_ble_eq_true rfl⟩ (Nat.le_of_ble_eq_true rfl) rfl dX1_writeTo_69 (fun H locs hP hD hS => ?_)
      refine lv_pop hx hb dX1_writeTo_72 rfl ?_
      refine lv_aload_n hx hb dX1_writeTo_73 rfl (lv_at hl 0 rfl) ?_
      refine cV_i (As := []) (rest := []) hx hb hml hown hw hK hN hA hl.1 hP hD hS k_420 k_421 k_422 k_24 k_423 (met_X1_isPledged l D cy _ (cW cy ad en o71) (13 * k + (j + 7)) (ad k (j + 7)) ((o71 k) (j + 7)) (gX (x := o71) (k := k) (r := (j + 7)) (f := ((o71 k) (j + 7))) hk hj ((congrFun rfl _).trans rfl)) (D_X1_isPledged ((o71 k) (j + 7))) rfl) (fun _ _ _ => trivial) Xok_T (gX (x := o71) (k := k) (r := (j + 7)) (f := ((o71 k) (j + 7))) hk hj ((congrFun rfl _).trans rfl)) rfl ⟨rfl, rfl⟩ (n := 0) (by decide +kernel) rfl ⟨Nat.le_of_ble_eq_true rfl, Nat.le_of_ble_eq_true rfl⟩ ⟨Nat.le_of_ble_eq_true rfl, Nat.le_of_ble_eq_true rfl⟩ (Nat.le_of_ble_eq_true rfl) rfl dX1_writeTo_74 (fun H locs hP hD hS => ?_)
      refine lv_if_eq (tgt := 94) hx hb dX1_writeTo_77 (by decide) (fun h76 => ?_) (fun h76 => ?_)
      · replace hF := (if_pos h76).symm.trans hF
        cases hF
        exact hret _ _ _ _ _ hP hD hS rfl dX1_writeTo_94
      · replace hF := (if_neg h76).symm.trans hF
        refine lv_aload_n hx hb dX1_writeTo_80 rfl (lv_at hl 1 rfl) ?_
        refine lv_bipush (v := 42) hx hb dX1_writeTo_81 (by decide) ?_
        obtain ⟨o78, hc79, hF⟩ := bind_some hF
        try dsimp only at hF
        refine cV_r (As := [.int 42]) (rest := []) hx hb hml hown hw hK hN hA hl.1 hP hD hS k_786 k_787 k_788 k_32 k_789 (met_J4_append_cf468 l D cy _ ad en g o71 42 o78 hc79) (ST_call hST hS (free_all hD hS hA)) Xok_S (gY (x := o71) (r := 31) (f := ((o71 12) 31)) (by decide) ((congrFun rfl _).trans rfl)) rfl ⟨rfl, rfl⟩ (n := 1) (by decide +kernel) rfl ⟨Nat.le_of_ble_eq_true rfl, Nat.le_of_ble_eq_true rfl⟩ ⟨Nat.le_of_ble_eq_true rfl, Nat.le_of_ble_eq_true rfl⟩ (Nat.le_of_ble_eq_true rfl) rfl dX1_writeTo_83 (fun H locs hP hD hS => ?_)
        refine lv_aload_n hx hb dX1_writeTo_86 rfl (lv_at hl 0 rfl) ?_
        refine get' (ci := 4) (fs := cF ((o78 k) (j + 7))) (v := .int (((o78 k) (j + 7)) 5)) hx hb hw inWX1 hown hK hP (gX (x := o78) (k := k) (r := (j + 7)) (f := ((o78 k) (j + 7))) hk hj ((congrFun rfl _).trans rfl)) rfl 5 (by decide) k_99 rfl rfl dX1_writeTo_87 ?_
        obtain ⟨o81, hc82, hF⟩ := bind_some hF
        try dsimp only at hF
        refine cV_r (As := [.int (((o78 k) (j + 7)) 5)]) (rest := []) hx hb hml hown hw hK hN hA hl.1 hP hD hS k_827 k_735 k_736 k_32 k_737 (met_J4_append_bf812 l D cy _ ad en g o78 (((o78 k) (j + 7)) 5) o81 hc82) (ST_call hST hS (free_all hD hS hA)) Xok_S (gY (x := o78) (r := 31) (f := ((o78 12) 31)) (by decide) ((congrFun rfl _).trans rfl)) rfl ⟨rfl, rfl⟩ (n := 1) (by decide +kernel) rfl ⟨Nat.le_of_ble_eq_true rfl, Nat.le_of_ble_eq_true rfl⟩ ⟨Nat.le_of_ble_eq_true rfl, Nat.le_of_ble_eq_true rfl⟩ (Nat.le_of_ble_eq_true rfl) rfl dX1_writeTo_90 (fun H locs hP hD hS => ?_)
        refine lv_pop hx hb dX1_writeTo_93 rfl ?_
        cases hF
        exact hret _ _ _ _ _ hP hD hS rfl dX1_writeTo_94
def L_X7_writeTo_2 : Nat → (Mem) → (Nat) → (Int32) → (Int32) → (Mem) → Option ((Mem))
  | 0, _, _, _, _, _ => none
  | n2 + 1, x, k, p2, i3h2, s2 => (D_X7_cloudsAt (s2 k) p2).bind (fun r1 => if r1 ≤ i3h2 then (some s2) else ((D_X7_ownerAt (s2 k) p2 i3h2).bind (fun r5 => if r5 = (-1) then ((D_J4_append_cf468 s2 45).bind (fun o13 => L_X7_writeTo_2 n2 x k p2 (i3h2 + 1) o13)) else ((D_J4_append_bf812 s2 r5).bind (fun o10 => L_X7_writeTo_2 n2 x k p2 (i3h2 + 1) o10)))))
def D_X7_writeTo (x : Mem) (k : Nat) (p2 : Int32) : Option ((Mem)) := L_X7_writeTo_2 200 x k p2 0 x
abbrev rm_X7_writeTo : Room := { frames := 4, cells := 0, slots := 0, locals := 85 }
set_option maxHeartbeats 4000000 in
set_option maxRecDepth 100000 in
theorem met_X7_writeTo (l : Launch) (D : va_G) (cy : Nat → ClassId) (sz : Nat) (ad : Nat → Nat → Nat) (en g : Nat → Nat) (x : Mem) (k : Nat) (hk : k < 12) (p2 : Int32)  (t' : Mem) (hF : D_X7_writeTo x k p2 = some t') : MVS l yX7_writeTo cX7_writeTo 5 rm_X7_writeTo D cy en g (cW cy ad en x) sz [.ref (ad k 4), .ref (ad 12 31), .int p2] (cW cy ad en t') := by
  refine MVS.of (by decide +kernel) (Nat.le_of_ble_eq_true rfl) ?_
  intro p e s m args below meth c A ls Q hAt hST hP hD hA hS hl hret
  obtain ⟨hx, hb, hr, hml, hown, hw, hlk, hK, hN⟩ := hAt
  have hown : s.vm.findClass "CloudDeeds$Records" = some m.cls := hown
  have hl : lv_has ls 5 [(0, .ref (ad k 4)), (1, .ref (ad 12 31)), (2, .int p2)] := hl
  refine lv_iconst (v := 0) hx hb dX7_writeTo_0 (by decide) ?_
  refine lv_istore_n (lv' := [(3, .int 0), (0, .ref (ad k 4)), (1, .ref (ad 12 31)), (2, .int p2)]) hx hb dX7_writeTo_1 rfl hl (by decide) rfl (fun ls hl => ?_)
  have loop2 : ∀ (n : Nat) (i3h2 : Int32) (s2 : Mem) (H : Heap) (locs : List Loc) (ls : Array Slot), L_X7_writeTo_2 n x k p2 i3h2 s2 = some t' → va_P D vwCl (cW cy ad en s2) H → va_D A (cW cy ad en s2) → va_S A s.heap H locs → lv_has ls 5 [(3, .int i3h2), (0, .ref (ad k 4)), (1, .ref (ad 12 31)), (2, .int p2)] → W p l e rm_X7_writeTo s m args below meth c H locs 0 0 Q (F0 m 2 ls []) := by
    intro n
    induction n with
    | zero => intro i3h2 s2 H locs ls hF _ _ _ _; exact absurd hF (by simp [L_X7_writeTo_2])
    | succ n2 ih2 =>
      intro i3h2 s2 H locs ls hF hP hD hS hl
      refine lv_iload_n hx hb dX7_writeTo_2 rfl (lv_at hl 0 rfl) ?_
      refine lv_aload_n hx hb dX7_writeTo_3 rfl (lv_at hl 1 rfl) ?_
      refine lv_iload_n hx hb dX7_writeTo_4 rfl (lv_at hl 3 rfl) ?_
      have hP := cvP hP ((congrArg (cW cy ad en) (up_self s2 k)).symm.trans (congrArg (fun z => cW cy ad en (va_up s2 k z)) rfl))
      have hD := cvD hD ((congrArg (cW cy ad en) (up_self s2 k)).symm.trans (congrArg (fun z => cW cy ad en (va_up s2 k z)) rfl))
      obtain ⟨r1, hc3, hF⟩ := bind_some hF
      try dsimp only at hF
      refine cV_i (As := [.int p2]) (rest := [.int i3h2]) hx hb hml hown hw hK hN hA hl.1 hP hD hS k_941 k_932 k_933 k_23 k_934 (met_X7_cloudsAt l D cy _ ad en s2 k hk (s2 k) p2 r1 hc3) (fun _ _ _ => trivial) Xok_T (gX (x := (va_up s2 k (s2 k))) (k := k) (r := 4) (f := ((s2 k) 4)) hk (by decide) ((congrFun (va_up_self _ _ _) _).trans rfl)) rfl ⟨rfl, rfl⟩ (n := 1) (by decide +kernel) rfl ⟨Nat.le_of_ble_eq_true rfl, Nat.le_of_ble_eq_true rfl⟩ ⟨Nat.le_of_ble_eq_true rfl, Nat.le_of_ble_eq_true rfl⟩ (Nat.le_of_ble_eq_true rfl) rfl dX7_writeTo_5 (fun H locs hP hD hS => ?_)
      have hP : va_P D vwCl (cW cy ad en s2) H := cvP hP ((congrArg (cW cy ad en) (up_self s2 k)).symm.trans (congrArg (fun z => cW cy ad en (va_up s2 k z)) rfl)).symm
      have hD : va_D A (cW cy ad en s2) := cvD hD ((congrArg (cW cy ad en) (up_self s2 k)).symm.trans (congrArg (fun z => cW cy ad en (va_up s2 k z)) rfl)).symm
      refine lv_icmp_ge (tgt := 48) hx hb dX7_writeTo_8 (by decide) (fun h4 => ?_) (fun h4 => ?_)
      · replace hF := (if_pos h4).symm.trans hF
        cases hF
        exact hret _ _ _ _ _ hP hD hS rfl dX7_writeTo_48
      · replace hF := (if_neg h4).symm.trans hF
        refine lv_aload_n hx hb dX7_writeTo_11 rfl (lv_at hl 1 rfl) ?_
        refine lv_iload_n hx hb dX7_writeTo_12 rfl (lv_at hl 3 rfl) ?_
        refine lv_iload_n hx hb dX7_writeTo_13 rfl (lv_at hl 0 rfl) ?_
        have hP := cvP hP ((congrArg (cW cy ad en) (up_self s2 k)).symm.trans (congrArg (fun z => cW cy ad en (va_up s2 k z)) rfl))
        have hD := cvD hD ((congrArg (cW cy ad en) (up_self s2 k)).symm.trans (congrArg (fun z => cW cy ad en (va_up s2 k z)) rfl))
        obtain ⟨r5, hc7, hF⟩ := bind_some hF
        try dsimp only at hF
        refine cV_i (As := [.int p2, .int i3h2]) (rest := []) hx hb hml hown hw hK hN hA hl.1 hP hD hS k_954 k_938 k_939 k_23 k_940 (met_X7_ownerAt l D cy _ ad en s2 k hk (s2 k) p2 i3h2 r5 hc7) (fun _ _ _ => trivial) Xok_T (gX (x := (va_up s2 k (s2 k))) (k := k) (r := 4) (f := ((s2 k) 4)) hk (by decide) ((congrFun (va_up_self _ _ _) _).trans rfl)) rfl ⟨rfl, rfl⟩ (n := 2) (by decide +kernel) rfl ⟨Nat.le_of_ble_eq_true rfl, Nat.le_of_ble_eq_true rfl⟩ ⟨Nat.le_of_ble_eq_true rfl, Nat.le_of_ble_eq_true rfl⟩ (Nat.le_of_ble_eq_true rfl) rfl dX7_writeTo_14 (fun H locs hP hD hS => ?_)
        have hP : va_P D vwCl (cW cy ad en s2) H := cvP hP ((congrArg (cW cy ad en) (up_self s2 k)).symm.trans (congrArg (fun z => cW cy ad en (va_up s2 k z)) rfl)).symm
        have hD : va_D A (cW cy ad en s2) := cvD hD ((congrArg (cW cy ad en) (up_self s2 k)).symm.trans (congrArg (fun z => cW cy ad en (va_up s2 k z)) rfl)).symm
        refine lv_istore (lv' := [(4, .int r5), (3, .int i3h2), (0, .ref (ad k 4)), (1, .ref (ad 12 31)), (2, .int p2)]) hx hb dX7_writeTo_17 hl (by decide) rfl (fun ls hl => ?_)
        refine lv_iload hx hb dX7_writeTo_19 (lv_at hl 0 rfl) ?_
        refine lv_iconst (v := (-1)) hx hb dX7_writeTo_21 (by decide) ?_
        refine lv_icmp_ne (tgt := 35) hx hb dX7_writeTo_22 (by decide) (fun h8 => ?_) (fun h8 => ?_)
        · replace hF := (if_neg h8).symm.trans hF
          refine lv_aload_n hx hb dX7_writeTo_35 rfl (lv_at hl 3 rfl) ?_
          refine lv_iload hx hb dX7_writeTo_36 (lv_at hl 0 rfl) ?_
          obtain ⟨o10, hc11, hF⟩ := bind_some hF
          try dsimp only at hF
          refine cV_r (As := [.int r5]) (rest := []) hx hb hml hown hw hK hN hA hl.1 hP hD hS k_956 k_735 k_736 k_32 k_737 (met_J4_append_bf812 l D cy _ ad en g s2 r5 o10 hc11) (ST_call hST hS (free_all hD hS hA)) Xok_S (gY (x := s2) (r := 31) (f := ((s2 12) 31)) (by decide) ((congrFun rfl _).trans rfl)) rfl ⟨rfl, rfl⟩ (n := 1) (by decide +kernel) rfl ⟨Nat.le_of_ble_eq_true rfl, Nat.le_of_ble_eq_true rfl⟩ ⟨Nat.le_of_ble_eq_true rfl, Nat.le_of_ble_eq_true rfl⟩ (Nat.le_of_ble_eq_true rfl) rfl dX7_writeTo_38 (fun H locs hP hD hS => ?_)
          refine lv_pop hx hb dX7_writeTo_41 rfl ?_
          refine lv_iinc (v := (i3h2 + 1)) (lv' := [(3, .int (i3h2 + 1)), (4, .int r5), (0, .ref (ad k 4)), (1, .ref (ad 12 31)), (2, .int p2)]) hx hb dX7_writeTo_42 hl (k := 1) rfl rfl (by decide) rfl (fun ls hl => ?_)
          refine lv_goto (tgt := 2) hx hb dX7_writeTo_45 (by decide) ?_
          exact ih2 (i3h2 + 1) o10 _ _ _ hF hP hD hS (lv_sub hl [0, 2, 3, 4] rfl)
        · replace hF := (if_pos h8).symm.trans hF
          refine lv_aload_n hx hb dX7_writeTo_25 rfl (lv_at hl 3 rfl) ?_
          refine lv_bipush (v := 45) hx hb dX7_writeTo_26 (by decide) ?_
          obtain ⟨o13, hc14, hF⟩ := bind_some hF
          try dsimp only at hF
          refine cV_r (As := [.int 45]) (rest := []) hx hb hml hown hw hK hN hA hl.1 hP hD hS k_955 k_787 k_788 k_32 k_789 (met_J4_append_cf468 l D cy _ ad en g s2 45 o13 hc14) (ST_call hST hS (free_all hD hS hA)) Xok_S (gY (x := s2) (r := 31) (f := ((s2 12) 31)) (by decide) ((congrFun rfl _).trans rfl)) rfl ⟨rfl, rfl⟩ (n := 1) (by decide +kernel) rfl ⟨Nat.le_of_ble_eq_true rfl, Nat.le_of_ble_eq_true rfl⟩ ⟨Nat.le_of_ble_eq_true rfl, Nat.le_of_ble_eq_true rfl⟩ (Nat.le_of_ble_eq_true rfl) rfl dX7_writeTo_28 (fun H locs hP hD hS => ?_)
          refine lv_pop hx hb dX7_writeTo_31 rfl ?_
          refine lv_goto (tgt := 42) hx hb dX7_writeTo_32 (by decide) ?_
          refine lv_iinc (v := (i3h2 + 1)) (lv' := [(3, .int (i3h2 + 1)), (4, .int r5), (0, .ref (ad k 4)), (1, .ref (ad 12 31)), (2, .int p2)]) hx hb dX7_writeTo_42 hl (k := 1) rfl rfl (by decide) rfl (fun ls hl => ?_)
          refine lv_goto (tgt := 2) hx hb dX7_writeTo_45 (by decide) ?_
          exact ih2 (i3h2 + 1) o13 _ _ _ hF hP hD hS (lv_sub hl [0, 2, 3, 4] rfl)
  exact loop2 200 0 x _ _ _ hF hP hD hS (lv_sub hl [0, 1, 2, 3] rfl)
def D_X9_line (x : Mem) (p1 : Int32) : Option (Int32 × Int32 × (Mem)) := if (D_X4_hasCloud (x 0) p1) = 0 then (some (1, 0, x)) else ((D_J4_setLength_d00df x 0).bind (fun o6 => (D_J4_append_bf812 o6 p1).bind (fun o9 => if inb p1 6 then ((D_X1_writeTo o9 0 p1.toNatClampNeg).bind (fun o14 => some (0, (D_J4_length_8abf5 o14), o14))) else none)))
abbrev rm_X9_line : Room := { frames := 6, cells := 2, slots := 12, locals := 91 }
def exn_X9_line : Int32 → String := fun _ => "java/lang/IndexOutOfBoundsException"
set_option maxHeartbeats 4000000 in
set_option maxRecDepth 100000 in
theorem met_X9_line (l : Launch) (hst0 : l.stackTraces = false) (D : va_G) (cy : Nat → ClassId) (sz : Nat) (ad : Nat → Nat → Nat) (en g : Nat → Nat) (x : Mem) (p1 : Int32)  (code : Int32) (r : Int32) (t' : Mem) (hF : D_X9_line x p1 = some (code, r, t')) : MT l yX9_line cX9_line 2 (some .int) rm_X9_line D cy en g (cW cy ad en x) sz [.ref (ad 12 0), .int p1] exn_X9_line code r (cW cy ad en t') := by
  refine MT.of (by decide +kernel) (Nat.le_of_ble_eq_true rfl) ?_
  intro p e s m args below meth c A ls Q hAt htb hST hP hD hA hS hl hQ
  obtain ⟨hx, hb, hr, hml, hown, hw, hlk, hK, hN⟩ := hAt
  have hown : s.vm.findClass "CloudDeeds" = some m.cls := hown
  have hl : lv_has ls 2 [(0, .ref (ad 12 0)), (1, .int p1)] := hl
  refine lv_aload_n hx hb dX9_line_0 rfl (lv_at hl 0 rfl) ?_
  refine get' (ci := 11) (fs := [.ref (ad 0 0), .ref (ad 1 0), .ref (ad 2 0), .ref (ad 3 0), .int (((x 12) 0) 4), .ref (ad 12 1), .ref (ad 12 3), .ref (ad 12 4), .int (((x 12) 0) 8), .ref (ad 12 31)]) (v := .ref (ad 0 0)) hx hb hw inWX9 hown hK hP (gY (x := x) (r := 0) (f := ((x 12) 0)) (by decide) ((congrFun rfl _).trans rfl)) rfl 0 (by decide) k_284 rfl rfl dX9_line_1 ?_
  refine lv_iload_n hx hb dX9_line_4 rfl (lv_at hl 1 rfl) ?_
  have hP := cvP hP ((congrArg (cW cy ad en) (up_self x 0)).symm.trans (congrArg (fun z => cW cy ad en (va_up x 0 z)) rfl))
  have hD := cvD hD ((congrArg (cW cy ad en) (up_self x 0)).symm.trans (congrArg (fun z => cW cy ad en (va_up x 0 z)) rfl))
  refine cV_i (As := [.int p1]) (rest := []) hx hb hml hown hw hK hN hA hl.1 hP hD hS k_319 k_320 k_321 k_22 k_322 (met_X4_hasCloud l D cy _ ad en x 0 (by decide) (x 0) p1 (D_X4_hasCloud (x 0) p1) rfl) (fun _ _ _ => trivial) Xok_T (gX (x := (va_up x 0 (x 0))) (k := 0) (r := 0) (f := ((x 0) 0)) (by decide) (by decide) ((congrFun (va_up_self _ _ _) _).trans rfl)) rfl ⟨rfl, rfl⟩ (n := 1) (by decide +kernel) rfl ⟨Nat.le_of_ble_eq_true rfl, Nat.le_of_ble_eq_true rfl⟩ ⟨Nat.le_of_ble_eq_true rfl, Nat.le_of_ble_eq_true rfl⟩ (Nat.le_of_ble_eq_true rfl) rfl dX9_line_5 (fun H locs hP hD hS => ?_)
  have hP : va_P D vwCl (cW cy ad en x) H := cvP hP ((congrArg (cW cy ad en) (up_self x 0)).symm.trans (congrArg (fun z => cW cy ad en (va_up x 0 z)) rfl)).symm
  have hD : va_D A (cW cy ad en x) := cvD hD ((congrArg (cW cy ad en) (up_self x 0)).symm.trans (congrArg (fun z => cW cy ad en (va_up x 0 z)) rfl)).symm
  refine lv_if_ne (tgt := 21) hx hb dX9_line_8 (by decide) (fun h4 => ?_) (fun h4 => ?_)
  · replace hF := (if_neg h4).symm.trans hF
    refine lv_aload_n hx hb dX9_line_21 rfl (lv_at hl 0 rfl) ?_
    refine get' (ci := 11) (fs := [.ref (ad 0 0), .ref (ad 1 0), .ref (ad 2 0), .ref (ad 3 0), .int (((x 12) 0) 4), .ref (ad 12 1), .ref (ad 12 3), .ref (ad 12 4), .int (((x 12) 0) 8), .ref (ad 12 31)]) (v := .ref (ad 12 31)) hx hb hw inWX9 hown hK hP (gY (x := x) (r := 0) (f := ((x 12) 0)) (by decide) ((congrFun rfl _).trans rfl)) rfl 9 (by decide) k_293 rfl rfl dX9_line_22 ?_
    refine lv_iconst (v := 0) hx hb dX9_line_25 (by decide) ?_
    obtain ⟨o6, hc7, hF⟩ := bind_some hF
    try dsimp only at hF
    refine cV_v (As := [.int 0]) (rest := []) hx hb hml hown hw hK hN hA hl.1 hP hD hS k_678 k_679 k_680 k_32 k_681 (met_J4_setLength_d00df l D cy _ ad en g x 0 o6 hc7) (ST_call hST hS (free_all hD hS hA)) Xok_S (gY (x := x) (r := 31) (f := ((x 12) 31)) (by decide) ((congrFun rfl _).trans rfl)) rfl ⟨rfl, rfl⟩ (n := 1) (by decide +kernel) rfl ⟨Nat.le_of_ble_eq_true rfl, Nat.le_of_ble_eq_true rfl⟩ ⟨Nat.le_of_ble_eq_true rfl, Nat.le_of_ble_eq_true rfl⟩ (Nat.le_of_ble_eq_true rfl) rfl dX9_line_26 (fun H locs hP hD hS => ?_)
    refine lv_aload_n hx hb dX9_line_29 rfl (lv_at hl 0 rfl) ?_
    refine get' (ci := 11) (fs := [.ref (ad 0 0), .ref (ad 1 0), .ref (ad 2 0), .ref (ad 3 0), .int (((o6 12) 0) 4), .ref (ad 12 1), .ref (ad 12 3), .ref (ad 12 4), .int (((o6 12) 0) 8), .ref (ad 12 31)]) (v := .ref (ad 12 31)) hx hb hw inWX9 hown hK hP (gY (x := o6) (r := 0) (f := ((o6 12) 0)) (by decide) ((congrFun rfl _).trans rfl)) rfl 9 (by decide) k_293 rfl rfl dX9_line_30 ?_
    refine lv_iload_n hx hb dX9_line_33 rfl (lv_at hl 1 rfl) ?_
    obtain ⟨o9, hc10, hF⟩ := bind_some hF
    try dsimp only at hF
    refine cV_r (As := [.int p1]) (rest := []) hx hb hml hown hw hK hN hA hl.1 hP hD hS k_734 k_735 k_736 k_32 k_737 (met_J4_append_bf812 l D cy _ ad en g o6 p1 o9 hc10) (ST_call hST hS (free_all hD hS hA)) Xok_S (gY (x := o6) (r := 31) (f := ((o6 12) 31)) (by decide) ((congrFun rfl _).trans rfl)) rfl ⟨rfl, rfl⟩ (n := 1) (by decide +kernel) rfl ⟨Nat.le_of_ble_eq_true rfl, Nat.le_of_ble_eq_true rfl⟩ ⟨Nat.le_of_ble_eq_true rfl, Nat.le_of_ble_eq_true rfl⟩ (Nat.le_of_ble_eq_true rfl) rfl dX9_line_34 (fun H locs hP hD hS => ?_)
    refine lv_pop hx hb dX9_line_37 rfl ?_
    refine lv_aload_n hx hb dX9_line_38 rfl (lv_at hl 0 rfl) ?_
    refine get' (ci := 11) (fs := [.ref (ad 0 0), .ref (ad 1 0), .ref (ad 2 0), .ref (ad 3 0), .int (((o9 12) 0) 4), .ref (ad 12 1), .ref (ad 12 3), .ref (ad 12 4), .int (((o9 12) 0) 8), .ref (ad 12 31)]) (v := .ref (ad 0 0)) hx hb hw inWX9 hown hK hP (gY (x := o9) (r := 0) (f := ((o9 12) 0)) (by decide) ((congrFun rfl _).trans rfl)) rfl 0 (by decide) k_284 rfl rfl dX9_line_39 ?_
    refine getN' (ci := 6) (fs := oF (ad 0) ((o9 0) 0)) (v := .ref (ad 0 1)) hx hb hw hN inWX4 hown hK hP (gX (x := o9) (k := 0) (r := 0) (f := ((o9 0) 0)) (by decide) (by decide) ((congrFun rfl _).trans rfl)) rfl 0 (by decide) n_118 rfl rfl dX9_line_42 ?_
    refine lv_iload_n hx hb dX9_line_45 rfl (lv_at hl 1 rfl) ?_
    obtain ⟨h11, hF⟩ := ite_some hF
    have hr12 : (p1.toNatClampNeg + 7) < 13 := Nat.add_lt_add_right (inb_lt h11) 7
    refine aald' (n := 6) (g := (ad 0 (p1.toNatClampNeg + 7))) hx hb hK hP (gX (x := o9) (k := 0) (r := 1) (f := ((o9 0) 1)) (by decide) (by decide) ((congrFun rfl _).trans rfl)) (t0 := 3) rfl (vp_inb h11) rfl dX9_line_46 ?_
    refine lv_aload_n hx hb dX9_line_47 rfl (lv_at hl 0 rfl) ?_
    refine get' (ci := 11) (fs := [.ref (ad 0 0), .ref (ad 1 0), .ref (ad 2 0), .ref (ad 3 0), .int (((o9 12) 0) 4), .ref (ad 12 1), .ref (ad 12 3), .ref (ad 12 4), .int (((o9 12) 0) 8), .ref (ad 12 31)]) (v := .ref (ad 12 31)) hx hb hw inWX9 hown hK hP (gY (x := o9) (r := 0) (f := ((o9 12) 0)) (by decide) ((congrFun rfl _).trans rfl)) rfl 9 (by decide) k_293 rfl rfl dX9_line_48 ?_
    obtain ⟨o14, hc15, hF⟩ := bind_some hF
    try dsimp only at hF
    refine cV_v (As := [.ref (ad 12 31)]) (rest := []) hx hb hml hown hw hK hN hA hl.1 hP hD hS k_782 k_783 k_784 k_24 k_785 (met_X1_writeTo l D cy _ ad en g o9 0 (by decide) p1.toNatClampNeg hr12 o14 hc15) (ST_call hST hS (free_all hD hS hA)) Xok_S (gX (x := o9) (k := 0) (r := (p1.toNatClampNeg + 7)) (f := ((o9 0) (p1.toNatClampNeg + 7))) (by decide) hr12 ((congrFun rfl _).trans rfl)) rfl ⟨rfl, rfl⟩ (n := 1) (by decide +kernel) rfl ⟨Nat.le_of_ble_eq_true rfl, Nat.le_of_ble_eq_true rfl⟩ ⟨Nat.le_of_ble_eq_true rfl, Nat.le_of_ble_eq_true rfl⟩ (Nat.le_of_ble_eq_true rfl) rfl dX9_line_51 (fun H locs hP hD hS => ?_)
    refine lv_aload_n hx hb dX9_line_54 rfl (lv_at hl 0 rfl) ?_
    refine get' (ci := 11) (fs := [.ref (ad 0 0), .ref (ad 1 0), .ref (ad 2 0), .ref (ad 3 0), .int (((o14 12) 0) 4), .ref (ad 12 1), .ref (ad 12 3), .ref (ad 12 4), .int (((o14 12) 0) 8), .ref (ad 12 31)]) (v := .ref (ad 12 31)) hx hb hw inWX9 hown hK hP (gY (x := o14) (r := 0) (f := ((o14 12) 0)) (by decide) ((congrFun rfl _).trans rfl)) rfl 9 (by decide) k_293 rfl rfl dX9_line_55 ?_
    refine cV_i (As := []) (rest := []) hx hb hml hown hw hK hN hA hl.1 hP hD hS k_829 k_830 k_831 k_32 k_832 (met_J4_length_8abf5 l D cy _ ad en g o14 (D_J4_length_8abf5 o14) rfl) (fun _ _ _ => trivial) Xok_T (gY (x := o14) (r := 31) (f := ((o14 12) 31)) (by decide) ((congrFun rfl _).trans rfl)) rfl ⟨rfl, rfl⟩ (n := 0) (by decide +kernel) rfl ⟨Nat.le_of_ble_eq_true rfl, Nat.le_of_ble_eq_true rfl⟩ ⟨Nat.le_of_ble_eq_true rfl, Nat.le_of_ble_eq_true rfl⟩ (Nat.le_of_ble_eq_true rfl) rfl dX9_line_58 (fun H locs hP hD hS => ?_)
    cases hF
    rw [hQ]
    exact retx_i hx hb hr hlk (Nat.le_of_ble_eq_true rfl) (Nat.le_of_ble_eq_true rfl) hS hP hD rfl rfl rfl dX9_line_61
  · replace hF := (if_pos h4).symm.trans hF
    cases hF
    rw [hQ]
    exact thrS (g := g) (en := en) hx hb hst0 hml hown hw hN hlk htb hST hS hP hD hl.1 (text := "there is no such cloud") 1 rfl (by decide) k_326 k_44 at_108 (by decide) rfl rfl dX9_line_11 dX9_line_14 dX9_line_15 dX9_line_17 dX9_line_20 ⟨Nat.le_of_ble_eq_true rfl, Nat.le_of_ble_eq_true rfl, Nat.le_of_ble_eq_true rfl, Nat.le_of_ble_eq_true rfl⟩ (Nat.le_of_ble_eq_true rfl) ⟨Nat.le_of_ble_eq_true rfl, Nat.le_of_ble_eq_true rfl⟩
def D_X9_dawnLine (x : Mem) (p1 : Int32) : Option (Int32 × Int32 × (Mem)) := if (D_X7_hasDawn (x 0) p1) = 0 then (some (1, 0, x)) else ((D_J4_setLength_d00df x 0).bind (fun o6 => (D_X7_writeTo o6 0 p1).bind (fun o9 => some (0, (D_J4_length_8abf5 o9), o9))))
abbrev rm_X9_dawnLine : Room := { frames := 6, cells := 2, slots := 12, locals := 109 }
def exn_X9_dawnLine : Int32 → String := fun _ => "java/util/NoSuchElementException"
set_option maxHeartbeats 4000000 in
set_option maxRecDepth 100000 in
theorem met_X9_dawnLine (l : Launch) (hst0 : l.stackTraces = false) (D : va_G) (cy : Nat → ClassId) (sz : Nat) (ad : Nat → Nat → Nat) (en g : Nat → Nat) (x : Mem) (p1 : Int32)  (code : Int32) (r : Int32) (t' : Mem) (hF : D_X9_dawnLine x p1 = some (code, r, t')) : MT l yX9_dawnLine cX9_dawnLine 2 (some .int) rm_X9_dawnLine D cy en g (cW cy ad en x) sz [.ref (ad 12 0), .int p1] exn_X9_dawnLine code r (cW cy ad en t') := by
  refine MT.of (by decide +kernel) (Nat.le_of_ble_eq_true rfl) ?_
  intro p e s m args below meth c A ls Q hAt htb hST hP hD hA hS hl hQ
  obtain ⟨hx, hb, hr, hml, hown, hw, hlk, hK, hN⟩ := hAt
  have hown : s.vm.findClass "CloudDeeds" = some m.cls := hown
  have hl : lv_has ls 2 [(0, .ref (ad 12 0)), (1, .int p1)] := hl
  refine lv_aload_n hx hb dX9_dawnLine_0 rfl (lv_at hl 0 rfl) ?_
  refine get' (ci := 11) (fs := [.ref (ad 0 0), .ref (ad 1 0), .ref (ad 2 0), .ref (ad 3 0), .int (((x 12) 0) 4), .ref (ad 12 1), .ref (ad 12 3), .ref (ad 12 4), .int (((x 12) 0) 8), .ref (ad 12 31)]) (v := .ref (ad 0 0)) hx hb hw inWX9 hown hK hP (gY (x := x) (r := 0) (f := ((x 12) 0)) (by decide) ((congrFun rfl _).trans rfl)) rfl 0 (by decide) k_284 rfl rfl dX9_dawnLine_1 ?_
  refine getN' (ci := 6) (fs := oF (ad 0) ((x 0) 0)) (v := .ref (ad 0 4)) hx hb hw hN inWX4 hown hK hP (gX (x := x) (k := 0) (r := 0) (f := ((x 0) 0)) (by decide) (by decide) ((congrFun rfl _).trans rfl)) rfl 4 (by decide) n_124 rfl rfl dX9_dawnLine_4 ?_
  refine lv_iload_n hx hb dX9_dawnLine_7 rfl (lv_at hl 1 rfl) ?_
  have hP := cvP hP ((congrArg (cW cy ad en) (up_self x 0)).symm.trans (congrArg (fun z => cW cy ad en (va_up x 0 z)) rfl))
  have hD := cvD hD ((congrArg (cW cy ad en) (up_self x 0)).symm.trans (congrArg (fun z => cW cy ad en (va_up x 0 z)) rfl))
  refine cV_i (As := [.int p1]) (rest := []) hx hb hml hown hw hK hN hA hl.1 hP hD hS k_926 k_927 k_928 k_23 k_929 (met_X7_hasDawn l D cy _ ad en x 0 (by decide) (x 0) p1 (D_X7_hasDawn (x 0) p1) rfl) (fun _ _ _ => trivial) Xok_T (gX (x := (va_up x 0 (x 0))) (k := 0) (r := 4) (f := ((x 0) 4)) (by decide) (by decide) ((congrFun (va_up_self _ _ _) _).trans rfl)) rfl ⟨rfl, rfl⟩ (n := 1) (by decide +kernel) rfl ⟨Nat.le_of_ble_eq_true rfl, Nat.le_of_ble_eq_true rfl⟩ ⟨Nat.le_of_ble_eq_true rfl, Nat.le_of_ble_eq_true rfl⟩ (Nat.le_of_ble_eq_true rfl) rfl dX9_dawnLine_8 (fun H locs hP hD hS => ?_)
  have hP : va_P D vwCl (cW cy ad en x) H := cvP hP ((congrArg (cW cy ad en) (up_self x 0)).symm.trans (congrArg (fun z => cW cy ad en (va_up x 0 z)) rfl)).symm
  have hD : va_D A (cW cy ad en x) := cvD hD ((congrArg (cW cy ad en) (up_self x 0)).symm.trans (congrArg (fun z => cW cy ad en (va_up x 0 z)) rfl)).symm
  refine lv_if_ne (tgt := 25) hx hb dX9_dawnLine_11 (by decide) (fun h4 => ?_) (fun h4 => ?_)
  · replace hF := (if_neg h4).symm.trans hF
    refine lv_aload_n hx hb dX9_dawnLine_25 rfl (lv_at hl 0 rfl) ?_
    refine get' (ci := 11) (fs := [.ref (ad 0 0), .ref (ad 1 0), .ref (ad 2 0), .ref (ad 3 0), .int (((x 12) 0) 4), .ref (ad 12 1), .ref (ad 12 3), .ref (ad 12 4), .int (((x 12) 0) 8), .ref (ad 12 31)]) (v := .ref (ad 12 31)) hx hb hw inWX9 hown hK hP (gY (x := x) (r := 0) (f := ((x 12) 0)) (by decide) ((congrFun rfl _).trans rfl)) rfl 9 (by decide) k_293 rfl rfl dX9_dawnLine_26 ?_
    refine lv_iconst (v := 0) hx hb dX9_dawnLine_29 (by decide) ?_
    obtain ⟨o6, hc7, hF⟩ := bind_some hF
    try dsimp only at hF
    refine cV_v (As := [.int 0]) (rest := []) hx hb hml hown hw hK hN hA hl.1 hP hD hS k_678 k_679 k_680 k_32 k_681 (met_J4_setLength_d00df l D cy _ ad en g x 0 o6 hc7) (ST_call hST hS (free_all hD hS hA)) Xok_S (gY (x := x) (r := 31) (f := ((x 12) 31)) (by decide) ((congrFun rfl _).trans rfl)) rfl ⟨rfl, rfl⟩ (n := 1) (by decide +kernel) rfl ⟨Nat.le_of_ble_eq_true rfl, Nat.le_of_ble_eq_true rfl⟩ ⟨Nat.le_of_ble_eq_true rfl, Nat.le_of_ble_eq_true rfl⟩ (Nat.le_of_ble_eq_true rfl) rfl dX9_dawnLine_30 (fun H locs hP hD hS => ?_)
    refine lv_aload_n hx hb dX9_dawnLine_33 rfl (lv_at hl 0 rfl) ?_
    refine get' (ci := 11) (fs := [.ref (ad 0 0), .ref (ad 1 0), .ref (ad 2 0), .ref (ad 3 0), .int (((o6 12) 0) 4), .ref (ad 12 1), .ref (ad 12 3), .ref (ad 12 4), .int (((o6 12) 0) 8), .ref (ad 12 31)]) (v := .ref (ad 0 0)) hx hb hw inWX9 hown hK hP (gY (x := o6) (r := 0) (f := ((o6 12) 0)) (by decide) ((congrFun rfl _).trans rfl)) rfl 0 (by decide) k_284 rfl rfl dX9_dawnLine_34 ?_
    refine getN' (ci := 6) (fs := oF (ad 0) ((o6 0) 0)) (v := .ref (ad 0 4)) hx hb hw hN inWX4 hown hK hP (gX (x := o6) (k := 0) (r := 0) (f := ((o6 0) 0)) (by decide) (by decide) ((congrFun rfl _).trans rfl)) rfl 4 (by decide) n_124 rfl rfl dX9_dawnLine_37 ?_
    refine lv_aload_n hx hb dX9_dawnLine_40 rfl (lv_at hl 0 rfl) ?_
    refine get' (ci := 11) (fs := [.ref (ad 0 0), .ref (ad 1 0), .ref (ad 2 0), .ref (ad 3 0), .int (((o6 12) 0) 4), .ref (ad 12 1), .ref (ad 12 3), .ref (ad 12 4), .int (((o6 12) 0) 8), .ref (ad 12 31)]) (v := .ref (ad 12 31)) hx hb hw inWX9 hown hK hP (gY (x := o6) (r := 0) (f := ((o6 12) 0)) (by decide) ((congrFun rfl _).trans rfl)) rfl 9 (by decide) k_293 rfl rfl dX9_dawnLine_41 ?_
    refine lv_iload_n hx hb dX9_dawnLine_44 rfl (lv_at hl 1 rfl) ?_
    obtain ⟨o9, hc10, hF⟩ := bind_some hF
    try dsimp only at hF
    refine cV_v (As := [.ref (ad 12 31), .int p1]) (rest := []) hx hb hml hown hw hK hN hA hl.1 hP hD hS k_950 k_951 k_952 k_23 k_953 (met_X7_writeTo l D cy _ ad en g o6 0 (by decide) p1 o9 hc10) (ST_call hST hS (free_all hD hS hA)) Xok_S (gX (x := o6) (k := 0) (r := 4) (f := ((o6 0) 4)) (by decide) (by decide) ((congrFun rfl _).trans rfl)) rfl ⟨rfl, rfl⟩ (n := 2) (by decide +kernel) rfl ⟨Nat.le_of_ble_eq_true rfl, Nat.le_of_ble_eq_true rfl⟩ ⟨Nat.le_of_ble_eq_true rfl, Nat.le_of_ble_eq_true rfl⟩ (Nat.le_of_ble_eq_true rfl) rfl dX9_dawnLine_45 (fun H locs hP hD hS => ?_)
    refine lv_aload_n hx hb dX9_dawnLine_48 rfl (lv_at hl 0 rfl) ?_
    refine get' (ci := 11) (fs := [.ref (ad 0 0), .ref (ad 1 0), .ref (ad 2 0), .ref (ad 3 0), .int (((o9 12) 0) 4), .ref (ad 12 1), .ref (ad 12 3), .ref (ad 12 4), .int (((o9 12) 0) 8), .ref (ad 12 31)]) (v := .ref (ad 12 31)) hx hb hw inWX9 hown hK hP (gY (x := o9) (r := 0) (f := ((o9 12) 0)) (by decide) ((congrFun rfl _).trans rfl)) rfl 9 (by decide) k_293 rfl rfl dX9_dawnLine_49 ?_
    refine cV_i (As := []) (rest := []) hx hb hml hown hw hK hN hA hl.1 hP hD hS k_829 k_830 k_831 k_32 k_832 (met_J4_length_8abf5 l D cy _ ad en g o9 (D_J4_length_8abf5 o9) rfl) (fun _ _ _ => trivial) Xok_T (gY (x := o9) (r := 31) (f := ((o9 12) 31)) (by decide) ((congrFun rfl _).trans rfl)) rfl ⟨rfl, rfl⟩ (n := 0) (by decide +kernel) rfl ⟨Nat.le_of_ble_eq_true rfl, Nat.le_of_ble_eq_true rfl⟩ ⟨Nat.le_of_ble_eq_true rfl, Nat.le_of_ble_eq_true rfl⟩ (Nat.le_of_ble_eq_true rfl) rfl dX9_dawnLine_52 (fun H locs hP hD hS => ?_)
    cases hF
    rw [hQ]
    exact retx_i hx hb hr hlk (Nat.le_of_ble_eq_true rfl) (Nat.le_of_ble_eq_true rfl) hS hP hD rfl rfl rfl dX9_dawnLine_55
  · replace hF := (if_pos h4).symm.trans hF
    cases hF
    rw [hQ]
    exact thrNW (g := g) (en := en) hx hb hst0 hml hown hw hN hlk htb hST hS hP hD hl.1 (text := "there is no such dawn") 16 rfl k_625 k_42 at_185 (by decide) rfl rfl dX9_dawnLine_14 dX9_dawnLine_17 dX9_dawnLine_18 dX9_dawnLine_21 dX9_dawnLine_24 ⟨Nat.le_of_ble_eq_true rfl, Nat.le_of_ble_eq_true rfl, Nat.le_of_ble_eq_true rfl, Nat.le_of_ble_eq_true rfl⟩ (Nat.le_of_ble_eq_true rfl) ⟨Nat.le_of_ble_eq_true rfl, Nat.le_of_ble_eq_true rfl⟩
def D_X9_character (x : Mem) (p1 : Int32) : Option (Int32 × Int32) := if (D_X9_isWithin p1 (D_J4_length_8abf5 x)) = 0 then (some (1, 0)) else ((D_J4_charAt_5068e x p1).bind (fun r8 => if isCh r8 then (some (0, r8)) else none))
abbrev rm_X9_character : Room := { frames := 6, cells := 2, slots := 12, locals := 118 }
def exn_X9_character : Int32 → String := fun _ => "java/lang/IndexOutOfBoundsException"
set_option maxHeartbeats 4000000 in
set_option maxRecDepth 100000 in
theorem met_X9_character (l : Launch) (hst0 : l.stackTraces = false) (D : va_G) (cy : Nat → ClassId) (sz : Nat) (ad : Nat → Nat → Nat) (en g : Nat → Nat) (x : Mem) (p1 : Int32)  (code : Int32) (r : Int32) (hF : D_X9_character x p1 = some (code, r)) : MT l yX9_character cX9_character 2 (some .char) rm_X9_character D cy en g (cW cy ad en x) sz [.ref (ad 12 0), .int p1] exn_X9_character code r (cW cy ad en x) := by
  refine MT.of (by decide +kernel) (Nat.le_of_ble_eq_true rfl) ?_
  intro p e s m args below meth c A ls Q hAt htb hST hP hD hA hS hl hQ
  obtain ⟨hx, hb, hr, hml, hown, hw, hlk, hK, hN⟩ := hAt
  have hown : s.vm.findClass "CloudDeeds" = some m.cls := hown
  have hl : lv_has ls 2 [(0, .ref (ad 12 0)), (1, .int p1)] := hl
  refine lv_iload_n hx hb dX9_character_0 rfl (lv_at hl 1 rfl) ?_
  refine lv_aload_n hx hb dX9_character_1 rfl (lv_at hl 0 rfl) ?_
  refine get' (ci := 11) (fs := [.ref (ad 0 0), .ref (ad 1 0), .ref (ad 2 0), .ref (ad 3 0), .int (((x 12) 0) 4), .ref (ad 12 1), .ref (ad 12 3), .ref (ad 12 4), .int (((x 12) 0) 8), .ref (ad 12 31)]) (v := .ref (ad 12 31)) hx hb hw inWX9 hown hK hP (gY (x := x) (r := 0) (f := ((x 12) 0)) (by decide) ((congrFun rfl _).trans rfl)) rfl 9 (by decide) k_293 rfl rfl dX9_character_2 ?_
  refine cV_i (As := []) (rest := [.int p1]) hx hb hml hown hw hK hN hA hl.1 hP hD hS k_829 k_830 k_831 k_32 k_832 (met_J4_length_8abf5 l D cy _ ad en g x (D_J4_length_8abf5 x) rfl) (fun _ _ _ => trivial) Xok_T (gY (x := x) (r := 31) (f := ((x 12) 31)) (by decide) ((congrFun rfl _).trans rfl)) rfl ⟨rfl, rfl⟩ (n := 0) (by decide +kernel) rfl ⟨Nat.le_of_ble_eq_true rfl, Nat.le_of_ble_eq_true rfl⟩ ⟨Nat.le_of_ble_eq_true rfl, Nat.le_of_ble_eq_true rfl⟩ (Nat.le_of_ble_eq_true rfl) rfl dX9_character_5 (fun H locs hP hD hS => ?_)
  refine cS_i (As := [.int p1, .int (D_J4_length_8abf5 x)]) (rest := []) hx hb hml hown hw hK hN hA hl.1 hP hD hS k_395 k_324 k_21 k_325 (met_X9_isWithin l D cy _ (cW cy ad en x) p1 (D_J4_length_8abf5 x) (D_X9_isWithin p1 (D_J4_length_8abf5 x)) rfl) (fun _ _ _ => trivial) Xok_T ⟨rfl, rfl⟩ (n := 2) (by decide +kernel) rfl ⟨Nat.le_of_ble_eq_true rfl, Nat.le_of_ble_eq_true rfl⟩ ⟨Nat.le_of_ble_eq_true rfl, Nat.le_of_ble_eq_true rfl⟩ (Nat.le_of_ble_eq_true rfl) rfl dX9_character_8 (fun H locs hP hD hS => ?_)
  refine lv_if_ne (tgt := 25) hx hb dX9_character_11 (by decide) (fun h7 => ?_) (fun h7 => ?_)
  · replace hF := (if_neg h7).symm.trans hF
    refine lv_aload_n hx hb dX9_character_25 rfl (lv_at hl 0 rfl) ?_
    refine get' (ci := 11) (fs := [.ref (ad 0 0), .ref (ad 1 0), .ref (ad 2 0), .ref (ad 3 0), .int (((x 12) 0) 4), .ref (ad 12 1), .ref (ad 12 3), .ref (ad 12 4), .int (((x 12) 0) 8), .ref (ad 12 31)]) (v := .ref (ad 12 31)) hx hb hw inWX9 hown hK hP (gY (x := x) (r := 0) (f := ((x 12) 0)) (by decide) ((congrFun rfl _).trans rfl)) rfl 9 (by decide) k_293 rfl rfl dX9_character_26 ?_
    refine lv_iload_n hx hb dX9_character_29 rfl (lv_at hl 1 rfl) ?_
    obtain ⟨r8, hc10, hF⟩ := bind_some hF
    try dsimp only at hF
    refine cV_i (As := [.int p1]) (rest := []) hx hb hml hown hw hK hN hA hl.1 hP hD hS k_841 k_842 k_843 k_32 k_844 (met_J4_charAt_5068e l D cy _ ad en g x p1 r8 hc10) (ST_call hST hS (free_all hD hS hA)) Xok_S (gY (x := x) (r := 31) (f := ((x 12) 31)) (by decide) ((congrFun rfl _).trans rfl)) rfl ⟨rfl, rfl⟩ (n := 1) (by decide +kernel) rfl ⟨Nat.le_of_ble_eq_true rfl, Nat.le_of_ble_eq_true rfl⟩ ⟨Nat.le_of_ble_eq_true rfl, Nat.le_of_ble_eq_true rfl⟩ (Nat.le_of_ble_eq_true rfl) rfl dX9_character_30 (fun H locs hP hD hS => ?_)
    obtain ⟨hg11, hF⟩ := ite_some hF
    cases hF
    rw [hQ]
    exact retx_c hx hb hr hlk (Nat.le_of_ble_eq_true rfl) (Nat.le_of_ble_eq_true rfl) hS hP hD (isCh_iff.mp hg11) rfl rfl rfl dX9_character_33
  · replace hF := (if_pos h7).symm.trans hF
    cases hF
    rw [hQ]
    exact thrSW (g := g) (en := en) hx hb hst0 hml hown hw hN hlk htb hST hS hP hD hl.1 (text := "there is no such index") 17 rfl (by decide) k_326 k_44 at_108 (by decide) rfl rfl dX9_character_14 dX9_character_17 dX9_character_18 dX9_character_21 dX9_character_24 ⟨Nat.le_of_ble_eq_true rfl, Nat.le_of_ble_eq_true rfl, Nat.le_of_ble_eq_true rfl, Nat.le_of_ble_eq_true rfl⟩ (Nat.le_of_ble_eq_true rfl) ⟨Nat.le_of_ble_eq_true rfl, Nat.le_of_ble_eq_true rfl⟩
