/-! a builder of the law's: the builder and its bytes, told by a memory as the class's own builder is -/
def sbW (cy : Nat → ClassId) (ab vb : Nat) (x : Mem) : va_W := [(ab, .inr (1, [.ref vb, .int (x 12 31 1), .int (x 12 31 2), .int (x 12 31 3)])), (vb, .inl (cy 2, 16, .inl (x 12 32)))]
section BW
variable {cy : Nat → ClassId} {ab vb : Nat} {x : Mem} {f g : Nat → Int32} {o : Nat → Nat → Int32}
theorem gB31 (hr : 31 < 33) (hf : x 12 31 = f) : (sbW cy ab vb x)[0]? = some (ab, .inr (1, [.ref vb, .int (f 1), .int (f 2), .int (f 3)])) := by subst hf; rfl
theorem gB32 (hr : 32 < 33) (hf : x 12 32 = f) : (sbW cy ab vb x)[1]? = some (vb, .inl (cy 2, 16, .inl f)) := by subst hf; rfl
theorem sB31 (hr : 31 < 33) : (sbW cy ab vb x).set 0 (ab, .inr (1, [.ref vb, .int (g 1), .int (g 2), .int (g 3)])) = sbW cy ab vb (va_up x 12 (va_up (x 12) 31 g)) := by simp [sbW, va_up]
theorem sB32 (hr : 32 < 33) : (sbW cy ab vb x).set 1 (vb, .inl (cy 2, 16, .inl g)) = sbW cy ab vb (va_up x 12 (va_up (x 12) 32 g)) := by simp [sbW, va_up]
theorem tB31 (hr : 31 < 33) : (sbW cy ab vb (va_up x 12 o)).set 0 (ab, .inr (1, [.ref vb, .int (g 1), .int (g 2), .int (g 3)])) = sbW cy ab vb (va_up x 12 (va_up o 31 g)) := by simp [sbW, va_up]
theorem tB32 (hr : 32 < 33) : (sbW cy ab vb (va_up x 12 o)).set 1 (vb, .inl (cy 2, 16, .inl g)) = sbW cy ab vb (va_up x 12 (va_up o 32 g)) := by simp [sbW, va_up]
end BW
set_option maxHeartbeats 4000000 in
set_option maxRecDepth 100000 in
theorem met_J6_getChars_ba4f3B (l : Launch) (D : va_G) (cy : Nat → ClassId) (sz : Nat) (ab vb : Nat) (en g : Nat → Nat) (x : Mem) (p1 : Int32) (p2 : Int32)  (r : Int32) (t' : Mem) (hF : D_J6_getChars_ba4f3 x p1 p2 = some (r, t')) : MIS l yJ6_getChars_ba4f3 cJ6_getChars_ba4f3 7 (some .int) rm_J6_getChars_ba4f3 D cy en g (sbW cy ab vb x) sz [.int p1, .int p2, .ref vb] r (sbW cy ab vb t') := by
  refine MIS.of (by decide +kernel) (Nat.le_of_ble_eq_true rfl) ?_
  intro p e s m args below meth c A ls Q hAt hST hP hD hA hS hl hret
  obtain ⟨hx, hb, hr, hml, hown, hw, hlk, hK, hN⟩ := hAt
  have hown : s.vm.findClass "java/lang/Integer" = some m.cls := hown
  have hl : lv_has ls 7 [(0, .int p1), (1, .int p2), (2, .ref vb)] := hl
  refine lv_iload_n hx hb dJ6_getChars_ba4f3_0 rfl (lv_at hl 1 rfl) ?_
  refine lv_istore (lv' := [(5, .int p2), (0, .int p1), (1, .int p2), (2, .ref vb)]) hx hb dJ6_getChars_ba4f3_1 hl (by decide) rfl (fun ls hl => ?_)
  refine lv_iload_n hx hb dJ6_getChars_ba4f3_3 rfl (lv_at hl 1 rfl) ?_
  refine lv_if_ge (tgt := 11) hx hb dJ6_getChars_ba4f3_4 (by decide) (fun h1 => ?_) (fun h1 => ?_)
  · replace hF := (if_pos h1).symm.trans hF
    refine lv_iconst (v := 0) hx hb dJ6_getChars_ba4f3_11 (by decide) ?_
    refine lv_istore (lv' := [(6, .int 0), (5, .int p2), (0, .int p1), (1, .int p2), (2, .ref vb)]) hx hb dJ6_getChars_ba4f3_12 hl (by decide) rfl (fun ls hl => ?_)
    refine lv_iload hx hb dJ6_getChars_ba4f3_14 (lv_at hl 0 rfl) ?_
    refine lv_if_ne (tgt := 22) hx hb dJ6_getChars_ba4f3_16 (by decide) (fun h => absurd h (by decide)) (fun _ => ?_)
    refine lv_iload_n hx hb dJ6_getChars_ba4f3_19 rfl (lv_at hl 2 rfl) ?_
    refine lv_ineg hx hb dJ6_getChars_ba4f3_20 ?_
    refine lv_istore_n (lv' := [(0, .int (-p1)), (6, .int 0), (5, .int p2), (1, .int p2), (2, .ref vb)]) hx hb dJ6_getChars_ba4f3_21 rfl hl (by decide) rfl (fun ls hl => ?_)
    have loop22 : ∀ (n : Nat) (i0h22 : Int32) (i5h22 : Int32) (s22 : Mem) (H : Heap) (locs : List Loc) (ls : Array Slot), L_J6_getChars_ba4f3_22 n x p1 p2 i0h22 i5h22 s22 = some (r, t') → va_P D vwCl (sbW cy ab vb s22) H → va_D A (sbW cy ab vb s22) → va_S A s.heap H locs → lv_has ls 7 [(0, .int i0h22), (6, .int 0), (5, .int i5h22), (1, .int p2), (2, .ref vb)] → W p l e rm_J6_getChars_ba4f3 s m args below meth c H locs 0 0 Q (F0 m 22 ls []) := by
      intro n
      induction n with
      | zero => intro i0h22 i5h22 s22 H locs ls hF _ _ _ _; exact absurd hF (by simp [L_J6_getChars_ba4f3_22])
      | succ n22 ih22 =>
        intro i0h22 i5h22 s22 H locs ls hF hP hD hS hl
        refine lv_iload_n hx hb dJ6_getChars_ba4f3_22 rfl (lv_at hl 0 rfl) ?_
        refine lv_bipush (v := (-100)) hx hb dJ6_getChars_ba4f3_23 (by decide) ?_
        refine lv_icmp_gt (tgt := 72) hx hb dJ6_getChars_ba4f3_25 (by decide) (fun h3 => ?_) (fun h3 => ?_)
        · replace hF := (if_pos h3).symm.trans hF
          refine lv_aload_n hx hb dJ6_getChars_ba4f3_72 rfl (lv_at hl 4 rfl) ?_
          refine lv_iinc (v := (i5h22 + (-1))) (lv' := [(5, .int (i5h22 + (-1))), (0, .int i0h22), (6, .int 0), (1, .int p2), (2, .ref vb)]) hx hb dJ6_getChars_ba4f3_73 hl (k := 2) rfl rfl (by decide) rfl (fun ls hl => ?_)
          refine lv_iload hx hb dJ6_getChars_ba4f3_76 (lv_at hl 0 rfl) ?_
          refine va_gets (n := "DigitOnes") (v := .ref (g 2)) hx hb hST.2.2.2.2.2.2.2.2.2.2.2.2.2.2.1 hS hown (hw _ k_747) (fun _ h9 => h9) dJ6_getChars_ba4f3_78 ?_
          refine lv_iload_n hx hb dJ6_getChars_ba4f3_81 rfl (lv_at hl 1 rfl) ?_
          refine lv_ineg hx hb dJ6_getChars_ba4f3_82 ?_
          obtain ⟨h4, hF⟩ := ite_some hF
          refine va_tb (v := .int (nI (48 + (-i0h22).toNatClampNeg % 10))) hx hb hST.2.2.2.2.2.2.2.2.2.2.2.2.2.2.2 hS (vp_inb h4) rfl dJ6_getChars_ba4f3_83 ?_
          obtain ⟨h5, hF⟩ := ite_some hF
          refine bast' (n := 16) (f := ((s22 12) 32)) (ws' := (sbW cy ab vb (va_up s22 12 (va_up (s22 12) 32 (upd ((s22 12) 32) ((i5h22 + (-1)).toNatClampNeg) (vp_nar .byte (nI (48 + (-i0h22).toNatClampNeg % 10)))))))) hx hb hK hP hD hS (gB32 (x := s22) (f := ((s22 12) 32)) (by decide) ((congrFun rfl _).trans rfl)) (t0 := 2) rfl (vp_inb h5) dJ6_getChars_ba4f3_84 ((sB32 (x := s22) (g := (upd ((s22 12) 32) ((i5h22 + (-1)).toNatClampNeg) (vp_nar .byte (nI (48 + (-i0h22).toNatClampNeg % 10))))) (by decide)).trans (congrArg (fun z => sbW cy ab vb (va_up s22 12 (va_up z 32 (upd ((s22 12) 32) ((i5h22 + (-1)).toNatClampNeg) (vp_nar .byte (nI (48 + (-i0h22).toNatClampNeg % 10))))))) rfl)) (fun H locs hP hD hS => ?_)
          refine lv_iload_n hx hb dJ6_getChars_ba4f3_85 rfl (lv_at hl 1 rfl) ?_
          refine lv_bipush (v := (-9)) hx hb dJ6_getChars_ba4f3_86 (by decide) ?_
          refine lv_icmp_ge (tgt := 104) hx hb dJ6_getChars_ba4f3_88 (by decide) (fun h6 => ?_) (fun h6 => ?_)
          · replace hF := (if_pos h6).symm.trans hF
            refine lv_iload hx hb dJ6_getChars_ba4f3_104 (lv_at hl 2 rfl) ?_
            refine lv_if_eq (tgt := 118) hx hb dJ6_getChars_ba4f3_106 (by decide) (fun _ => ?_) (fun h => absurd h (by decide))
            refine lv_iload hx hb dJ6_getChars_ba4f3_118 (lv_at hl 0 rfl) ?_
            obtain ⟨rfl, rfl⟩ := Prod.mk.inj (Option.some.inj hF)
            exact hret _ _ _ _ _ _ hP hD hS rfl rfl dJ6_getChars_ba4f3_120
          · replace hF := (if_neg h6).symm.trans hF
            exact absurd hF (by simp)
        · replace hF := (if_neg h3).symm.trans hF
          exact absurd hF (by simp)
    exact loop22 200 (-p1) p2 x _ _ _ hF hP hD hS (lv_sub hl [0, 1, 2, 3, 4] rfl)
  · replace hF := (if_neg h1).symm.trans hF
    refine lv_iconst (v := 1) hx hb dJ6_getChars_ba4f3_7 (by decide) ?_
    refine lv_goto (tgt := 12) hx hb dJ6_getChars_ba4f3_8 (by decide) ?_
    refine lv_istore (lv' := [(6, .int 1), (5, .int p2), (0, .int p1), (1, .int p2), (2, .ref vb)]) hx hb dJ6_getChars_ba4f3_12 hl (by decide) rfl (fun ls hl => ?_)
    refine lv_iload hx hb dJ6_getChars_ba4f3_14 (lv_at hl 0 rfl) ?_
    refine lv_if_ne (tgt := 22) hx hb dJ6_getChars_ba4f3_16 (by decide) (fun _ => ?_) (fun h => absurd h (by decide))
    have loop22 : ∀ (n : Nat) (i5h22 : Int32) (i0h22 : Int32) (s22 : Mem) (H : Heap) (locs : List Loc) (ls : Array Slot), L_J6_getChars_ba4f3_22_2 n x p1 p2 i5h22 i0h22 s22 = some (r, t') → va_P D vwCl (sbW cy ab vb s22) H → va_D A (sbW cy ab vb s22) → va_S A s.heap H locs → lv_has ls 7 [(6, .int 1), (5, .int i5h22), (0, .int i0h22), (1, .int p2), (2, .ref vb)] → W p l e rm_J6_getChars_ba4f3 s m args below meth c H locs 0 0 Q (F0 m 22 ls []) := by
      intro n
      induction n with
      | zero => intro i5h22 i0h22 s22 H locs ls hF _ _ _ _; exact absurd hF (by simp [L_J6_getChars_ba4f3_22_2])
      | succ n22 ih22 =>
        intro i5h22 i0h22 s22 H locs ls hF hP hD hS hl
        refine lv_iload_n hx hb dJ6_getChars_ba4f3_22 rfl (lv_at hl 2 rfl) ?_
        refine lv_bipush (v := (-100)) hx hb dJ6_getChars_ba4f3_23 (by decide) ?_
        refine lv_icmp_gt (tgt := 72) hx hb dJ6_getChars_ba4f3_25 (by decide) (fun h11 => ?_) (fun h11 => ?_)
        · replace hF := (if_pos h11).symm.trans hF
          refine lv_aload_n hx hb dJ6_getChars_ba4f3_72 rfl (lv_at hl 4 rfl) ?_
          refine lv_iinc (v := (i5h22 + (-1))) (lv' := [(5, .int (i5h22 + (-1))), (6, .int 1), (0, .int i0h22), (1, .int p2), (2, .ref vb)]) hx hb dJ6_getChars_ba4f3_73 hl (k := 1) rfl rfl (by decide) rfl (fun ls hl => ?_)
          refine lv_iload hx hb dJ6_getChars_ba4f3_76 (lv_at hl 0 rfl) ?_
          refine va_gets (n := "DigitOnes") (v := .ref (g 2)) hx hb hST.2.2.2.2.2.2.2.2.2.2.2.2.2.2.1 hS hown (hw _ k_747) (fun _ h9 => h9) dJ6_getChars_ba4f3_78 ?_
          refine lv_iload_n hx hb dJ6_getChars_ba4f3_81 rfl (lv_at hl 2 rfl) ?_
          refine lv_ineg hx hb dJ6_getChars_ba4f3_82 ?_
          obtain ⟨h12, hF⟩ := ite_some hF
          refine va_tb (v := .int (nI (48 + (-i0h22).toNatClampNeg % 10))) hx hb hST.2.2.2.2.2.2.2.2.2.2.2.2.2.2.2 hS (vp_inb h12) rfl dJ6_getChars_ba4f3_83 ?_
          obtain ⟨h13, hF⟩ := ite_some hF
          refine bast' (n := 16) (f := ((s22 12) 32)) (ws' := (sbW cy ab vb (va_up s22 12 (va_up (s22 12) 32 (upd ((s22 12) 32) ((i5h22 + (-1)).toNatClampNeg) (vp_nar .byte (nI (48 + (-i0h22).toNatClampNeg % 10)))))))) hx hb hK hP hD hS (gB32 (x := s22) (f := ((s22 12) 32)) (by decide) ((congrFun rfl _).trans rfl)) (t0 := 2) rfl (vp_inb h13) dJ6_getChars_ba4f3_84 ((sB32 (x := s22) (g := (upd ((s22 12) 32) ((i5h22 + (-1)).toNatClampNeg) (vp_nar .byte (nI (48 + (-i0h22).toNatClampNeg % 10))))) (by decide)).trans (congrArg (fun z => sbW cy ab vb (va_up s22 12 (va_up z 32 (upd ((s22 12) 32) ((i5h22 + (-1)).toNatClampNeg) (vp_nar .byte (nI (48 + (-i0h22).toNatClampNeg % 10))))))) rfl)) (fun H locs hP hD hS => ?_)
          refine lv_iload_n hx hb dJ6_getChars_ba4f3_85 rfl (lv_at hl 2 rfl) ?_
          refine lv_bipush (v := (-9)) hx hb dJ6_getChars_ba4f3_86 (by decide) ?_
          refine lv_icmp_ge (tgt := 104) hx hb dJ6_getChars_ba4f3_88 (by decide) (fun h14 => ?_) (fun h14 => ?_)
          · replace hF := (if_pos h14).symm.trans hF
            refine lv_iload hx hb dJ6_getChars_ba4f3_104 (lv_at hl 1 rfl) ?_
            refine lv_if_eq (tgt := 118) hx hb dJ6_getChars_ba4f3_106 (by decide) (fun h => absurd h (by decide)) (fun _ => ?_)
            refine lv_aload_n hx hb dJ6_getChars_ba4f3_109 rfl (lv_at hl 4 rfl) ?_
            refine lv_iinc (v := ((i5h22 + (-1)) + (-1))) (lv' := [(5, .int ((i5h22 + (-1)) + (-1))), (6, .int 1), (0, .int i0h22), (1, .int p2), (2, .ref vb)]) hx hb dJ6_getChars_ba4f3_110 hl (k := 0) rfl rfl (by decide) rfl (fun ls hl => ?_)
            refine lv_iload hx hb dJ6_getChars_ba4f3_113 (lv_at hl 0 rfl) ?_
            refine lv_bipush (v := 45) hx hb dJ6_getChars_ba4f3_115 (by decide) ?_
            obtain ⟨h16, hF⟩ := ite_some hF
            refine bast' (n := 16) (f := (upd ((s22 12) 32) ((i5h22 + (-1)).toNatClampNeg) (vp_nar .byte (nI (48 + (-i0h22).toNatClampNeg % 10))))) (ws' := (sbW cy ab vb (va_up s22 12 (va_up (s22 12) 32 (upd (upd ((s22 12) 32) ((i5h22 + (-1)).toNatClampNeg) (vp_nar .byte (nI (48 + (-i0h22).toNatClampNeg % 10)))) (((i5h22 + (-1)) + (-1)).toNatClampNeg) (vp_nar .byte 45)))))) hx hb hK hP hD hS (gB32 (x := (va_up s22 12 (va_up (s22 12) 32 (upd ((s22 12) 32) ((i5h22 + (-1)).toNatClampNeg) (vp_nar .byte (nI (48 + (-i0h22).toNatClampNeg % 10))))))) (f := (upd ((s22 12) 32) ((i5h22 + (-1)).toNatClampNeg) (vp_nar .byte (nI (48 + (-i0h22).toNatClampNeg % 10))))) (by decide) ((congrFun (va_up_self _ _ _) _).trans (va_up_self _ _ _))) (t0 := 2) rfl (vp_inb h16) dJ6_getChars_ba4f3_117 ((tB32 (x := s22) (o := (va_up (s22 12) 32 (upd ((s22 12) 32) ((i5h22 + (-1)).toNatClampNeg) (vp_nar .byte (nI (48 + (-i0h22).toNatClampNeg % 10)))))) (g := (upd (upd ((s22 12) 32) ((i5h22 + (-1)).toNatClampNeg) (vp_nar .byte (nI (48 + (-i0h22).toNatClampNeg % 10)))) (((i5h22 + (-1)) + (-1)).toNatClampNeg) (vp_nar .byte 45))) (by decide)).trans (congrArg (fun z => sbW cy ab vb (va_up s22 12 z)) (up_up _ _ _ _))) (fun H locs hP hD hS => ?_)
            refine lv_iload hx hb dJ6_getChars_ba4f3_118 (lv_at hl 0 rfl) ?_
            obtain ⟨rfl, rfl⟩ := Prod.mk.inj (Option.some.inj hF)
            exact hret _ _ _ _ _ _ hP hD hS rfl rfl dJ6_getChars_ba4f3_120
          · replace hF := (if_neg h14).symm.trans hF
            exact absurd hF (by simp)
        · replace hF := (if_neg h11).symm.trans hF
          exact absurd hF (by simp)
    exact loop22 200 p2 p1 x _ _ _ hF hP hD hS (lv_sub hl [0, 1, 2, 3, 4] rfl)
set_option maxHeartbeats 4000000 in
set_option maxRecDepth 100000 in
theorem met_J5_isLatin1_aae02B (l : Launch) (D : va_G) (cy : Nat → ClassId) (sz : Nat) (ab vb : Nat) (en g : Nat → Nat) (x : Mem)  (r : Int32) (hF : D_J5_isLatin1_aae02 x = r) : MIS l yJ5_isLatin1_aae02 cJ5_isLatin1_aae02 1 (some .boolean) rm_J5_isLatin1_aae02 D cy en g (sbW cy ab vb x) sz [.ref ab] r (sbW cy ab vb x) := by
  refine MZS.of (by decide +kernel) (Nat.le_of_ble_eq_true rfl) ?_
  intro p e s m args below meth c A ls Q hAt hST hP hD hA hS hl hret
  obtain ⟨hx, hb, hr, hml, hown, hw, hlk, hK, hN⟩ := hAt
  have hown : s.vm.findClass "java/lang/AbstractStringBuilder" = some m.cls := hown
  have hl : lv_has ls 1 [(0, .ref ab)] := hl
  refine va_gets (n := "COMPACT_STRINGS") (v := .int 1) hx hb hST.2.2.2.2.2.2.2.2.2.2.1 hS hown (hw _ k_260) (fun _ h9 => h9) dJ5_isLatin1_aae02_0 ?_
  refine lv_if_eq (tgt := 17) hx hb dJ5_isLatin1_aae02_3 (by decide) (fun h => absurd h (by decide)) (fun _ => ?_)
  refine lv_aload_n hx hb dJ5_isLatin1_aae02_6 rfl (lv_at hl 0 rfl) ?_
  refine get' (ci := 1) (fs := [.ref vb, .int (((x 12) 31) 1), .int (((x 12) 31) 2), .int (((x 12) 31) 3)]) (v := .int (((x 12) 31) 1)) hx hb hw inWJ4 hown hK hP (gB31 (x := x) (f := ((x 12) 31)) (by decide) ((congrFun rfl _).trans rfl)) rfl 1 (by decide) k_270 rfl rfl dJ5_isLatin1_aae02_7 ?_
  refine lv_if_ne (tgt := 17) hx hb dJ5_isLatin1_aae02_10 (by decide) (fun h2 => ?_) (fun h2 => ?_)
  · replace hF := (if_neg h2).symm.trans hF
    refine lv_iconst (v := 0) hx hb dJ5_isLatin1_aae02_17 (by decide) ?_
    cases hF
    exact hret _ _ _ _ _ _ hP hD hS rfl rfl rfl dJ5_isLatin1_aae02_18
  · replace hF := (if_pos h2).symm.trans hF
    refine lv_iconst (v := 1) hx hb dJ5_isLatin1_aae02_13 (by decide) ?_
    refine lv_goto (tgt := 18) hx hb dJ5_isLatin1_aae02_14 (by decide) ?_
    cases hF
    exact hret _ _ _ _ _ _ hP hD hS rfl rfl rfl dJ5_isLatin1_aae02_18
set_option maxHeartbeats 4000000 in
set_option maxRecDepth 100000 in
theorem met_J5_length_8abf5B (l : Launch) (D : va_G) (cy : Nat → ClassId) (sz : Nat) (ab vb : Nat) (en g : Nat → Nat) (x : Mem)  (r : Int32) (hF : D_J5_length_8abf5 x = r) : MI l yJ5_length_8abf5 cJ5_length_8abf5 1 (some .int) rm_J5_length_8abf5 D cy (sbW cy ab vb x) sz (fun _ => True) [.ref ab] r (sbW cy ab vb x) := by
  refine MI.of (by decide +kernel) (Nat.le_of_ble_eq_true rfl) ?_
  intro p e s m args below meth c A ls Q hAt _ hP hD hA hS hl hret
  obtain ⟨hx, hb, hr, hml, hown, hw, hlk, hK, hN⟩ := hAt
  have hown : s.vm.findClass "java/lang/AbstractStringBuilder" = some m.cls := hown
  have hl : lv_has ls 1 [(0, .ref ab)] := hl
  refine lv_aload_n hx hb dJ5_length_8abf5_0 rfl (lv_at hl 0 rfl) ?_
  refine get' (ci := 1) (fs := [.ref vb, .int (((x 12) 31) 1), .int (((x 12) 31) 2), .int (((x 12) 31) 3)]) (v := .int (((x 12) 31) 3)) hx hb hw inWJ4 hown hK hP (gB31 (x := x) (f := ((x 12) 31)) (by decide) ((congrFun rfl _).trans rfl)) rfl 3 (by decide) k_273 rfl rfl dJ5_length_8abf5_1 ?_
  cases hF
  exact hret _ _ _ _ _ _ hP hD hS rfl rfl dJ5_length_8abf5_4
set_option maxHeartbeats 4000000 in
set_option maxRecDepth 100000 in
theorem met_J5_ensureCapacityInternal_d00dfB (l : Launch) (D : va_G) (cy : Nat → ClassId) (sz : Nat) (ab vb : Nat) (en g : Nat → Nat) (x : Mem) (p1 : Int32)  (t' : Mem) (hF : D_J5_ensureCapacityInternal_d00df x p1 = some t') : MVS l yJ5_ensureCapacityInternal_d00df cJ5_ensureCapacityInternal_d00df 3 rm_J5_ensureCapacityInternal_d00df D cy en g (sbW cy ab vb x) sz [.ref ab, .int p1] (sbW cy ab vb t') := by
  refine MVS.of (by decide +kernel) (Nat.le_of_ble_eq_true rfl) ?_
  intro p e s m args below meth c A ls Q hAt hST hP hD hA hS hl hret
  obtain ⟨hx, hb, hr, hml, hown, hw, hlk, hK, hN⟩ := hAt
  have hown : s.vm.findClass "java/lang/AbstractStringBuilder" = some m.cls := hown
  have hl : lv_has ls 3 [(0, .ref ab), (1, .int p1)] := hl
  refine lv_aload_n hx hb dJ5_ensureCapacityInternal_d00df_0 rfl (lv_at hl 0 rfl) ?_
  refine get' (ci := 1) (fs := [.ref vb, .int (((x 12) 31) 1), .int (((x 12) 31) 2), .int (((x 12) 31) 3)]) (v := .ref vb) hx hb hw inWJ4 hown hK hP (gB31 (x := x) (f := ((x 12) 31)) (by decide) ((congrFun rfl _).trans rfl)) rfl 0 (by decide) k_269 rfl rfl dJ5_ensureCapacityInternal_d00df_1 ?_
  refine va_alen (v := 16) hx hb hK hP _ 2 (gB32 (x := x) (f := ((x 12) 32)) (by decide) ((congrFun rfl _).trans rfl)) rfl (show Int32.ofNat 16 = 16 by decide) dJ5_ensureCapacityInternal_d00df_4 ?_
  refine lv_aload_n hx hb dJ5_ensureCapacityInternal_d00df_5 rfl (lv_at hl 0 rfl) ?_
  refine get' (ci := 1) (fs := [.ref vb, .int (((x 12) 31) 1), .int (((x 12) 31) 2), .int (((x 12) 31) 3)]) (v := .int (((x 12) 31) 1)) hx hb hw inWJ4 hown hK hP (gB31 (x := x) (f := ((x 12) 31)) (by decide) ((congrFun rfl _).trans rfl)) rfl 1 (by decide) k_270 rfl rfl dJ5_ensureCapacityInternal_d00df_6 ?_
  refine lv_ishr hx hb dJ5_ensureCapacityInternal_d00df_9 ?_
  refine lv_istore_n (lv' := [(2, .int (16 >>> ((((x 12) 31) 1) &&& 31))), (0, .ref ab), (1, .int p1)]) hx hb dJ5_ensureCapacityInternal_d00df_10 rfl hl (by decide) rfl (fun ls hl => ?_)
  refine lv_iload_n hx hb dJ5_ensureCapacityInternal_d00df_11 rfl (lv_at hl 2 rfl) ?_
  refine lv_iload_n hx hb dJ5_ensureCapacityInternal_d00df_12 rfl (lv_at hl 0 rfl) ?_
  refine lv_isub hx hb dJ5_ensureCapacityInternal_d00df_13 ?_
  refine lv_if_le (tgt := 38) hx hb dJ5_ensureCapacityInternal_d00df_14 (by decide) (fun h1 => ?_) (fun h1 => ?_)
  · replace hF := (if_pos h1).symm.trans hF
    cases hF
    exact hret _ _ _ _ _ hP hD hS rfl dJ5_ensureCapacityInternal_d00df_38
  · replace hF := (if_neg h1).symm.trans hF
    exact absurd hF (by simp)
set_option maxHeartbeats 4000000 in
set_option maxRecDepth 100000 in
theorem met_J5_append_c97b9B (l : Launch) (D : va_G) (cy : Nat → ClassId) (sz : Nat) (ab vb : Nat) (en g : Nat → Nat) (x : Mem) (p1 : Int32)  (t' : Mem) (hF : D_J5_append_c97b9 x p1 = some t') : MRS l yJ5_append_c97b9 cJ5_append_c97b9 4 (some (.object "java/lang/AbstractStringBuilder")) rm_J5_append_c97b9 D cy en g (sbW cy ab vb x) sz [.ref ab, .int p1] ab (sbW cy ab vb t') := by
  refine MRS.of ⟨_, rfl⟩ (by decide +kernel) (Nat.le_of_ble_eq_true rfl) ?_
  intro p e s m args below meth c A ls Q hAt hST hP hD hA hS hl hret
  obtain ⟨hx, hb, hr, hml, hown, hw, hlk, hK, hN⟩ := hAt
  have hown : s.vm.findClass "java/lang/AbstractStringBuilder" = some m.cls := hown
  have hl : lv_has ls 4 [(0, .ref ab), (1, .int p1)] := hl
  refine lv_aload_n hx hb dJ5_append_c97b9_0 rfl (lv_at hl 0 rfl) ?_
  refine get' (ci := 1) (fs := [.ref vb, .int (((x 12) 31) 1), .int (((x 12) 31) 2), .int (((x 12) 31) 3)]) (v := .int (((x 12) 31) 3)) hx hb hw inWJ4 hown hK hP (gB31 (x := x) (f := ((x 12) 31)) (by decide) ((congrFun rfl _).trans rfl)) rfl 3 (by decide) k_273 rfl rfl dJ5_append_c97b9_1 ?_
  refine lv_istore_n (lv' := [(2, .int (((x 12) 31) 3)), (0, .ref ab), (1, .int p1)]) hx hb dJ5_append_c97b9_4 rfl hl (by decide) rfl (fun ls hl => ?_)
  refine lv_iload_n hx hb dJ5_append_c97b9_5 rfl (lv_at hl 0 rfl) ?_
  refine lv_iload_n hx hb dJ5_append_c97b9_6 rfl (lv_at hl 2 rfl) ?_
  obtain ⟨r1, hc3, hF⟩ := bind_some hF
  try dsimp only at hF
  refine cS_i (As := [.int p1]) (rest := [.int (((x 12) 31) 3)]) hx hb hml hown hw hK hN hA hl.1 hP hD hS k_741 k_742 k_46 k_743 (met_J6_stringSize_0f7a4 l D cy _ (sbW cy ab vb x) p1 r1 hc3) (fun _ _ _ => trivial) Xok_T ⟨rfl, rfl⟩ (n := 1) (by decide +kernel) rfl ⟨Nat.le_of_ble_eq_true rfl, Nat.le_of_ble_eq_true rfl⟩ ⟨Nat.le_of_ble_eq_true rfl, Nat.le_of_ble_eq_true rfl⟩ (Nat.le_of_ble_eq_true rfl) rfl dJ5_append_c97b9_7 (fun H locs hP hD hS => ?_)
  refine lv_iadd hx hb dJ5_append_c97b9_10 ?_
  refine lv_istore_n (lv' := [(3, .int ((((x 12) 31) 3) + r1)), (2, .int (((x 12) 31) 3)), (0, .ref ab), (1, .int p1)]) hx hb dJ5_append_c97b9_11 rfl hl (by decide) rfl (fun ls hl => ?_)
  refine lv_aload_n hx hb dJ5_append_c97b9_12 rfl (lv_at hl 2 rfl) ?_
  refine lv_iload_n hx hb dJ5_append_c97b9_13 rfl (lv_at hl 0 rfl) ?_
  obtain ⟨o5, hc6, hF⟩ := bind_some hF
  try dsimp only at hF
  refine cP_v (As := [.int ((((x 12) 31) 3) + r1)]) (rest := []) hx hb hml hown hw hK hN hA hl.1 hP hD hS k_685 k_1287 k_9000 k_687 k_31 k_688 (met_J5_ensureCapacityInternal_d00dfB l D cy _ ab vb en g x ((((x 12) 31) 3) + r1) o5 hc6) (ST_call hST hS (free_all hD hS hA)) Xok_S (gB31 (x := x) (f := ((x 12) 31)) (by decide) ((congrFun rfl _).trans rfl)) rfl ⟨rfl, rfl⟩ (n := 1) (by decide +kernel) rfl ⟨Nat.le_of_ble_eq_true rfl, Nat.le_of_ble_eq_true rfl⟩ ⟨Nat.le_of_ble_eq_true rfl, Nat.le_of_ble_eq_true rfl⟩ (Nat.le_of_ble_eq_true rfl) rfl dJ5_append_c97b9_14 (fun H locs hP hD hS => ?_)
  refine lv_aload_n hx hb dJ5_append_c97b9_17 rfl (lv_at hl 2 rfl) ?_
  refine cU_i (As := []) (rest := []) hx hb hml hown hw hK hN hA hl.1 hP hD hS k_716 k_718 k_719 k_717 k_31 k_720 rfl (met_J5_isLatin1_aae02B l D cy _ ab vb en g o5 (D_J5_isLatin1_aae02 o5) rfl) (ST_call hST hS (free_all hD hS hA)) Xok_S (va_recv hK hP rfl (gB31 (x := o5) (f := ((o5 12) 31)) (by decide) ((congrFun rfl _).trans rfl))) ⟨rfl, rfl⟩ (n := 0) (by decide +kernel) rfl ⟨Nat.le_of_ble_eq_true rfl, Nat.le_of_ble_eq_true rfl⟩ ⟨Nat.le_of_ble_eq_true rfl, Nat.le_of_ble_eq_true rfl⟩ (Nat.le_of_ble_eq_true rfl) rfl dJ5_append_c97b9_18 (fun H locs hP hD hS => ?_)
  refine lv_if_eq (tgt := 37) hx hb dJ5_append_c97b9_21 (by decide) (fun h10 => ?_) (fun h10 => ?_)
  · replace hF := (if_pos h10).symm.trans hF
    exact absurd hF (by simp)
  · replace hF := (if_neg h10).symm.trans hF
    refine lv_iload_n hx hb dJ5_append_c97b9_24 rfl (lv_at hl 3 rfl) ?_
    refine lv_iload_n hx hb dJ5_append_c97b9_25 rfl (lv_at hl 0 rfl) ?_
    refine lv_aload_n hx hb dJ5_append_c97b9_26 rfl (lv_at hl 2 rfl) ?_
    refine get' (ci := 1) (fs := [.ref vb, .int (((o5 12) 31) 1), .int (((o5 12) 31) 2), .int (((o5 12) 31) 3)]) (v := .ref vb) hx hb hw inWJ4 hown hK hP (gB31 (x := o5) (f := ((o5 12) 31)) (by decide) ((congrFun rfl _).trans rfl)) rfl 0 (by decide) k_269 rfl rfl dJ5_append_c97b9_27 ?_
    obtain ⟨⟨r11, o12⟩, hc13, hF⟩ := bind_some hF
    try dsimp only at hF
    refine cS_i (As := [.int p1, .int ((((x 12) 31) 3) + r1), .ref vb]) (rest := []) hx hb hml hown hw hK hN hA hl.1 hP hD hS k_744 k_745 k_46 k_746 (met_J6_getChars_ba4f3B l D cy _ ab vb en g o5 p1 ((((x 12) 31) 3) + r1) r11 o12 hc13) (ST_call hST hS (free_all hD hS hA)) Xok_S ⟨rfl, rfl⟩ (n := 3) (by decide +kernel) rfl ⟨Nat.le_of_ble_eq_true rfl, Nat.le_of_ble_eq_true rfl⟩ ⟨Nat.le_of_ble_eq_true rfl, Nat.le_of_ble_eq_true rfl⟩ (Nat.le_of_ble_eq_true rfl) rfl dJ5_append_c97b9_30 (fun H locs hP hD hS => ?_)
    refine lv_pop hx hb dJ5_append_c97b9_33 rfl ?_
    refine lv_goto (tgt := 48) hx hb dJ5_append_c97b9_34 (by decide) ?_
    refine lv_aload_n hx hb dJ5_append_c97b9_48 rfl (lv_at hl 2 rfl) ?_
    refine lv_iload_n hx hb dJ5_append_c97b9_49 rfl (lv_at hl 0 rfl) ?_
    refine put' (ci := 1) (fs := [.ref vb, .int (((o12 12) 31) 1), .int (((o12 12) 31) 2), .int (((o12 12) 31) 3)]) (v := .int ((((x 12) 31) 3) + r1)) (ty := .int) (ws' := (sbW cy ab vb (va_up o12 12 (va_up (o12 12) 31 (upd ((o12 12) 31) 3 ((((x 12) 31) 3) + r1)))))) hx hb hw inWJ4 tyJ4 tyJ4_ok nmJ4 hown hK hP hD hS (gB31 (x := o12) (f := ((o12 12) 31)) (by decide) ((congrFun rfl _).trans rfl)) rfl 3 (by decide) k_273 rfl rfl (by decide +kernel) rfl rfl (Nat.le_of_ble_eq_true rfl) dJ5_append_c97b9_50 ((sB31 (x := o12) (g := (upd ((o12 12) 31) 3 ((((x 12) 31) 3) + r1))) (by decide)).trans (congrArg (fun z => sbW cy ab vb (va_up o12 12 (va_up z 31 (upd ((o12 12) 31) 3 ((((x 12) 31) 3) + r1))))) rfl)) (fun H locs hP hD hS => ?_)
    refine lv_aload_n hx hb dJ5_append_c97b9_53 rfl (lv_at hl 2 rfl) ?_
    cases hF
    exact hret _ _ _ _ _ hP hD hS rfl dJ5_append_c97b9_54
set_option maxHeartbeats 4000000 in
set_option maxRecDepth 100000 in
theorem met_J4_append_bf812B (l : Launch) (D : va_G) (cy : Nat → ClassId) (sz : Nat) (ab vb : Nat) (en g : Nat → Nat) (x : Mem) (p1 : Int32)  (t' : Mem) (hF : D_J4_append_bf812 x p1 = some t') : MRS l yJ4_append_bf812 cJ4_append_bf812 2 (some (.object "java/lang/StringBuilder")) rm_J4_append_bf812 D cy en g (sbW cy ab vb x) sz [.ref ab, .int p1] ab (sbW cy ab vb t') := by
  refine MRS.of ⟨_, rfl⟩ (by decide +kernel) (Nat.le_of_ble_eq_true rfl) ?_
  intro p e s m args below meth c A ls Q hAt hST hP hD hA hS hl hret
  obtain ⟨hx, hb, hr, hml, hown, hw, hlk, hK, hN⟩ := hAt
  have hown : s.vm.findClass "java/lang/StringBuilder" = some m.cls := hown
  have hl : lv_has ls 2 [(0, .ref ab), (1, .int p1)] := hl
  refine lv_aload_n hx hb dJ4_append_bf812_0 rfl (lv_at hl 0 rfl) ?_
  refine lv_iload_n hx hb dJ4_append_bf812_1 rfl (lv_at hl 1 rfl) ?_
  obtain ⟨o2, hc3, hF⟩ := bind_some hF
  try dsimp only at hF
  refine cQ_r (As := [.int p1]) (rest := []) hx hb hml hown hw hK hN hA hl.1 hP hD hS k_738 k_1289 k_282 k_739 k_31 k_740 (met_J5_append_c97b9B l D cy _ ab vb en g x p1 o2 hc3) (ST_call hST hS (free_all hD hS hA)) Xok_S (gB31 (x := x) (f := ((x 12) 31)) (by decide) ((congrFun rfl _).trans rfl)) rfl ⟨rfl, rfl⟩ (n := 1) (by decide +kernel) rfl ⟨Nat.le_of_ble_eq_true rfl, Nat.le_of_ble_eq_true rfl⟩ ⟨Nat.le_of_ble_eq_true rfl, Nat.le_of_ble_eq_true rfl⟩ (Nat.le_of_ble_eq_true rfl) rfl dJ4_append_bf812_2 (fun H locs hP hD hS => ?_)
  refine lv_pop hx hb dJ4_append_bf812_5 rfl ?_
  refine lv_aload_n hx hb dJ4_append_bf812_6 rfl (lv_at hl 0 rfl) ?_
  cases hF
  exact hret _ _ _ _ _ hP hD hS rfl dJ4_append_bf812_7
set_option maxHeartbeats 4000000 in
set_option maxRecDepth 100000 in
theorem met_J4_length_8abf5B (l : Launch) (D : va_G) (cy : Nat → ClassId) (sz : Nat) (ab vb : Nat) (en g : Nat → Nat) (x : Mem)  (r : Int32) (hF : D_J4_length_8abf5 x = r) : MI l yJ4_length_8abf5 cJ4_length_8abf5 1 (some .int) rm_J4_length_8abf5 D cy (sbW cy ab vb x) sz (fun _ => True) [.ref ab] r (sbW cy ab vb x) := by
  refine MI.of (by decide +kernel) (Nat.le_of_ble_eq_true rfl) ?_
  intro p e s m args below meth c A ls Q hAt _ hP hD hA hS hl hret
  obtain ⟨hx, hb, hr, hml, hown, hw, hlk, hK, hN⟩ := hAt
  have hown : s.vm.findClass "java/lang/StringBuilder" = some m.cls := hown
  have hl : lv_has ls 1 [(0, .ref ab)] := hl
  refine lv_aload_n hx hb dJ4_length_8abf5_0 rfl (lv_at hl 0 rfl) ?_
  refine cQ_i (As := []) (rest := []) hx hb hml hown hw hK hN hA hl.1 hP hD hS k_833 k_1292 k_282 k_834 k_31 k_835 (met_J5_length_8abf5B l D cy _ ab vb en g x (D_J5_length_8abf5 x) rfl) (fun _ _ _ => trivial) Xok_T (gB31 (x := x) (f := ((x 12) 31)) (by decide) ((congrFun rfl _).trans rfl)) rfl ⟨rfl, rfl⟩ (n := 0) (by decide +kernel) rfl ⟨Nat.le_of_ble_eq_true rfl, Nat.le_of_ble_eq_true rfl⟩ ⟨Nat.le_of_ble_eq_true rfl, Nat.le_of_ble_eq_true rfl⟩ (Nat.le_of_ble_eq_true rfl) rfl dJ4_length_8abf5_1 (fun H locs hP hD hS => ?_)
  cases hF
  exact hret _ _ _ _ _ _ hP hD hS rfl rfl dJ4_length_8abf5_4
