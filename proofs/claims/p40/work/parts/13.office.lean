def D_X4_refuse (o : Nat → Nat → Int32) (p1 : Int32) (p2 : Int32) : Int32 × (Nat → Nat → Int32) := ((-1), (va_up o 0 (upd (upd (o 0) 12 p1) 13 p2)))
abbrev rm_X4_refuse : Room := { frames := 0, cells := 0, slots := 0, locals := 0 }
set_option maxHeartbeats 4000000 in
set_option maxRecDepth 100000 in
theorem met_X4_refuse (l : Launch) (D : va_G) (cy : Nat → ClassId) (sz : Nat) (ad : Nat → Nat → Nat) (en : Nat → Nat) (x : Mem) (k : Nat) (hk : k < 12) (o : Nat → Nat → Int32) (p1 : Int32) (p2 : Int32)  (r : Int32) (t' : Nat → Nat → Int32) (hF : D_X4_refuse o p1 p2 = (r, t')) : MI l yX4_refuse cX4_refuse 3 (some .int) rm_X4_refuse D cy (cW cy ad en (va_up x k o)) sz (fun _ => True) [.ref (ad k 0), .int p1, .int p2] r (cW cy ad en (va_up x k t')) := by
  refine MI.of (by decide +kernel) (Nat.le_of_ble_eq_true rfl) ?_
  intro p e s m args below meth c A ls Q hAt _ hP hD hA hS hl hret
  obtain ⟨hx, hb, hr, hml, hown, hw, hlk, hK, hN⟩ := hAt
  have hown : s.vm.findClass "CloudDeeds$Office" = some m.cls := hown
  have hl : lv_has ls 3 [(0, .ref (ad k 0)), (1, .int p1), (2, .int p2)] := hl
  refine lv_aload_n hx hb dX4_refuse_0 rfl (lv_at hl 0 rfl) ?_
  refine lv_iload_n hx hb dX4_refuse_1 rfl (lv_at hl 1 rfl) ?_
  refine put' (ci := 6) (fs := oF (ad k) (o 0)) (v := .int p1) (ty := .int) (ws' := (cW cy ad en (va_up x k (va_up o 0 (upd (o 0) 12 p1))))) hx hb hw inWX4 tyX4 tyX4_ok nmX4 hown hK hP hD hS (gO (x := x) (r := 0) (o := o) (f := (o 0)) hk (by decide) rfl) rfl 12 (by decide) k_132 rfl rfl (by decide +kernel) rfl rfl (Nat.le_of_ble_eq_true rfl) dX4_refuse_2 (sO (x := x) (r := 0) (o := o) (g := (upd (o 0) 12 p1)) hk (by decide)) (fun H locs hP hD hS => ?_)
  refine lv_aload_n hx hb dX4_refuse_5 rfl (lv_at hl 0 rfl) ?_
  refine lv_iload_n hx hb dX4_refuse_6 rfl (lv_at hl 2 rfl) ?_
  refine put' (ci := 6) (fs := oF (ad k) (upd (o 0) 12 p1)) (v := .int p2) (ty := .int) (ws' := (cW cy ad en (va_up x k (va_up o 0 (upd (upd (o 0) 12 p1) 13 p2))))) hx hb hw inWX4 tyX4 tyX4_ok nmX4 hown hK hP hD hS (gO (x := x) (r := 0) (o := (va_up o 0 (upd (o 0) 12 p1))) (f := (upd (o 0) 12 p1)) hk (by decide) (va_up_self _ _ _)) rfl 13 (by decide) k_134 rfl rfl (by decide +kernel) rfl rfl (Nat.le_of_ble_eq_true rfl) dX4_refuse_7 ((sO (x := x) (r := 0) (o := (va_up o 0 (upd (o 0) 12 p1))) (g := (upd (upd (o 0) 12 p1) 13 p2)) hk (by decide)).trans (congrArg (fun z => cW cy ad en (va_up x k z)) (up_up _ _ _ _))) (fun H locs hP hD hS => ?_)
  refine lv_iconst (v := (-1)) hx hb dX4_refuse_10 (by decide) ?_
  cases hF
  exact hret _ _ _ _ _ _ hP hD hS rfl rfl dX4_refuse_11
def L_X4_removeGone_4 : Nat → (Nat → Nat → Int32) → (Int32) → (Int32) → (Nat → Nat → Int32) → Option ((Nat → Nat → Int32))
  | 0, _, _, _, _ => none
  | n4 + 1, o, i2h4, i1h4, s4 => if ((s4 0) 1) ≤ i2h4 then (some (va_up s4 0 (upd (upd (s4 0) 9 (((s4 0) 9) + (((s4 0) 1) - i1h4))) 1 i1h4))) else (if inb i2h4 6 then (if ((s4 (i2h4.toNatClampNeg + 7)) 2) ≤ 0 then (L_X4_removeGone_4 n4 o (i2h4 + 1) i1h4 s4) else (if inb i1h4 6 then (if inb i2h4 6 then (if (i1h4.toNatClampNeg + 7) = (i2h4.toNatClampNeg + 7) then (L_X4_removeGone_4 n4 o (i2h4 + 1) (i1h4 + 1) (va_up s4 (i1h4.toNatClampNeg + 7) (D_X1_copyFromS (s4 (i1h4.toNatClampNeg + 7))))) else (L_X4_removeGone_4 n4 o (i2h4 + 1) (i1h4 + 1) (va_up s4 (i1h4.toNatClampNeg + 7) (D_X1_copyFrom (s4 (i1h4.toNatClampNeg + 7)) (s4 (i2h4.toNatClampNeg + 7)))))) else none) else none)) else none)
def D_X4_removeGone (o : Nat → Nat → Int32) : Option ((Nat → Nat → Int32)) := L_X4_removeGone_4 200 o 0 0 o
abbrev rm_X4_removeGone : Room := { frames := 1, cells := 0, slots := 0, locals := 21 }
set_option maxHeartbeats 4000000 in
set_option maxRecDepth 100000 in
theorem met_X4_removeGone (l : Launch) (D : va_G) (cy : Nat → ClassId) (sz : Nat) (ad : Nat → Nat → Nat) (en : Nat → Nat) (x : Mem) (k : Nat) (hk : k < 12) (o : Nat → Nat → Int32)  (t' : Nat → Nat → Int32) (hF : D_X4_removeGone o = some t') : MV l yX4_removeGone cX4_removeGone 3 rm_X4_removeGone D cy (cW cy ad en (va_up x k o)) sz (fun _ => True) [.ref (ad k 0)] (cW cy ad en (va_up x k t')) := by
  refine MV.of (by decide +kernel) (Nat.le_of_ble_eq_true rfl) ?_
  intro p e s m args below meth c A ls Q hAt _ hP hD hA hS hl hret
  obtain ⟨hx, hb, hr, hml, hown, hw, hlk, hK, hN⟩ := hAt
  have hown : s.vm.findClass "CloudDeeds$Office" = some m.cls := hown
  have hl : lv_has ls 3 [(0, .ref (ad k 0))] := hl
  refine lv_iconst (v := 0) hx hb dX4_removeGone_0 (by decide) ?_
  refine lv_istore_n (lv' := [(1, .int 0), (0, .ref (ad k 0))]) hx hb dX4_removeGone_1 rfl hl (by decide) rfl (fun ls hl => ?_)
  refine lv_iconst (v := 0) hx hb dX4_removeGone_2 (by decide) ?_
  refine lv_istore_n (lv' := [(2, .int 0), (1, .int 0), (0, .ref (ad k 0))]) hx hb dX4_removeGone_3 rfl hl (by decide) rfl (fun ls hl => ?_)
  have loop4 : ∀ (n : Nat) (i2h4 : Int32) (i1h4 : Int32) (s4 : Nat → Nat → Int32) (H : Heap) (locs : List Loc) (ls : Array Slot), L_X4_removeGone_4 n o i2h4 i1h4 s4 = some t' → va_P D vwCl (cW cy ad en (va_up x k s4)) H → va_D A (cW cy ad en (va_up x k s4)) → va_S A s.heap H locs → lv_has ls 3 [(2, .int i2h4), (1, .int i1h4), (0, .ref (ad k 0))] → W p l e rm_X4_removeGone s m args below meth c H locs 0 0 Q (F0 m 4 ls []) := by
    intro n
    induction n with
    | zero => intro i2h4 i1h4 s4 H locs ls hF _ _ _ _; exact absurd hF (by simp [L_X4_removeGone_4])
    | succ n4 ih4 =>
      intro i2h4 i1h4 s4 H locs ls hF hP hD hS hl
      refine lv_iload_n hx hb dX4_removeGone_4 rfl (lv_at hl 0 rfl) ?_
      refine lv_aload_n hx hb dX4_removeGone_5 rfl (lv_at hl 2 rfl) ?_
      refine get' (ci := 6) (fs := oF (ad k) (s4 0)) (v := .int ((s4 0) 1)) hx hb hw inWX4 hown hK hP (gO (x := x) (r := 0) (o := s4) (f := (s4 0)) hk (by decide) rfl) rfl 1 (by decide) k_119 rfl rfl dX4_removeGone_6 ?_
      refine lv_icmp_ge (tgt := 48) hx hb dX4_removeGone_9 (by decide) (fun h1 => ?_) (fun h1 => ?_)
      · replace hF := (if_pos h1).symm.trans hF
        refine lv_aload_n hx hb dX4_removeGone_48 rfl (lv_at hl 2 rfl) ?_
        refine lv_dup hx hb dX4_removeGone_49 rfl ?_
        refine get' (ci := 6) (fs := oF (ad k) (s4 0)) (v := .int ((s4 0) 9)) hx hb hw inWX4 hown hK hP (gO (x := x) (r := 0) (o := s4) (f := (s4 0)) hk (by decide) rfl) rfl 9 (by decide) k_129 rfl rfl dX4_removeGone_50 ?_
        refine lv_aload_n hx hb dX4_removeGone_53 rfl (lv_at hl 2 rfl) ?_
        refine get' (ci := 6) (fs := oF (ad k) (s4 0)) (v := .int ((s4 0) 1)) hx hb hw inWX4 hown hK hP (gO (x := x) (r := 0) (o := s4) (f := (s4 0)) hk (by decide) rfl) rfl 1 (by decide) k_119 rfl rfl dX4_removeGone_54 ?_
        refine lv_iload_n hx hb dX4_removeGone_57 rfl (lv_at hl 1 rfl) ?_
        refine lv_isub hx hb dX4_removeGone_58 ?_
        refine lv_iadd hx hb dX4_removeGone_59 ?_
        refine put' (ci := 6) (fs := oF (ad k) (s4 0)) (v := .int (((s4 0) 9) + (((s4 0) 1) - i1h4))) (ty := .int) (ws' := (cW cy ad en (va_up x k (va_up s4 0 (upd (s4 0) 9 (((s4 0) 9) + (((s4 0) 1) - i1h4))))))) hx hb hw inWX4 tyX4 tyX4_ok nmX4 hown hK hP hD hS (gO (x := x) (r := 0) (o := s4) (f := (s4 0)) hk (by decide) rfl) rfl 9 (by decide) k_129 rfl rfl (by decide +kernel) rfl rfl (Nat.le_of_ble_eq_true rfl) dX4_removeGone_60 (sO (x := x) (r := 0) (o := s4) (g := (upd (s4 0) 9 (((s4 0) 9) + (((s4 0) 1) - i1h4)))) hk (by decide)) (fun H locs hP hD hS => ?_)
        refine lv_aload_n hx hb dX4_removeGone_63 rfl (lv_at hl 2 rfl) ?_
        refine lv_iload_n hx hb dX4_removeGone_64 rfl (lv_at hl 1 rfl) ?_
        refine put' (ci := 6) (fs := oF (ad k) (upd (s4 0) 9 (((s4 0) 9) + (((s4 0) 1) - i1h4)))) (v := .int i1h4) (ty := .int) (ws' := (cW cy ad en (va_up x k (va_up s4 0 (upd (upd (s4 0) 9 (((s4 0) 9) + (((s4 0) 1) - i1h4))) 1 i1h4))))) hx hb hw inWX4 tyX4 tyX4_ok nmX4 hown hK hP hD hS (gO (x := x) (r := 0) (o := (va_up s4 0 (upd (s4 0) 9 (((s4 0) 9) + (((s4 0) 1) - i1h4))))) (f := (upd (s4 0) 9 (((s4 0) 9) + (((s4 0) 1) - i1h4)))) hk (by decide) (va_up_self _ _ _)) rfl 1 (by decide) k_119 rfl rfl (by decide +kernel) rfl rfl (Nat.le_of_ble_eq_true rfl) dX4_removeGone_65 ((sO (x := x) (r := 0) (o := (va_up s4 0 (upd (s4 0) 9 (((s4 0) 9) + (((s4 0) 1) - i1h4))))) (g := (upd (upd (s4 0) 9 (((s4 0) 9) + (((s4 0) 1) - i1h4))) 1 i1h4)) hk (by decide)).trans (congrArg (fun z => cW cy ad en (va_up x k z)) (up_up _ _ _ _))) (fun H locs hP hD hS => ?_)
        cases hF
        exact hret _ _ _ _ _ hP hD hS rfl dX4_removeGone_68
      · replace hF := (if_neg h1).symm.trans hF
        refine lv_aload_n hx hb dX4_removeGone_12 rfl (lv_at hl 2 rfl) ?_
        refine get' (ci := 6) (fs := oF (ad k) (s4 0)) (v := .ref (ad k 1)) hx hb hw inWX4 hown hK hP (gO (x := x) (r := 0) (o := s4) (f := (s4 0)) hk (by decide) rfl) rfl 0 (by decide) k_117 rfl rfl dX4_removeGone_13 ?_
        refine lv_iload_n hx hb dX4_removeGone_16 rfl (lv_at hl 0 rfl) ?_
        obtain ⟨h2, hF⟩ := ite_some hF
        have hr3 : (i2h4.toNatClampNeg + 7) < 13 := Nat.add_lt_add_right (inb_lt h2) 7
        refine aald' (n := 6) (g := (ad k (i2h4.toNatClampNeg + 7))) hx hb hK hP (gO (x := x) (r := 1) (o := s4) (f := (s4 1)) hk (by decide) rfl) (t0 := 3) rfl (vp_inb h2) rfl dX4_removeGone_17 ?_
        refine getN' (ci := 4) (fs := cF (s4 (i2h4.toNatClampNeg + 7))) (v := .int ((s4 (i2h4.toNatClampNeg + 7)) 2)) hx hb hw hN inWX1 hown hK hP (gO (x := x) (r := (i2h4.toNatClampNeg + 7)) (o := s4) (f := (s4 (i2h4.toNatClampNeg + 7))) hk hr3 rfl) rfl 2 (by decide) n_94 rfl rfl dX4_removeGone_18 ?_
        refine lv_if_le (tgt := 42) hx hb dX4_removeGone_21 (by decide) (fun h4 => ?_) (fun h4 => ?_)
        · replace hF := (if_pos h4).symm.trans hF
          refine lv_iinc (v := (i2h4 + 1)) (lv' := [(2, .int (i2h4 + 1)), (1, .int i1h4), (0, .ref (ad k 0))]) hx hb dX4_removeGone_42 hl (k := 0) rfl rfl (by decide) rfl (fun ls hl => ?_)
          refine lv_goto (tgt := 4) hx hb dX4_removeGone_45 (by decide) ?_
          exact ih4 (i2h4 + 1) i1h4 s4 _ _ _ hF hP hD hS (lv_sub hl [0, 1, 2] rfl)
        · replace hF := (if_neg h4).symm.trans hF
          refine lv_aload_n hx hb dX4_removeGone_24 rfl (lv_at hl 2 rfl) ?_
          refine get' (ci := 6) (fs := oF (ad k) (s4 0)) (v := .ref (ad k 1)) hx hb hw inWX4 hown hK hP (gO (x := x) (r := 0) (o := s4) (f := (s4 0)) hk (by decide) rfl) rfl 0 (by decide) k_117 rfl rfl dX4_removeGone_25 ?_
          refine lv_iload_n hx hb dX4_removeGone_28 rfl (lv_at hl 1 rfl) ?_
          obtain ⟨h5, hF⟩ := ite_some hF
          have hr6 : (i1h4.toNatClampNeg + 7) < 13 := Nat.add_lt_add_right (inb_lt h5) 7
          refine aald' (n := 6) (g := (ad k (i1h4.toNatClampNeg + 7))) hx hb hK hP (gO (x := x) (r := 1) (o := s4) (f := (s4 1)) hk (by decide) rfl) (t0 := 3) rfl (vp_inb h5) rfl dX4_removeGone_29 ?_
          refine lv_aload_n hx hb dX4_removeGone_30 rfl (lv_at hl 2 rfl) ?_
          refine get' (ci := 6) (fs := oF (ad k) (s4 0)) (v := .ref (ad k 1)) hx hb hw inWX4 hown hK hP (gO (x := x) (r := 0) (o := s4) (f := (s4 0)) hk (by decide) rfl) rfl 0 (by decide) k_117 rfl rfl dX4_removeGone_31 ?_
          refine lv_iload_n hx hb dX4_removeGone_34 rfl (lv_at hl 0 rfl) ?_
          obtain ⟨h7, hF⟩ := ite_some hF
          have hr8 : (i2h4.toNatClampNeg + 7) < 13 := Nat.add_lt_add_right (inb_lt h7) 7
          refine aald' (n := 6) (g := (ad k (i2h4.toNatClampNeg + 7))) hx hb hK hP (gO (x := x) (r := 1) (o := s4) (f := (s4 1)) hk (by decide) rfl) (t0 := 3) rfl (vp_inb h7) rfl dX4_removeGone_35 ?_
          by_cases hal9 : (i1h4.toNatClampNeg + 7) = (i2h4.toNatClampNeg + 7)
          · replace hF := (if_pos hal9).symm.trans hF
            have e9 : (ad k (i2h4.toNatClampNeg + 7)) = (ad k (i1h4.toNatClampNeg + 7)) := by rw [hal9]
            rw [e9]
            refine cV_v (As := [.ref (ad k (i1h4.toNatClampNeg + 7))]) (rest := []) hx hb hml hown hw hK hN hA hl.1 hP hD hS k_518 k_519 k_520 k_24 k_521 (met_X1_copyFromS l D cy _ (cW cy ad en (va_up x k s4)) (13 * k + (i1h4.toNatClampNeg + 7)) (ad k (i1h4.toNatClampNeg + 7)) (s4 (i1h4.toNatClampNeg + 7)) (gO (x := x) (r := (i1h4.toNatClampNeg + 7)) (o := s4) (f := (s4 (i1h4.toNatClampNeg + 7))) hk hr6 rfl) (D_X1_copyFromS (s4 (i1h4.toNatClampNeg + 7))) rfl) (fun _ _ _ => trivial) Xok_T (gO (x := x) (r := (i1h4.toNatClampNeg + 7)) (o := s4) (f := (s4 (i1h4.toNatClampNeg + 7))) hk hr6 rfl) rfl ⟨rfl, rfl⟩ (n := 1) (by decide +kernel) rfl ⟨Nat.le_of_ble_eq_true rfl, Nat.le_of_ble_eq_true rfl⟩ ⟨Nat.le_of_ble_eq_true rfl, Nat.le_of_ble_eq_true rfl⟩ (Nat.le_of_ble_eq_true rfl) rfl dX4_removeGone_36 (fun H locs hP hD hS => ?_)
            have hP : va_P D vwCl (cW cy ad en (va_up x k (va_up s4 (i1h4.toNatClampNeg + 7) (D_X1_copyFromS (s4 (i1h4.toNatClampNeg + 7)))))) H := cvP hP (sO (x := x) (r := (i1h4.toNatClampNeg + 7)) (o := s4) (g := (D_X1_copyFromS (s4 (i1h4.toNatClampNeg + 7)))) hk hr6)
            have hD : va_D A (cW cy ad en (va_up x k (va_up s4 (i1h4.toNatClampNeg + 7) (D_X1_copyFromS (s4 (i1h4.toNatClampNeg + 7)))))) := cvD hD (sO (x := x) (r := (i1h4.toNatClampNeg + 7)) (o := s4) (g := (D_X1_copyFromS (s4 (i1h4.toNatClampNeg + 7)))) hk hr6)
            refine lv_iinc (v := (i1h4 + 1)) (lv' := [(1, .int (i1h4 + 1)), (2, .int i2h4), (0, .ref (ad k 0))]) hx hb dX4_removeGone_39 hl (k := 1) rfl rfl (by decide) rfl (fun ls hl => ?_)
            refine lv_iinc (v := (i2h4 + 1)) (lv' := [(2, .int (i2h4 + 1)), (1, .int (i1h4 + 1)), (0, .ref (ad k 0))]) hx hb dX4_removeGone_42 hl (k := 1) rfl rfl (by decide) rfl (fun ls hl => ?_)
            refine lv_goto (tgt := 4) hx hb dX4_removeGone_45 (by decide) ?_
            exact ih4 (i2h4 + 1) (i1h4 + 1) (va_up s4 (i1h4.toNatClampNeg + 7) (D_X1_copyFromS (s4 (i1h4.toNatClampNeg + 7)))) _ _ _ hF hP hD hS (lv_sub hl [0, 1, 2] rfl)
          · replace hF := (if_neg hal9).symm.trans hF
            refine cV_v (As := [.ref (ad k (i2h4.toNatClampNeg + 7))]) (rest := []) hx hb hml hown hw hK hN hA hl.1 hP hD hS k_518 k_519 k_520 k_24 k_521 (met_X1_copyFrom l D cy _ (cW cy ad en (va_up x k s4)) (13 * k + (i1h4.toNatClampNeg + 7)) (ad k (i1h4.toNatClampNeg + 7)) (s4 (i1h4.toNatClampNeg + 7)) (13 * k + (i2h4.toNatClampNeg + 7)) (ad k (i2h4.toNatClampNeg + 7)) (s4 (i2h4.toNatClampNeg + 7)) (gO (x := x) (r := (i1h4.toNatClampNeg + 7)) (o := s4) (f := (s4 (i1h4.toNatClampNeg + 7))) hk hr6 rfl) (gO (x := x) (r := (i2h4.toNatClampNeg + 7)) (o := s4) (f := (s4 (i2h4.toNatClampNeg + 7))) hk hr8 rfl) (by have h1 := hal9; omega) (D_X1_copyFrom (s4 (i1h4.toNatClampNeg + 7)) (s4 (i2h4.toNatClampNeg + 7))) rfl) (fun _ _ _ => trivial) Xok_T (gO (x := x) (r := (i1h4.toNatClampNeg + 7)) (o := s4) (f := (s4 (i1h4.toNatClampNeg + 7))) hk hr6 rfl) rfl ⟨rfl, rfl⟩ (n := 1) (by decide +kernel) rfl ⟨Nat.le_of_ble_eq_true rfl, Nat.le_of_ble_eq_true rfl⟩ ⟨Nat.le_of_ble_eq_true rfl, Nat.le_of_ble_eq_true rfl⟩ (Nat.le_of_ble_eq_true rfl) rfl dX4_removeGone_36 (fun H locs hP hD hS => ?_)
            have hP : va_P D vwCl (cW cy ad en (va_up x k (va_up s4 (i1h4.toNatClampNeg + 7) (D_X1_copyFrom (s4 (i1h4.toNatClampNeg + 7)) (s4 (i2h4.toNatClampNeg + 7)))))) H := cvP hP (sO (x := x) (r := (i1h4.toNatClampNeg + 7)) (o := s4) (g := (D_X1_copyFrom (s4 (i1h4.toNatClampNeg + 7)) (s4 (i2h4.toNatClampNeg + 7)))) hk hr6)
            have hD : va_D A (cW cy ad en (va_up x k (va_up s4 (i1h4.toNatClampNeg + 7) (D_X1_copyFrom (s4 (i1h4.toNatClampNeg + 7)) (s4 (i2h4.toNatClampNeg + 7)))))) := cvD hD (sO (x := x) (r := (i1h4.toNatClampNeg + 7)) (o := s4) (g := (D_X1_copyFrom (s4 (i1h4.toNatClampNeg + 7)) (s4 (i2h4.toNatClampNeg + 7)))) hk hr6)
            refine lv_iinc (v := (i1h4 + 1)) (lv' := [(1, .int (i1h4 + 1)), (2, .int i2h4), (0, .ref (ad k 0))]) hx hb dX4_removeGone_39 hl (k := 1) rfl rfl (by decide) rfl (fun ls hl => ?_)
            refine lv_iinc (v := (i2h4 + 1)) (lv' := [(2, .int (i2h4 + 1)), (1, .int (i1h4 + 1)), (0, .ref (ad k 0))]) hx hb dX4_removeGone_42 hl (k := 1) rfl rfl (by decide) rfl (fun ls hl => ?_)
            refine lv_goto (tgt := 4) hx hb dX4_removeGone_45 (by decide) ?_
            exact ih4 (i2h4 + 1) (i1h4 + 1) (va_up s4 (i1h4.toNatClampNeg + 7) (D_X1_copyFrom (s4 (i1h4.toNatClampNeg + 7)) (s4 (i2h4.toNatClampNeg + 7)))) _ _ _ hF hP hD hS (lv_sub hl [0, 1, 2] rfl)
  exact loop4 200 0 0 o _ _ _ hF hP hD hS (lv_sub hl [0, 1, 2] rfl)
def L_X4_lapseTitles_2 : Nat → (Nat → Nat → Int32) → (Int32) → (Nat → Nat → Int32) → Option ((Nat → Nat → Int32))
  | 0, _, _, _ => none
  | n2 + 1, o, i1h2, s2 => if ((s2 0) 1) ≤ i1h2 then (some s2) else (if inb i1h2 6 then (if (D_X1_hasTitleForOtherShape (s2 (i1h2.toNatClampNeg + 7))) = 0 then (L_X4_lapseTitles_2 n2 o (i1h2 + 1) s2) else (if inb i1h2 6 then (L_X4_lapseTitles_2 n2 o (i1h2 + 1) (va_up (va_up s2 (i1h2.toNatClampNeg + 7) (D_X1_loseTitle (s2 (i1h2.toNatClampNeg + 7)))) 0 (upd (s2 0) 6 (((s2 0) 6) + 1)))) else none)) else none)
def D_X4_lapseTitles (o : Nat → Nat → Int32) : Option ((Nat → Nat → Int32)) := L_X4_lapseTitles_2 200 o 0 o
abbrev rm_X4_lapseTitles : Room := { frames := 2, cells := 0, slots := 0, locals := 40 }
set_option maxHeartbeats 4000000 in
set_option maxRecDepth 100000 in
theorem met_X4_lapseTitles (l : Launch) (D : va_G) (cy : Nat → ClassId) (sz : Nat) (ad : Nat → Nat → Nat) (en : Nat → Nat) (x : Mem) (k : Nat) (hk : k < 12) (o : Nat → Nat → Int32)  (t' : Nat → Nat → Int32) (hF : D_X4_lapseTitles o = some t') : MV l yX4_lapseTitles cX4_lapseTitles 2 rm_X4_lapseTitles D cy (cW cy ad en (va_up x k o)) sz (fun _ => True) [.ref (ad k 0)] (cW cy ad en (va_up x k t')) := by
  refine MV.of (by decide +kernel) (Nat.le_of_ble_eq_true rfl) ?_
  intro p e s m args below meth c A ls Q hAt _ hP hD hA hS hl hret
  obtain ⟨hx, hb, hr, hml, hown, hw, hlk, hK, hN⟩ := hAt
  have hown : s.vm.findClass "CloudDeeds$Office" = some m.cls := hown
  have hl : lv_has ls 2 [(0, .ref (ad k 0))] := hl
  refine lv_iconst (v := 0) hx hb dX4_lapseTitles_0 (by decide) ?_
  refine lv_istore_n (lv' := [(1, .int 0), (0, .ref (ad k 0))]) hx hb dX4_lapseTitles_1 rfl hl (by decide) rfl (fun ls hl => ?_)
  have loop2 : ∀ (n : Nat) (i1h2 : Int32) (s2 : Nat → Nat → Int32) (H : Heap) (locs : List Loc) (ls : Array Slot), L_X4_lapseTitles_2 n o i1h2 s2 = some t' → va_P D vwCl (cW cy ad en (va_up x k s2)) H → va_D A (cW cy ad en (va_up x k s2)) → va_S A s.heap H locs → lv_has ls 2 [(1, .int i1h2), (0, .ref (ad k 0))] → W p l e rm_X4_lapseTitles s m args below meth c H locs 0 0 Q (F0 m 2 ls []) := by
    intro n
    induction n with
    | zero => intro i1h2 s2 H locs ls hF _ _ _ _; exact absurd hF (by simp [L_X4_lapseTitles_2])
    | succ n2 ih2 =>
      intro i1h2 s2 H locs ls hF hP hD hS hl
      refine lv_iload_n hx hb dX4_lapseTitles_2 rfl (lv_at hl 0 rfl) ?_
      refine lv_aload_n hx hb dX4_lapseTitles_3 rfl (lv_at hl 1 rfl) ?_
      refine get' (ci := 6) (fs := oF (ad k) (s2 0)) (v := .int ((s2 0) 1)) hx hb hw inWX4 hown hK hP (gO (x := x) (r := 0) (o := s2) (f := (s2 0)) hk (by decide) rfl) rfl 1 (by decide) k_119 rfl rfl dX4_lapseTitles_4 ?_
      refine lv_icmp_ge (tgt := 47) hx hb dX4_lapseTitles_7 (by decide) (fun h1 => ?_) (fun h1 => ?_)
      · replace hF := (if_pos h1).symm.trans hF
        cases hF
        exact hret _ _ _ _ _ hP hD hS rfl dX4_lapseTitles_47
      · replace hF := (if_neg h1).symm.trans hF
        refine lv_aload_n hx hb dX4_lapseTitles_10 rfl (lv_at hl 1 rfl) ?_
        refine get' (ci := 6) (fs := oF (ad k) (s2 0)) (v := .ref (ad k 1)) hx hb hw inWX4 hown hK hP (gO (x := x) (r := 0) (o := s2) (f := (s2 0)) hk (by decide) rfl) rfl 0 (by decide) k_117 rfl rfl dX4_lapseTitles_11 ?_
        refine lv_iload_n hx hb dX4_lapseTitles_14 rfl (lv_at hl 0 rfl) ?_
        obtain ⟨h2, hF⟩ := ite_some hF
        have hr3 : (i1h2.toNatClampNeg + 7) < 13 := Nat.add_lt_add_right (inb_lt h2) 7
        refine aald' (n := 6) (g := (ad k (i1h2.toNatClampNeg + 7))) hx hb hK hP (gO (x := x) (r := 1) (o := s2) (f := (s2 1)) hk (by decide) rfl) (t0 := 3) rfl (vp_inb h2) rfl dX4_lapseTitles_15 ?_
        refine cV_i (As := []) (rest := []) hx hb hml hown hw hK hN hA hl.1 hP hD hS k_551 k_552 k_553 k_24 k_554 (met_X1_hasTitleForOtherShape l D cy _ (cW cy ad en (va_up x k s2)) (13 * k + (i1h2.toNatClampNeg + 7)) (ad k (i1h2.toNatClampNeg + 7)) (s2 (i1h2.toNatClampNeg + 7)) (gO (x := x) (r := (i1h2.toNatClampNeg + 7)) (o := s2) (f := (s2 (i1h2.toNatClampNeg + 7))) hk hr3 rfl) (D_X1_hasTitleForOtherShape (s2 (i1h2.toNatClampNeg + 7))) rfl) (fun _ _ _ => trivial) Xok_T (gO (x := x) (r := (i1h2.toNatClampNeg + 7)) (o := s2) (f := (s2 (i1h2.toNatClampNeg + 7))) hk hr3 rfl) rfl ⟨rfl, rfl⟩ (n := 0) (by decide +kernel) rfl ⟨Nat.le_of_ble_eq_true rfl, Nat.le_of_ble_eq_true rfl⟩ ⟨Nat.le_of_ble_eq_true rfl, Nat.le_of_ble_eq_true rfl⟩ (Nat.le_of_ble_eq_true rfl) rfl dX4_lapseTitles_16 (fun H locs hP hD hS => ?_)
        refine lv_if_eq (tgt := 41) hx hb dX4_lapseTitles_19 (by decide) (fun h7 => ?_) (fun h7 => ?_)
        · replace hF := (if_pos h7).symm.trans hF
          refine lv_iinc (v := (i1h2 + 1)) (lv' := [(1, .int (i1h2 + 1)), (0, .ref (ad k 0))]) hx hb dX4_lapseTitles_41 hl (k := 0) rfl rfl (by decide) rfl (fun ls hl => ?_)
          refine lv_goto (tgt := 2) hx hb dX4_lapseTitles_44 (by decide) ?_
          exact ih2 (i1h2 + 1) s2 _ _ _ hF hP hD hS (lv_sub hl [0, 1] rfl)
        · replace hF := (if_neg h7).symm.trans hF
          refine lv_aload_n hx hb dX4_lapseTitles_22 rfl (lv_at hl 1 rfl) ?_
          refine get' (ci := 6) (fs := oF (ad k) (s2 0)) (v := .ref (ad k 1)) hx hb hw inWX4 hown hK hP (gO (x := x) (r := 0) (o := s2) (f := (s2 0)) hk (by decide) rfl) rfl 0 (by decide) k_117 rfl rfl dX4_lapseTitles_23 ?_
          refine lv_iload_n hx hb dX4_lapseTitles_26 rfl (lv_at hl 0 rfl) ?_
          obtain ⟨h8, hF⟩ := ite_some hF
          have hr9 : (i1h2.toNatClampNeg + 7) < 13 := Nat.add_lt_add_right (inb_lt h8) 7
          refine aald' (n := 6) (g := (ad k (i1h2.toNatClampNeg + 7))) hx hb hK hP (gO (x := x) (r := 1) (o := s2) (f := (s2 1)) hk (by decide) rfl) (t0 := 3) rfl (vp_inb h8) rfl dX4_lapseTitles_27 ?_
          refine cV_v (As := []) (rest := []) hx hb hml hown hw hK hN hA hl.1 hP hD hS k_567 k_568 k_569 k_24 k_570 (met_X1_loseTitle l D cy _ (cW cy ad en (va_up x k s2)) (13 * k + (i1h2.toNatClampNeg + 7)) (ad k (i1h2.toNatClampNeg + 7)) (s2 (i1h2.toNatClampNeg + 7)) (gO (x := x) (r := (i1h2.toNatClampNeg + 7)) (o := s2) (f := (s2 (i1h2.toNatClampNeg + 7))) hk hr9 rfl) (D_X1_loseTitle (s2 (i1h2.toNatClampNeg + 7))) rfl) (fun _ _ _ => trivial) Xok_T (gO (x := x) (r := (i1h2.toNatClampNeg + 7)) (o := s2) (f := (s2 (i1h2.toNatClampNeg + 7))) hk hr9 rfl) rfl ⟨rfl, rfl⟩ (n := 0) (by decide +kernel) rfl ⟨Nat.le_of_ble_eq_true rfl, Nat.le_of_ble_eq_true rfl⟩ ⟨Nat.le_of_ble_eq_true rfl, Nat.le_of_ble_eq_true rfl⟩ (Nat.le_of_ble_eq_true rfl) rfl dX4_lapseTitles_28 (fun H locs hP hD hS => ?_)
          have hP : va_P D vwCl (cW cy ad en (va_up x k (va_up s2 (i1h2.toNatClampNeg + 7) (D_X1_loseTitle (s2 (i1h2.toNatClampNeg + 7)))))) H := cvP hP (sO (x := x) (r := (i1h2.toNatClampNeg + 7)) (o := s2) (g := (D_X1_loseTitle (s2 (i1h2.toNatClampNeg + 7)))) hk hr9)
          have hD : va_D A (cW cy ad en (va_up x k (va_up s2 (i1h2.toNatClampNeg + 7) (D_X1_loseTitle (s2 (i1h2.toNatClampNeg + 7)))))) := cvD hD (sO (x := x) (r := (i1h2.toNatClampNeg + 7)) (o := s2) (g := (D_X1_loseTitle (s2 (i1h2.toNatClampNeg + 7)))) hk hr9)
          refine lv_aload_n hx hb dX4_lapseTitles_31 rfl (lv_at hl 1 rfl) ?_
          refine lv_dup hx hb dX4_lapseTitles_32 rfl ?_
          refine get' (ci := 6) (fs := oF (ad k) (s2 0)) (v := .int ((s2 0) 6)) hx hb hw inWX4 hown hK hP (gO (x := x) (r := 0) (o := (va_up s2 (i1h2.toNatClampNeg + 7) (D_X1_loseTitle (s2 (i1h2.toNatClampNeg + 7))))) (f := (s2 0)) hk (by decide) ((va_up_ne _ _ (by omega)).trans rfl)) rfl 6 (by decide) k_126 rfl rfl dX4_lapseTitles_33 ?_
          refine lv_iconst (v := 1) hx hb dX4_lapseTitles_36 (by decide) ?_
          refine lv_iadd hx hb dX4_lapseTitles_37 ?_
          refine put' (ci := 6) (fs := oF (ad k) (s2 0)) (v := .int (((s2 0) 6) + 1)) (ty := .int) (ws' := (cW cy ad en (va_up x k (va_up (va_up s2 (i1h2.toNatClampNeg + 7) (D_X1_loseTitle (s2 (i1h2.toNatClampNeg + 7)))) 0 (upd (s2 0) 6 (((s2 0) 6) + 1)))))) hx hb hw inWX4 tyX4 tyX4_ok nmX4 hown hK hP hD hS (gO (x := x) (r := 0) (o := (va_up s2 (i1h2.toNatClampNeg + 7) (D_X1_loseTitle (s2 (i1h2.toNatClampNeg + 7))))) (f := (s2 0)) hk (by decide) ((va_up_ne _ _ (by omega)).trans rfl)) rfl 6 (by decide) k_126 rfl rfl (by decide +kernel) rfl rfl (Nat.le_of_ble_eq_true rfl) dX4_lapseTitles_38 (sO (x := x) (r := 0) (o := (va_up s2 (i1h2.toNatClampNeg + 7) (D_X1_loseTitle (s2 (i1h2.toNatClampNeg + 7))))) (g := (upd (s2 0) 6 (((s2 0) 6) + 1))) hk (by decide)) (fun H locs hP hD hS => ?_)
          refine lv_iinc (v := (i1h2 + 1)) (lv' := [(1, .int (i1h2 + 1)), (0, .ref (ad k 0))]) hx hb dX4_lapseTitles_41 hl (k := 0) rfl rfl (by decide) rfl (fun ls hl => ?_)
          refine lv_goto (tgt := 2) hx hb dX4_lapseTitles_44 (by decide) ?_
          exact ih2 (i1h2 + 1) (va_up (va_up s2 (i1h2.toNatClampNeg + 7) (D_X1_loseTitle (s2 (i1h2.toNatClampNeg + 7)))) 0 (upd (s2 0) 6 (((s2 0) 6) + 1))) _ _ _ hF hP hD hS (lv_sub hl [0, 1] rfl)
  exact loop2 200 0 o _ _ _ hF hP hD hS (lv_sub hl [0, 1] rfl)
def D_X4_pay (o : Nat → Nat → Int32) (p1 : Int32) (p2 : Int32) (p3 : Int32) : Option ((Nat → Nat → Int32)) := if (D_X9_isOwner p1) = 0 then (some o) else (if (D_X9_isOwner p2) = 0 then (some o) else (if inb p1 4 then (if inb p1 4 then (if inb p2 4 then (if inb p2 4 then (some (va_up o 3 (upd (upd (o 3) (p1.toNatClampNeg) (((o 3) p1.toNatClampNeg) - p3)) (p2.toNatClampNeg) (((upd (o 3) (p1.toNatClampNeg) (((o 3) p1.toNatClampNeg) - p3)) p2.toNatClampNeg) + p3)))) else none) else none) else none) else none))
abbrev rm_X4_pay : Room := { frames := 1, cells := 0, slots := 0, locals := 20 }
set_option maxHeartbeats 4000000 in
set_option maxRecDepth 100000 in
theorem met_X4_pay (l : Launch) (D : va_G) (cy : Nat → ClassId) (sz : Nat) (ad : Nat → Nat → Nat) (en : Nat → Nat) (x : Mem) (k : Nat) (hk : k < 12) (o : Nat → Nat → Int32) (p1 : Int32) (p2 : Int32) (p3 : Int32)  (t' : Nat → Nat → Int32) (hF : D_X4_pay o p1 p2 p3 = some t') : MV l yX4_pay cX4_pay 4 rm_X4_pay D cy (cW cy ad en (va_up x k o)) sz (fun _ => True) [.ref (ad k 0), .int p1, .int p2, .int p3] (cW cy ad en (va_up x k t')) := by
  refine MV.of (by decide +kernel) (Nat.le_of_ble_eq_true rfl) ?_
  intro p e s m args below meth c A ls Q hAt _ hP hD hA hS hl hret
  obtain ⟨hx, hb, hr, hml, hown, hw, hlk, hK, hN⟩ := hAt
  have hown : s.vm.findClass "CloudDeeds$Office" = some m.cls := hown
  have hl : lv_has ls 4 [(0, .ref (ad k 0)), (1, .int p1), (2, .int p2), (3, .int p3)] := hl
  refine lv_iload_n hx hb dX4_pay_0 rfl (lv_at hl 1 rfl) ?_
  refine cSN_i (As := [.int p1]) (rest := []) hx hb hml hown hw hK hN hA hl.1 hP hD hS n_444 k_432 k_21 k_433 (met_X9_isOwner l D cy _ (cW cy ad en (va_up x k o)) p1 (D_X9_isOwner p1) rfl) (fun _ _ _ => trivial) Xok_T ⟨rfl, rfl⟩ (n := 1) (by decide +kernel) rfl ⟨Nat.le_of_ble_eq_true rfl, Nat.le_of_ble_eq_true rfl⟩ ⟨Nat.le_of_ble_eq_true rfl, Nat.le_of_ble_eq_true rfl⟩ (Nat.le_of_ble_eq_true rfl) rfl dX4_pay_1 (fun H locs hP hD hS => ?_)
  refine lv_if_eq (tgt := 34) hx hb dX4_pay_4 (by decide) (fun h4 => ?_) (fun h4 => ?_)
  · replace hF := (if_pos h4).symm.trans hF
    cases hF
    exact hret _ _ _ _ _ hP hD hS rfl dX4_pay_34
  · replace hF := (if_neg h4).symm.trans hF
    refine lv_iload_n hx hb dX4_pay_7 rfl (lv_at hl 2 rfl) ?_
    refine cSN_i (As := [.int p2]) (rest := []) hx hb hml hown hw hK hN hA hl.1 hP hD hS n_444 k_432 k_21 k_433 (met_X9_isOwner l D cy _ (cW cy ad en (va_up x k o)) p2 (D_X9_isOwner p2) rfl) (fun _ _ _ => trivial) Xok_T ⟨rfl, rfl⟩ (n := 1) (by decide +kernel) rfl ⟨Nat.le_of_ble_eq_true rfl, Nat.le_of_ble_eq_true rfl⟩ ⟨Nat.le_of_ble_eq_true rfl, Nat.le_of_ble_eq_true rfl⟩ (Nat.le_of_ble_eq_true rfl) rfl dX4_pay_8 (fun H locs hP hD hS => ?_)
    refine lv_if_eq (tgt := 34) hx hb dX4_pay_11 (by decide) (fun h8 => ?_) (fun h8 => ?_)
    · replace hF := (if_pos h8).symm.trans hF
      cases hF
      exact hret _ _ _ _ _ hP hD hS rfl dX4_pay_34
    · replace hF := (if_neg h8).symm.trans hF
      refine lv_aload_n hx hb dX4_pay_14 rfl (lv_at hl 0 rfl) ?_
      refine get' (ci := 6) (fs := oF (ad k) (o 0)) (v := .ref (ad k 3)) hx hb hw inWX4 hown hK hP (gO (x := x) (r := 0) (o := o) (f := (o 0)) hk (by decide) rfl) rfl 3 (by decide) k_122 rfl rfl dX4_pay_15 ?_
      refine lv_iload_n hx hb dX4_pay_18 rfl (lv_at hl 1 rfl) ?_
      refine lv_dup2_11 hx hb dX4_pay_19 rfl rfl ?_
      obtain ⟨h9, hF⟩ := ite_some hF
      refine va_iald (n := 4) (f := (o 3)) hx hb hK hP _ 0 (gO (x := x) (r := 3) (o := o) (f := (o 3)) hk (by decide) rfl) rfl (vp_inb h9) dX4_pay_20 ?_
      refine lv_iload_n hx hb dX4_pay_21 rfl (lv_at hl 3 rfl) ?_
      refine lv_isub hx hb dX4_pay_22 ?_
      obtain ⟨h10, hF⟩ := ite_some hF
      refine iast' (n := 4) (f := (o 3)) (ws' := (cW cy ad en (va_up x k (va_up o 3 (upd (o 3) (p1.toNatClampNeg) (((o 3) p1.toNatClampNeg) - p3)))))) hx hb hK hP hD hS (gO (x := x) (r := 3) (o := o) (f := (o 3)) hk (by decide) rfl) (t0 := 0) rfl (vp_inb h10) dX4_pay_23 (sO (x := x) (r := 3) (o := o) (g := (upd (o 3) (p1.toNatClampNeg) (((o 3) p1.toNatClampNeg) - p3))) hk (by decide)) (fun H locs hP hD hS => ?_)
      refine lv_aload_n hx hb dX4_pay_24 rfl (lv_at hl 0 rfl) ?_
      refine get' (ci := 6) (fs := oF (ad k) (o 0)) (v := .ref (ad k 3)) hx hb hw inWX4 hown hK hP (gO (x := x) (r := 0) (o := (va_up o 3 (upd (o 3) (p1.toNatClampNeg) (((o 3) p1.toNatClampNeg) - p3)))) (f := (o 0)) hk (by decide) ((va_up_ne _ _ (by decide)).trans rfl)) rfl 3 (by decide) k_122 rfl rfl dX4_pay_25 ?_
      refine lv_iload_n hx hb dX4_pay_28 rfl (lv_at hl 2 rfl) ?_
      refine lv_dup2_11 hx hb dX4_pay_29 rfl rfl ?_
      obtain ⟨h11, hF⟩ := ite_some hF
      refine va_iald (n := 4) (f := (upd (o 3) (p1.toNatClampNeg) (((o 3) p1.toNatClampNeg) - p3))) hx hb hK hP _ 0 (gO (x := x) (r := 3) (o := (va_up o 3 (upd (o 3) (p1.toNatClampNeg) (((o 3) p1.toNatClampNeg) - p3)))) (f := (upd (o 3) (p1.toNatClampNeg) (((o 3) p1.toNatClampNeg) - p3))) hk (by decide) (va_up_self _ _ _)) rfl (vp_inb h11) dX4_pay_30 ?_
      refine lv_iload_n hx hb dX4_pay_31 rfl (lv_at hl 3 rfl) ?_
      refine lv_iadd hx hb dX4_pay_32 ?_
      obtain ⟨h12, hF⟩ := ite_some hF
      refine iast' (n := 4) (f := (upd (o 3) (p1.toNatClampNeg) (((o 3) p1.toNatClampNeg) - p3))) (ws' := (cW cy ad en (va_up x k (va_up o 3 (upd (upd (o 3) (p1.toNatClampNeg) (((o 3) p1.toNatClampNeg) - p3)) (p2.toNatClampNeg) (((upd (o 3) (p1.toNatClampNeg) (((o 3) p1.toNatClampNeg) - p3)) p2.toNatClampNeg) + p3)))))) hx hb hK hP hD hS (gO (x := x) (r := 3) (o := (va_up o 3 (upd (o 3) (p1.toNatClampNeg) (((o 3) p1.toNatClampNeg) - p3)))) (f := (upd (o 3) (p1.toNatClampNeg) (((o 3) p1.toNatClampNeg) - p3))) hk (by decide) (va_up_self _ _ _)) (t0 := 0) rfl (vp_inb h12) dX4_pay_33 ((sO (x := x) (r := 3) (o := (va_up o 3 (upd (o 3) (p1.toNatClampNeg) (((o 3) p1.toNatClampNeg) - p3)))) (g := (upd (upd (o 3) (p1.toNatClampNeg) (((o 3) p1.toNatClampNeg) - p3)) (p2.toNatClampNeg) (((upd (o 3) (p1.toNatClampNeg) (((o 3) p1.toNatClampNeg) - p3)) p2.toNatClampNeg) + p3))) hk (by decide)).trans (congrArg (fun z => cW cy ad en (va_up x k z)) (up_up _ _ _ _))) (fun H locs hP hD hS => ?_)
      cases hF
      exact hret _ _ _ _ _ hP hD hS rfl dX4_pay_34
def D_X4_hasCloud (o : Nat → Nat → Int32) (p1 : Int32) : Int32 := (D_X9_isWithin p1 ((o 0) 1))
abbrev rm_X4_hasCloud : Room := { frames := 1, cells := 0, slots := 0, locals := 21 }
set_option maxHeartbeats 4000000 in
set_option maxRecDepth 100000 in
theorem met_X4_hasCloud (l : Launch) (D : va_G) (cy : Nat → ClassId) (sz : Nat) (ad : Nat → Nat → Nat) (en : Nat → Nat) (x : Mem) (k : Nat) (hk : k < 12) (o : Nat → Nat → Int32) (p1 : Int32)  (r : Int32) (hF : D_X4_hasCloud o p1 = r) : MI l yX4_hasCloud cX4_hasCloud 2 (some .boolean) rm_X4_hasCloud D cy (cW cy ad en (va_up x k o)) sz (fun _ => True) [.ref (ad k 0), .int p1] r (cW cy ad en (va_up x k o)) := by
  refine MZ.of (by decide +kernel) (Nat.le_of_ble_eq_true rfl) ?_
  intro p e s m args below meth c A ls Q hAt _ hP hD hA hS hl hret
  obtain ⟨hx, hb, hr, hml, hown, hw, hlk, hK, hN⟩ := hAt
  have hown : s.vm.findClass "CloudDeeds$Office" = some m.cls := hown
  have hl : lv_has ls 2 [(0, .ref (ad k 0)), (1, .int p1)] := hl
  refine lv_iload_n hx hb dX4_hasCloud_0 rfl (lv_at hl 1 rfl) ?_
  refine lv_aload_n hx hb dX4_hasCloud_1 rfl (lv_at hl 0 rfl) ?_
  refine get' (ci := 6) (fs := oF (ad k) (o 0)) (v := .int ((o 0) 1)) hx hb hw inWX4 hown hK hP (gO (x := x) (r := 0) (o := o) (f := (o 0)) hk (by decide) rfl) rfl 1 (by decide) k_119 rfl rfl dX4_hasCloud_2 ?_
  refine cSN_i (As := [.int p1, .int ((o 0) 1)]) (rest := []) hx hb hml hown hw hK hN hA hl.1 hP hD hS n_323 k_324 k_21 k_325 (met_X9_isWithin l D cy _ (cW cy ad en (va_up x k o)) p1 ((o 0) 1) (D_X9_isWithin p1 ((o 0) 1)) rfl) (fun _ _ _ => trivial) Xok_T ⟨rfl, rfl⟩ (n := 2) (by decide +kernel) rfl ⟨Nat.le_of_ble_eq_true rfl, Nat.le_of_ble_eq_true rfl⟩ ⟨Nat.le_of_ble_eq_true rfl, Nat.le_of_ble_eq_true rfl⟩ (Nat.le_of_ble_eq_true rfl) rfl dX4_hasCloud_5 (fun H locs hP hD hS => ?_)
  cases hF
  exact hret _ _ _ _ _ _ hP hD hS rfl rfl (nar_z (bz_X9_isWithin ..)) dX4_hasCloud_8
theorem bz_X4_hasCloud (o : Nat → Nat → Int32) (p1 : Int32) : (D_X4_hasCloud o p1) = 0 ∨ (D_X4_hasCloud o p1) = 1 := by
  unfold D_X4_hasCloud
  repeat' split
  all_goals first | exact Or.inl rfl | exact Or.inr rfl | assumption | exact bz_X9_isWithin ..
def D_X4_purseOf (o : Nat → Nat → Int32) (p1 : Int32) : Option (Int32) := if (D_X9_isOwner p1) = 0 then (some 0) else (if inb p1 4 then (some ((o 3) p1.toNatClampNeg)) else none)
abbrev rm_X4_purseOf : Room := { frames := 1, cells := 0, slots := 0, locals := 20 }
set_option maxHeartbeats 4000000 in
set_option maxRecDepth 100000 in
theorem met_X4_purseOf (l : Launch) (D : va_G) (cy : Nat → ClassId) (sz : Nat) (ad : Nat → Nat → Nat) (en : Nat → Nat) (x : Mem) (k : Nat) (hk : k < 12) (o : Nat → Nat → Int32) (p1 : Int32)  (r : Int32) (hF : D_X4_purseOf o p1 = some r) : MI l yX4_purseOf cX4_purseOf 2 (some .int) rm_X4_purseOf D cy (cW cy ad en (va_up x k o)) sz (fun _ => True) [.ref (ad k 0), .int p1] r (cW cy ad en (va_up x k o)) := by
  refine MI.of (by decide +kernel) (Nat.le_of_ble_eq_true rfl) ?_
  intro p e s m args below meth c A ls Q hAt _ hP hD hA hS hl hret
  obtain ⟨hx, hb, hr, hml, hown, hw, hlk, hK, hN⟩ := hAt
  have hown : s.vm.findClass "CloudDeeds$Office" = some m.cls := hown
  have hl : lv_has ls 2 [(0, .ref (ad k 0)), (1, .int p1)] := hl
  refine lv_iload_n hx hb dX4_purseOf_0 rfl (lv_at hl 1 rfl) ?_
  refine cSN_i (As := [.int p1]) (rest := []) hx hb hml hown hw hK hN hA hl.1 hP hD hS n_444 k_432 k_21 k_433 (met_X9_isOwner l D cy _ (cW cy ad en (va_up x k o)) p1 (D_X9_isOwner p1) rfl) (fun _ _ _ => trivial) Xok_T ⟨rfl, rfl⟩ (n := 1) (by decide +kernel) rfl ⟨Nat.le_of_ble_eq_true rfl, Nat.le_of_ble_eq_true rfl⟩ ⟨Nat.le_of_ble_eq_true rfl, Nat.le_of_ble_eq_true rfl⟩ (Nat.le_of_ble_eq_true rfl) rfl dX4_purseOf_1 (fun H locs hP hD hS => ?_)
  refine lv_if_eq (tgt := 16) hx hb dX4_purseOf_4 (by decide) (fun h4 => ?_) (fun h4 => ?_)
  · replace hF := (if_pos h4).symm.trans hF
    refine lv_iconst (v := 0) hx hb dX4_purseOf_16 (by decide) ?_
    cases hF
    exact hret _ _ _ _ _ _ hP hD hS rfl rfl dX4_purseOf_17
  · replace hF := (if_neg h4).symm.trans hF
    refine lv_aload_n hx hb dX4_purseOf_7 rfl (lv_at hl 0 rfl) ?_
    refine get' (ci := 6) (fs := oF (ad k) (o 0)) (v := .ref (ad k 3)) hx hb hw inWX4 hown hK hP (gO (x := x) (r := 0) (o := o) (f := (o 0)) hk (by decide) rfl) rfl 3 (by decide) k_122 rfl rfl dX4_purseOf_8 ?_
    refine lv_iload_n hx hb dX4_purseOf_11 rfl (lv_at hl 1 rfl) ?_
    obtain ⟨h5, hF⟩ := ite_some hF
    refine va_iald (n := 4) (f := (o 3)) hx hb hK hP _ 0 (gO (x := x) (r := 3) (o := o) (f := (o 3)) hk (by decide) rfl) rfl (vp_inb h5) dX4_purseOf_12 ?_
    refine lv_goto (tgt := 17) hx hb dX4_purseOf_13 (by decide) ?_
    cases hF
    exact hret _ _ _ _ _ _ hP hD hS rfl rfl dX4_purseOf_17
def D_X4_ownerBelow (o : Nat → Nat → Int32) (p1 : Nat) : Option (Int32) := if (D_X9_isVineyard ((o (p1 + 7)) 0)) = 0 then (some (-1)) else (if inb ((o (p1 + 7)) 0) 6 then (some ((o 2) ((o (p1 + 7)) 0).toNatClampNeg)) else none)
abbrev rm_X4_ownerBelow : Room := { frames := 1, cells := 0, slots := 0, locals := 20 }
set_option maxHeartbeats 4000000 in
set_option maxRecDepth 100000 in
theorem met_X4_ownerBelow (l : Launch) (D : va_G) (cy : Nat → ClassId) (sz : Nat) (ad : Nat → Nat → Nat) (en : Nat → Nat) (x : Mem) (k : Nat) (hk : k < 12) (o : Nat → Nat → Int32) (p1 : Nat) (hp1 : p1 + 7 < 13)  (r : Int32) (hF : D_X4_ownerBelow o p1 = some r) : MI l yX4_ownerBelow cX4_ownerBelow 2 (some .int) rm_X4_ownerBelow D cy (cW cy ad en (va_up x k o)) sz (fun _ => True) [.ref (ad k 0), .ref (ad k (p1 + 7))] r (cW cy ad en (va_up x k o)) := by
  refine MI.of (by decide +kernel) (Nat.le_of_ble_eq_true rfl) ?_
  intro p e s m args below meth c A ls Q hAt _ hP hD hA hS hl hret
  obtain ⟨hx, hb, hr, hml, hown, hw, hlk, hK, hN⟩ := hAt
  have hown : s.vm.findClass "CloudDeeds$Office" = some m.cls := hown
  have hl : lv_has ls 2 [(0, .ref (ad k 0)), (1, .ref (ad k (p1 + 7)))] := hl
  refine lv_aload_n hx hb dX4_ownerBelow_0 rfl (lv_at hl 1 rfl) ?_
  refine getN' (ci := 4) (fs := cF (o (p1 + 7))) (v := .int ((o (p1 + 7)) 0)) hx hb hw hN inWX1 hown hK hP (gO (x := x) (r := (p1 + 7)) (o := o) (f := (o (p1 + 7))) hk hp1 rfl) rfl 0 (by decide) n_91 rfl rfl dX4_ownerBelow_1 ?_
  refine cSN_i (As := [.int ((o (p1 + 7)) 0)]) (rest := []) hx hb hml hown hw hK hN hA hl.1 hP hD hS n_463 k_455 k_21 k_456 (met_X9_isVineyard l D cy _ (cW cy ad en (va_up x k o)) ((o (p1 + 7)) 0) (D_X9_isVineyard ((o (p1 + 7)) 0)) rfl) (fun _ _ _ => trivial) Xok_T ⟨rfl, rfl⟩ (n := 1) (by decide +kernel) rfl ⟨Nat.le_of_ble_eq_true rfl, Nat.le_of_ble_eq_true rfl⟩ ⟨Nat.le_of_ble_eq_true rfl, Nat.le_of_ble_eq_true rfl⟩ (Nat.le_of_ble_eq_true rfl) rfl dX4_ownerBelow_4 (fun H locs hP hD hS => ?_)
  refine lv_if_eq (tgt := 22) hx hb dX4_ownerBelow_7 (by decide) (fun h4 => ?_) (fun h4 => ?_)
  · replace hF := (if_pos h4).symm.trans hF
    refine lv_iconst (v := (-1)) hx hb dX4_ownerBelow_22 (by decide) ?_
    cases hF
    exact hret _ _ _ _ _ _ hP hD hS rfl rfl dX4_ownerBelow_23
  · replace hF := (if_neg h4).symm.trans hF
    refine lv_aload_n hx hb dX4_ownerBelow_10 rfl (lv_at hl 0 rfl) ?_
    refine get' (ci := 6) (fs := oF (ad k) (o 0)) (v := .ref (ad k 2)) hx hb hw inWX4 hown hK hP (gO (x := x) (r := 0) (o := o) (f := (o 0)) hk (by decide) rfl) rfl 2 (by decide) k_121 rfl rfl dX4_ownerBelow_11 ?_
    refine lv_aload_n hx hb dX4_ownerBelow_14 rfl (lv_at hl 1 rfl) ?_
    refine getN' (ci := 4) (fs := cF (o (p1 + 7))) (v := .int ((o (p1 + 7)) 0)) hx hb hw hN inWX1 hown hK hP (gO (x := x) (r := (p1 + 7)) (o := o) (f := (o (p1 + 7))) hk hp1 rfl) rfl 0 (by decide) n_91 rfl rfl dX4_ownerBelow_15 ?_
    obtain ⟨h5, hF⟩ := ite_some hF
    refine va_iald (n := 6) (f := (o 2)) hx hb hK hP _ 0 (gO (x := x) (r := 2) (o := o) (f := (o 2)) hk (by decide) rfl) rfl (vp_inb h5) dX4_ownerBelow_18 ?_
    refine lv_goto (tgt := 23) hx hb dX4_ownerBelow_19 (by decide) ?_
    cases hF
    exact hret _ _ _ _ _ _ hP hD hS rfl rfl dX4_ownerBelow_23
def L_X4_cloudsCounted_4 : Nat → (Nat → Nat → Int32) → (Int32) → (Int32) → (Int32) → Option (Int32)
  | 0, _, _, _, _ => none
  | n4 + 1, o, p1, i3h4, i2h4 => if ((o 0) 1) ≤ i3h4 then (some i2h4) else (if inb i3h4 6 then (if ((o (i3h4.toNatClampNeg + 7)) 3) = p1 then (L_X4_cloudsCounted_4 n4 o p1 (i3h4 + 1) (i2h4 + 1)) else (L_X4_cloudsCounted_4 n4 o p1 (i3h4 + 1) i2h4)) else none)
def D_X4_cloudsCounted (o : Nat → Nat → Int32) (p1 : Int32) : Option (Int32) := L_X4_cloudsCounted_4 200 o p1 0 0
abbrev rm_X4_cloudsCounted : Room := { frames := 0, cells := 0, slots := 0, locals := 0 }
set_option maxHeartbeats 4000000 in
set_option maxRecDepth 100000 in
theorem met_X4_cloudsCounted (l : Launch) (D : va_G) (cy : Nat → ClassId) (sz : Nat) (ad : Nat → Nat → Nat) (en : Nat → Nat) (x : Mem) (k : Nat) (hk : k < 12) (o : Nat → Nat → Int32) (p1 : Int32)  (r : Int32) (hF : D_X4_cloudsCounted o p1 = some r) : MI l yX4_cloudsCounted cX4_cloudsCounted 4 (some .int) rm_X4_cloudsCounted D cy (cW cy ad en (va_up x k o)) sz (fun _ => True) [.ref (ad k 0), .int p1] r (cW cy ad en (va_up x k o)) := by
  refine MI.of (by decide +kernel) (Nat.le_of_ble_eq_true rfl) ?_
  intro p e s m args below meth c A ls Q hAt _ hP hD hA hS hl hret
  obtain ⟨hx, hb, hr, hml, hown, hw, hlk, hK, hN⟩ := hAt
  have hown : s.vm.findClass "CloudDeeds$Office" = some m.cls := hown
  have hl : lv_has ls 4 [(0, .ref (ad k 0)), (1, .int p1)] := hl
  refine lv_iconst (v := 0) hx hb dX4_cloudsCounted_0 (by decide) ?_
  refine lv_istore_n (lv' := [(2, .int 0), (0, .ref (ad k 0)), (1, .int p1)]) hx hb dX4_cloudsCounted_1 rfl hl (by decide) rfl (fun ls hl => ?_)
  refine lv_iconst (v := 0) hx hb dX4_cloudsCounted_2 (by decide) ?_
  refine lv_istore_n (lv' := [(3, .int 0), (2, .int 0), (0, .ref (ad k 0)), (1, .int p1)]) hx hb dX4_cloudsCounted_3 rfl hl (by decide) rfl (fun ls hl => ?_)
  have loop4 : ∀ (n : Nat) (i3h4 : Int32) (i2h4 : Int32) (H : Heap) (locs : List Loc) (ls : Array Slot), L_X4_cloudsCounted_4 n o p1 i3h4 i2h4 = some r → va_P D vwCl (cW cy ad en (va_up x k o)) H → va_D A (cW cy ad en (va_up x k o)) → va_S A s.heap H locs → lv_has ls 4 [(3, .int i3h4), (2, .int i2h4), (0, .ref (ad k 0)), (1, .int p1)] → W p l e rm_X4_cloudsCounted s m args below meth c H locs 0 0 Q (F0 m 4 ls []) := by
    intro n
    induction n with
    | zero => intro i3h4 i2h4 H locs ls hF _ _ _ _; exact absurd hF (by simp [L_X4_cloudsCounted_4])
    | succ n4 ih4 =>
      intro i3h4 i2h4 H locs ls hF hP hD hS hl
      refine lv_iload_n hx hb dX4_cloudsCounted_4 rfl (lv_at hl 0 rfl) ?_
      refine lv_aload_n hx hb dX4_cloudsCounted_5 rfl (lv_at hl 2 rfl) ?_
      refine get' (ci := 6) (fs := oF (ad k) (o 0)) (v := .int ((o 0) 1)) hx hb hw inWX4 hown hK hP (gO (x := x) (r := 0) (o := o) (f := (o 0)) hk (by decide) rfl) rfl 1 (by decide) k_119 rfl rfl dX4_cloudsCounted_6 ?_
      refine lv_icmp_ge (tgt := 34) hx hb dX4_cloudsCounted_9 (by decide) (fun h1 => ?_) (fun h1 => ?_)
      · replace hF := (if_pos h1).symm.trans hF
        refine lv_iload_n hx hb dX4_cloudsCounted_34 rfl (lv_at hl 1 rfl) ?_
        cases hF
        exact hret _ _ _ _ _ _ hP hD hS rfl rfl dX4_cloudsCounted_35
      · replace hF := (if_neg h1).symm.trans hF
        refine lv_aload_n hx hb dX4_cloudsCounted_12 rfl (lv_at hl 2 rfl) ?_
        refine get' (ci := 6) (fs := oF (ad k) (o 0)) (v := .ref (ad k 1)) hx hb hw inWX4 hown hK hP (gO (x := x) (r := 0) (o := o) (f := (o 0)) hk (by decide) rfl) rfl 0 (by decide) k_117 rfl rfl dX4_cloudsCounted_13 ?_
        refine lv_iload_n hx hb dX4_cloudsCounted_16 rfl (lv_at hl 0 rfl) ?_
        obtain ⟨h2, hF⟩ := ite_some hF
        have hr3 : (i3h4.toNatClampNeg + 7) < 13 := Nat.add_lt_add_right (inb_lt h2) 7
        refine aald' (n := 6) (g := (ad k (i3h4.toNatClampNeg + 7))) hx hb hK hP (gO (x := x) (r := 1) (o := o) (f := (o 1)) hk (by decide) rfl) (t0 := 3) rfl (vp_inb h2) rfl dX4_cloudsCounted_17 ?_
        refine getN' (ci := 4) (fs := cF (o (i3h4.toNatClampNeg + 7))) (v := .int ((o (i3h4.toNatClampNeg + 7)) 3)) hx hb hw hN inWX1 hown hK hP (gO (x := x) (r := (i3h4.toNatClampNeg + 7)) (o := o) (f := (o (i3h4.toNatClampNeg + 7))) hk hr3 rfl) rfl 3 (by decide) n_97 rfl rfl dX4_cloudsCounted_18 ?_
        refine lv_iload_n hx hb dX4_cloudsCounted_21 rfl (lv_at hl 3 rfl) ?_
        refine lv_icmp_ne (tgt := 28) hx hb dX4_cloudsCounted_22 (by decide) (fun h4 => ?_) (fun h4 => ?_)
        · replace hF := (if_neg h4).symm.trans hF
          refine lv_iinc (v := (i3h4 + 1)) (lv' := [(3, .int (i3h4 + 1)), (2, .int i2h4), (0, .ref (ad k 0)), (1, .int p1)]) hx hb dX4_cloudsCounted_28 hl (k := 0) rfl rfl (by decide) rfl (fun ls hl => ?_)
          refine lv_goto (tgt := 4) hx hb dX4_cloudsCounted_31 (by decide) ?_
          exact ih4 (i3h4 + 1) i2h4  _ _ _ hF hP hD hS (lv_sub hl [0, 1, 2, 3] rfl)
        · replace hF := (if_pos h4).symm.trans hF
          refine lv_iinc (v := (i2h4 + 1)) (lv' := [(2, .int (i2h4 + 1)), (3, .int i3h4), (0, .ref (ad k 0)), (1, .int p1)]) hx hb dX4_cloudsCounted_25 hl (k := 1) rfl rfl (by decide) rfl (fun ls hl => ?_)
          refine lv_iinc (v := (i3h4 + 1)) (lv' := [(3, .int (i3h4 + 1)), (2, .int (i2h4 + 1)), (0, .ref (ad k 0)), (1, .int p1)]) hx hb dX4_cloudsCounted_28 hl (k := 1) rfl rfl (by decide) rfl (fun ls hl => ?_)
          refine lv_goto (tgt := 4) hx hb dX4_cloudsCounted_31 (by decide) ?_
          exact ih4 (i3h4 + 1) (i2h4 + 1)  _ _ _ hF hP hD hS (lv_sub hl [0, 1, 2, 3] rfl)
  exact loop4 200 0 0  _ _ _ hF hP hD hS (lv_sub hl [0, 1, 2, 3] rfl)
def L_X4_areWindsAlike_12 : Nat → (Nat → Nat → Int32) → (Int32) → (Int32) → (Int32 → Option (Int32)) → Option (Int32)
  | 0, _, _, _, _ => none
  | n12 + 1, o, i1h2, i2h12, kont12 => if 6 ≤ i2h12 then (kont12 i2h12) else (if inb i1h2 6 then ((D_X1_windByTrying (o (i1h2.toNatClampNeg + 7)) i2h12).bind (fun r5 => if inb i1h2 6 then ((D_X1_windByDistance (o (i1h2.toNatClampNeg + 7)) i2h12).bind (fun r10 => if r5 = r10 then (L_X4_areWindsAlike_12 n12 o i1h2 (i2h12 + 1) kont12) else (some 0))) else none)) else none)
def L_X4_areWindsAlike_2 : Nat → (Nat → Nat → Int32) → (Int32) → Option (Int32)
  | 0, _, _ => none
  | n2 + 1, o, i1h2 => if ((o 0) 1) ≤ i1h2 then (some 1) else (L_X4_areWindsAlike_12 200 o i1h2 0 (fun i2h12 => L_X4_areWindsAlike_2 n2 o (i1h2 + 1)))
def D_X4_areWindsAlike (o : Nat → Nat → Int32) : Option (Int32) := L_X4_areWindsAlike_2 200 o 0
abbrev rm_X4_areWindsAlike : Room := { frames := 3, cells := 0, slots := 0, locals := 65 }
set_option maxHeartbeats 4000000 in
set_option maxRecDepth 100000 in
theorem met_X4_areWindsAlike (l : Launch) (D : va_G) (cy : Nat → ClassId) (sz : Nat) (ad : Nat → Nat → Nat) (en : Nat → Nat) (x : Mem) (k : Nat) (hk : k < 12) (o : Nat → Nat → Int32)  (r : Int32) (hF : D_X4_areWindsAlike o = some r) : MI l yX4_areWindsAlike cX4_areWindsAlike 3 (some .boolean) rm_X4_areWindsAlike D cy (cW cy ad en (va_up x k o)) sz (fun _ => True) [.ref (ad k 0)] r (cW cy ad en (va_up x k o)) := by
  refine MZ.of (by decide +kernel) (Nat.le_of_ble_eq_true rfl) ?_
  intro p e s m args below meth c A ls Q hAt _ hP hD hA hS hl hret
  obtain ⟨hx, hb, hr, hml, hown, hw, hlk, hK, hN⟩ := hAt
  have hown : s.vm.findClass "CloudDeeds$Office" = some m.cls := hown
  have hl : lv_has ls 3 [(0, .ref (ad k 0))] := hl
  refine lv_iconst (v := 0) hx hb dX4_areWindsAlike_0 (by decide) ?_
  refine lv_istore_n (lv' := [(1, .int 0), (0, .ref (ad k 0))]) hx hb dX4_areWindsAlike_1 rfl hl (by decide) rfl (fun ls hl => ?_)
  have loop2 : ∀ (n : Nat) (i1h2 : Int32) (H : Heap) (locs : List Loc) (ls : Array Slot), L_X4_areWindsAlike_2 n o i1h2 = some r → va_P D vwCl (cW cy ad en (va_up x k o)) H → va_D A (cW cy ad en (va_up x k o)) → va_S A s.heap H locs → lv_has ls 3 [(1, .int i1h2), (0, .ref (ad k 0))] → W p l e rm_X4_areWindsAlike s m args below meth c H locs 0 0 Q (F0 m 2 ls []) := by
    intro n
    induction n with
    | zero => intro i1h2 H locs ls hF _ _ _ _; exact absurd hF (by simp [L_X4_areWindsAlike_2])
    | succ n2 ih2 =>
      intro i1h2 H locs ls hF hP hD hS hl
      refine lv_iload_n hx hb dX4_areWindsAlike_2 rfl (lv_at hl 0 rfl) ?_
      refine lv_aload_n hx hb dX4_areWindsAlike_3 rfl (lv_at hl 1 rfl) ?_
      refine get' (ci := 6) (fs := oF (ad k) (o 0)) (v := .int ((o 0) 1)) hx hb hw inWX4 hown hK hP (gO (x := x) (r := 0) (o := o) (f := (o 0)) hk (by decide) rfl) rfl 1 (by decide) k_119 rfl rfl dX4_areWindsAlike_4 ?_
      refine lv_icmp_ge (tgt := 55) hx hb dX4_areWindsAlike_7 (by decide) (fun h1 => ?_) (fun h1 => ?_)
      · replace hF := (if_pos h1).symm.trans hF
        refine lv_iconst (v := 1) hx hb dX4_areWindsAlike_55 (by decide) ?_
        cases hF
        exact hret _ _ _ _ _ _ hP hD hS rfl rfl rfl dX4_areWindsAlike_56
      · replace hF := (if_neg h1).symm.trans hF
        refine lv_iconst (v := 0) hx hb dX4_areWindsAlike_10 (by decide) ?_
        refine lv_istore_n (lv' := [(2, .int 0), (1, .int i1h2), (0, .ref (ad k 0))]) hx hb dX4_areWindsAlike_11 rfl hl (by decide) rfl (fun ls hl => ?_)
        have kont12 : ∀ (i2h12 : Int32) (H : Heap) (locs : List Loc) (ls : Array Slot), (L_X4_areWindsAlike_2 n2 o (i1h2 + 1)) = some r → va_P D vwCl (cW cy ad en (va_up x k o)) H → va_D A (cW cy ad en (va_up x k o)) → va_S A s.heap H locs → lv_has ls 3 [(2, .int i2h12), (1, .int i1h2), (0, .ref (ad k 0))] → W p l e rm_X4_areWindsAlike s m args below meth c H locs 0 0 Q (F0 m 49 ls []) := by
          intro i2h12 H locs ls hF hP hD hS hl
          refine lv_iinc (v := (i1h2 + 1)) (lv' := [(1, .int (i1h2 + 1)), (2, .int i2h12), (0, .ref (ad k 0))]) hx hb dX4_areWindsAlike_49 hl (k := 1) rfl rfl (by decide) rfl (fun ls hl => ?_)
          refine lv_goto (tgt := 2) hx hb dX4_areWindsAlike_52 (by decide) ?_
          exact ih2 (i1h2 + 1)  _ _ _ hF hP hD hS (lv_sub hl [0, 2] rfl)
        have loop12 : ∀ (n : Nat) (i2h12 : Int32) (H : Heap) (locs : List Loc) (ls : Array Slot), L_X4_areWindsAlike_12 n o i1h2 i2h12 (fun i2h12 => L_X4_areWindsAlike_2 n2 o (i1h2 + 1)) = some r → va_P D vwCl (cW cy ad en (va_up x k o)) H → va_D A (cW cy ad en (va_up x k o)) → va_S A s.heap H locs → lv_has ls 3 [(2, .int i2h12), (1, .int i1h2), (0, .ref (ad k 0))] → W p l e rm_X4_areWindsAlike s m args below meth c H locs 0 0 Q (F0 m 12 ls []) := by
          intro n
          induction n with
          | zero => intro i2h12 H locs ls hF _ _ _ _; exact absurd hF (by simp [L_X4_areWindsAlike_12])
          | succ n12 ih12 =>
            intro i2h12 H locs ls hF hP hD hS hl
            refine lv_iload_n hx hb dX4_areWindsAlike_12 rfl (lv_at hl 0 rfl) ?_
            refine lv_bipush (v := 6) hx hb dX4_areWindsAlike_13 (by decide) ?_
            refine lv_icmp_ge (tgt := 49) hx hb dX4_areWindsAlike_15 (by decide) (fun h2 => ?_) (fun h2 => ?_)
            · replace hF := (if_pos h2).symm.trans hF
              exact kont12 i2h12 _ _ _ hF hP hD hS (lv_sub hl [0, 1, 2] rfl)
            · replace hF := (if_neg h2).symm.trans hF
              refine lv_aload_n hx hb dX4_areWindsAlike_18 rfl (lv_at hl 2 rfl) ?_
              refine get' (ci := 6) (fs := oF (ad k) (o 0)) (v := .ref (ad k 1)) hx hb hw inWX4 hown hK hP (gO (x := x) (r := 0) (o := o) (f := (o 0)) hk (by decide) rfl) rfl 0 (by decide) k_117 rfl rfl dX4_areWindsAlike_19 ?_
              refine lv_iload_n hx hb dX4_areWindsAlike_22 rfl (lv_at hl 1 rfl) ?_
              obtain ⟨h3, hF⟩ := ite_some hF
              have hr4 : (i1h2.toNatClampNeg + 7) < 13 := Nat.add_lt_add_right (inb_lt h3) 7
              refine aald' (n := 6) (g := (ad k (i1h2.toNatClampNeg + 7))) hx hb hK hP (gO (x := x) (r := 1) (o := o) (f := (o 1)) hk (by decide) rfl) (t0 := 3) rfl (vp_inb h3) rfl dX4_areWindsAlike_23 ?_
              refine lv_iload_n hx hb dX4_areWindsAlike_24 rfl (lv_at hl 0 rfl) ?_
              obtain ⟨r5, hc7, hF⟩ := bind_some hF
              try dsimp only at hF
              refine cV_i (As := [.int i2h12]) (rest := []) hx hb hml hown hw hK hN hA hl.1 hP hD hS k_916 k_487 k_488 k_24 k_489 (met_X1_windByTrying l D cy _ (cW cy ad en (va_up x k o)) (13 * k + (i1h2.toNatClampNeg + 7)) (ad k (i1h2.toNatClampNeg + 7)) (o (i1h2.toNatClampNeg + 7)) i2h12 (gO (x := x) (r := (i1h2.toNatClampNeg + 7)) (o := o) (f := (o (i1h2.toNatClampNeg + 7))) hk hr4 rfl) r5 hc7) (fun _ _ _ => trivial) Xok_T (gO (x := x) (r := (i1h2.toNatClampNeg + 7)) (o := o) (f := (o (i1h2.toNatClampNeg + 7))) hk hr4 rfl) rfl ⟨rfl, rfl⟩ (n := 1) (by decide +kernel) rfl ⟨Nat.le_of_ble_eq_true rfl, Nat.le_of_ble_eq_true rfl⟩ ⟨Nat.le_of_ble_eq_true rfl, Nat.le_of_ble_eq_true rfl⟩ (Nat.le_of_ble_eq_true rfl) rfl dX4_areWindsAlike_25 (fun H locs hP hD hS => ?_)
              refine lv_aload_n hx hb dX4_areWindsAlike_28 rfl (lv_at hl 2 rfl) ?_
              refine get' (ci := 6) (fs := oF (ad k) (o 0)) (v := .ref (ad k 1)) hx hb hw inWX4 hown hK hP (gO (x := x) (r := 0) (o := o) (f := (o 0)) hk (by decide) rfl) rfl 0 (by decide) k_117 rfl rfl dX4_areWindsAlike_29 ?_
              refine lv_iload_n hx hb dX4_areWindsAlike_32 rfl (lv_at hl 1 rfl) ?_
              obtain ⟨h8, hF⟩ := ite_some hF
              have hr9 : (i1h2.toNatClampNeg + 7) < 13 := Nat.add_lt_add_right (inb_lt h8) 7
              refine aald' (n := 6) (g := (ad k (i1h2.toNatClampNeg + 7))) hx hb hK hP (gO (x := x) (r := 1) (o := o) (f := (o 1)) hk (by decide) rfl) (t0 := 3) rfl (vp_inb h8) rfl dX4_areWindsAlike_33 ?_
              refine lv_iload_n hx hb dX4_areWindsAlike_34 rfl (lv_at hl 0 rfl) ?_
              obtain ⟨r10, hc12, hF⟩ := bind_some hF
              try dsimp only at hF
              refine cV_i (As := [.int i2h12]) (rest := [.int r5]) hx hb hml hown hw hK hN hA hl.1 hP hD hS k_917 k_502 k_503 k_24 k_504 (met_X1_windByDistance l D cy _ (cW cy ad en (va_up x k o)) (13 * k + (i1h2.toNatClampNeg + 7)) (ad k (i1h2.toNatClampNeg + 7)) (o (i1h2.toNatClampNeg + 7)) i2h12 (gO (x := x) (r := (i1h2.toNatClampNeg + 7)) (o := o) (f := (o (i1h2.toNatClampNeg + 7))) hk hr9 rfl) r10 hc12) (fun _ _ _ => trivial) Xok_T (gO (x := x) (r := (i1h2.toNatClampNeg + 7)) (o := o) (f := (o (i1h2.toNatClampNeg + 7))) hk hr9 rfl) rfl ⟨rfl, rfl⟩ (n := 1) (by decide +kernel) rfl ⟨Nat.le_of_ble_eq_true rfl, Nat.le_of_ble_eq_true rfl⟩ ⟨Nat.le_of_ble_eq_true rfl, Nat.le_of_ble_eq_true rfl⟩ (Nat.le_of_ble_eq_true rfl) rfl dX4_areWindsAlike_35 (fun H locs hP hD hS => ?_)
              refine lv_icmp_eq (tgt := 43) hx hb dX4_areWindsAlike_38 (by decide) (fun h13 => ?_) (fun h13 => ?_)
              · replace hF := (if_pos h13).symm.trans hF
                refine lv_iinc (v := (i2h12 + 1)) (lv' := [(2, .int (i2h12 + 1)), (1, .int i1h2), (0, .ref (ad k 0))]) hx hb dX4_areWindsAlike_43 hl (k := 0) rfl rfl (by decide) rfl (fun ls hl => ?_)
                refine lv_goto (tgt := 12) hx hb dX4_areWindsAlike_46 (by decide) ?_
                exact ih12 (i2h12 + 1)  _ _ _ hF hP hD hS (lv_sub hl [0, 1, 2] rfl)
              · replace hF := (if_neg h13).symm.trans hF
                refine lv_iconst (v := 0) hx hb dX4_areWindsAlike_41 (by decide) ?_
                cases hF
                exact hret _ _ _ _ _ _ hP hD hS rfl rfl rfl dX4_areWindsAlike_42
        exact loop12 200 0  _ _ _ hF hP hD hS (lv_sub hl [0, 1, 2] rfl)
  exact loop2 200 0  _ _ _ hF hP hD hS (lv_sub hl [0, 1] rfl)
def L_X4_coinsCounted_4 : Nat → (Nat → Nat → Int32) → (Int32) → (Int32) → Option (Int32)
  | 0, _, _, _ => none
  | n4 + 1, o, i2h4, i1h4 => if 4 ≤ i2h4 then (some i1h4) else (if inb i2h4 4 then (L_X4_coinsCounted_4 n4 o (i2h4 + 1) (i1h4 + ((o 3) i2h4.toNatClampNeg))) else none)
def D_X4_coinsCounted (o : Nat → Nat → Int32) : Option (Int32) := L_X4_coinsCounted_4 200 o 0 0
abbrev rm_X4_coinsCounted : Room := { frames := 0, cells := 0, slots := 0, locals := 0 }
set_option maxHeartbeats 4000000 in
set_option maxRecDepth 100000 in
theorem met_X4_coinsCounted (l : Launch) (D : va_G) (cy : Nat → ClassId) (sz : Nat) (ad : Nat → Nat → Nat) (en : Nat → Nat) (x : Mem) (k : Nat) (hk : k < 12) (o : Nat → Nat → Int32)  (r : Int32) (hF : D_X4_coinsCounted o = some r) : MI l yX4_coinsCounted cX4_coinsCounted 3 (some .int) rm_X4_coinsCounted D cy (cW cy ad en (va_up x k o)) sz (fun _ => True) [.ref (ad k 0)] r (cW cy ad en (va_up x k o)) := by
  refine MI.of (by decide +kernel) (Nat.le_of_ble_eq_true rfl) ?_
  intro p e s m args below meth c A ls Q hAt _ hP hD hA hS hl hret
  obtain ⟨hx, hb, hr, hml, hown, hw, hlk, hK, hN⟩ := hAt
  have hown : s.vm.findClass "CloudDeeds$Office" = some m.cls := hown
  have hl : lv_has ls 3 [(0, .ref (ad k 0))] := hl
  refine lv_iconst (v := 0) hx hb dX4_coinsCounted_0 (by decide) ?_
  refine lv_istore_n (lv' := [(1, .int 0), (0, .ref (ad k 0))]) hx hb dX4_coinsCounted_1 rfl hl (by decide) rfl (fun ls hl => ?_)
  refine lv_iconst (v := 0) hx hb dX4_coinsCounted_2 (by decide) ?_
  refine lv_istore_n (lv' := [(2, .int 0), (1, .int 0), (0, .ref (ad k 0))]) hx hb dX4_coinsCounted_3 rfl hl (by decide) rfl (fun ls hl => ?_)
  have loop4 : ∀ (n : Nat) (i2h4 : Int32) (i1h4 : Int32) (H : Heap) (locs : List Loc) (ls : Array Slot), L_X4_coinsCounted_4 n o i2h4 i1h4 = some r → va_P D vwCl (cW cy ad en (va_up x k o)) H → va_D A (cW cy ad en (va_up x k o)) → va_S A s.heap H locs → lv_has ls 3 [(2, .int i2h4), (1, .int i1h4), (0, .ref (ad k 0))] → W p l e rm_X4_coinsCounted s m args below meth c H locs 0 0 Q (F0 m 4 ls []) := by
    intro n
    induction n with
    | zero => intro i2h4 i1h4 H locs ls hF _ _ _ _; exact absurd hF (by simp [L_X4_coinsCounted_4])
    | succ n4 ih4 =>
      intro i2h4 i1h4 H locs ls hF hP hD hS hl
      refine lv_iload_n hx hb dX4_coinsCounted_4 rfl (lv_at hl 0 rfl) ?_
      refine lv_iconst (v := 4) hx hb dX4_coinsCounted_5 (by decide) ?_
      refine lv_icmp_ge (tgt := 24) hx hb dX4_coinsCounted_6 (by decide) (fun h1 => ?_) (fun h1 => ?_)
      · replace hF := (if_pos h1).symm.trans hF
        refine lv_iload_n hx hb dX4_coinsCounted_24 rfl (lv_at hl 1 rfl) ?_
        cases hF
        exact hret _ _ _ _ _ _ hP hD hS rfl rfl dX4_coinsCounted_25
      · replace hF := (if_neg h1).symm.trans hF
        refine lv_iload_n hx hb dX4_coinsCounted_9 rfl (lv_at hl 1 rfl) ?_
        refine lv_aload_n hx hb dX4_coinsCounted_10 rfl (lv_at hl 2 rfl) ?_
        refine get' (ci := 6) (fs := oF (ad k) (o 0)) (v := .ref (ad k 3)) hx hb hw inWX4 hown hK hP (gO (x := x) (r := 0) (o := o) (f := (o 0)) hk (by decide) rfl) rfl 3 (by decide) k_122 rfl rfl dX4_coinsCounted_11 ?_
        refine lv_iload_n hx hb dX4_coinsCounted_14 rfl (lv_at hl 0 rfl) ?_
        obtain ⟨h2, hF⟩ := ite_some hF
        refine va_iald (n := 4) (f := (o 3)) hx hb hK hP _ 0 (gO (x := x) (r := 3) (o := o) (f := (o 3)) hk (by decide) rfl) rfl (vp_inb h2) dX4_coinsCounted_15 ?_
        refine lv_iadd hx hb dX4_coinsCounted_16 ?_
        refine lv_istore_n (lv' := [(1, .int (i1h4 + ((o 3) i2h4.toNatClampNeg))), (2, .int i2h4), (0, .ref (ad k 0))]) hx hb dX4_coinsCounted_17 rfl hl (by decide) rfl (fun ls hl => ?_)
        refine lv_iinc (v := (i2h4 + 1)) (lv' := [(2, .int (i2h4 + 1)), (1, .int (i1h4 + ((o 3) i2h4.toNatClampNeg))), (0, .ref (ad k 0))]) hx hb dX4_coinsCounted_18 hl (k := 1) rfl rfl (by decide) rfl (fun ls hl => ?_)
        refine lv_goto (tgt := 4) hx hb dX4_coinsCounted_21 (by decide) ?_
        exact ih4 (i2h4 + 1) (i1h4 + ((o 3) i2h4.toNatClampNeg))  _ _ _ hF hP hD hS (lv_sub hl [0, 1, 2] rfl)
  exact loop4 200 0 0  _ _ _ hF hP hD hS (lv_sub hl [0, 1, 2] rfl)
def D_X4_coinsByPayments (o : Nat → Nat → Int32) : Int32 := ((80 + ((o 0) 11)) - ((o 0) 10))
abbrev rm_X4_coinsByPayments : Room := { frames := 0, cells := 0, slots := 0, locals := 0 }
set_option maxHeartbeats 4000000 in
set_option maxRecDepth 100000 in
theorem met_X4_coinsByPayments (l : Launch) (D : va_G) (cy : Nat → ClassId) (sz : Nat) (ad : Nat → Nat → Nat) (en : Nat → Nat) (x : Mem) (k : Nat) (hk : k < 12) (o : Nat → Nat → Int32)  (r : Int32) (hF : D_X4_coinsByPayments o = r) : MI l yX4_coinsByPayments cX4_coinsByPayments 1 (some .int) rm_X4_coinsByPayments D cy (cW cy ad en (va_up x k o)) sz (fun _ => True) [.ref (ad k 0)] r (cW cy ad en (va_up x k o)) := by
  refine MI.of (by decide +kernel) (Nat.le_of_ble_eq_true rfl) ?_
  intro p e s m args below meth c A ls Q hAt _ hP hD hA hS hl hret
  obtain ⟨hx, hb, hr, hml, hown, hw, hlk, hK, hN⟩ := hAt
  have hown : s.vm.findClass "CloudDeeds$Office" = some m.cls := hown
  have hl : lv_has ls 1 [(0, .ref (ad k 0))] := hl
  refine lv_bipush (v := 80) hx hb dX4_coinsByPayments_0 (by decide) ?_
  refine lv_aload_n hx hb dX4_coinsByPayments_2 rfl (lv_at hl 0 rfl) ?_
  refine get' (ci := 6) (fs := oF (ad k) (o 0)) (v := .int ((o 0) 11)) hx hb hw inWX4 hown hK hP (gO (x := x) (r := 0) (o := o) (f := (o 0)) hk (by decide) rfl) rfl 11 (by decide) k_131 rfl rfl dX4_coinsByPayments_3 ?_
  refine lv_iadd hx hb dX4_coinsByPayments_6 ?_
  refine lv_aload_n hx hb dX4_coinsByPayments_7 rfl (lv_at hl 0 rfl) ?_
  refine get' (ci := 6) (fs := oF (ad k) (o 0)) (v := .int ((o 0) 10)) hx hb hw inWX4 hown hK hP (gO (x := x) (r := 0) (o := o) (f := (o 0)) hk (by decide) rfl) rfl 10 (by decide) k_130 rfl rfl dX4_coinsByPayments_8 ?_
  refine lv_isub hx hb dX4_coinsByPayments_11 ?_
  cases hF
  exact hret _ _ _ _ _ _ hP hD hS rfl rfl dX4_coinsByPayments_12
def L_X4_sizes_4 : Nat → (Nat → Nat → Int32) → (Int32) → (Int32) → Option (Int32)
  | 0, _, _, _ => none
  | n4 + 1, o, i2h4, i1h4 => if ((o 0) 1) ≤ i2h4 then (some i1h4) else (if inb i2h4 6 then (L_X4_sizes_4 n4 o (i2h4 + 1) (i1h4 + ((o (i2h4.toNatClampNeg + 7)) 2))) else none)
def D_X4_sizes (o : Nat → Nat → Int32) : Option (Int32) := L_X4_sizes_4 200 o 0 0
abbrev rm_X4_sizes : Room := { frames := 0, cells := 0, slots := 0, locals := 0 }
set_option maxHeartbeats 4000000 in
set_option maxRecDepth 100000 in
theorem met_X4_sizes (l : Launch) (D : va_G) (cy : Nat → ClassId) (sz : Nat) (ad : Nat → Nat → Nat) (en : Nat → Nat) (x : Mem) (k : Nat) (hk : k < 12) (o : Nat → Nat → Int32)  (r : Int32) (hF : D_X4_sizes o = some r) : MI l yX4_sizes cX4_sizes 3 (some .int) rm_X4_sizes D cy (cW cy ad en (va_up x k o)) sz (fun _ => True) [.ref (ad k 0)] r (cW cy ad en (va_up x k o)) := by
  refine MI.of (by decide +kernel) (Nat.le_of_ble_eq_true rfl) ?_
  intro p e s m args below meth c A ls Q hAt _ hP hD hA hS hl hret
  obtain ⟨hx, hb, hr, hml, hown, hw, hlk, hK, hN⟩ := hAt
  have hown : s.vm.findClass "CloudDeeds$Office" = some m.cls := hown
  have hl : lv_has ls 3 [(0, .ref (ad k 0))] := hl
  refine lv_iconst (v := 0) hx hb dX4_sizes_0 (by decide) ?_
  refine lv_istore_n (lv' := [(1, .int 0), (0, .ref (ad k 0))]) hx hb dX4_sizes_1 rfl hl (by decide) rfl (fun ls hl => ?_)
  refine lv_iconst (v := 0) hx hb dX4_sizes_2 (by decide) ?_
  refine lv_istore_n (lv' := [(2, .int 0), (1, .int 0), (0, .ref (ad k 0))]) hx hb dX4_sizes_3 rfl hl (by decide) rfl (fun ls hl => ?_)
  have loop4 : ∀ (n : Nat) (i2h4 : Int32) (i1h4 : Int32) (H : Heap) (locs : List Loc) (ls : Array Slot), L_X4_sizes_4 n o i2h4 i1h4 = some r → va_P D vwCl (cW cy ad en (va_up x k o)) H → va_D A (cW cy ad en (va_up x k o)) → va_S A s.heap H locs → lv_has ls 3 [(2, .int i2h4), (1, .int i1h4), (0, .ref (ad k 0))] → W p l e rm_X4_sizes s m args below meth c H locs 0 0 Q (F0 m 4 ls []) := by
    intro n
    induction n with
    | zero => intro i2h4 i1h4 H locs ls hF _ _ _ _; exact absurd hF (by simp [L_X4_sizes_4])
    | succ n4 ih4 =>
      intro i2h4 i1h4 H locs ls hF hP hD hS hl
      refine lv_iload_n hx hb dX4_sizes_4 rfl (lv_at hl 0 rfl) ?_
      refine lv_aload_n hx hb dX4_sizes_5 rfl (lv_at hl 2 rfl) ?_
      refine get' (ci := 6) (fs := oF (ad k) (o 0)) (v := .int ((o 0) 1)) hx hb hw inWX4 hown hK hP (gO (x := x) (r := 0) (o := o) (f := (o 0)) hk (by decide) rfl) rfl 1 (by decide) k_119 rfl rfl dX4_sizes_6 ?_
      refine lv_icmp_ge (tgt := 30) hx hb dX4_sizes_9 (by decide) (fun h1 => ?_) (fun h1 => ?_)
      · replace hF := (if_pos h1).symm.trans hF
        refine lv_iload_n hx hb dX4_sizes_30 rfl (lv_at hl 1 rfl) ?_
        cases hF
        exact hret _ _ _ _ _ _ hP hD hS rfl rfl dX4_sizes_31
      · replace hF := (if_neg h1).symm.trans hF
        refine lv_iload_n hx hb dX4_sizes_12 rfl (lv_at hl 1 rfl) ?_
        refine lv_aload_n hx hb dX4_sizes_13 rfl (lv_at hl 2 rfl) ?_
        refine get' (ci := 6) (fs := oF (ad k) (o 0)) (v := .ref (ad k 1)) hx hb hw inWX4 hown hK hP (gO (x := x) (r := 0) (o := o) (f := (o 0)) hk (by decide) rfl) rfl 0 (by decide) k_117 rfl rfl dX4_sizes_14 ?_
        refine lv_iload_n hx hb dX4_sizes_17 rfl (lv_at hl 0 rfl) ?_
        obtain ⟨h2, hF⟩ := ite_some hF
        have hr3 : (i2h4.toNatClampNeg + 7) < 13 := Nat.add_lt_add_right (inb_lt h2) 7
        refine aald' (n := 6) (g := (ad k (i2h4.toNatClampNeg + 7))) hx hb hK hP (gO (x := x) (r := 1) (o := o) (f := (o 1)) hk (by decide) rfl) (t0 := 3) rfl (vp_inb h2) rfl dX4_sizes_18 ?_
        refine getN' (ci := 4) (fs := cF (o (i2h4.toNatClampNeg + 7))) (v := .int ((o (i2h4.toNatClampNeg + 7)) 2)) hx hb hw hN inWX1 hown hK hP (gO (x := x) (r := (i2h4.toNatClampNeg + 7)) (o := o) (f := (o (i2h4.toNatClampNeg + 7))) hk hr3 rfl) rfl 2 (by decide) n_94 rfl rfl dX4_sizes_19 ?_
        refine lv_iadd hx hb dX4_sizes_22 ?_
        refine lv_istore_n (lv' := [(1, .int (i1h4 + ((o (i2h4.toNatClampNeg + 7)) 2))), (2, .int i2h4), (0, .ref (ad k 0))]) hx hb dX4_sizes_23 rfl hl (by decide) rfl (fun ls hl => ?_)
        refine lv_iinc (v := (i2h4 + 1)) (lv' := [(2, .int (i2h4 + 1)), (1, .int (i1h4 + ((o (i2h4.toNatClampNeg + 7)) 2))), (0, .ref (ad k 0))]) hx hb dX4_sizes_24 hl (k := 1) rfl rfl (by decide) rfl (fun ls hl => ?_)
        refine lv_goto (tgt := 4) hx hb dX4_sizes_27 (by decide) ?_
        exact ih4 (i2h4 + 1) (i1h4 + ((o (i2h4.toNatClampNeg + 7)) 2))  _ _ _ hF hP hD hS (lv_sub hl [0, 1, 2] rfl)
  exact loop4 200 0 0  _ _ _ hF hP hD hS (lv_sub hl [0, 1, 2] rfl)
def L_X4_pledgedClouds_4 : Nat → (Nat → Nat → Int32) → (Int32) → (Int32) → Option (Int32)
  | 0, _, _, _ => none
  | n4 + 1, o, i2h4, i1h4 => if ((o 0) 1) ≤ i2h4 then (some i1h4) else (if inb i2h4 6 then (if (D_X1_isPledged (o (i2h4.toNatClampNeg + 7))) = 0 then (L_X4_pledgedClouds_4 n4 o (i2h4 + 1) i1h4) else (L_X4_pledgedClouds_4 n4 o (i2h4 + 1) (i1h4 + 1))) else none)
def D_X4_pledgedClouds (o : Nat → Nat → Int32) : Option (Int32) := L_X4_pledgedClouds_4 200 o 0 0
abbrev rm_X4_pledgedClouds : Room := { frames := 1, cells := 0, slots := 0, locals := 20 }
set_option maxHeartbeats 4000000 in
set_option maxRecDepth 100000 in
theorem met_X4_pledgedClouds (l : Launch) (D : va_G) (cy : Nat → ClassId) (sz : Nat) (ad : Nat → Nat → Nat) (en : Nat → Nat) (x : Mem) (k : Nat) (hk : k < 12) (o : Nat → Nat → Int32)  (r : Int32) (hF : D_X4_pledgedClouds o = some r) : MI l yX4_pledgedClouds cX4_pledgedClouds 3 (some .int) rm_X4_pledgedClouds D cy (cW cy ad en (va_up x k o)) sz (fun _ => True) [.ref (ad k 0)] r (cW cy ad en (va_up x k o)) := by
  refine MI.of (by decide +kernel) (Nat.le_of_ble_eq_true rfl) ?_
  intro p e s m args below meth c A ls Q hAt _ hP hD hA hS hl hret
  obtain ⟨hx, hb, hr, hml, hown, hw, hlk, hK, hN⟩ := hAt
  have hown : s.vm.findClass "CloudDeeds$Office" = some m.cls := hown
  have hl : lv_has ls 3 [(0, .ref (ad k 0))] := hl
  refine lv_iconst (v := 0) hx hb dX4_pledgedClouds_0 (by decide) ?_
  refine lv_istore_n (lv' := [(1, .int 0), (0, .ref (ad k 0))]) hx hb dX4_pledgedClouds_1 rfl hl (by decide) rfl (fun ls hl => ?_)
  refine lv_iconst (v := 0) hx hb dX4_pledgedClouds_2 (by decide) ?_
  refine lv_istore_n (lv' := [(2, .int 0), (1, .int 0), (0, .ref (ad k 0))]) hx hb dX4_pledgedClouds_3 rfl hl (by decide) rfl (fun ls hl => ?_)
  have loop4 : ∀ (n : Nat) (i2h4 : Int32) (i1h4 : Int32) (H : Heap) (locs : List Loc) (ls : Array Slot), L_X4_pledgedClouds_4 n o i2h4 i1h4 = some r → va_P D vwCl (cW cy ad en (va_up x k o)) H → va_D A (cW cy ad en (va_up x k o)) → va_S A s.heap H locs → lv_has ls 3 [(2, .int i2h4), (1, .int i1h4), (0, .ref (ad k 0))] → W p l e rm_X4_pledgedClouds s m args below meth c H locs 0 0 Q (F0 m 4 ls []) := by
    intro n
    induction n with
    | zero => intro i2h4 i1h4 H locs ls hF _ _ _ _; exact absurd hF (by simp [L_X4_pledgedClouds_4])
    | succ n4 ih4 =>
      intro i2h4 i1h4 H locs ls hF hP hD hS hl
      refine lv_iload_n hx hb dX4_pledgedClouds_4 rfl (lv_at hl 0 rfl) ?_
      refine lv_aload_n hx hb dX4_pledgedClouds_5 rfl (lv_at hl 2 rfl) ?_
      refine get' (ci := 6) (fs := oF (ad k) (o 0)) (v := .int ((o 0) 1)) hx hb hw inWX4 hown hK hP (gO (x := x) (r := 0) (o := o) (f := (o 0)) hk (by decide) rfl) rfl 1 (by decide) k_119 rfl rfl dX4_pledgedClouds_6 ?_
      refine lv_icmp_ge (tgt := 33) hx hb dX4_pledgedClouds_9 (by decide) (fun h1 => ?_) (fun h1 => ?_)
      · replace hF := (if_pos h1).symm.trans hF
        refine lv_iload_n hx hb dX4_pledgedClouds_33 rfl (lv_at hl 1 rfl) ?_
        cases hF
        exact hret _ _ _ _ _ _ hP hD hS rfl rfl dX4_pledgedClouds_34
      · replace hF := (if_neg h1).symm.trans hF
        refine lv_aload_n hx hb dX4_pledgedClouds_12 rfl (lv_at hl 2 rfl) ?_
        refine get' (ci := 6) (fs := oF (ad k) (o 0)) (v := .ref (ad k 1)) hx hb hw inWX4 hown hK hP (gO (x := x) (r := 0) (o := o) (f := (o 0)) hk (by decide) rfl) rfl 0 (by decide) k_117 rfl rfl dX4_pledgedClouds_13 ?_
        refine lv_iload_n hx hb dX4_pledgedClouds_16 rfl (lv_at hl 0 rfl) ?_
        obtain ⟨h2, hF⟩ := ite_some hF
        have hr3 : (i2h4.toNatClampNeg + 7) < 13 := Nat.add_lt_add_right (inb_lt h2) 7
        refine aald' (n := 6) (g := (ad k (i2h4.toNatClampNeg + 7))) hx hb hK hP (gO (x := x) (r := 1) (o := o) (f := (o 1)) hk (by decide) rfl) (t0 := 3) rfl (vp_inb h2) rfl dX4_pledgedClouds_17 ?_
        refine cV_i (As := []) (rest := []) hx hb hml hown hw hK hN hA hl.1 hP hD hS k_449 k_421 k_422 k_24 k_423 (met_X1_isPledged l D cy _ (cW cy ad en (va_up x k o)) (13 * k + (i2h4.toNatClampNeg + 7)) (ad k (i2h4.toNatClampNeg + 7)) (o (i2h4.toNatClampNeg + 7)) (gO (x := x) (r := (i2h4.toNatClampNeg + 7)) (o := o) (f := (o (i2h4.toNatClampNeg + 7))) hk hr3 rfl) (D_X1_isPledged (o (i2h4.toNatClampNeg + 7))) rfl) (fun _ _ _ => trivial) Xok_T (gO (x := x) (r := (i2h4.toNatClampNeg + 7)) (o := o) (f := (o (i2h4.toNatClampNeg + 7))) hk hr3 rfl) rfl ⟨rfl, rfl⟩ (n := 0) (by decide +kernel) rfl ⟨Nat.le_of_ble_eq_true rfl, Nat.le_of_ble_eq_true rfl⟩ ⟨Nat.le_of_ble_eq_true rfl, Nat.le_of_ble_eq_true rfl⟩ (Nat.le_of_ble_eq_true rfl) rfl dX4_pledgedClouds_18 (fun H locs hP hD hS => ?_)
        refine lv_if_eq (tgt := 27) hx hb dX4_pledgedClouds_21 (by decide) (fun h7 => ?_) (fun h7 => ?_)
        · replace hF := (if_pos h7).symm.trans hF
          refine lv_iinc (v := (i2h4 + 1)) (lv' := [(2, .int (i2h4 + 1)), (1, .int i1h4), (0, .ref (ad k 0))]) hx hb dX4_pledgedClouds_27 hl (k := 0) rfl rfl (by decide) rfl (fun ls hl => ?_)
          refine lv_goto (tgt := 4) hx hb dX4_pledgedClouds_30 (by decide) ?_
          exact ih4 (i2h4 + 1) i1h4  _ _ _ hF hP hD hS (lv_sub hl [0, 1, 2] rfl)
        · replace hF := (if_neg h7).symm.trans hF
          refine lv_iinc (v := (i1h4 + 1)) (lv' := [(1, .int (i1h4 + 1)), (2, .int i2h4), (0, .ref (ad k 0))]) hx hb dX4_pledgedClouds_24 hl (k := 1) rfl rfl (by decide) rfl (fun ls hl => ?_)
          refine lv_iinc (v := (i2h4 + 1)) (lv' := [(2, .int (i2h4 + 1)), (1, .int (i1h4 + 1)), (0, .ref (ad k 0))]) hx hb dX4_pledgedClouds_27 hl (k := 1) rfl rfl (by decide) rfl (fun ls hl => ?_)
          refine lv_goto (tgt := 4) hx hb dX4_pledgedClouds_30 (by decide) ?_
          exact ih4 (i2h4 + 1) (i1h4 + 1)  _ _ _ hF hP hD hS (lv_sub hl [0, 1, 2] rfl)
  exact loop4 200 0 0  _ _ _ hF hP hD hS (lv_sub hl [0, 1, 2] rfl)
def L_X4_vineyardsBelongingTo_4 : Nat → (Nat → Nat → Int32) → (Int32) → (Int32) → (Int32) → Option (Int32)
  | 0, _, _, _, _ => none
  | n4 + 1, o, p1, i3h4, i2h4 => if 6 ≤ i3h4 then (some i2h4) else (if inb i3h4 6 then (if ((o 2) i3h4.toNatClampNeg) = p1 then (L_X4_vineyardsBelongingTo_4 n4 o p1 (i3h4 + 1) (i2h4 + 1)) else (L_X4_vineyardsBelongingTo_4 n4 o p1 (i3h4 + 1) i2h4)) else none)
def D_X4_vineyardsBelongingTo (o : Nat → Nat → Int32) (p1 : Int32) : Option (Int32) := L_X4_vineyardsBelongingTo_4 200 o p1 0 0
abbrev rm_X4_vineyardsBelongingTo : Room := { frames := 0, cells := 0, slots := 0, locals := 0 }
set_option maxHeartbeats 4000000 in
set_option maxRecDepth 100000 in
theorem met_X4_vineyardsBelongingTo (l : Launch) (D : va_G) (cy : Nat → ClassId) (sz : Nat) (ad : Nat → Nat → Nat) (en : Nat → Nat) (x : Mem) (k : Nat) (hk : k < 12) (o : Nat → Nat → Int32) (p1 : Int32)  (r : Int32) (hF : D_X4_vineyardsBelongingTo o p1 = some r) : MI l yX4_vineyardsBelongingTo cX4_vineyardsBelongingTo 4 (some .int) rm_X4_vineyardsBelongingTo D cy (cW cy ad en (va_up x k o)) sz (fun _ => True) [.ref (ad k 0), .int p1] r (cW cy ad en (va_up x k o)) := by
  refine MI.of (by decide +kernel) (Nat.le_of_ble_eq_true rfl) ?_
  intro p e s m args below meth c A ls Q hAt _ hP hD hA hS hl hret
  obtain ⟨hx, hb, hr, hml, hown, hw, hlk, hK, hN⟩ := hAt
  have hown : s.vm.findClass "CloudDeeds$Office" = some m.cls := hown
  have hl : lv_has ls 4 [(0, .ref (ad k 0)), (1, .int p1)] := hl
  refine lv_iconst (v := 0) hx hb dX4_vineyardsBelongingTo_0 (by decide) ?_
  refine lv_istore_n (lv' := [(2, .int 0), (0, .ref (ad k 0)), (1, .int p1)]) hx hb dX4_vineyardsBelongingTo_1 rfl hl (by decide) rfl (fun ls hl => ?_)
  refine lv_iconst (v := 0) hx hb dX4_vineyardsBelongingTo_2 (by decide) ?_
  refine lv_istore_n (lv' := [(3, .int 0), (2, .int 0), (0, .ref (ad k 0)), (1, .int p1)]) hx hb dX4_vineyardsBelongingTo_3 rfl hl (by decide) rfl (fun ls hl => ?_)
  have loop4 : ∀ (n : Nat) (i3h4 : Int32) (i2h4 : Int32) (H : Heap) (locs : List Loc) (ls : Array Slot), L_X4_vineyardsBelongingTo_4 n o p1 i3h4 i2h4 = some r → va_P D vwCl (cW cy ad en (va_up x k o)) H → va_D A (cW cy ad en (va_up x k o)) → va_S A s.heap H locs → lv_has ls 4 [(3, .int i3h4), (2, .int i2h4), (0, .ref (ad k 0)), (1, .int p1)] → W p l e rm_X4_vineyardsBelongingTo s m args below meth c H locs 0 0 Q (F0 m 4 ls []) := by
    intro n
    induction n with
    | zero => intro i3h4 i2h4 H locs ls hF _ _ _ _; exact absurd hF (by simp [L_X4_vineyardsBelongingTo_4])
    | succ n4 ih4 =>
      intro i3h4 i2h4 H locs ls hF hP hD hS hl
      refine lv_iload_n hx hb dX4_vineyardsBelongingTo_4 rfl (lv_at hl 0 rfl) ?_
      refine lv_aload_n hx hb dX4_vineyardsBelongingTo_5 rfl (lv_at hl 2 rfl) ?_
      refine get' (ci := 6) (fs := oF (ad k) (o 0)) (v := .ref (ad k 2)) hx hb hw inWX4 hown hK hP (gO (x := x) (r := 0) (o := o) (f := (o 0)) hk (by decide) rfl) rfl 2 (by decide) k_121 rfl rfl dX4_vineyardsBelongingTo_6 ?_
      refine va_alen (v := 6) hx hb hK hP _ 0 (gO (x := x) (r := 2) (o := o) (f := (o 2)) hk (by decide) rfl) rfl (show Int32.ofNat 6 = 6 by decide) dX4_vineyardsBelongingTo_9 ?_
      refine lv_icmp_ge (tgt := 32) hx hb dX4_vineyardsBelongingTo_10 (by decide) (fun h1 => ?_) (fun h1 => ?_)
      · replace hF := (if_pos h1).symm.trans hF
        refine lv_iload_n hx hb dX4_vineyardsBelongingTo_32 rfl (lv_at hl 1 rfl) ?_
        cases hF
        exact hret _ _ _ _ _ _ hP hD hS rfl rfl dX4_vineyardsBelongingTo_33
      · replace hF := (if_neg h1).symm.trans hF
        refine lv_aload_n hx hb dX4_vineyardsBelongingTo_13 rfl (lv_at hl 2 rfl) ?_
        refine get' (ci := 6) (fs := oF (ad k) (o 0)) (v := .ref (ad k 2)) hx hb hw inWX4 hown hK hP (gO (x := x) (r := 0) (o := o) (f := (o 0)) hk (by decide) rfl) rfl 2 (by decide) k_121 rfl rfl dX4_vineyardsBelongingTo_14 ?_
        refine lv_iload_n hx hb dX4_vineyardsBelongingTo_17 rfl (lv_at hl 0 rfl) ?_
        obtain ⟨h2, hF⟩ := ite_some hF
        refine va_iald (n := 6) (f := (o 2)) hx hb hK hP _ 0 (gO (x := x) (r := 2) (o := o) (f := (o 2)) hk (by decide) rfl) rfl (vp_inb h2) dX4_vineyardsBelongingTo_18 ?_
        refine lv_iload_n hx hb dX4_vineyardsBelongingTo_19 rfl (lv_at hl 3 rfl) ?_
        refine lv_icmp_ne (tgt := 26) hx hb dX4_vineyardsBelongingTo_20 (by decide) (fun h3 => ?_) (fun h3 => ?_)
        · replace hF := (if_neg h3).symm.trans hF
          refine lv_iinc (v := (i3h4 + 1)) (lv' := [(3, .int (i3h4 + 1)), (2, .int i2h4), (0, .ref (ad k 0)), (1, .int p1)]) hx hb dX4_vineyardsBelongingTo_26 hl (k := 0) rfl rfl (by decide) rfl (fun ls hl => ?_)
          refine lv_goto (tgt := 4) hx hb dX4_vineyardsBelongingTo_29 (by decide) ?_
          exact ih4 (i3h4 + 1) i2h4  _ _ _ hF hP hD hS (lv_sub hl [0, 1, 2, 3] rfl)
        · replace hF := (if_pos h3).symm.trans hF
          refine lv_iinc (v := (i2h4 + 1)) (lv' := [(2, .int (i2h4 + 1)), (3, .int i3h4), (0, .ref (ad k 0)), (1, .int p1)]) hx hb dX4_vineyardsBelongingTo_23 hl (k := 1) rfl rfl (by decide) rfl (fun ls hl => ?_)
          refine lv_iinc (v := (i3h4 + 1)) (lv' := [(3, .int (i3h4 + 1)), (2, .int (i2h4 + 1)), (0, .ref (ad k 0)), (1, .int p1)]) hx hb dX4_vineyardsBelongingTo_26 hl (k := 1) rfl rfl (by decide) rfl (fun ls hl => ?_)
          refine lv_goto (tgt := 4) hx hb dX4_vineyardsBelongingTo_29 (by decide) ?_
          exact ih4 (i3h4 + 1) (i2h4 + 1)  _ _ _ hF hP hD hS (lv_sub hl [0, 1, 2, 3] rfl)
  exact loop4 200 0 0  _ _ _ hF hP hD hS (lv_sub hl [0, 1, 2, 3] rfl)
def L_X4_tellOfVineyard_27 : Nat → (Nat → Nat → Int32) → (Int32) → (Int32) → (Int32) → (Int32) → Option (Int32)
  | 0, _, _, _, _, _ => none
  | n27 + 1, o, p1, p2, i4h27, i3h27 => if ((o 0) 1) ≤ i4h27 then (some i3h27) else (if inb i4h27 6 then (if ((o (i4h27.toNatClampNeg + 7)) 0) = p1 then (if p2 = 1 then (L_X4_tellOfVineyard_27 n27 o p1 p2 (i4h27 + 1) (i3h27 + 1)) else (if inb i4h27 6 then (L_X4_tellOfVineyard_27 n27 o p1 p2 (i4h27 + 1) (i3h27 + ((o (i4h27.toNatClampNeg + 7)) 2))) else none)) else (L_X4_tellOfVineyard_27 n27 o p1 p2 (i4h27 + 1) i3h27)) else none)
def D_X4_tellOfVineyard (o : Nat → Nat → Int32) (p1 : Int32) (p2 : Int32) : Option (Int32) := if p2 = 0 then (if (D_X9_isVineyard p1) = 0 then (some (-1)) else (if inb p1 6 then (some ((o 2) p1.toNatClampNeg)) else none)) else (L_X4_tellOfVineyard_27 200 o p1 p2 0 0)
abbrev rm_X4_tellOfVineyard : Room := { frames := 1, cells := 0, slots := 0, locals := 20 }
set_option maxHeartbeats 4000000 in
set_option maxRecDepth 100000 in
theorem met_X4_tellOfVineyard (l : Launch) (D : va_G) (cy : Nat → ClassId) (sz : Nat) (ad : Nat → Nat → Nat) (en : Nat → Nat) (x : Mem) (k : Nat) (hk : k < 12) (o : Nat → Nat → Int32) (p1 : Int32) (p2 : Int32)  (r : Int32) (hF : D_X4_tellOfVineyard o p1 p2 = some r) : MI l yX4_tellOfVineyard cX4_tellOfVineyard 5 (some .int) rm_X4_tellOfVineyard D cy (cW cy ad en (va_up x k o)) sz (fun _ => True) [.ref (ad k 0), .int p1, .int p2] r (cW cy ad en (va_up x k o)) := by
  refine MI.of (by decide +kernel) (Nat.le_of_ble_eq_true rfl) ?_
  intro p e s m args below meth c A ls Q hAt _ hP hD hA hS hl hret
  obtain ⟨hx, hb, hr, hml, hown, hw, hlk, hK, hN⟩ := hAt
  have hown : s.vm.findClass "CloudDeeds$Office" = some m.cls := hown
  have hl : lv_has ls 5 [(0, .ref (ad k 0)), (1, .int p1), (2, .int p2)] := hl
  refine lv_iload_n hx hb dX4_tellOfVineyard_0 rfl (lv_at hl 2 rfl) ?_
  refine lv_if_ne (tgt := 22) hx hb dX4_tellOfVineyard_1 (by decide) (fun h1 => ?_) (fun h1 => ?_)
  · replace hF := (if_neg h1).symm.trans hF
    refine lv_iconst (v := 0) hx hb dX4_tellOfVineyard_22 (by decide) ?_
    refine lv_istore_n (lv' := [(3, .int 0), (0, .ref (ad k 0)), (1, .int p1), (2, .int p2)]) hx hb dX4_tellOfVineyard_23 rfl hl (by decide) rfl (fun ls hl => ?_)
    refine lv_iconst (v := 0) hx hb dX4_tellOfVineyard_24 (by decide) ?_
    refine lv_istore (lv' := [(4, .int 0), (3, .int 0), (0, .ref (ad k 0)), (1, .int p1), (2, .int p2)]) hx hb dX4_tellOfVineyard_25 hl (by decide) rfl (fun ls hl => ?_)
    have loop27 : ∀ (n : Nat) (i4h27 : Int32) (i3h27 : Int32) (H : Heap) (locs : List Loc) (ls : Array Slot), L_X4_tellOfVineyard_27 n o p1 p2 i4h27 i3h27 = some r → va_P D vwCl (cW cy ad en (va_up x k o)) H → va_D A (cW cy ad en (va_up x k o)) → va_S A s.heap H locs → lv_has ls 5 [(4, .int i4h27), (3, .int i3h27), (0, .ref (ad k 0)), (1, .int p1), (2, .int p2)] → W p l e rm_X4_tellOfVineyard s m args below meth c H locs 0 0 Q (F0 m 27 ls []) := by
      intro n
      induction n with
      | zero => intro i4h27 i3h27 H locs ls hF _ _ _ _; exact absurd hF (by simp [L_X4_tellOfVineyard_27])
      | succ n27 ih27 =>
        intro i4h27 i3h27 H locs ls hF hP hD hS hl
        refine lv_iload hx hb dX4_tellOfVineyard_27 (lv_at hl 0 rfl) ?_
        refine lv_aload_n hx hb dX4_tellOfVineyard_29 rfl (lv_at hl 2 rfl) ?_
        refine get' (ci := 6) (fs := oF (ad k) (o 0)) (v := .int ((o 0) 1)) hx hb hw inWX4 hown hK hP (gO (x := x) (r := 0) (o := o) (f := (o 0)) hk (by decide) rfl) rfl 1 (by decide) k_119 rfl rfl dX4_tellOfVineyard_30 ?_
        refine lv_icmp_ge (tgt := 78) hx hb dX4_tellOfVineyard_33 (by decide) (fun h2 => ?_) (fun h2 => ?_)
        · replace hF := (if_pos h2).symm.trans hF
          refine lv_iload_n hx hb dX4_tellOfVineyard_78 rfl (lv_at hl 1 rfl) ?_
          cases hF
          exact hret _ _ _ _ _ _ hP hD hS rfl rfl dX4_tellOfVineyard_79
        · replace hF := (if_neg h2).symm.trans hF
          refine lv_aload_n hx hb dX4_tellOfVineyard_36 rfl (lv_at hl 2 rfl) ?_
          refine get' (ci := 6) (fs := oF (ad k) (o 0)) (v := .ref (ad k 1)) hx hb hw inWX4 hown hK hP (gO (x := x) (r := 0) (o := o) (f := (o 0)) hk (by decide) rfl) rfl 0 (by decide) k_117 rfl rfl dX4_tellOfVineyard_37 ?_
          refine lv_iload hx hb dX4_tellOfVineyard_40 (lv_at hl 0 rfl) ?_
          obtain ⟨h3, hF⟩ := ite_some hF
          have hr4 : (i4h27.toNatClampNeg + 7) < 13 := Nat.add_lt_add_right (inb_lt h3) 7
          refine aald' (n := 6) (g := (ad k (i4h27.toNatClampNeg + 7))) hx hb hK hP (gO (x := x) (r := 1) (o := o) (f := (o 1)) hk (by decide) rfl) (t0 := 3) rfl (vp_inb h3) rfl dX4_tellOfVineyard_42 ?_
          refine getN' (ci := 4) (fs := cF (o (i4h27.toNatClampNeg + 7))) (v := .int ((o (i4h27.toNatClampNeg + 7)) 0)) hx hb hw hN inWX1 hown hK hP (gO (x := x) (r := (i4h27.toNatClampNeg + 7)) (o := o) (f := (o (i4h27.toNatClampNeg + 7))) hk hr4 rfl) rfl 0 (by decide) n_91 rfl rfl dX4_tellOfVineyard_43 ?_
          refine lv_iload_n hx hb dX4_tellOfVineyard_46 rfl (lv_at hl 3 rfl) ?_
          refine lv_icmp_ne (tgt := 72) hx hb dX4_tellOfVineyard_47 (by decide) (fun h5 => ?_) (fun h5 => ?_)
          · replace hF := (if_neg h5).symm.trans hF
            refine lv_iinc (v := (i4h27 + 1)) (lv' := [(4, .int (i4h27 + 1)), (3, .int i3h27), (0, .ref (ad k 0)), (1, .int p1), (2, .int p2)]) hx hb dX4_tellOfVineyard_72 hl (k := 0) rfl rfl (by decide) rfl (fun ls hl => ?_)
            refine lv_goto (tgt := 27) hx hb dX4_tellOfVineyard_75 (by decide) ?_
            exact ih27 (i4h27 + 1) i3h27  _ _ _ hF hP hD hS (lv_sub hl [0, 1, 2, 3, 4] rfl)
          · replace hF := (if_pos h5).symm.trans hF
            refine lv_iload_n hx hb dX4_tellOfVineyard_50 rfl (lv_at hl 1 rfl) ?_
            refine lv_iload_n hx hb dX4_tellOfVineyard_51 rfl (lv_at hl 4 rfl) ?_
            refine lv_iconst (v := 1) hx hb dX4_tellOfVineyard_52 (by decide) ?_
            refine lv_icmp_ne (tgt := 60) hx hb dX4_tellOfVineyard_53 (by decide) (fun h6 => ?_) (fun h6 => ?_)
            · replace hF := (if_neg h6).symm.trans hF
              refine lv_aload_n hx hb dX4_tellOfVineyard_60 rfl (lv_at hl 2 rfl) ?_
              refine get' (ci := 6) (fs := oF (ad k) (o 0)) (v := .ref (ad k 1)) hx hb hw inWX4 hown hK hP (gO (x := x) (r := 0) (o := o) (f := (o 0)) hk (by decide) rfl) rfl 0 (by decide) k_117 rfl rfl dX4_tellOfVineyard_61 ?_
              refine lv_iload hx hb dX4_tellOfVineyard_64 (lv_at hl 0 rfl) ?_
              obtain ⟨h7, hF⟩ := ite_some hF
              have hr8 : (i4h27.toNatClampNeg + 7) < 13 := Nat.add_lt_add_right (inb_lt h7) 7
              refine aald' (n := 6) (g := (ad k (i4h27.toNatClampNeg + 7))) hx hb hK hP (gO (x := x) (r := 1) (o := o) (f := (o 1)) hk (by decide) rfl) (t0 := 3) rfl (vp_inb h7) rfl dX4_tellOfVineyard_66 ?_
              refine getN' (ci := 4) (fs := cF (o (i4h27.toNatClampNeg + 7))) (v := .int ((o (i4h27.toNatClampNeg + 7)) 2)) hx hb hw hN inWX1 hown hK hP (gO (x := x) (r := (i4h27.toNatClampNeg + 7)) (o := o) (f := (o (i4h27.toNatClampNeg + 7))) hk hr8 rfl) rfl 2 (by decide) n_94 rfl rfl dX4_tellOfVineyard_67 ?_
              refine lv_iadd hx hb dX4_tellOfVineyard_70 ?_
              refine lv_istore_n (lv' := [(3, .int (i3h27 + ((o (i4h27.toNatClampNeg + 7)) 2))), (4, .int i4h27), (0, .ref (ad k 0)), (1, .int p1), (2, .int p2)]) hx hb dX4_tellOfVineyard_71 rfl hl (by decide) rfl (fun ls hl => ?_)
              refine lv_iinc (v := (i4h27 + 1)) (lv' := [(4, .int (i4h27 + 1)), (3, .int (i3h27 + ((o (i4h27.toNatClampNeg + 7)) 2))), (0, .ref (ad k 0)), (1, .int p1), (2, .int p2)]) hx hb dX4_tellOfVineyard_72 hl (k := 1) rfl rfl (by decide) rfl (fun ls hl => ?_)
              refine lv_goto (tgt := 27) hx hb dX4_tellOfVineyard_75 (by decide) ?_
              exact ih27 (i4h27 + 1) (i3h27 + ((o (i4h27.toNatClampNeg + 7)) 2))  _ _ _ hF hP hD hS (lv_sub hl [0, 1, 2, 3, 4] rfl)
            · replace hF := (if_pos h6).symm.trans hF
              refine lv_iconst (v := 1) hx hb dX4_tellOfVineyard_56 (by decide) ?_
              refine lv_goto (tgt := 70) hx hb dX4_tellOfVineyard_57 (by decide) ?_
              refine lv_iadd hx hb dX4_tellOfVineyard_70 ?_
              refine lv_istore_n (lv' := [(3, .int (i3h27 + 1)), (4, .int i4h27), (0, .ref (ad k 0)), (1, .int p1), (2, .int p2)]) hx hb dX4_tellOfVineyard_71 rfl hl (by decide) rfl (fun ls hl => ?_)
              refine lv_iinc (v := (i4h27 + 1)) (lv' := [(4, .int (i4h27 + 1)), (3, .int (i3h27 + 1)), (0, .ref (ad k 0)), (1, .int p1), (2, .int p2)]) hx hb dX4_tellOfVineyard_72 hl (k := 1) rfl rfl (by decide) rfl (fun ls hl => ?_)
              refine lv_goto (tgt := 27) hx hb dX4_tellOfVineyard_75 (by decide) ?_
              exact ih27 (i4h27 + 1) (i3h27 + 1)  _ _ _ hF hP hD hS (lv_sub hl [0, 1, 2, 3, 4] rfl)
    exact loop27 200 0 0  _ _ _ hF hP hD hS (lv_sub hl [0, 1, 2, 3, 4] rfl)
  · replace hF := (if_pos h1).symm.trans hF
    refine lv_iload_n hx hb dX4_tellOfVineyard_4 rfl (lv_at hl 1 rfl) ?_
    refine cSN_i (As := [.int p1]) (rest := []) hx hb hml hown hw hK hN hA hl.1 hP hD hS n_463 k_455 k_21 k_456 (met_X9_isVineyard l D cy _ (cW cy ad en (va_up x k o)) p1 (D_X9_isVineyard p1) rfl) (fun _ _ _ => trivial) Xok_T ⟨rfl, rfl⟩ (n := 1) (by decide +kernel) rfl ⟨Nat.le_of_ble_eq_true rfl, Nat.le_of_ble_eq_true rfl⟩ ⟨Nat.le_of_ble_eq_true rfl, Nat.le_of_ble_eq_true rfl⟩ (Nat.le_of_ble_eq_true rfl) rfl dX4_tellOfVineyard_5 (fun H locs hP hD hS => ?_)
    refine lv_if_eq (tgt := 20) hx hb dX4_tellOfVineyard_8 (by decide) (fun h12 => ?_) (fun h12 => ?_)
    · replace hF := (if_pos h12).symm.trans hF
      refine lv_iconst (v := (-1)) hx hb dX4_tellOfVineyard_20 (by decide) ?_
      cases hF
      exact hret _ _ _ _ _ _ hP hD hS rfl rfl dX4_tellOfVineyard_21
    · replace hF := (if_neg h12).symm.trans hF
      refine lv_aload_n hx hb dX4_tellOfVineyard_11 rfl (lv_at hl 0 rfl) ?_
      refine get' (ci := 6) (fs := oF (ad k) (o 0)) (v := .ref (ad k 2)) hx hb hw inWX4 hown hK hP (gO (x := x) (r := 0) (o := o) (f := (o 0)) hk (by decide) rfl) rfl 2 (by decide) k_121 rfl rfl dX4_tellOfVineyard_12 ?_
      refine lv_iload_n hx hb dX4_tellOfVineyard_15 rfl (lv_at hl 1 rfl) ?_
      obtain ⟨h13, hF⟩ := ite_some hF
      refine va_iald (n := 6) (f := (o 2)) hx hb hK hP _ 0 (gO (x := x) (r := 2) (o := o) (f := (o 2)) hk (by decide) rfl) rfl (vp_inb h13) dX4_tellOfVineyard_16 ?_
      refine lv_goto (tgt := 21) hx hb dX4_tellOfVineyard_17 (by decide) ?_
      cases hF
      exact hret _ _ _ _ _ _ hP hD hS rfl rfl dX4_tellOfVineyard_21
def D_X7_copyFrom (o : Nat → Nat → Int32) (pp : Nat → Nat → Int32) : (Nat → Nat → Int32) := (va_up (va_up (va_up o 5 (va_cpy (pp 5) (o 5) 0 0 30)) 6 (va_cpy (pp 6) (o 6) 0 0 5)) 4 (upd (o 4) 2 ((pp 4) 2)))
abbrev rm_X7_copyFrom : Room := { frames := 2, cells := 0, slots := 0, locals := 81 }
set_option maxHeartbeats 4000000 in
set_option maxRecDepth 100000 in
theorem met_X7_copyFrom (l : Launch) (D : va_G) (cy : Nat → ClassId) (sz : Nat) (ad : Nat → Nat → Nat) (en : Nat → Nat) (x : Mem) (k : Nat) (hk : k < 12) (o : Nat → Nat → Int32) (k2 : Nat) (hk2 : k2 < 12) (hkk : k2 ≠ k) (pp : Nat → Nat → Int32) (hpp : x k2 = pp) (t' : Nat → Nat → Int32) (hF : D_X7_copyFrom o pp = t') : MV l yX7_copyFrom cX7_copyFrom 2 rm_X7_copyFrom D cy (cW cy ad en (va_up x k o)) sz (fun _ => True) [.ref (ad k 4), .ref (ad k2 4)] (cW cy ad en (va_up x k t')) := by
  refine MV.of (by decide +kernel) (Nat.le_of_ble_eq_true rfl) ?_
  intro p e s m args below meth c A ls Q hAt _ hP hD hA hS hl hret
  obtain ⟨hx, hb, hr, hml, hown, hw, hlk, hK, hN⟩ := hAt
  have hown : s.vm.findClass "CloudDeeds$Records" = some m.cls := hown
  have hl : lv_has ls 2 [(0, .ref (ad k 4)), (1, .ref (ad k2 4))] := hl
  refine lv_aload_n hx hb dX7_copyFrom_0 rfl (lv_at hl 1 rfl) ?_
  refine get' (ci := 9) (fs := rF (ad k2) (pp 4)) (v := .ref (ad k2 5)) hx hb hw inWX7 hown hK hP (gX (x := va_up x k o) (k := k2) (r := 4) (f := (pp 4)) hk2 (by decide) ((congrFun (va_up_ne _ _ hkk) _).trans (congrFun hpp _))) rfl 0 (by decide) k_74 rfl rfl dX7_copyFrom_1 ?_
  refine lv_aload_n hx hb dX7_copyFrom_4 rfl (lv_at hl 0 rfl) ?_
  refine get' (ci := 9) (fs := rF (ad k) (o 4)) (v := .ref (ad k 5)) hx hb hw inWX7 hown hK hP (gO (x := x) (r := 4) (o := o) (f := (o 4)) hk (by decide) rfl) rfl 0 (by decide) k_74 rfl rfl dX7_copyFrom_5 ?_
  refine cSN_v (As := [.ref (ad k2 5), .ref (ad k 5)]) (rest := []) hx hb hml hown hw hK hN hA hl.1 hP hD hS n_535 k_523 k_21 k_524 (met_X9_copyNumbers l D cy _ _ _ _ _ _ _ _ _ (gX (x := va_up x k o) (k := k2) (r := 5) (f := (pp 5)) hk2 (by decide) ((congrFun (va_up_ne _ _ hkk) _).trans (congrFun hpp _))) (gO (x := x) (r := 5) (o := o) (f := (o 5)) hk (by decide) rfl) (Nat.le_of_ble_eq_true rfl)) (fun _ _ _ => trivial) Xok_T ⟨rfl, rfl⟩ (n := 2) (by decide +kernel) rfl ⟨Nat.le_of_ble_eq_true rfl, Nat.le_of_ble_eq_true rfl⟩ ⟨Nat.zero_le _, Nat.zero_le _⟩ (Nat.le_of_ble_eq_true rfl) rfl dX7_copyFrom_8 (fun H locs hP hD hS => ?_)
  have hP : va_P D vwCl (cW cy ad en (va_up x k (va_up o 5 (va_cpy (pp 5) (o 5) 0 0 30)))) H := cvP hP (sO (x := x) (r := 5) (o := o) (g := (va_cpy (pp 5) (o 5) 0 0 30)) hk (by decide))
  have hD : va_D A (cW cy ad en (va_up x k (va_up o 5 (va_cpy (pp 5) (o 5) 0 0 30)))) := cvD hD (sO (x := x) (r := 5) (o := o) (g := (va_cpy (pp 5) (o 5) 0 0 30)) hk (by decide))
  refine lv_aload_n hx hb dX7_copyFrom_11 rfl (lv_at hl 1 rfl) ?_
  refine get' (ci := 9) (fs := rF (ad k2) (pp 4)) (v := .ref (ad k2 6)) hx hb hw inWX7 hown hK hP (gX (x := va_up x k (va_up o 5 (va_cpy (pp 5) (o 5) 0 0 30))) (k := k2) (r := 4) (f := (pp 4)) hk2 (by decide) ((congrFun (va_up_ne _ _ hkk) _).trans (congrFun hpp _))) rfl 1 (by decide) k_75 rfl rfl dX7_copyFrom_12 ?_
  refine lv_aload_n hx hb dX7_copyFrom_15 rfl (lv_at hl 0 rfl) ?_
  refine get' (ci := 9) (fs := rF (ad k) (o 4)) (v := .ref (ad k 6)) hx hb hw inWX7 hown hK hP (gO (x := x) (r := 4) (o := (va_up o 5 (va_cpy (pp 5) (o 5) 0 0 30))) (f := (o 4)) hk (by decide) ((va_up_ne _ _ (by decide)).trans rfl)) rfl 1 (by decide) k_75 rfl rfl dX7_copyFrom_16 ?_
  refine cSN_v (As := [.ref (ad k2 6), .ref (ad k 6)]) (rest := []) hx hb hml hown hw hK hN hA hl.1 hP hD hS n_535 k_523 k_21 k_524 (met_X9_copyNumbers l D cy _ _ _ _ _ _ _ _ _ (gX (x := va_up x k (va_up o 5 (va_cpy (pp 5) (o 5) 0 0 30))) (k := k2) (r := 6) (f := (pp 6)) hk2 (by decide) ((congrFun (va_up_ne _ _ hkk) _).trans (congrFun hpp _))) (gO (x := x) (r := 6) (o := (va_up o 5 (va_cpy (pp 5) (o 5) 0 0 30))) (f := (o 6)) hk (by decide) ((va_up_ne _ _ (by decide)).trans rfl)) (Nat.le_of_ble_eq_true rfl)) (fun _ _ _ => trivial) Xok_T ⟨rfl, rfl⟩ (n := 2) (by decide +kernel) rfl ⟨Nat.le_of_ble_eq_true rfl, Nat.le_of_ble_eq_true rfl⟩ ⟨Nat.zero_le _, Nat.zero_le _⟩ (Nat.le_of_ble_eq_true rfl) rfl dX7_copyFrom_19 (fun H locs hP hD hS => ?_)
  have hP : va_P D vwCl (cW cy ad en (va_up x k (va_up (va_up o 5 (va_cpy (pp 5) (o 5) 0 0 30)) 6 (va_cpy (pp 6) (o 6) 0 0 5)))) H := cvP hP (sO (x := x) (r := 6) (o := (va_up o 5 (va_cpy (pp 5) (o 5) 0 0 30))) (g := (va_cpy (pp 6) (o 6) 0 0 5)) hk (by decide))
  have hD : va_D A (cW cy ad en (va_up x k (va_up (va_up o 5 (va_cpy (pp 5) (o 5) 0 0 30)) 6 (va_cpy (pp 6) (o 6) 0 0 5)))) := cvD hD (sO (x := x) (r := 6) (o := (va_up o 5 (va_cpy (pp 5) (o 5) 0 0 30))) (g := (va_cpy (pp 6) (o 6) 0 0 5)) hk (by decide))
  refine lv_aload_n hx hb dX7_copyFrom_22 rfl (lv_at hl 0 rfl) ?_
  refine lv_aload_n hx hb dX7_copyFrom_23 rfl (lv_at hl 1 rfl) ?_
  refine get' (ci := 9) (fs := rF (ad k2) (pp 4)) (v := .int ((pp 4) 2)) hx hb hw inWX7 hown hK hP (gX (x := va_up x k (va_up (va_up o 5 (va_cpy (pp 5) (o 5) 0 0 30)) 6 (va_cpy (pp 6) (o 6) 0 0 5))) (k := k2) (r := 4) (f := (pp 4)) hk2 (by decide) ((congrFun (va_up_ne _ _ hkk) _).trans (congrFun hpp _))) rfl 2 (by decide) k_76 rfl rfl dX7_copyFrom_24 ?_
  refine put' (ci := 9) (fs := rF (ad k) (o 4)) (v := .int ((pp 4) 2)) (ty := .int) (ws' := (cW cy ad en (va_up x k (va_up (va_up (va_up o 5 (va_cpy (pp 5) (o 5) 0 0 30)) 6 (va_cpy (pp 6) (o 6) 0 0 5)) 4 (upd (o 4) 2 ((pp 4) 2)))))) hx hb hw inWX7 tyX7 tyX7_ok nmX7 hown hK hP hD hS (gO (x := x) (r := 4) (o := (va_up (va_up o 5 (va_cpy (pp 5) (o 5) 0 0 30)) 6 (va_cpy (pp 6) (o 6) 0 0 5))) (f := (o 4)) hk (by decide) ((va_up_ne _ _ (by decide)).trans ((va_up_ne _ _ (by decide)).trans rfl))) rfl 2 (by decide) k_76 rfl rfl (by decide +kernel) rfl rfl (Nat.le_of_ble_eq_true rfl) dX7_copyFrom_27 (sO (x := x) (r := 4) (o := (va_up (va_up o 5 (va_cpy (pp 5) (o 5) 0 0 30)) 6 (va_cpy (pp 6) (o 6) 0 0 5))) (g := (upd (o 4) 2 ((pp 4) 2))) hk (by decide)) (fun H locs hP hD hS => ?_)
  cases hF
  exact hret _ _ _ _ _ hP hD hS rfl dX7_copyFrom_30
def L_X7_makeRoom_43 : Nat → (Nat → Nat → Int32) → (Int32) → (Nat → Nat → Int32) → (Int32) → (Nat → Nat → Int32) → Option ((Nat → Nat → Int32))
  | 0, _, _, _, _, _ => none
  | n43 + 1, o, i1h8, s8, i1h43, s43 => if i1h43 < 1 then (some s43) else (if inb (i1h43 - 1) 5 then (if inb i1h43 5 then (L_X7_makeRoom_43 n43 o i1h8 s8 (i1h43 + (-1)) (va_up s43 6 (upd (s43 6) (i1h43.toNatClampNeg) ((s43 6) (i1h43 - 1).toNatClampNeg)))) else none) else none)
def L_X7_makeRoom_8 : Nat → (Nat → Nat → Int32) → (Int32) → (Nat → Nat → Int32) → Option ((Nat → Nat → Int32))
  | 0, _, _, _ => none
  | n8 + 1, o, i1h8, s8 => if i1h8 < 6 then (L_X7_makeRoom_43 200 o i1h8 s8 (5 - 1) s8) else (if inb (i1h8 - 6) 30 then (if inb i1h8 30 then (L_X7_makeRoom_8 n8 o (i1h8 + (-1)) (va_up s8 5 (upd (s8 5) (i1h8.toNatClampNeg) ((s8 5) (i1h8 - 6).toNatClampNeg)))) else none) else none)
def D_X7_makeRoom (o : Nat → Nat → Int32) : Option ((Nat → Nat → Int32)) := L_X7_makeRoom_8 200 o (30 - 1) o
abbrev rm_X7_makeRoom : Room := { frames := 0, cells := 0, slots := 0, locals := 0 }
set_option maxHeartbeats 4000000 in
set_option maxRecDepth 100000 in
theorem met_X7_makeRoom (l : Launch) (D : va_G) (cy : Nat → ClassId) (sz : Nat) (ad : Nat → Nat → Nat) (en : Nat → Nat) (x : Mem) (k : Nat) (hk : k < 12) (o : Nat → Nat → Int32)  (t' : Nat → Nat → Int32) (hF : D_X7_makeRoom o = some t') : MV l yX7_makeRoom cX7_makeRoom 2 rm_X7_makeRoom D cy (cW cy ad en (va_up x k o)) sz (fun _ => True) [.ref (ad k 4)] (cW cy ad en (va_up x k t')) := by
  refine MV.of (by decide +kernel) (Nat.le_of_ble_eq_true rfl) ?_
  intro p e s m args below meth c A ls Q hAt _ hP hD hA hS hl hret
  obtain ⟨hx, hb, hr, hml, hown, hw, hlk, hK, hN⟩ := hAt
  have hown : s.vm.findClass "CloudDeeds$Records" = some m.cls := hown
  have hl : lv_has ls 2 [(0, .ref (ad k 4))] := hl
  refine lv_aload_n hx hb dX7_makeRoom_0 rfl (lv_at hl 0 rfl) ?_
  refine get' (ci := 9) (fs := rF (ad k) (o 4)) (v := .ref (ad k 5)) hx hb hw inWX7 hown hK hP (gO (x := x) (r := 4) (o := o) (f := (o 4)) hk (by decide) rfl) rfl 0 (by decide) k_74 rfl rfl dX7_makeRoom_1 ?_
  refine va_alen (v := 30) hx hb hK hP _ 0 (gO (x := x) (r := 5) (o := o) (f := (o 5)) hk (by decide) rfl) rfl (show Int32.ofNat 30 = 30 by decide) dX7_makeRoom_4 ?_
  refine lv_iconst (v := 1) hx hb dX7_makeRoom_5 (by decide) ?_
  refine lv_isub hx hb dX7_makeRoom_6 ?_
  refine lv_istore_n (lv' := [(1, .int (30 - 1)), (0, .ref (ad k 4))]) hx hb dX7_makeRoom_7 rfl hl (by decide) rfl (fun ls hl => ?_)
  have loop8 : ∀ (n : Nat) (i1h8 : Int32) (s8 : Nat → Nat → Int32) (H : Heap) (locs : List Loc) (ls : Array Slot), L_X7_makeRoom_8 n o i1h8 s8 = some t' → va_P D vwCl (cW cy ad en (va_up x k s8)) H → va_D A (cW cy ad en (va_up x k s8)) → va_S A s.heap H locs → lv_has ls 2 [(1, .int i1h8), (0, .ref (ad k 4))] → W p l e rm_X7_makeRoom s m args below meth c H locs 0 0 Q (F0 m 8 ls []) := by
    intro n
    induction n with
    | zero => intro i1h8 s8 H locs ls hF _ _ _ _; exact absurd hF (by simp [L_X7_makeRoom_8])
    | succ n8 ih8 =>
      intro i1h8 s8 H locs ls hF hP hD hS hl
      refine lv_iload_n hx hb dX7_makeRoom_8 rfl (lv_at hl 0 rfl) ?_
      refine lv_bipush (v := 6) hx hb dX7_makeRoom_9 (by decide) ?_
      refine lv_icmp_lt (tgt := 35) hx hb dX7_makeRoom_11 (by decide) (fun h1 => ?_) (fun h1 => ?_)
      · replace hF := (if_pos h1).symm.trans hF
        refine lv_aload_n hx hb dX7_makeRoom_35 rfl (lv_at hl 1 rfl) ?_
        refine get' (ci := 9) (fs := rF (ad k) (s8 4)) (v := .ref (ad k 6)) hx hb hw inWX7 hown hK hP (gO (x := x) (r := 4) (o := s8) (f := (s8 4)) hk (by decide) rfl) rfl 1 (by decide) k_75 rfl rfl dX7_makeRoom_36 ?_
        refine va_alen (v := 5) hx hb hK hP _ 0 (gO (x := x) (r := 6) (o := s8) (f := (s8 6)) hk (by decide) rfl) rfl (show Int32.ofNat 5 = 5 by decide) dX7_makeRoom_39 ?_
        refine lv_iconst (v := 1) hx hb dX7_makeRoom_40 (by decide) ?_
        refine lv_isub hx hb dX7_makeRoom_41 ?_
        refine lv_istore_n (lv' := [(1, .int (5 - 1)), (0, .ref (ad k 4))]) hx hb dX7_makeRoom_42 rfl hl (by decide) rfl (fun ls hl => ?_)
        have loop43 : ∀ (n : Nat) (i1h43 : Int32) (s43 : Nat → Nat → Int32) (H : Heap) (locs : List Loc) (ls : Array Slot), L_X7_makeRoom_43 n o i1h8 s8 i1h43 s43 = some t' → va_P D vwCl (cW cy ad en (va_up x k s43)) H → va_D A (cW cy ad en (va_up x k s43)) → va_S A s.heap H locs → lv_has ls 2 [(1, .int i1h43), (0, .ref (ad k 4))] → W p l e rm_X7_makeRoom s m args below meth c H locs 0 0 Q (F0 m 43 ls []) := by
          intro n
          induction n with
          | zero => intro i1h43 s43 H locs ls hF _ _ _ _; exact absurd hF (by simp [L_X7_makeRoom_43])
          | succ n43 ih43 =>
            intro i1h43 s43 H locs ls hF hP hD hS hl
            refine lv_iload_n hx hb dX7_makeRoom_43 rfl (lv_at hl 0 rfl) ?_
            refine lv_iconst (v := 1) hx hb dX7_makeRoom_44 (by decide) ?_
            refine lv_icmp_lt (tgt := 68) hx hb dX7_makeRoom_45 (by decide) (fun h2 => ?_) (fun h2 => ?_)
            · replace hF := (if_pos h2).symm.trans hF
              cases hF
              exact hret _ _ _ _ _ hP hD hS rfl dX7_makeRoom_68
            · replace hF := (if_neg h2).symm.trans hF
              refine lv_aload_n hx hb dX7_makeRoom_48 rfl (lv_at hl 1 rfl) ?_
              refine get' (ci := 9) (fs := rF (ad k) (s43 4)) (v := .ref (ad k 6)) hx hb hw inWX7 hown hK hP (gO (x := x) (r := 4) (o := s43) (f := (s43 4)) hk (by decide) rfl) rfl 1 (by decide) k_75 rfl rfl dX7_makeRoom_49 ?_
              refine lv_iload_n hx hb dX7_makeRoom_52 rfl (lv_at hl 0 rfl) ?_
              refine lv_aload_n hx hb dX7_makeRoom_53 rfl (lv_at hl 1 rfl) ?_
              refine get' (ci := 9) (fs := rF (ad k) (s43 4)) (v := .ref (ad k 6)) hx hb hw inWX7 hown hK hP (gO (x := x) (r := 4) (o := s43) (f := (s43 4)) hk (by decide) rfl) rfl 1 (by decide) k_75 rfl rfl dX7_makeRoom_54 ?_
              refine lv_iload_n hx hb dX7_makeRoom_57 rfl (lv_at hl 0 rfl) ?_
              refine lv_iconst (v := 1) hx hb dX7_makeRoom_58 (by decide) ?_
              refine lv_isub hx hb dX7_makeRoom_59 ?_
              obtain ⟨h3, hF⟩ := ite_some hF
              refine va_iald (n := 5) (f := (s43 6)) hx hb hK hP _ 0 (gO (x := x) (r := 6) (o := s43) (f := (s43 6)) hk (by decide) rfl) rfl (vp_inb h3) dX7_makeRoom_60 ?_
              obtain ⟨h4, hF⟩ := ite_some hF
              refine iast' (n := 5) (f := (s43 6)) (ws' := (cW cy ad en (va_up x k (va_up s43 6 (upd (s43 6) (i1h43.toNatClampNeg) ((s43 6) (i1h43 - 1).toNatClampNeg)))))) hx hb hK hP hD hS (gO (x := x) (r := 6) (o := s43) (f := (s43 6)) hk (by decide) rfl) (t0 := 0) rfl (vp_inb h4) dX7_makeRoom_61 (sO (x := x) (r := 6) (o := s43) (g := (upd (s43 6) (i1h43.toNatClampNeg) ((s43 6) (i1h43 - 1).toNatClampNeg))) hk (by decide)) (fun H locs hP hD hS => ?_)
              refine lv_iinc (v := (i1h43 + (-1))) (lv' := [(1, .int (i1h43 + (-1))), (0, .ref (ad k 4))]) hx hb dX7_makeRoom_62 hl (k := 0) rfl rfl (by decide) rfl (fun ls hl => ?_)
              refine lv_goto (tgt := 43) hx hb dX7_makeRoom_65 (by decide) ?_
              exact ih43 (i1h43 + (-1)) (va_up s43 6 (upd (s43 6) (i1h43.toNatClampNeg) ((s43 6) (i1h43 - 1).toNatClampNeg))) _ _ _ hF hP hD hS (lv_sub hl [0, 1] rfl)
        exact loop43 200 (5 - 1) s8 _ _ _ hF hP hD hS (lv_sub hl [0, 1] rfl)
      · replace hF := (if_neg h1).symm.trans hF
        refine lv_aload_n hx hb dX7_makeRoom_14 rfl (lv_at hl 1 rfl) ?_
        refine get' (ci := 9) (fs := rF (ad k) (s8 4)) (v := .ref (ad k 5)) hx hb hw inWX7 hown hK hP (gO (x := x) (r := 4) (o := s8) (f := (s8 4)) hk (by decide) rfl) rfl 0 (by decide) k_74 rfl rfl dX7_makeRoom_15 ?_
        refine lv_iload_n hx hb dX7_makeRoom_18 rfl (lv_at hl 0 rfl) ?_
        refine lv_aload_n hx hb dX7_makeRoom_19 rfl (lv_at hl 1 rfl) ?_
        refine get' (ci := 9) (fs := rF (ad k) (s8 4)) (v := .ref (ad k 5)) hx hb hw inWX7 hown hK hP (gO (x := x) (r := 4) (o := s8) (f := (s8 4)) hk (by decide) rfl) rfl 0 (by decide) k_74 rfl rfl dX7_makeRoom_20 ?_
        refine lv_iload_n hx hb dX7_makeRoom_23 rfl (lv_at hl 0 rfl) ?_
        refine lv_bipush (v := 6) hx hb dX7_makeRoom_24 (by decide) ?_
        refine lv_isub hx hb dX7_makeRoom_26 ?_
        obtain ⟨h5, hF⟩ := ite_some hF
        refine va_iald (n := 30) (f := (s8 5)) hx hb hK hP _ 0 (gO (x := x) (r := 5) (o := s8) (f := (s8 5)) hk (by decide) rfl) rfl (vp_inb h5) dX7_makeRoom_27 ?_
        obtain ⟨h6, hF⟩ := ite_some hF
        refine iast' (n := 30) (f := (s8 5)) (ws' := (cW cy ad en (va_up x k (va_up s8 5 (upd (s8 5) (i1h8.toNatClampNeg) ((s8 5) (i1h8 - 6).toNatClampNeg)))))) hx hb hK hP hD hS (gO (x := x) (r := 5) (o := s8) (f := (s8 5)) hk (by decide) rfl) (t0 := 0) rfl (vp_inb h6) dX7_makeRoom_28 (sO (x := x) (r := 5) (o := s8) (g := (upd (s8 5) (i1h8.toNatClampNeg) ((s8 5) (i1h8 - 6).toNatClampNeg))) hk (by decide)) (fun H locs hP hD hS => ?_)
        refine lv_iinc (v := (i1h8 + (-1))) (lv' := [(1, .int (i1h8 + (-1))), (0, .ref (ad k 4))]) hx hb dX7_makeRoom_29 hl (k := 0) rfl rfl (by decide) rfl (fun ls hl => ?_)
        refine lv_goto (tgt := 8) hx hb dX7_makeRoom_32 (by decide) ?_
        exact ih8 (i1h8 + (-1)) (va_up s8 5 (upd (s8 5) (i1h8.toNatClampNeg) ((s8 5) (i1h8 - 6).toNatClampNeg))) _ _ _ hF hP hD hS (lv_sub hl [0, 1] rfl)
  exact loop8 200 (30 - 1) o _ _ _ hF hP hD hS (lv_sub hl [0, 1] rfl)
def D_X7_hasDawn (o : Nat → Nat → Int32) (p1 : Int32) : Int32 := (D_X9_isWithin p1 ((o 4) 2))
abbrev rm_X7_hasDawn : Room := { frames := 1, cells := 0, slots := 0, locals := 21 }
set_option maxHeartbeats 4000000 in
set_option maxRecDepth 100000 in
theorem met_X7_hasDawn (l : Launch) (D : va_G) (cy : Nat → ClassId) (sz : Nat) (ad : Nat → Nat → Nat) (en : Nat → Nat) (x : Mem) (k : Nat) (hk : k < 12) (o : Nat → Nat → Int32) (p1 : Int32)  (r : Int32) (hF : D_X7_hasDawn o p1 = r) : MI l yX7_hasDawn cX7_hasDawn 2 (some .boolean) rm_X7_hasDawn D cy (cW cy ad en (va_up x k o)) sz (fun _ => True) [.ref (ad k 4), .int p1] r (cW cy ad en (va_up x k o)) := by
  refine MZ.of (by decide +kernel) (Nat.le_of_ble_eq_true rfl) ?_
  intro p e s m args below meth c A ls Q hAt _ hP hD hA hS hl hret
  obtain ⟨hx, hb, hr, hml, hown, hw, hlk, hK, hN⟩ := hAt
  have hown : s.vm.findClass "CloudDeeds$Records" = some m.cls := hown
  have hl : lv_has ls 2 [(0, .ref (ad k 4)), (1, .int p1)] := hl
  refine lv_iload_n hx hb dX7_hasDawn_0 rfl (lv_at hl 1 rfl) ?_
  refine lv_aload_n hx hb dX7_hasDawn_1 rfl (lv_at hl 0 rfl) ?_
  refine get' (ci := 9) (fs := rF (ad k) (o 4)) (v := .int ((o 4) 2)) hx hb hw inWX7 hown hK hP (gO (x := x) (r := 4) (o := o) (f := (o 4)) hk (by decide) rfl) rfl 2 (by decide) k_76 rfl rfl dX7_hasDawn_2 ?_
  refine cSN_i (As := [.int p1, .int ((o 4) 2)]) (rest := []) hx hb hml hown hw hK hN hA hl.1 hP hD hS n_930 k_324 k_21 k_325 (met_X9_isWithin l D cy _ (cW cy ad en (va_up x k o)) p1 ((o 4) 2) (D_X9_isWithin p1 ((o 4) 2)) rfl) (fun _ _ _ => trivial) Xok_T ⟨rfl, rfl⟩ (n := 2) (by decide +kernel) rfl ⟨Nat.le_of_ble_eq_true rfl, Nat.le_of_ble_eq_true rfl⟩ ⟨Nat.le_of_ble_eq_true rfl, Nat.le_of_ble_eq_true rfl⟩ (Nat.le_of_ble_eq_true rfl) rfl dX7_hasDawn_5 (fun H locs hP hD hS => ?_)
  cases hF
  exact hret _ _ _ _ _ _ hP hD hS rfl rfl (nar_z (bz_X9_isWithin ..)) dX7_hasDawn_8
theorem bz_X7_hasDawn (o : Nat → Nat → Int32) (p1 : Int32) : (D_X7_hasDawn o p1) = 0 ∨ (D_X7_hasDawn o p1) = 1 := by
  unfold D_X7_hasDawn
  repeat' split
  all_goals first | exact Or.inl rfl | exact Or.inr rfl | assumption | exact bz_X9_isWithin ..
def L_X4_copyFrom_2 : Nat → (Nat → Nat → Int32) → (Nat → Nat → Int32) → (Int32) → (Nat → Nat → Int32) → Option ((Nat → Nat → Int32))
  | 0, _, _, _, _ => none
  | n2 + 1, o, pp, i2h2, s2 => if 6 ≤ i2h2 then (some (va_up (D_X7_copyFrom (va_up (va_up (va_up s2 0 (upd (s2 0) 1 ((pp 0) 1))) 2 (va_cpy (pp 2) (s2 2) 0 0 6)) 3 (va_cpy (pp 3) (s2 3) 0 0 4)) pp) 0 (upd (upd (upd (upd (upd (upd (upd ((D_X7_copyFrom (va_up (va_up (va_up s2 0 (upd (s2 0) 1 ((pp 0) 1))) 2 (va_cpy (pp 2) (s2 2) 0 0 6)) 3 (va_cpy (pp 3) (s2 3) 0 0 4)) pp) 0) 5 ((pp 0) 5)) 6 ((pp 0) 6)) 7 ((pp 0) 7)) 8 ((pp 0) 8)) 9 ((pp 0) 9)) 10 ((pp 0) 10)) 11 ((pp 0) 11)))) else (if inb i2h2 6 then (if inb i2h2 6 then (L_X4_copyFrom_2 n2 o pp (i2h2 + 1) (va_up s2 (i2h2.toNatClampNeg + 7) (D_X1_copyFrom (s2 (i2h2.toNatClampNeg + 7)) (pp (i2h2.toNatClampNeg + 7))))) else none) else none)
def D_X4_copyFrom (o : Nat → Nat → Int32) (pp : Nat → Nat → Int32) : Option ((Nat → Nat → Int32)) := L_X4_copyFrom_2 200 o pp 0 o
abbrev rm_X4_copyFrom : Room := { frames := 3, cells := 0, slots := 0, locals := 102 }
set_option maxHeartbeats 4000000 in
set_option maxRecDepth 100000 in
theorem met_X4_copyFrom (l : Launch) (D : va_G) (cy : Nat → ClassId) (sz : Nat) (ad : Nat → Nat → Nat) (en : Nat → Nat) (x : Mem) (k : Nat) (hk : k < 12) (o : Nat → Nat → Int32) (k2 : Nat) (hk2 : k2 < 12) (hkk : k2 ≠ k) (pp : Nat → Nat → Int32) (hpp : x k2 = pp) (t' : Nat → Nat → Int32) (hF : D_X4_copyFrom o pp = some t') : MV l yX4_copyFrom cX4_copyFrom 3 rm_X4_copyFrom D cy (cW cy ad en (va_up x k o)) sz (fun _ => True) [.ref (ad k 0), .ref (ad k2 0)] (cW cy ad en (va_up x k t')) := by
  refine MV.of (by decide +kernel) (Nat.le_of_ble_eq_true rfl) ?_
  intro p e s m args below meth c A ls Q hAt _ hP hD hA hS hl hret
  obtain ⟨hx, hb, hr, hml, hown, hw, hlk, hK, hN⟩ := hAt
  have hown : s.vm.findClass "CloudDeeds$Office" = some m.cls := hown
  have hl : lv_has ls 3 [(0, .ref (ad k 0)), (1, .ref (ad k2 0))] := hl
  refine lv_iconst (v := 0) hx hb dX4_copyFrom_0 (by decide) ?_
  refine lv_istore_n (lv' := [(2, .int 0), (0, .ref (ad k 0)), (1, .ref (ad k2 0))]) hx hb dX4_copyFrom_1 rfl hl (by decide) rfl (fun ls hl => ?_)
  have loop2 : ∀ (n : Nat) (i2h2 : Int32) (s2 : Nat → Nat → Int32) (H : Heap) (locs : List Loc) (ls : Array Slot), L_X4_copyFrom_2 n o pp i2h2 s2 = some t' → va_P D vwCl (cW cy ad en (va_up x k s2)) H → va_D A (cW cy ad en (va_up x k s2)) → va_S A s.heap H locs → lv_has ls 3 [(2, .int i2h2), (0, .ref (ad k 0)), (1, .ref (ad k2 0))] → W p l e rm_X4_copyFrom s m args below meth c H locs 0 0 Q (F0 m 2 ls []) := by
    intro n
    induction n with
    | zero => intro i2h2 s2 H locs ls hF _ _ _ _; exact absurd hF (by simp [L_X4_copyFrom_2])
    | succ n2 ih2 =>
      intro i2h2 s2 H locs ls hF hP hD hS hl
      refine lv_iload_n hx hb dX4_copyFrom_2 rfl (lv_at hl 0 rfl) ?_
      refine lv_aload_n hx hb dX4_copyFrom_3 rfl (lv_at hl 1 rfl) ?_
      refine get' (ci := 6) (fs := oF (ad k) (s2 0)) (v := .ref (ad k 1)) hx hb hw inWX4 hown hK hP (gO (x := x) (r := 0) (o := s2) (f := (s2 0)) hk (by decide) rfl) rfl 0 (by decide) k_117 rfl rfl dX4_copyFrom_4 ?_
      refine va_alen (v := 6) hx hb hK hP _ 3 (gO (x := x) (r := 1) (o := s2) (f := (s2 1)) hk (by decide) rfl) rfl (show Int32.ofNat 6 = 6 by decide) dX4_copyFrom_7 ?_
      refine lv_icmp_ge (tgt := 32) hx hb dX4_copyFrom_8 (by decide) (fun h1 => ?_) (fun h1 => ?_)
      · replace hF := (if_pos h1).symm.trans hF
        refine lv_aload_n hx hb dX4_copyFrom_32 rfl (lv_at hl 1 rfl) ?_
        refine lv_aload_n hx hb dX4_copyFrom_33 rfl (lv_at hl 2 rfl) ?_
        refine get' (ci := 6) (fs := oF (ad k2) (pp 0)) (v := .int ((pp 0) 1)) hx hb hw inWX4 hown hK hP (gX (x := va_up x k s2) (k := k2) (r := 0) (f := (pp 0)) hk2 (by decide) ((congrFun (va_up_ne _ _ hkk) _).trans (congrFun hpp _))) rfl 1 (by decide) k_119 rfl rfl dX4_copyFrom_34 ?_
        refine put' (ci := 6) (fs := oF (ad k) (s2 0)) (v := .int ((pp 0) 1)) (ty := .int) (ws' := (cW cy ad en (va_up x k (va_up s2 0 (upd (s2 0) 1 ((pp 0) 1)))))) hx hb hw inWX4 tyX4 tyX4_ok nmX4 hown hK hP hD hS (gO (x := x) (r := 0) (o := s2) (f := (s2 0)) hk (by decide) rfl) rfl 1 (by decide) k_119 rfl rfl (by decide +kernel) rfl rfl (Nat.le_of_ble_eq_true rfl) dX4_copyFrom_37 (sO (x := x) (r := 0) (o := s2) (g := (upd (s2 0) 1 ((pp 0) 1))) hk (by decide)) (fun H locs hP hD hS => ?_)
        refine lv_aload_n hx hb dX4_copyFrom_40 rfl (lv_at hl 2 rfl) ?_
        refine get' (ci := 6) (fs := oF (ad k2) (pp 0)) (v := .ref (ad k2 2)) hx hb hw inWX4 hown hK hP (gX (x := va_up x k (va_up s2 0 (upd (s2 0) 1 ((pp 0) 1)))) (k := k2) (r := 0) (f := (pp 0)) hk2 (by decide) ((congrFun (va_up_ne _ _ hkk) _).trans (congrFun hpp _))) rfl 2 (by decide) k_121 rfl rfl dX4_copyFrom_41 ?_
        refine lv_aload_n hx hb dX4_copyFrom_44 rfl (lv_at hl 1 rfl) ?_
        refine get' (ci := 6) (fs := oF (ad k) (upd (s2 0) 1 ((pp 0) 1))) (v := .ref (ad k 2)) hx hb hw inWX4 hown hK hP (gO (x := x) (r := 0) (o := (va_up s2 0 (upd (s2 0) 1 ((pp 0) 1)))) (f := (upd (s2 0) 1 ((pp 0) 1))) hk (by decide) (va_up_self _ _ _)) rfl 2 (by decide) k_121 rfl rfl dX4_copyFrom_45 ?_
        refine cSN_v (As := [.ref (ad k2 2), .ref (ad k 2)]) (rest := []) hx hb hml hown hw hK hN hA hl.1 hP hD hS n_522 k_523 k_21 k_524 (met_X9_copyNumbers l D cy _ _ _ _ _ _ _ _ _ (gX (x := va_up x k (va_up s2 0 (upd (s2 0) 1 ((pp 0) 1)))) (k := k2) (r := 2) (f := (pp 2)) hk2 (by decide) ((congrFun (va_up_ne _ _ hkk) _).trans (congrFun hpp _))) (gO (x := x) (r := 2) (o := (va_up s2 0 (upd (s2 0) 1 ((pp 0) 1)))) (f := (s2 2)) hk (by decide) ((va_up_ne _ _ (by decide)).trans rfl)) (Nat.le_of_ble_eq_true rfl)) (fun _ _ _ => trivial) Xok_T ⟨rfl, rfl⟩ (n := 2) (by decide +kernel) rfl ⟨Nat.le_of_ble_eq_true rfl, Nat.le_of_ble_eq_true rfl⟩ ⟨Nat.zero_le _, Nat.zero_le _⟩ (Nat.le_of_ble_eq_true rfl) rfl dX4_copyFrom_48 (fun H locs hP hD hS => ?_)
        have hP : va_P D vwCl (cW cy ad en (va_up x k (va_up (va_up s2 0 (upd (s2 0) 1 ((pp 0) 1))) 2 (va_cpy (pp 2) (s2 2) 0 0 6)))) H := cvP hP (sO (x := x) (r := 2) (o := (va_up s2 0 (upd (s2 0) 1 ((pp 0) 1)))) (g := (va_cpy (pp 2) (s2 2) 0 0 6)) hk (by decide))
        have hD : va_D A (cW cy ad en (va_up x k (va_up (va_up s2 0 (upd (s2 0) 1 ((pp 0) 1))) 2 (va_cpy (pp 2) (s2 2) 0 0 6)))) := cvD hD (sO (x := x) (r := 2) (o := (va_up s2 0 (upd (s2 0) 1 ((pp 0) 1)))) (g := (va_cpy (pp 2) (s2 2) 0 0 6)) hk (by decide))
        refine lv_aload_n hx hb dX4_copyFrom_51 rfl (lv_at hl 2 rfl) ?_
        refine get' (ci := 6) (fs := oF (ad k2) (pp 0)) (v := .ref (ad k2 3)) hx hb hw inWX4 hown hK hP (gX (x := va_up x k (va_up (va_up s2 0 (upd (s2 0) 1 ((pp 0) 1))) 2 (va_cpy (pp 2) (s2 2) 0 0 6))) (k := k2) (r := 0) (f := (pp 0)) hk2 (by decide) ((congrFun (va_up_ne _ _ hkk) _).trans (congrFun hpp _))) rfl 3 (by decide) k_122 rfl rfl dX4_copyFrom_52 ?_
        refine lv_aload_n hx hb dX4_copyFrom_55 rfl (lv_at hl 1 rfl) ?_
        refine get' (ci := 6) (fs := oF (ad k) (upd (s2 0) 1 ((pp 0) 1))) (v := .ref (ad k 3)) hx hb hw inWX4 hown hK hP (gO (x := x) (r := 0) (o := (va_up (va_up s2 0 (upd (s2 0) 1 ((pp 0) 1))) 2 (va_cpy (pp 2) (s2 2) 0 0 6))) (f := (upd (s2 0) 1 ((pp 0) 1))) hk (by decide) ((va_up_ne _ _ (by decide)).trans (va_up_self _ _ _))) rfl 3 (by decide) k_122 rfl rfl dX4_copyFrom_56 ?_
        refine cSN_v (As := [.ref (ad k2 3), .ref (ad k 3)]) (rest := []) hx hb hml hown hw hK hN hA hl.1 hP hD hS n_522 k_523 k_21 k_524 (met_X9_copyNumbers l D cy _ _ _ _ _ _ _ _ _ (gX (x := va_up x k (va_up (va_up s2 0 (upd (s2 0) 1 ((pp 0) 1))) 2 (va_cpy (pp 2) (s2 2) 0 0 6))) (k := k2) (r := 3) (f := (pp 3)) hk2 (by decide) ((congrFun (va_up_ne _ _ hkk) _).trans (congrFun hpp _))) (gO (x := x) (r := 3) (o := (va_up (va_up s2 0 (upd (s2 0) 1 ((pp 0) 1))) 2 (va_cpy (pp 2) (s2 2) 0 0 6))) (f := (s2 3)) hk (by decide) ((va_up_ne _ _ (by decide)).trans ((va_up_ne _ _ (by decide)).trans rfl))) (Nat.le_of_ble_eq_true rfl)) (fun _ _ _ => trivial) Xok_T ⟨rfl, rfl⟩ (n := 2) (by decide +kernel) rfl ⟨Nat.le_of_ble_eq_true rfl, Nat.le_of_ble_eq_true rfl⟩ ⟨Nat.zero_le _, Nat.zero_le _⟩ (Nat.le_of_ble_eq_true rfl) rfl dX4_copyFrom_59 (fun H locs hP hD hS => ?_)
        have hP : va_P D vwCl (cW cy ad en (va_up x k (va_up (va_up (va_up s2 0 (upd (s2 0) 1 ((pp 0) 1))) 2 (va_cpy (pp 2) (s2 2) 0 0 6)) 3 (va_cpy (pp 3) (s2 3) 0 0 4)))) H := cvP hP (sO (x := x) (r := 3) (o := (va_up (va_up s2 0 (upd (s2 0) 1 ((pp 0) 1))) 2 (va_cpy (pp 2) (s2 2) 0 0 6))) (g := (va_cpy (pp 3) (s2 3) 0 0 4)) hk (by decide))
        have hD : va_D A (cW cy ad en (va_up x k (va_up (va_up (va_up s2 0 (upd (s2 0) 1 ((pp 0) 1))) 2 (va_cpy (pp 2) (s2 2) 0 0 6)) 3 (va_cpy (pp 3) (s2 3) 0 0 4)))) := cvD hD (sO (x := x) (r := 3) (o := (va_up (va_up s2 0 (upd (s2 0) 1 ((pp 0) 1))) 2 (va_cpy (pp 2) (s2 2) 0 0 6))) (g := (va_cpy (pp 3) (s2 3) 0 0 4)) hk (by decide))
        refine lv_aload_n hx hb dX4_copyFrom_62 rfl (lv_at hl 1 rfl) ?_
        refine get' (ci := 6) (fs := oF (ad k) (upd (s2 0) 1 ((pp 0) 1))) (v := .ref (ad k 4)) hx hb hw inWX4 hown hK hP (gO (x := x) (r := 0) (o := (va_up (va_up (va_up s2 0 (upd (s2 0) 1 ((pp 0) 1))) 2 (va_cpy (pp 2) (s2 2) 0 0 6)) 3 (va_cpy (pp 3) (s2 3) 0 0 4))) (f := (upd (s2 0) 1 ((pp 0) 1))) hk (by decide) ((va_up_ne _ _ (by decide)).trans ((va_up_ne _ _ (by decide)).trans (va_up_self _ _ _)))) rfl 4 (by decide) k_123 rfl rfl dX4_copyFrom_63 ?_
        refine lv_aload_n hx hb dX4_copyFrom_66 rfl (lv_at hl 2 rfl) ?_
        refine get' (ci := 6) (fs := oF (ad k2) (pp 0)) (v := .ref (ad k2 4)) hx hb hw inWX4 hown hK hP (gX (x := va_up x k (va_up (va_up (va_up s2 0 (upd (s2 0) 1 ((pp 0) 1))) 2 (va_cpy (pp 2) (s2 2) 0 0 6)) 3 (va_cpy (pp 3) (s2 3) 0 0 4))) (k := k2) (r := 0) (f := (pp 0)) hk2 (by decide) ((congrFun (va_up_ne _ _ hkk) _).trans (congrFun hpp _))) rfl 4 (by decide) k_123 rfl rfl dX4_copyFrom_67 ?_
        refine cV_v (As := [.ref (ad k2 4)]) (rest := []) hx hb hml hown hw hK hN hA hl.1 hP hD hS k_531 k_532 k_533 k_23 k_534 (met_X7_copyFrom l D cy _ ad en x k hk (va_up (va_up (va_up s2 0 (upd (s2 0) 1 ((pp 0) 1))) 2 (va_cpy (pp 2) (s2 2) 0 0 6)) 3 (va_cpy (pp 3) (s2 3) 0 0 4)) k2 hk2 hkk pp hpp (D_X7_copyFrom (va_up (va_up (va_up s2 0 (upd (s2 0) 1 ((pp 0) 1))) 2 (va_cpy (pp 2) (s2 2) 0 0 6)) 3 (va_cpy (pp 3) (s2 3) 0 0 4)) pp) rfl) (fun _ _ _ => trivial) Xok_T (gO (x := x) (r := 4) (o := (va_up (va_up (va_up s2 0 (upd (s2 0) 1 ((pp 0) 1))) 2 (va_cpy (pp 2) (s2 2) 0 0 6)) 3 (va_cpy (pp 3) (s2 3) 0 0 4))) (f := (s2 4)) hk (by decide) ((va_up_ne _ _ (by decide)).trans ((va_up_ne _ _ (by decide)).trans ((va_up_ne _ _ (by decide)).trans rfl)))) rfl ⟨rfl, rfl⟩ (n := 1) (by decide +kernel) rfl ⟨Nat.le_of_ble_eq_true rfl, Nat.le_of_ble_eq_true rfl⟩ ⟨Nat.le_of_ble_eq_true rfl, Nat.le_of_ble_eq_true rfl⟩ (Nat.le_of_ble_eq_true rfl) rfl dX4_copyFrom_70 (fun H locs hP hD hS => ?_)
        refine lv_aload_n hx hb dX4_copyFrom_73 rfl (lv_at hl 1 rfl) ?_
        refine lv_aload_n hx hb dX4_copyFrom_74 rfl (lv_at hl 2 rfl) ?_
        refine get' (ci := 6) (fs := oF (ad k2) (pp 0)) (v := .int ((pp 0) 5)) hx hb hw inWX4 hown hK hP (gX (x := va_up x k (D_X7_copyFrom (va_up (va_up (va_up s2 0 (upd (s2 0) 1 ((pp 0) 1))) 2 (va_cpy (pp 2) (s2 2) 0 0 6)) 3 (va_cpy (pp 3) (s2 3) 0 0 4)) pp)) (k := k2) (r := 0) (f := (pp 0)) hk2 (by decide) ((congrFun (va_up_ne _ _ hkk) _).trans (congrFun hpp _))) rfl 5 (by decide) k_125 rfl rfl dX4_copyFrom_75 ?_
        refine put' (ci := 6) (fs := oF (ad k) ((D_X7_copyFrom (va_up (va_up (va_up s2 0 (upd (s2 0) 1 ((pp 0) 1))) 2 (va_cpy (pp 2) (s2 2) 0 0 6)) 3 (va_cpy (pp 3) (s2 3) 0 0 4)) pp) 0)) (v := .int ((pp 0) 5)) (ty := .int) (ws' := (cW cy ad en (va_up x k (va_up (D_X7_copyFrom (va_up (va_up (va_up s2 0 (upd (s2 0) 1 ((pp 0) 1))) 2 (va_cpy (pp 2) (s2 2) 0 0 6)) 3 (va_cpy (pp 3) (s2 3) 0 0 4)) pp) 0 (upd ((D_X7_copyFrom (va_up (va_up (va_up s2 0 (upd (s2 0) 1 ((pp 0) 1))) 2 (va_cpy (pp 2) (s2 2) 0 0 6)) 3 (va_cpy (pp 3) (s2 3) 0 0 4)) pp) 0) 5 ((pp 0) 5)))))) hx hb hw inWX4 tyX4 tyX4_ok nmX4 hown hK hP hD hS (gO (x := x) (r := 0) (o := (D_X7_copyFrom (va_up (va_up (va_up s2 0 (upd (s2 0) 1 ((pp 0) 1))) 2 (va_cpy (pp 2) (s2 2) 0 0 6)) 3 (va_cpy (pp 3) (s2 3) 0 0 4)) pp)) (f := ((D_X7_copyFrom (va_up (va_up (va_up s2 0 (upd (s2 0) 1 ((pp 0) 1))) 2 (va_cpy (pp 2) (s2 2) 0 0 6)) 3 (va_cpy (pp 3) (s2 3) 0 0 4)) pp) 0)) hk (by decide) rfl) rfl 5 (by decide) k_125 rfl rfl (by decide +kernel) rfl rfl (Nat.le_of_ble_eq_true rfl) dX4_copyFrom_78 (sO (x := x) (r := 0) (o := (D_X7_copyFrom (va_up (va_up (va_up s2 0 (upd (s2 0) 1 ((pp 0) 1))) 2 (va_cpy (pp 2) (s2 2) 0 0 6)) 3 (va_cpy (pp 3) (s2 3) 0 0 4)) pp)) (g := (upd ((D_X7_copyFrom (va_up (va_up (va_up s2 0 (upd (s2 0) 1 ((pp 0) 1))) 2 (va_cpy (pp 2) (s2 2) 0 0 6)) 3 (va_cpy (pp 3) (s2 3) 0 0 4)) pp) 0) 5 ((pp 0) 5))) hk (by decide)) (fun H locs hP hD hS => ?_)
        refine lv_aload_n hx hb dX4_copyFrom_81 rfl (lv_at hl 1 rfl) ?_
        refine lv_aload_n hx hb dX4_copyFrom_82 rfl (lv_at hl 2 rfl) ?_
        refine get' (ci := 6) (fs := oF (ad k2) (pp 0)) (v := .int ((pp 0) 6)) hx hb hw inWX4 hown hK hP (gX (x := va_up x k (va_up (D_X7_copyFrom (va_up (va_up (va_up s2 0 (upd (s2 0) 1 ((pp 0) 1))) 2 (va_cpy (pp 2) (s2 2) 0 0 6)) 3 (va_cpy (pp 3) (s2 3) 0 0 4)) pp) 0 (upd ((D_X7_copyFrom (va_up (va_up (va_up s2 0 (upd (s2 0) 1 ((pp 0) 1))) 2 (va_cpy (pp 2) (s2 2) 0 0 6)) 3 (va_cpy (pp 3) (s2 3) 0 0 4)) pp) 0) 5 ((pp 0) 5)))) (k := k2) (r := 0) (f := (pp 0)) hk2 (by decide) ((congrFun (va_up_ne _ _ hkk) _).trans (congrFun hpp _))) rfl 6 (by decide) k_126 rfl rfl dX4_copyFrom_83 ?_
        refine put' (ci := 6) (fs := oF (ad k) (upd ((D_X7_copyFrom (va_up (va_up (va_up s2 0 (upd (s2 0) 1 ((pp 0) 1))) 2 (va_cpy (pp 2) (s2 2) 0 0 6)) 3 (va_cpy (pp 3) (s2 3) 0 0 4)) pp) 0) 5 ((pp 0) 5))) (v := .int ((pp 0) 6)) (ty := .int) (ws' := (cW cy ad en (va_up x k (va_up (D_X7_copyFrom (va_up (va_up (va_up s2 0 (upd (s2 0) 1 ((pp 0) 1))) 2 (va_cpy (pp 2) (s2 2) 0 0 6)) 3 (va_cpy (pp 3) (s2 3) 0 0 4)) pp) 0 (upd (upd ((D_X7_copyFrom (va_up (va_up (va_up s2 0 (upd (s2 0) 1 ((pp 0) 1))) 2 (va_cpy (pp 2) (s2 2) 0 0 6)) 3 (va_cpy (pp 3) (s2 3) 0 0 4)) pp) 0) 5 ((pp 0) 5)) 6 ((pp 0) 6)))))) hx hb hw inWX4 tyX4 tyX4_ok nmX4 hown hK hP hD hS (gO (x := x) (r := 0) (o := (va_up (D_X7_copyFrom (va_up (va_up (va_up s2 0 (upd (s2 0) 1 ((pp 0) 1))) 2 (va_cpy (pp 2) (s2 2) 0 0 6)) 3 (va_cpy (pp 3) (s2 3) 0 0 4)) pp) 0 (upd ((D_X7_copyFrom (va_up (va_up (va_up s2 0 (upd (s2 0) 1 ((pp 0) 1))) 2 (va_cpy (pp 2) (s2 2) 0 0 6)) 3 (va_cpy (pp 3) (s2 3) 0 0 4)) pp) 0) 5 ((pp 0) 5)))) (f := (upd ((D_X7_copyFrom (va_up (va_up (va_up s2 0 (upd (s2 0) 1 ((pp 0) 1))) 2 (va_cpy (pp 2) (s2 2) 0 0 6)) 3 (va_cpy (pp 3) (s2 3) 0 0 4)) pp) 0) 5 ((pp 0) 5))) hk (by decide) (va_up_self _ _ _)) rfl 6 (by decide) k_126 rfl rfl (by decide +kernel) rfl rfl (Nat.le_of_ble_eq_true rfl) dX4_copyFrom_86 ((sO (x := x) (r := 0) (o := (va_up (D_X7_copyFrom (va_up (va_up (va_up s2 0 (upd (s2 0) 1 ((pp 0) 1))) 2 (va_cpy (pp 2) (s2 2) 0 0 6)) 3 (va_cpy (pp 3) (s2 3) 0 0 4)) pp) 0 (upd ((D_X7_copyFrom (va_up (va_up (va_up s2 0 (upd (s2 0) 1 ((pp 0) 1))) 2 (va_cpy (pp 2) (s2 2) 0 0 6)) 3 (va_cpy (pp 3) (s2 3) 0 0 4)) pp) 0) 5 ((pp 0) 5)))) (g := (upd (upd ((D_X7_copyFrom (va_up (va_up (va_up s2 0 (upd (s2 0) 1 ((pp 0) 1))) 2 (va_cpy (pp 2) (s2 2) 0 0 6)) 3 (va_cpy (pp 3) (s2 3) 0 0 4)) pp) 0) 5 ((pp 0) 5)) 6 ((pp 0) 6))) hk (by decide)).trans (congrArg (fun z => cW cy ad en (va_up x k z)) (up_up _ _ _ _))) (fun H locs hP hD hS => ?_)
        refine lv_aload_n hx hb dX4_copyFrom_89 rfl (lv_at hl 1 rfl) ?_
        refine lv_aload_n hx hb dX4_copyFrom_90 rfl (lv_at hl 2 rfl) ?_
        refine get' (ci := 6) (fs := oF (ad k2) (pp 0)) (v := .int ((pp 0) 7)) hx hb hw inWX4 hown hK hP (gX (x := va_up x k (va_up (D_X7_copyFrom (va_up (va_up (va_up s2 0 (upd (s2 0) 1 ((pp 0) 1))) 2 (va_cpy (pp 2) (s2 2) 0 0 6)) 3 (va_cpy (pp 3) (s2 3) 0 0 4)) pp) 0 (upd (upd ((D_X7_copyFrom (va_up (va_up (va_up s2 0 (upd (s2 0) 1 ((pp 0) 1))) 2 (va_cpy (pp 2) (s2 2) 0 0 6)) 3 (va_cpy (pp 3) (s2 3) 0 0 4)) pp) 0) 5 ((pp 0) 5)) 6 ((pp 0) 6)))) (k := k2) (r := 0) (f := (pp 0)) hk2 (by decide) ((congrFun (va_up_ne _ _ hkk) _).trans (congrFun hpp _))) rfl 7 (by decide) k_127 rfl rfl dX4_copyFrom_91 ?_
        refine put' (ci := 6) (fs := oF (ad k) (upd (upd ((D_X7_copyFrom (va_up (va_up (va_up s2 0 (upd (s2 0) 1 ((pp 0) 1))) 2 (va_cpy (pp 2) (s2 2) 0 0 6)) 3 (va_cpy (pp 3) (s2 3) 0 0 4)) pp) 0) 5 ((pp 0) 5)) 6 ((pp 0) 6))) (v := .int ((pp 0) 7)) (ty := .int) (ws' := (cW cy ad en (va_up x k (va_up (D_X7_copyFrom (va_up (va_up (va_up s2 0 (upd (s2 0) 1 ((pp 0) 1))) 2 (va_cpy (pp 2) (s2 2) 0 0 6)) 3 (va_cpy (pp 3) (s2 3) 0 0 4)) pp) 0 (upd (upd (upd ((D_X7_copyFrom (va_up (va_up (va_up s2 0 (upd (s2 0) 1 ((pp 0) 1))) 2 (va_cpy (pp 2) (s2 2) 0 0 6)) 3 (va_cpy (pp 3) (s2 3) 0 0 4)) pp) 0) 5 ((pp 0) 5)) 6 ((pp 0) 6)) 7 ((pp 0) 7)))))) hx hb hw inWX4 tyX4 tyX4_ok nmX4 hown hK hP hD hS (gO (x := x) (r := 0) (o := (va_up (D_X7_copyFrom (va_up (va_up (va_up s2 0 (upd (s2 0) 1 ((pp 0) 1))) 2 (va_cpy (pp 2) (s2 2) 0 0 6)) 3 (va_cpy (pp 3) (s2 3) 0 0 4)) pp) 0 (upd (upd ((D_X7_copyFrom (va_up (va_up (va_up s2 0 (upd (s2 0) 1 ((pp 0) 1))) 2 (va_cpy (pp 2) (s2 2) 0 0 6)) 3 (va_cpy (pp 3) (s2 3) 0 0 4)) pp) 0) 5 ((pp 0) 5)) 6 ((pp 0) 6)))) (f := (upd (upd ((D_X7_copyFrom (va_up (va_up (va_up s2 0 (upd (s2 0) 1 ((pp 0) 1))) 2 (va_cpy (pp 2) (s2 2) 0 0 6)) 3 (va_cpy (pp 3) (s2 3) 0 0 4)) pp) 0) 5 ((pp 0) 5)) 6 ((pp 0) 6))) hk (by decide) (va_up_self _ _ _)) rfl 7 (by decide) k_127 rfl rfl (by decide +kernel) rfl rfl (Nat.le_of_ble_eq_true rfl) dX4_copyFrom_94 ((sO (x := x) (r := 0) (o := (va_up (D_X7_copyFrom (va_up (va_up (va_up s2 0 (upd (s2 0) 1 ((pp 0) 1))) 2 (va_cpy (pp 2) (s2 2) 0 0 6)) 3 (va_cpy (pp 3) (s2 3) 0 0 4)) pp) 0 (upd (upd ((D_X7_copyFrom (va_up (va_up (va_up s2 0 (upd (s2 0) 1 ((pp 0) 1))) 2 (va_cpy (pp 2) (s2 2) 0 0 6)) 3 (va_cpy (pp 3) (s2 3) 0 0 4)) pp) 0) 5 ((pp 0) 5)) 6 ((pp 0) 6)))) (g := (upd (upd (upd ((D_X7_copyFrom (va_up (va_up (va_up s2 0 (upd (s2 0) 1 ((pp 0) 1))) 2 (va_cpy (pp 2) (s2 2) 0 0 6)) 3 (va_cpy (pp 3) (s2 3) 0 0 4)) pp) 0) 5 ((pp 0) 5)) 6 ((pp 0) 6)) 7 ((pp 0) 7))) hk (by decide)).trans (congrArg (fun z => cW cy ad en (va_up x k z)) (up_up _ _ _ _))) (fun H locs hP hD hS => ?_)
        refine lv_aload_n hx hb dX4_copyFrom_97 rfl (lv_at hl 1 rfl) ?_
        refine lv_aload_n hx hb dX4_copyFrom_98 rfl (lv_at hl 2 rfl) ?_
        refine get' (ci := 6) (fs := oF (ad k2) (pp 0)) (v := .int ((pp 0) 8)) hx hb hw inWX4 hown hK hP (gX (x := va_up x k (va_up (D_X7_copyFrom (va_up (va_up (va_up s2 0 (upd (s2 0) 1 ((pp 0) 1))) 2 (va_cpy (pp 2) (s2 2) 0 0 6)) 3 (va_cpy (pp 3) (s2 3) 0 0 4)) pp) 0 (upd (upd (upd ((D_X7_copyFrom (va_up (va_up (va_up s2 0 (upd (s2 0) 1 ((pp 0) 1))) 2 (va_cpy (pp 2) (s2 2) 0 0 6)) 3 (va_cpy (pp 3) (s2 3) 0 0 4)) pp) 0) 5 ((pp 0) 5)) 6 ((pp 0) 6)) 7 ((pp 0) 7)))) (k := k2) (r := 0) (f := (pp 0)) hk2 (by decide) ((congrFun (va_up_ne _ _ hkk) _).trans (congrFun hpp _))) rfl 8 (by decide) k_128 rfl rfl dX4_copyFrom_99 ?_
        refine put' (ci := 6) (fs := oF (ad k) (upd (upd (upd ((D_X7_copyFrom (va_up (va_up (va_up s2 0 (upd (s2 0) 1 ((pp 0) 1))) 2 (va_cpy (pp 2) (s2 2) 0 0 6)) 3 (va_cpy (pp 3) (s2 3) 0 0 4)) pp) 0) 5 ((pp 0) 5)) 6 ((pp 0) 6)) 7 ((pp 0) 7))) (v := .int ((pp 0) 8)) (ty := .int) (ws' := (cW cy ad en (va_up x k (va_up (D_X7_copyFrom (va_up (va_up (va_up s2 0 (upd (s2 0) 1 ((pp 0) 1))) 2 (va_cpy (pp 2) (s2 2) 0 0 6)) 3 (va_cpy (pp 3) (s2 3) 0 0 4)) pp) 0 (upd (upd (upd (upd ((D_X7_copyFrom (va_up (va_up (va_up s2 0 (upd (s2 0) 1 ((pp 0) 1))) 2 (va_cpy (pp 2) (s2 2) 0 0 6)) 3 (va_cpy (pp 3) (s2 3) 0 0 4)) pp) 0) 5 ((pp 0) 5)) 6 ((pp 0) 6)) 7 ((pp 0) 7)) 8 ((pp 0) 8)))))) hx hb hw inWX4 tyX4 tyX4_ok nmX4 hown hK hP hD hS (gO (x := x) (r := 0) (o := (va_up (D_X7_copyFrom (va_up (va_up (va_up s2 0 (upd (s2 0) 1 ((pp 0) 1))) 2 (va_cpy (pp 2) (s2 2) 0 0 6)) 3 (va_cpy (pp 3) (s2 3) 0 0 4)) pp) 0 (upd (upd (upd ((D_X7_copyFrom (va_up (va_up (va_up s2 0 (upd (s2 0) 1 ((pp 0) 1))) 2 (va_cpy (pp 2) (s2 2) 0 0 6)) 3 (va_cpy (pp 3) (s2 3) 0 0 4)) pp) 0) 5 ((pp 0) 5)) 6 ((pp 0) 6)) 7 ((pp 0) 7)))) (f := (upd (upd (upd ((D_X7_copyFrom (va_up (va_up (va_up s2 0 (upd (s2 0) 1 ((pp 0) 1))) 2 (va_cpy (pp 2) (s2 2) 0 0 6)) 3 (va_cpy (pp 3) (s2 3) 0 0 4)) pp) 0) 5 ((pp 0) 5)) 6 ((pp 0) 6)) 7 ((pp 0) 7))) hk (by decide) (va_up_self _ _ _)) rfl 8 (by decide) k_128 rfl rfl (by decide +kernel) rfl rfl (Nat.le_of_ble_eq_true rfl) dX4_copyFrom_102 ((sO (x := x) (r := 0) (o := (va_up (D_X7_copyFrom (va_up (va_up (va_up s2 0 (upd (s2 0) 1 ((pp 0) 1))) 2 (va_cpy (pp 2) (s2 2) 0 0 6)) 3 (va_cpy (pp 3) (s2 3) 0 0 4)) pp) 0 (upd (upd (upd ((D_X7_copyFrom (va_up (va_up (va_up s2 0 (upd (s2 0) 1 ((pp 0) 1))) 2 (va_cpy (pp 2) (s2 2) 0 0 6)) 3 (va_cpy (pp 3) (s2 3) 0 0 4)) pp) 0) 5 ((pp 0) 5)) 6 ((pp 0) 6)) 7 ((pp 0) 7)))) (g := (upd (upd (upd (upd ((D_X7_copyFrom (va_up (va_up (va_up s2 0 (upd (s2 0) 1 ((pp 0) 1))) 2 (va_cpy (pp 2) (s2 2) 0 0 6)) 3 (va_cpy (pp 3) (s2 3) 0 0 4)) pp) 0) 5 ((pp 0) 5)) 6 ((pp 0) 6)) 7 ((pp 0) 7)) 8 ((pp 0) 8))) hk (by decide)).trans (congrArg (fun z => cW cy ad en (va_up x k z)) (up_up _ _ _ _))) (fun H locs hP hD hS => ?_)
        refine lv_aload_n hx hb dX4_copyFrom_105 rfl (lv_at hl 1 rfl) ?_
        refine lv_aload_n hx hb dX4_copyFrom_106 rfl (lv_at hl 2 rfl) ?_
        refine get' (ci := 6) (fs := oF (ad k2) (pp 0)) (v := .int ((pp 0) 9)) hx hb hw inWX4 hown hK hP (gX (x := va_up x k (va_up (D_X7_copyFrom (va_up (va_up (va_up s2 0 (upd (s2 0) 1 ((pp 0) 1))) 2 (va_cpy (pp 2) (s2 2) 0 0 6)) 3 (va_cpy (pp 3) (s2 3) 0 0 4)) pp) 0 (upd (upd (upd (upd ((D_X7_copyFrom (va_up (va_up (va_up s2 0 (upd (s2 0) 1 ((pp 0) 1))) 2 (va_cpy (pp 2) (s2 2) 0 0 6)) 3 (va_cpy (pp 3) (s2 3) 0 0 4)) pp) 0) 5 ((pp 0) 5)) 6 ((pp 0) 6)) 7 ((pp 0) 7)) 8 ((pp 0) 8)))) (k := k2) (r := 0) (f := (pp 0)) hk2 (by decide) ((congrFun (va_up_ne _ _ hkk) _).trans (congrFun hpp _))) rfl 9 (by decide) k_129 rfl rfl dX4_copyFrom_107 ?_
        refine put' (ci := 6) (fs := oF (ad k) (upd (upd (upd (upd ((D_X7_copyFrom (va_up (va_up (va_up s2 0 (upd (s2 0) 1 ((pp 0) 1))) 2 (va_cpy (pp 2) (s2 2) 0 0 6)) 3 (va_cpy (pp 3) (s2 3) 0 0 4)) pp) 0) 5 ((pp 0) 5)) 6 ((pp 0) 6)) 7 ((pp 0) 7)) 8 ((pp 0) 8))) (v := .int ((pp 0) 9)) (ty := .int) (ws' := (cW cy ad en (va_up x k (va_up (D_X7_copyFrom (va_up (va_up (va_up s2 0 (upd (s2 0) 1 ((pp 0) 1))) 2 (va_cpy (pp 2) (s2 2) 0 0 6)) 3 (va_cpy (pp 3) (s2 3) 0 0 4)) pp) 0 (upd (upd (upd (upd (upd ((D_X7_copyFrom (va_up (va_up (va_up s2 0 (upd (s2 0) 1 ((pp 0) 1))) 2 (va_cpy (pp 2) (s2 2) 0 0 6)) 3 (va_cpy (pp 3) (s2 3) 0 0 4)) pp) 0) 5 ((pp 0) 5)) 6 ((pp 0) 6)) 7 ((pp 0) 7)) 8 ((pp 0) 8)) 9 ((pp 0) 9)))))) hx hb hw inWX4 tyX4 tyX4_ok nmX4 hown hK hP hD hS (gO (x := x) (r := 0) (o := (va_up (D_X7_copyFrom (va_up (va_up (va_up s2 0 (upd (s2 0) 1 ((pp 0) 1))) 2 (va_cpy (pp 2) (s2 2) 0 0 6)) 3 (va_cpy (pp 3) (s2 3) 0 0 4)) pp) 0 (upd (upd (upd (upd ((D_X7_copyFrom (va_up (va_up (va_up s2 0 (upd (s2 0) 1 ((pp 0) 1))) 2 (va_cpy (pp 2) (s2 2) 0 0 6)) 3 (va_cpy (pp 3) (s2 3) 0 0 4)) pp) 0) 5 ((pp 0) 5)) 6 ((pp 0) 6)) 7 ((pp 0) 7)) 8 ((pp 0) 8)))) (f := (upd (upd (upd (upd ((D_X7_copyFrom (va_up (va_up (va_up s2 0 (upd (s2 0) 1 ((pp 0) 1))) 2 (va_cpy (pp 2) (s2 2) 0 0 6)) 3 (va_cpy (pp 3) (s2 3) 0 0 4)) pp) 0) 5 ((pp 0) 5)) 6 ((pp 0) 6)) 7 ((pp 0) 7)) 8 ((pp 0) 8))) hk (by decide) (va_up_self _ _ _)) rfl 9 (by decide) k_129 rfl rfl (by decide +kernel) rfl rfl (Nat.le_of_ble_eq_true rfl) dX4_copyFrom_110 ((sO (x := x) (r := 0) (o := (va_up (D_X7_copyFrom (va_up (va_up (va_up s2 0 (upd (s2 0) 1 ((pp 0) 1))) 2 (va_cpy (pp 2) (s2 2) 0 0 6)) 3 (va_cpy (pp 3) (s2 3) 0 0 4)) pp) 0 (upd (upd (upd (upd ((D_X7_copyFrom (va_up (va_up (va_up s2 0 (upd (s2 0) 1 ((pp 0) 1))) 2 (va_cpy (pp 2) (s2 2) 0 0 6)) 3 (va_cpy (pp 3) (s2 3) 0 0 4)) pp) 0) 5 ((pp 0) 5)) 6 ((pp 0) 6)) 7 ((pp 0) 7)) 8 ((pp 0) 8)))) (g := (upd (upd (upd (upd (upd ((D_X7_copyFrom (va_up (va_up (va_up s2 0 (upd (s2 0) 1 ((pp 0) 1))) 2 (va_cpy (pp 2) (s2 2) 0 0 6)) 3 (va_cpy (pp 3) (s2 3) 0 0 4)) pp) 0) 5 ((pp 0) 5)) 6 ((pp 0) 6)) 7 ((pp 0) 7)) 8 ((pp 0) 8)) 9 ((pp 0) 9))) hk (by decide)).trans (congrArg (fun z => cW cy ad en (va_up x k z)) (up_up _ _ _ _))) (fun H locs hP hD hS => ?_)
        refine lv_aload_n hx hb dX4_copyFrom_113 rfl (lv_at hl 1 rfl) ?_
        refine lv_aload_n hx hb dX4_copyFrom_114 rfl (lv_at hl 2 rfl) ?_
        refine get' (ci := 6) (fs := oF (ad k2) (pp 0)) (v := .int ((pp 0) 10)) hx hb hw inWX4 hown hK hP (gX (x := va_up x k (va_up (D_X7_copyFrom (va_up (va_up (va_up s2 0 (upd (s2 0) 1 ((pp 0) 1))) 2 (va_cpy (pp 2) (s2 2) 0 0 6)) 3 (va_cpy (pp 3) (s2 3) 0 0 4)) pp) 0 (upd (upd (upd (upd (upd ((D_X7_copyFrom (va_up (va_up (va_up s2 0 (upd (s2 0) 1 ((pp 0) 1))) 2 (va_cpy (pp 2) (s2 2) 0 0 6)) 3 (va_cpy (pp 3) (s2 3) 0 0 4)) pp) 0) 5 ((pp 0) 5)) 6 ((pp 0) 6)) 7 ((pp 0) 7)) 8 ((pp 0) 8)) 9 ((pp 0) 9)))) (k := k2) (r := 0) (f := (pp 0)) hk2 (by decide) ((congrFun (va_up_ne _ _ hkk) _).trans (congrFun hpp _))) rfl 10 (by decide) k_130 rfl rfl dX4_copyFrom_115 ?_
        refine put' (ci := 6) (fs := oF (ad k) (upd (upd (upd (upd (upd ((D_X7_copyFrom (va_up (va_up (va_up s2 0 (upd (s2 0) 1 ((pp 0) 1))) 2 (va_cpy (pp 2) (s2 2) 0 0 6)) 3 (va_cpy (pp 3) (s2 3) 0 0 4)) pp) 0) 5 ((pp 0) 5)) 6 ((pp 0) 6)) 7 ((pp 0) 7)) 8 ((pp 0) 8)) 9 ((pp 0) 9))) (v := .int ((pp 0) 10)) (ty := .int) (ws' := (cW cy ad en (va_up x k (va_up (D_X7_copyFrom (va_up (va_up (va_up s2 0 (upd (s2 0) 1 ((pp 0) 1))) 2 (va_cpy (pp 2) (s2 2) 0 0 6)) 3 (va_cpy (pp 3) (s2 3) 0 0 4)) pp) 0 (upd (upd (upd (upd (upd (upd ((D_X7_copyFrom (va_up (va_up (va_up s2 0 (upd (s2 0) 1 ((pp 0) 1))) 2 (va_cpy (pp 2) (s2 2) 0 0 6)) 3 (va_cpy (pp 3) (s2 3) 0 0 4)) pp) 0) 5 ((pp 0) 5)) 6 ((pp 0) 6)) 7 ((pp 0) 7)) 8 ((pp 0) 8)) 9 ((pp 0) 9)) 10 ((pp 0) 10)))))) hx hb hw inWX4 tyX4 tyX4_ok nmX4 hown hK hP hD hS (gO (x := x) (r := 0) (o := (va_up (D_X7_copyFrom (va_up (va_up (va_up s2 0 (upd (s2 0) 1 ((pp 0) 1))) 2 (va_cpy (pp 2) (s2 2) 0 0 6)) 3 (va_cpy (pp 3) (s2 3) 0 0 4)) pp) 0 (upd (upd (upd (upd (upd ((D_X7_copyFrom (va_up (va_up (va_up s2 0 (upd (s2 0) 1 ((pp 0) 1))) 2 (va_cpy (pp 2) (s2 2) 0 0 6)) 3 (va_cpy (pp 3) (s2 3) 0 0 4)) pp) 0) 5 ((pp 0) 5)) 6 ((pp 0) 6)) 7 ((pp 0) 7)) 8 ((pp 0) 8)) 9 ((pp 0) 9)))) (f := (upd (upd (upd (upd (upd ((D_X7_copyFrom (va_up (va_up (va_up s2 0 (upd (s2 0) 1 ((pp 0) 1))) 2 (va_cpy (pp 2) (s2 2) 0 0 6)) 3 (va_cpy (pp 3) (s2 3) 0 0 4)) pp) 0) 5 ((pp 0) 5)) 6 ((pp 0) 6)) 7 ((pp 0) 7)) 8 ((pp 0) 8)) 9 ((pp 0) 9))) hk (by decide) (va_up_self _ _ _)) rfl 10 (by decide) k_130 rfl rfl (by decide +kernel) rfl rfl (Nat.le_of_ble_eq_true rfl) dX4_copyFrom_118 ((sO (x := x) (r := 0) (o := (va_up (D_X7_copyFrom (va_up (va_up (va_up s2 0 (upd (s2 0) 1 ((pp 0) 1))) 2 (va_cpy (pp 2) (s2 2) 0 0 6)) 3 (va_cpy (pp 3) (s2 3) 0 0 4)) pp) 0 (upd (upd (upd (upd (upd ((D_X7_copyFrom (va_up (va_up (va_up s2 0 (upd (s2 0) 1 ((pp 0) 1))) 2 (va_cpy (pp 2) (s2 2) 0 0 6)) 3 (va_cpy (pp 3) (s2 3) 0 0 4)) pp) 0) 5 ((pp 0) 5)) 6 ((pp 0) 6)) 7 ((pp 0) 7)) 8 ((pp 0) 8)) 9 ((pp 0) 9)))) (g := (upd (upd (upd (upd (upd (upd ((D_X7_copyFrom (va_up (va_up (va_up s2 0 (upd (s2 0) 1 ((pp 0) 1))) 2 (va_cpy (pp 2) (s2 2) 0 0 6)) 3 (va_cpy (pp 3) (s2 3) 0 0 4)) pp) 0) 5 ((pp 0) 5)) 6 ((pp 0) 6)) 7 ((pp 0) 7)) 8 ((pp 0) 8)) 9 ((pp 0) 9)) 10 ((pp 0) 10))) hk (by decide)).trans (congrArg (fun z => cW cy ad en (va_up x k z)) (up_up _ _ _ _))) (fun H locs hP hD hS => ?_)
        refine lv_aload_n hx hb dX4_copyFrom_121 rfl (lv_at hl 1 rfl) ?_
        refine lv_aload_n hx hb dX4_copyFrom_122 rfl (lv_at hl 2 rfl) ?_
        refine get' (ci := 6) (fs := oF (ad k2) (pp 0)) (v := .int ((pp 0) 11)) hx hb hw inWX4 hown hK hP (gX (x := va_up x k (va_up (D_X7_copyFrom (va_up (va_up (va_up s2 0 (upd (s2 0) 1 ((pp 0) 1))) 2 (va_cpy (pp 2) (s2 2) 0 0 6)) 3 (va_cpy (pp 3) (s2 3) 0 0 4)) pp) 0 (upd (upd (upd (upd (upd (upd ((D_X7_copyFrom (va_up (va_up (va_up s2 0 (upd (s2 0) 1 ((pp 0) 1))) 2 (va_cpy (pp 2) (s2 2) 0 0 6)) 3 (va_cpy (pp 3) (s2 3) 0 0 4)) pp) 0) 5 ((pp 0) 5)) 6 ((pp 0) 6)) 7 ((pp 0) 7)) 8 ((pp 0) 8)) 9 ((pp 0) 9)) 10 ((pp 0) 10)))) (k := k2) (r := 0) (f := (pp 0)) hk2 (by decide) ((congrFun (va_up_ne _ _ hkk) _).trans (congrFun hpp _))) rfl 11 (by decide) k_131 rfl rfl dX4_copyFrom_123 ?_
        refine put' (ci := 6) (fs := oF (ad k) (upd (upd (upd (upd (upd (upd ((D_X7_copyFrom (va_up (va_up (va_up s2 0 (upd (s2 0) 1 ((pp 0) 1))) 2 (va_cpy (pp 2) (s2 2) 0 0 6)) 3 (va_cpy (pp 3) (s2 3) 0 0 4)) pp) 0) 5 ((pp 0) 5)) 6 ((pp 0) 6)) 7 ((pp 0) 7)) 8 ((pp 0) 8)) 9 ((pp 0) 9)) 10 ((pp 0) 10))) (v := .int ((pp 0) 11)) (ty := .int) (ws' := (cW cy ad en (va_up x k (va_up (D_X7_copyFrom (va_up (va_up (va_up s2 0 (upd (s2 0) 1 ((pp 0) 1))) 2 (va_cpy (pp 2) (s2 2) 0 0 6)) 3 (va_cpy (pp 3) (s2 3) 0 0 4)) pp) 0 (upd (upd (upd (upd (upd (upd (upd ((D_X7_copyFrom (va_up (va_up (va_up s2 0 (upd (s2 0) 1 ((pp 0) 1))) 2 (va_cpy (pp 2) (s2 2) 0 0 6)) 3 (va_cpy (pp 3) (s2 3) 0 0 4)) pp) 0) 5 ((pp 0) 5)) 6 ((pp 0) 6)) 7 ((pp 0) 7)) 8 ((pp 0) 8)) 9 ((pp 0) 9)) 10 ((pp 0) 10)) 11 ((pp 0) 11)))))) hx hb hw inWX4 tyX4 tyX4_ok nmX4 hown hK hP hD hS (gO (x := x) (r := 0) (o := (va_up (D_X7_copyFrom (va_up (va_up (va_up s2 0 (upd (s2 0) 1 ((pp 0) 1))) 2 (va_cpy (pp 2) (s2 2) 0 0 6)) 3 (va_cpy (pp 3) (s2 3) 0 0 4)) pp) 0 (upd (upd (upd (upd (upd (upd ((D_X7_copyFrom (va_up (va_up (va_up s2 0 (upd (s2 0) 1 ((pp 0) 1))) 2 (va_cpy (pp 2) (s2 2) 0 0 6)) 3 (va_cpy (pp 3) (s2 3) 0 0 4)) pp) 0) 5 ((pp 0) 5)) 6 ((pp 0) 6)) 7 ((pp 0) 7)) 8 ((pp 0) 8)) 9 ((pp 0) 9)) 10 ((pp 0) 10)))) (f := (upd (upd (upd (upd (upd (upd ((D_X7_copyFrom (va_up (va_up (va_up s2 0 (upd (s2 0) 1 ((pp 0) 1))) 2 (va_cpy (pp 2) (s2 2) 0 0 6)) 3 (va_cpy (pp 3) (s2 3) 0 0 4)) pp) 0) 5 ((pp 0) 5)) 6 ((pp 0) 6)) 7 ((pp 0) 7)) 8 ((pp 0) 8)) 9 ((pp 0) 9)) 10 ((pp 0) 10))) hk (by decide) (va_up_self _ _ _)) rfl 11 (by decide) k_131 rfl rfl (by decide +kernel) rfl rfl (Nat.le_of_ble_eq_true rfl) dX4_copyFrom_126 ((sO (x := x) (r := 0) (o := (va_up (D_X7_copyFrom (va_up (va_up (va_up s2 0 (upd (s2 0) 1 ((pp 0) 1))) 2 (va_cpy (pp 2) (s2 2) 0 0 6)) 3 (va_cpy (pp 3) (s2 3) 0 0 4)) pp) 0 (upd (upd (upd (upd (upd (upd ((D_X7_copyFrom (va_up (va_up (va_up s2 0 (upd (s2 0) 1 ((pp 0) 1))) 2 (va_cpy (pp 2) (s2 2) 0 0 6)) 3 (va_cpy (pp 3) (s2 3) 0 0 4)) pp) 0) 5 ((pp 0) 5)) 6 ((pp 0) 6)) 7 ((pp 0) 7)) 8 ((pp 0) 8)) 9 ((pp 0) 9)) 10 ((pp 0) 10)))) (g := (upd (upd (upd (upd (upd (upd (upd ((D_X7_copyFrom (va_up (va_up (va_up s2 0 (upd (s2 0) 1 ((pp 0) 1))) 2 (va_cpy (pp 2) (s2 2) 0 0 6)) 3 (va_cpy (pp 3) (s2 3) 0 0 4)) pp) 0) 5 ((pp 0) 5)) 6 ((pp 0) 6)) 7 ((pp 0) 7)) 8 ((pp 0) 8)) 9 ((pp 0) 9)) 10 ((pp 0) 10)) 11 ((pp 0) 11))) hk (by decide)).trans (congrArg (fun z => cW cy ad en (va_up x k z)) (up_up _ _ _ _))) (fun H locs hP hD hS => ?_)
        cases hF
        exact hret _ _ _ _ _ hP hD hS rfl dX4_copyFrom_129
      · replace hF := (if_neg h1).symm.trans hF
        refine lv_aload_n hx hb dX4_copyFrom_11 rfl (lv_at hl 1 rfl) ?_
        refine get' (ci := 6) (fs := oF (ad k) (s2 0)) (v := .ref (ad k 1)) hx hb hw inWX4 hown hK hP (gO (x := x) (r := 0) (o := s2) (f := (s2 0)) hk (by decide) rfl) rfl 0 (by decide) k_117 rfl rfl dX4_copyFrom_12 ?_
        refine lv_iload_n hx hb dX4_copyFrom_15 rfl (lv_at hl 0 rfl) ?_
        obtain ⟨h5, hF⟩ := ite_some hF
        have hr6 : (i2h2.toNatClampNeg + 7) < 13 := Nat.add_lt_add_right (inb_lt h5) 7
        refine aald' (n := 6) (g := (ad k (i2h2.toNatClampNeg + 7))) hx hb hK hP (gO (x := x) (r := 1) (o := s2) (f := (s2 1)) hk (by decide) rfl) (t0 := 3) rfl (vp_inb h5) rfl dX4_copyFrom_16 ?_
        refine lv_aload_n hx hb dX4_copyFrom_17 rfl (lv_at hl 2 rfl) ?_
        refine get' (ci := 6) (fs := oF (ad k2) (pp 0)) (v := .ref (ad k2 1)) hx hb hw inWX4 hown hK hP (gX (x := va_up x k s2) (k := k2) (r := 0) (f := (pp 0)) hk2 (by decide) ((congrFun (va_up_ne _ _ hkk) _).trans (congrFun hpp _))) rfl 0 (by decide) k_117 rfl rfl dX4_copyFrom_18 ?_
        refine lv_iload_n hx hb dX4_copyFrom_21 rfl (lv_at hl 0 rfl) ?_
        obtain ⟨h7, hF⟩ := ite_some hF
        have hr8 : (i2h2.toNatClampNeg + 7) < 13 := Nat.add_lt_add_right (inb_lt h7) 7
        refine aald' (n := 6) (g := (ad k2 (i2h2.toNatClampNeg + 7))) hx hb hK hP (gX (x := va_up x k s2) (k := k2) (r := 1) (f := (pp 1)) hk2 (by decide) ((congrFun (va_up_ne _ _ hkk) _).trans (congrFun hpp _))) (t0 := 3) rfl (vp_inb h7) rfl dX4_copyFrom_22 ?_
        refine cV_v (As := [.ref (ad k2 (i2h2.toNatClampNeg + 7))]) (rest := []) hx hb hml hown hw hK hN hA hl.1 hP hD hS k_518 k_519 k_520 k_24 k_521 (met_X1_copyFrom l D cy _ (cW cy ad en (va_up x k s2)) (13 * k + (i2h2.toNatClampNeg + 7)) (ad k (i2h2.toNatClampNeg + 7)) (s2 (i2h2.toNatClampNeg + 7)) (13 * k2 + (i2h2.toNatClampNeg + 7)) (ad k2 (i2h2.toNatClampNeg + 7)) (pp (i2h2.toNatClampNeg + 7)) (gO (x := x) (r := (i2h2.toNatClampNeg + 7)) (o := s2) (f := (s2 (i2h2.toNatClampNeg + 7))) hk hr6 rfl) (gX (x := va_up x k s2) (k := k2) (r := (i2h2.toNatClampNeg + 7)) (f := (pp (i2h2.toNatClampNeg + 7))) hk2 hr8 ((congrFun (va_up_ne _ _ hkk) _).trans (congrFun hpp _))) (by have h1 := hr6; have h2 := hr8; omega) (D_X1_copyFrom (s2 (i2h2.toNatClampNeg + 7)) (pp (i2h2.toNatClampNeg + 7))) rfl) (fun _ _ _ => trivial) Xok_T (gO (x := x) (r := (i2h2.toNatClampNeg + 7)) (o := s2) (f := (s2 (i2h2.toNatClampNeg + 7))) hk hr6 rfl) rfl ⟨rfl, rfl⟩ (n := 1) (by decide +kernel) rfl ⟨Nat.le_of_ble_eq_true rfl, Nat.le_of_ble_eq_true rfl⟩ ⟨Nat.le_of_ble_eq_true rfl, Nat.le_of_ble_eq_true rfl⟩ (Nat.le_of_ble_eq_true rfl) rfl dX4_copyFrom_23 (fun H locs hP hD hS => ?_)
        have hP : va_P D vwCl (cW cy ad en (va_up x k (va_up s2 (i2h2.toNatClampNeg + 7) (D_X1_copyFrom (s2 (i2h2.toNatClampNeg + 7)) (pp (i2h2.toNatClampNeg + 7)))))) H := cvP hP (sO (x := x) (r := (i2h2.toNatClampNeg + 7)) (o := s2) (g := (D_X1_copyFrom (s2 (i2h2.toNatClampNeg + 7)) (pp (i2h2.toNatClampNeg + 7)))) hk hr6)
        have hD : va_D A (cW cy ad en (va_up x k (va_up s2 (i2h2.toNatClampNeg + 7) (D_X1_copyFrom (s2 (i2h2.toNatClampNeg + 7)) (pp (i2h2.toNatClampNeg + 7)))))) := cvD hD (sO (x := x) (r := (i2h2.toNatClampNeg + 7)) (o := s2) (g := (D_X1_copyFrom (s2 (i2h2.toNatClampNeg + 7)) (pp (i2h2.toNatClampNeg + 7)))) hk hr6)
        refine lv_iinc (v := (i2h2 + 1)) (lv' := [(2, .int (i2h2 + 1)), (0, .ref (ad k 0)), (1, .ref (ad k2 0))]) hx hb dX4_copyFrom_26 hl (k := 0) rfl rfl (by decide) rfl (fun ls hl => ?_)
        refine lv_goto (tgt := 2) hx hb dX4_copyFrom_29 (by decide) ?_
        exact ih2 (i2h2 + 1) (va_up s2 (i2h2.toNatClampNeg + 7) (D_X1_copyFrom (s2 (i2h2.toNatClampNeg + 7)) (pp (i2h2.toNatClampNeg + 7)))) _ _ _ hF hP hD hS (lv_sub hl [0, 1, 2] rfl)
  exact loop2 200 0 o _ _ _ hF hP hD hS (lv_sub hl [0, 1, 2] rfl)
def D_X4_letCome (o : Nat → Nat → Int32) (p1 : Int32) (p2 : Int32) (p3 : Int32) : Option (Int32 × (Nat → Nat → Int32)) := if (D_X9_isVineyard p1) = 0 then (some ((D_X4_refuse o 2 p1).1, (D_X4_refuse o 2 p1).2)) else (if (D_X9_isWithin p2 6) = 0 then (some ((D_X4_refuse o 3 p2).1, (D_X4_refuse o 3 p2).2)) else (if p3 < 1 then (some ((D_X4_refuse o 3 p3).1, (D_X4_refuse o 3 p3).2)) else (if p3 ≤ 9 then (if (D_X9_isWithin ((o 0) 1) 6) = 0 then (some ((D_X4_refuse o 1 ((o 0) 1)).1, (D_X4_refuse o 1 ((o 0) 1)).2)) else (if inb ((o 0) 1) 6 then (some (((((o 0) 1) + 1) - 1), (va_up (va_up o (((o 0) 1).toNatClampNeg + 7) (D_X1_comeOver (o (((o 0) 1).toNatClampNeg + 7)) p1 p2 p3)) 0 (upd (o 0) 1 (((o 0) 1) + 1))))) else none)) else (some ((D_X4_refuse o 3 p3).1, (D_X4_refuse o 3 p3).2)))))
abbrev rm_X4_letCome : Room := { frames := 3, cells := 0, slots := 0, locals := 63 }
set_option maxHeartbeats 4000000 in
set_option maxRecDepth 100000 in
theorem met_X4_letCome (l : Launch) (D : va_G) (cy : Nat → ClassId) (sz : Nat) (ad : Nat → Nat → Nat) (en : Nat → Nat) (x : Mem) (k : Nat) (hk : k < 12) (o : Nat → Nat → Int32) (p1 : Int32) (p2 : Int32) (p3 : Int32)  (r : Int32) (t' : Nat → Nat → Int32) (hF : D_X4_letCome o p1 p2 p3 = some (r, t')) : MI l yX4_letCome cX4_letCome 4 (some .int) rm_X4_letCome D cy (cW cy ad en (va_up x k o)) sz (fun _ => True) [.ref (ad k 0), .int p1, .int p2, .int p3] r (cW cy ad en (va_up x k t')) := by
  refine MI.of (by decide +kernel) (Nat.le_of_ble_eq_true rfl) ?_
  intro p e s m args below meth c A ls Q hAt _ hP hD hA hS hl hret
  obtain ⟨hx, hb, hr, hml, hown, hw, hlk, hK, hN⟩ := hAt
  have hown : s.vm.findClass "CloudDeeds$Office" = some m.cls := hown
  have hl : lv_has ls 4 [(0, .ref (ad k 0)), (1, .int p1), (2, .int p2), (3, .int p3)] := hl
  refine lv_iload_n hx hb dX4_letCome_0 rfl (lv_at hl 1 rfl) ?_
  refine cSN_i (As := [.int p1]) (rest := []) hx hb hml hown hw hK hN hA hl.1 hP hD hS n_463 k_455 k_21 k_456 (met_X9_isVineyard l D cy _ (cW cy ad en (va_up x k o)) p1 (D_X9_isVineyard p1) rfl) (fun _ _ _ => trivial) Xok_T ⟨rfl, rfl⟩ (n := 1) (by decide +kernel) rfl ⟨Nat.le_of_ble_eq_true rfl, Nat.le_of_ble_eq_true rfl⟩ ⟨Nat.le_of_ble_eq_true rfl, Nat.le_of_ble_eq_true rfl⟩ (Nat.le_of_ble_eq_true rfl) rfl dX4_letCome_1 (fun H locs hP hD hS => ?_)
  refine lv_if_ne (tgt := 14) hx hb dX4_letCome_4 (by decide) (fun h4 => ?_) (fun h4 => ?_)
  · replace hF := (if_neg h4).symm.trans hF
    refine lv_iload_n hx hb dX4_letCome_14 rfl (lv_at hl 2 rfl) ?_
    refine lv_bipush (v := 6) hx hb dX4_letCome_15 (by decide) ?_
    refine cSN_i (As := [.int p2, .int 6]) (rest := []) hx hb hml hown hw hK hN hA hl.1 hP hD hS n_323 k_324 k_21 k_325 (met_X9_isWithin l D cy _ (cW cy ad en (va_up x k o)) p2 6 (D_X9_isWithin p2 6) rfl) (fun _ _ _ => trivial) Xok_T ⟨rfl, rfl⟩ (n := 2) (by decide +kernel) rfl ⟨Nat.le_of_ble_eq_true rfl, Nat.le_of_ble_eq_true rfl⟩ ⟨Nat.le_of_ble_eq_true rfl, Nat.le_of_ble_eq_true rfl⟩ (Nat.le_of_ble_eq_true rfl) rfl dX4_letCome_17 (fun H locs hP hD hS => ?_)
    refine lv_if_ne (tgt := 30) hx hb dX4_letCome_20 (by decide) (fun h8 => ?_) (fun h8 => ?_)
    · replace hF := (if_neg h8).symm.trans hF
      refine lv_iload_n hx hb dX4_letCome_30 rfl (lv_at hl 3 rfl) ?_
      refine lv_iconst (v := 1) hx hb dX4_letCome_31 (by decide) ?_
      refine lv_icmp_lt (tgt := 41) hx hb dX4_letCome_32 (by decide) (fun h9 => ?_) (fun h9 => ?_)
      · replace hF := (if_pos h9).symm.trans hF
        refine lv_aload_n hx hb dX4_letCome_41 rfl (lv_at hl 0 rfl) ?_
        refine lv_iconst (v := 3) hx hb dX4_letCome_42 (by decide) ?_
        refine lv_iload_n hx hb dX4_letCome_43 rfl (lv_at hl 3 rfl) ?_
        refine cV_i (As := [.int 3, .int p3]) (rest := []) hx hb hml hown hw hK hN hA hl.1 hP hD hS k_540 k_542 k_4 k_22 k_543 (met_X4_refuse l D cy _ ad en x k hk o 3 p3 (D_X4_refuse o 3 p3).1 (D_X4_refuse o 3 p3).2 rfl) (fun _ _ _ => trivial) Xok_T (gO (x := x) (r := 0) (o := o) (f := (o 0)) hk (by decide) rfl) rfl ⟨rfl, rfl⟩ (n := 2) (by decide +kernel) rfl ⟨Nat.le_of_ble_eq_true rfl, Nat.le_of_ble_eq_true rfl⟩ ⟨Nat.le_of_ble_eq_true rfl, Nat.le_of_ble_eq_true rfl⟩ (Nat.le_of_ble_eq_true rfl) rfl dX4_letCome_44 (fun H locs hP hD hS => ?_)
        cases hF
        exact hret _ _ _ _ _ _ hP hD hS rfl rfl dX4_letCome_47
      · replace hF := (if_neg h9).symm.trans hF
        refine lv_iload_n hx hb dX4_letCome_35 rfl (lv_at hl 3 rfl) ?_
        refine lv_bipush (v := 9) hx hb dX4_letCome_36 (by decide) ?_
        refine lv_icmp_le (tgt := 48) hx hb dX4_letCome_38 (by decide) (fun h13 => ?_) (fun h13 => ?_)
        · replace hF := (if_pos h13).symm.trans hF
          refine lv_aload_n hx hb dX4_letCome_48 rfl (lv_at hl 0 rfl) ?_
          refine get' (ci := 6) (fs := oF (ad k) (o 0)) (v := .int ((o 0) 1)) hx hb hw inWX4 hown hK hP (gO (x := x) (r := 0) (o := o) (f := (o 0)) hk (by decide) rfl) rfl 1 (by decide) k_119 rfl rfl dX4_letCome_49 ?_
          refine lv_bipush (v := 6) hx hb dX4_letCome_52 (by decide) ?_
          refine cSN_i (As := [.int ((o 0) 1), .int 6]) (rest := []) hx hb hml hown hw hK hN hA hl.1 hP hD hS n_323 k_324 k_21 k_325 (met_X9_isWithin l D cy _ (cW cy ad en (va_up x k o)) ((o 0) 1) 6 (D_X9_isWithin ((o 0) 1) 6) rfl) (fun _ _ _ => trivial) Xok_T ⟨rfl, rfl⟩ (n := 2) (by decide +kernel) rfl ⟨Nat.le_of_ble_eq_true rfl, Nat.le_of_ble_eq_true rfl⟩ ⟨Nat.le_of_ble_eq_true rfl, Nat.le_of_ble_eq_true rfl⟩ (Nat.le_of_ble_eq_true rfl) rfl dX4_letCome_54 (fun H locs hP hD hS => ?_)
          refine lv_if_ne (tgt := 70) hx hb dX4_letCome_57 (by decide) (fun h17 => ?_) (fun h17 => ?_)
          · replace hF := (if_neg h17).symm.trans hF
            refine lv_aload_n hx hb dX4_letCome_70 rfl (lv_at hl 0 rfl) ?_
            refine get' (ci := 6) (fs := oF (ad k) (o 0)) (v := .ref (ad k 1)) hx hb hw inWX4 hown hK hP (gO (x := x) (r := 0) (o := o) (f := (o 0)) hk (by decide) rfl) rfl 0 (by decide) k_117 rfl rfl dX4_letCome_71 ?_
            refine lv_aload_n hx hb dX4_letCome_74 rfl (lv_at hl 0 rfl) ?_
            refine get' (ci := 6) (fs := oF (ad k) (o 0)) (v := .int ((o 0) 1)) hx hb hw inWX4 hown hK hP (gO (x := x) (r := 0) (o := o) (f := (o 0)) hk (by decide) rfl) rfl 1 (by decide) k_119 rfl rfl dX4_letCome_75 ?_
            obtain ⟨h18, hF⟩ := ite_some hF
            have hr19 : (((o 0) 1).toNatClampNeg + 7) < 13 := Nat.add_lt_add_right (inb_lt h18) 7
            refine aald' (n := 6) (g := (ad k (((o 0) 1).toNatClampNeg + 7))) hx hb hK hP (gO (x := x) (r := 1) (o := o) (f := (o 1)) hk (by decide) rfl) (t0 := 3) rfl (vp_inb h18) rfl dX4_letCome_78 ?_
            refine lv_iload_n hx hb dX4_letCome_79 rfl (lv_at hl 1 rfl) ?_
            refine lv_iload_n hx hb dX4_letCome_80 rfl (lv_at hl 2 rfl) ?_
            refine lv_iload_n hx hb dX4_letCome_81 rfl (lv_at hl 3 rfl) ?_
            refine cV_v (As := [.int p1, .int p2, .int p3]) (rest := []) hx hb hml hown hw hK hN hA hl.1 hP hD hS k_1002 k_1003 k_1004 k_24 k_1005 (met_X1_comeOver l D cy _ (cW cy ad en (va_up x k o)) (13 * k + (((o 0) 1).toNatClampNeg + 7)) (ad k (((o 0) 1).toNatClampNeg + 7)) (o (((o 0) 1).toNatClampNeg + 7)) p1 p2 p3 (gO (x := x) (r := (((o 0) 1).toNatClampNeg + 7)) (o := o) (f := (o (((o 0) 1).toNatClampNeg + 7))) hk hr19 rfl) (D_X1_comeOver (o (((o 0) 1).toNatClampNeg + 7)) p1 p2 p3) rfl) (fun _ _ _ => trivial) Xok_T (gO (x := x) (r := (((o 0) 1).toNatClampNeg + 7)) (o := o) (f := (o (((o 0) 1).toNatClampNeg + 7))) hk hr19 rfl) rfl ⟨rfl, rfl⟩ (n := 3) (by decide +kernel) rfl ⟨Nat.le_of_ble_eq_true rfl, Nat.le_of_ble_eq_true rfl⟩ ⟨Nat.le_of_ble_eq_true rfl, Nat.le_of_ble_eq_true rfl⟩ (Nat.le_of_ble_eq_true rfl) rfl dX4_letCome_82 (fun H locs hP hD hS => ?_)
            have hP : va_P D vwCl (cW cy ad en (va_up x k (va_up o (((o 0) 1).toNatClampNeg + 7) (D_X1_comeOver (o (((o 0) 1).toNatClampNeg + 7)) p1 p2 p3)))) H := cvP hP (sO (x := x) (r := (((o 0) 1).toNatClampNeg + 7)) (o := o) (g := (D_X1_comeOver (o (((o 0) 1).toNatClampNeg + 7)) p1 p2 p3)) hk hr19)
            have hD : va_D A (cW cy ad en (va_up x k (va_up o (((o 0) 1).toNatClampNeg + 7) (D_X1_comeOver (o (((o 0) 1).toNatClampNeg + 7)) p1 p2 p3)))) := cvD hD (sO (x := x) (r := (((o 0) 1).toNatClampNeg + 7)) (o := o) (g := (D_X1_comeOver (o (((o 0) 1).toNatClampNeg + 7)) p1 p2 p3)) hk hr19)
            refine lv_aload_n hx hb dX4_letCome_85 rfl (lv_at hl 0 rfl) ?_
            refine lv_dup hx hb dX4_letCome_86 rfl ?_
            refine get' (ci := 6) (fs := oF (ad k) (o 0)) (v := .int ((o 0) 1)) hx hb hw inWX4 hown hK hP (gO (x := x) (r := 0) (o := (va_up o (((o 0) 1).toNatClampNeg + 7) (D_X1_comeOver (o (((o 0) 1).toNatClampNeg + 7)) p1 p2 p3))) (f := (o 0)) hk (by decide) ((va_up_ne _ _ (by omega)).trans rfl)) rfl 1 (by decide) k_119 rfl rfl dX4_letCome_87 ?_
            refine lv_iconst (v := 1) hx hb dX4_letCome_90 (by decide) ?_
            refine lv_iadd hx hb dX4_letCome_91 ?_
            refine put' (ci := 6) (fs := oF (ad k) (o 0)) (v := .int (((o 0) 1) + 1)) (ty := .int) (ws' := (cW cy ad en (va_up x k (va_up (va_up o (((o 0) 1).toNatClampNeg + 7) (D_X1_comeOver (o (((o 0) 1).toNatClampNeg + 7)) p1 p2 p3)) 0 (upd (o 0) 1 (((o 0) 1) + 1)))))) hx hb hw inWX4 tyX4 tyX4_ok nmX4 hown hK hP hD hS (gO (x := x) (r := 0) (o := (va_up o (((o 0) 1).toNatClampNeg + 7) (D_X1_comeOver (o (((o 0) 1).toNatClampNeg + 7)) p1 p2 p3))) (f := (o 0)) hk (by decide) ((va_up_ne _ _ (by omega)).trans rfl)) rfl 1 (by decide) k_119 rfl rfl (by decide +kernel) rfl rfl (Nat.le_of_ble_eq_true rfl) dX4_letCome_92 (sO (x := x) (r := 0) (o := (va_up o (((o 0) 1).toNatClampNeg + 7) (D_X1_comeOver (o (((o 0) 1).toNatClampNeg + 7)) p1 p2 p3))) (g := (upd (o 0) 1 (((o 0) 1) + 1))) hk (by decide)) (fun H locs hP hD hS => ?_)
            refine lv_aload_n hx hb dX4_letCome_95 rfl (lv_at hl 0 rfl) ?_
            refine get' (ci := 6) (fs := oF (ad k) (upd (o 0) 1 (((o 0) 1) + 1))) (v := .int (((o 0) 1) + 1)) hx hb hw inWX4 hown hK hP (gO (x := x) (r := 0) (o := (va_up (va_up o (((o 0) 1).toNatClampNeg + 7) (D_X1_comeOver (o (((o 0) 1).toNatClampNeg + 7)) p1 p2 p3)) 0 (upd (o 0) 1 (((o 0) 1) + 1)))) (f := (upd (o 0) 1 (((o 0) 1) + 1))) hk (by decide) (va_up_self _ _ _)) rfl 1 (by decide) k_119 rfl rfl dX4_letCome_96 ?_
            refine lv_iconst (v := 1) hx hb dX4_letCome_99 (by decide) ?_
            refine lv_isub hx hb dX4_letCome_100 ?_
            cases hF
            exact hret _ _ _ _ _ _ hP hD hS rfl rfl dX4_letCome_101
          · replace hF := (if_pos h17).symm.trans hF
            refine lv_aload_n hx hb dX4_letCome_60 rfl (lv_at hl 0 rfl) ?_
            refine lv_iconst (v := 1) hx hb dX4_letCome_61 (by decide) ?_
            refine lv_aload_n hx hb dX4_letCome_62 rfl (lv_at hl 0 rfl) ?_
            refine get' (ci := 6) (fs := oF (ad k) (o 0)) (v := .int ((o 0) 1)) hx hb hw inWX4 hown hK hP (gO (x := x) (r := 0) (o := o) (f := (o 0)) hk (by decide) rfl) rfl 1 (by decide) k_119 rfl rfl dX4_letCome_63 ?_
            refine cV_i (As := [.int 1, .int ((o 0) 1)]) (rest := []) hx hb hml hown hw hK hN hA hl.1 hP hD hS k_540 k_542 k_4 k_22 k_543 (met_X4_refuse l D cy _ ad en x k hk o 1 ((o 0) 1) (D_X4_refuse o 1 ((o 0) 1)).1 (D_X4_refuse o 1 ((o 0) 1)).2 rfl) (fun _ _ _ => trivial) Xok_T (gO (x := x) (r := 0) (o := o) (f := (o 0)) hk (by decide) rfl) rfl ⟨rfl, rfl⟩ (n := 2) (by decide +kernel) rfl ⟨Nat.le_of_ble_eq_true rfl, Nat.le_of_ble_eq_true rfl⟩ ⟨Nat.le_of_ble_eq_true rfl, Nat.le_of_ble_eq_true rfl⟩ (Nat.le_of_ble_eq_true rfl) rfl dX4_letCome_66 (fun H locs hP hD hS => ?_)
            cases hF
            exact hret _ _ _ _ _ _ hP hD hS rfl rfl dX4_letCome_69
        · replace hF := (if_neg h13).symm.trans hF
          refine lv_aload_n hx hb dX4_letCome_41 rfl (lv_at hl 0 rfl) ?_
          refine lv_iconst (v := 3) hx hb dX4_letCome_42 (by decide) ?_
          refine lv_iload_n hx hb dX4_letCome_43 rfl (lv_at hl 3 rfl) ?_
          refine cV_i (As := [.int 3, .int p3]) (rest := []) hx hb hml hown hw hK hN hA hl.1 hP hD hS k_540 k_542 k_4 k_22 k_543 (met_X4_refuse l D cy _ ad en x k hk o 3 p3 (D_X4_refuse o 3 p3).1 (D_X4_refuse o 3 p3).2 rfl) (fun _ _ _ => trivial) Xok_T (gO (x := x) (r := 0) (o := o) (f := (o 0)) hk (by decide) rfl) rfl ⟨rfl, rfl⟩ (n := 2) (by decide +kernel) rfl ⟨Nat.le_of_ble_eq_true rfl, Nat.le_of_ble_eq_true rfl⟩ ⟨Nat.le_of_ble_eq_true rfl, Nat.le_of_ble_eq_true rfl⟩ (Nat.le_of_ble_eq_true rfl) rfl dX4_letCome_44 (fun H locs hP hD hS => ?_)
          cases hF
          exact hret _ _ _ _ _ _ hP hD hS rfl rfl dX4_letCome_47
    · replace hF := (if_pos h8).symm.trans hF
      refine lv_aload_n hx hb dX4_letCome_23 rfl (lv_at hl 0 rfl) ?_
      refine lv_iconst (v := 3) hx hb dX4_letCome_24 (by decide) ?_
      refine lv_iload_n hx hb dX4_letCome_25 rfl (lv_at hl 2 rfl) ?_
      refine cV_i (As := [.int 3, .int p2]) (rest := []) hx hb hml hown hw hK hN hA hl.1 hP hD hS k_540 k_542 k_4 k_22 k_543 (met_X4_refuse l D cy _ ad en x k hk o 3 p2 (D_X4_refuse o 3 p2).1 (D_X4_refuse o 3 p2).2 rfl) (fun _ _ _ => trivial) Xok_T (gO (x := x) (r := 0) (o := o) (f := (o 0)) hk (by decide) rfl) rfl ⟨rfl, rfl⟩ (n := 2) (by decide +kernel) rfl ⟨Nat.le_of_ble_eq_true rfl, Nat.le_of_ble_eq_true rfl⟩ ⟨Nat.le_of_ble_eq_true rfl, Nat.le_of_ble_eq_true rfl⟩ (Nat.le_of_ble_eq_true rfl) rfl dX4_letCome_26 (fun H locs hP hD hS => ?_)
      cases hF
      exact hret _ _ _ _ _ _ hP hD hS rfl rfl dX4_letCome_29
  · replace hF := (if_pos h4).symm.trans hF
    refine lv_aload_n hx hb dX4_letCome_7 rfl (lv_at hl 0 rfl) ?_
    refine lv_iconst (v := 2) hx hb dX4_letCome_8 (by decide) ?_
    refine lv_iload_n hx hb dX4_letCome_9 rfl (lv_at hl 1 rfl) ?_
    refine cV_i (As := [.int 2, .int p1]) (rest := []) hx hb hml hown hw hK hN hA hl.1 hP hD hS k_540 k_542 k_4 k_22 k_543 (met_X4_refuse l D cy _ ad en x k hk o 2 p1 (D_X4_refuse o 2 p1).1 (D_X4_refuse o 2 p1).2 rfl) (fun _ _ _ => trivial) Xok_T (gO (x := x) (r := 0) (o := o) (f := (o 0)) hk (by decide) rfl) rfl ⟨rfl, rfl⟩ (n := 2) (by decide +kernel) rfl ⟨Nat.le_of_ble_eq_true rfl, Nat.le_of_ble_eq_true rfl⟩ ⟨Nat.le_of_ble_eq_true rfl, Nat.le_of_ble_eq_true rfl⟩ (Nat.le_of_ble_eq_true rfl) rfl dX4_letCome_10 (fun H locs hP hD hS => ?_)
    cases hF
    exact hret _ _ _ _ _ _ hP hD hS rfl rfl dX4_letCome_13
def D_X4_giveTitle (o : Nat → Nat → Int32) (p1 : Int32) (p2 : Int32) : Option (Int32 × (Nat → Nat → Int32)) := if (D_X4_hasCloud o p1) = 0 then (some ((D_X4_refuse o 2 p1).1, (D_X4_refuse o 2 p1).2)) else (if (D_X9_isOwner p2) = 0 then (some ((D_X4_refuse o 2 p2).1, (D_X4_refuse o 2 p2).2)) else (if inb p1 6 then (if (D_X1_hasTitle (o (p1.toNatClampNeg + 7))) = 0 then (if inb p2 4 then (if ((o (p1.toNatClampNeg + 7)) 2) ≤ ((o 3) p2.toNatClampNeg) then (if inb p2 4 then (if inb p2 4 then (if inb p2 4 then (some (((upd (o 3) (p2.toNatClampNeg) (((o 3) p2.toNatClampNeg) - ((o (p1.toNatClampNeg + 7)) 2))) p2.toNatClampNeg), (va_up (va_up (va_up o 3 (upd (o 3) (p2.toNatClampNeg) (((o 3) p2.toNatClampNeg) - ((o (p1.toNatClampNeg + 7)) 2)))) 0 (upd (o 0) 10 (((o 0) 10) + ((o (p1.toNatClampNeg + 7)) 2)))) (p1.toNatClampNeg + 7) (D_X1_entitle (o (p1.toNatClampNeg + 7)) p2)))) else none) else none) else none) else (if inb p2 4 then (some ((D_X4_refuse o 7 ((o 3) p2.toNatClampNeg)).1, (D_X4_refuse o 7 ((o 3) p2.toNatClampNeg)).2)) else none)) else none) else (some ((D_X4_refuse o 5 ((o (p1.toNatClampNeg + 7)) 3)).1, (D_X4_refuse o 5 ((o (p1.toNatClampNeg + 7)) 3)).2))) else none))
abbrev rm_X4_giveTitle : Room := { frames := 2, cells := 0, slots := 0, locals := 42 }
set_option maxHeartbeats 4000000 in
set_option maxRecDepth 100000 in
theorem met_X4_giveTitle (l : Launch) (D : va_G) (cy : Nat → ClassId) (sz : Nat) (ad : Nat → Nat → Nat) (en : Nat → Nat) (x : Mem) (k : Nat) (hk : k < 12) (o : Nat → Nat → Int32) (p1 : Int32) (p2 : Int32)  (r : Int32) (t' : Nat → Nat → Int32) (hF : D_X4_giveTitle o p1 p2 = some (r, t')) : MI l yX4_giveTitle cX4_giveTitle 4 (some .int) rm_X4_giveTitle D cy (cW cy ad en (va_up x k o)) sz (fun _ => True) [.ref (ad k 0), .int p1, .int p2] r (cW cy ad en (va_up x k t')) := by
  refine MI.of (by decide +kernel) (Nat.le_of_ble_eq_true rfl) ?_
  intro p e s m args below meth c A ls Q hAt _ hP hD hA hS hl hret
  obtain ⟨hx, hb, hr, hml, hown, hw, hlk, hK, hN⟩ := hAt
  have hown : s.vm.findClass "CloudDeeds$Office" = some m.cls := hown
  have hl : lv_has ls 4 [(0, .ref (ad k 0)), (1, .int p1), (2, .int p2)] := hl
  refine lv_aload_n hx hb dX4_giveTitle_0 rfl (lv_at hl 0 rfl) ?_
  refine lv_iload_n hx hb dX4_giveTitle_1 rfl (lv_at hl 1 rfl) ?_
  refine cV_i (As := [.int p1]) (rest := []) hx hb hml hown hw hK hN hA hl.1 hP hD hS k_653 k_320 k_321 k_22 k_322 (met_X4_hasCloud l D cy _ ad en x k hk o p1 (D_X4_hasCloud o p1) rfl) (fun _ _ _ => trivial) Xok_T (gO (x := x) (r := 0) (o := o) (f := (o 0)) hk (by decide) rfl) rfl ⟨rfl, rfl⟩ (n := 1) (by decide +kernel) rfl ⟨Nat.le_of_ble_eq_true rfl, Nat.le_of_ble_eq_true rfl⟩ ⟨Nat.le_of_ble_eq_true rfl, Nat.le_of_ble_eq_true rfl⟩ (Nat.le_of_ble_eq_true rfl) rfl dX4_giveTitle_2 (fun H locs hP hD hS => ?_)
  refine lv_if_ne (tgt := 15) hx hb dX4_giveTitle_5 (by decide) (fun h4 => ?_) (fun h4 => ?_)
  · replace hF := (if_neg h4).symm.trans hF
    refine lv_iload_n hx hb dX4_giveTitle_15 rfl (lv_at hl 2 rfl) ?_
    refine cSN_i (As := [.int p2]) (rest := []) hx hb hml hown hw hK hN hA hl.1 hP hD hS n_444 k_432 k_21 k_433 (met_X9_isOwner l D cy _ (cW cy ad en (va_up x k o)) p2 (D_X9_isOwner p2) rfl) (fun _ _ _ => trivial) Xok_T ⟨rfl, rfl⟩ (n := 1) (by decide +kernel) rfl ⟨Nat.le_of_ble_eq_true rfl, Nat.le_of_ble_eq_true rfl⟩ ⟨Nat.le_of_ble_eq_true rfl, Nat.le_of_ble_eq_true rfl⟩ (Nat.le_of_ble_eq_true rfl) rfl dX4_giveTitle_16 (fun H locs hP hD hS => ?_)
    refine lv_if_ne (tgt := 29) hx hb dX4_giveTitle_19 (by decide) (fun h8 => ?_) (fun h8 => ?_)
    · replace hF := (if_neg h8).symm.trans hF
      refine lv_aload_n hx hb dX4_giveTitle_29 rfl (lv_at hl 0 rfl) ?_
      refine get' (ci := 6) (fs := oF (ad k) (o 0)) (v := .ref (ad k 1)) hx hb hw inWX4 hown hK hP (gO (x := x) (r := 0) (o := o) (f := (o 0)) hk (by decide) rfl) rfl 0 (by decide) k_117 rfl rfl dX4_giveTitle_30 ?_
      refine lv_iload_n hx hb dX4_giveTitle_33 rfl (lv_at hl 1 rfl) ?_
      obtain ⟨h9, hF⟩ := ite_some hF
      have hr10 : (p1.toNatClampNeg + 7) < 13 := Nat.add_lt_add_right (inb_lt h9) 7
      refine aald' (n := 6) (g := (ad k (p1.toNatClampNeg + 7))) hx hb hK hP (gO (x := x) (r := 1) (o := o) (f := (o 1)) hk (by decide) rfl) (t0 := 3) rfl (vp_inb h9) rfl dX4_giveTitle_34 ?_
      refine lv_astore_n (lv' := [(3, .ref (ad k (p1.toNatClampNeg + 7))), (0, .ref (ad k 0)), (1, .int p1), (2, .int p2)]) hx hb dX4_giveTitle_35 rfl hl (by decide) rfl (fun ls hl => ?_)
      refine lv_aload_n hx hb dX4_giveTitle_36 rfl (lv_at hl 0 rfl) ?_
      refine cV_i (As := []) (rest := []) hx hb hml hown hw hK hN hA hl.1 hP hD hS k_583 k_556 k_557 k_24 k_558 (met_X1_hasTitle l D cy _ (cW cy ad en (va_up x k o)) (13 * k + (p1.toNatClampNeg + 7)) (ad k (p1.toNatClampNeg + 7)) (o (p1.toNatClampNeg + 7)) (gO (x := x) (r := (p1.toNatClampNeg + 7)) (o := o) (f := (o (p1.toNatClampNeg + 7))) hk hr10 rfl) (D_X1_hasTitle (o (p1.toNatClampNeg + 7))) rfl) (fun _ _ _ => trivial) Xok_T (gO (x := x) (r := (p1.toNatClampNeg + 7)) (o := o) (f := (o (p1.toNatClampNeg + 7))) hk hr10 rfl) rfl ⟨rfl, rfl⟩ (n := 0) (by decide +kernel) rfl ⟨Nat.le_of_ble_eq_true rfl, Nat.le_of_ble_eq_true rfl⟩ ⟨Nat.le_of_ble_eq_true rfl, Nat.le_of_ble_eq_true rfl⟩ (Nat.le_of_ble_eq_true rfl) rfl dX4_giveTitle_37 (fun H locs hP hD hS => ?_)
      refine lv_if_eq (tgt := 53) hx hb dX4_giveTitle_40 (by decide) (fun h14 => ?_) (fun h14 => ?_)
      · replace hF := (if_pos h14).symm.trans hF
        refine lv_aload_n hx hb dX4_giveTitle_53 rfl (lv_at hl 1 rfl) ?_
        refine get' (ci := 6) (fs := oF (ad k) (o 0)) (v := .ref (ad k 3)) hx hb hw inWX4 hown hK hP (gO (x := x) (r := 0) (o := o) (f := (o 0)) hk (by decide) rfl) rfl 3 (by decide) k_122 rfl rfl dX4_giveTitle_54 ?_
        refine lv_iload_n hx hb dX4_giveTitle_57 rfl (lv_at hl 3 rfl) ?_
        obtain ⟨h15, hF⟩ := ite_some hF
        refine va_iald (n := 4) (f := (o 3)) hx hb hK hP _ 0 (gO (x := x) (r := 3) (o := o) (f := (o 3)) hk (by decide) rfl) rfl (vp_inb h15) dX4_giveTitle_58 ?_
        refine lv_aload_n hx hb dX4_giveTitle_59 rfl (lv_at hl 0 rfl) ?_
        refine getN' (ci := 4) (fs := cF (o (p1.toNatClampNeg + 7))) (v := .int ((o (p1.toNatClampNeg + 7)) 2)) hx hb hw hN inWX1 hown hK hP (gO (x := x) (r := (p1.toNatClampNeg + 7)) (o := o) (f := (o (p1.toNatClampNeg + 7))) hk hr10 rfl) rfl 2 (by decide) n_94 rfl rfl dX4_giveTitle_60 ?_
        refine lv_icmp_ge (tgt := 79) hx hb dX4_giveTitle_63 (by decide) (fun h16 => ?_) (fun h16 => ?_)
        · replace hF := (if_pos h16).symm.trans hF
          refine lv_aload_n hx hb dX4_giveTitle_79 rfl (lv_at hl 1 rfl) ?_
          refine get' (ci := 6) (fs := oF (ad k) (o 0)) (v := .ref (ad k 3)) hx hb hw inWX4 hown hK hP (gO (x := x) (r := 0) (o := o) (f := (o 0)) hk (by decide) rfl) rfl 3 (by decide) k_122 rfl rfl dX4_giveTitle_80 ?_
          refine lv_iload_n hx hb dX4_giveTitle_83 rfl (lv_at hl 3 rfl) ?_
          refine lv_dup2_11 hx hb dX4_giveTitle_84 rfl rfl ?_
          obtain ⟨h17, hF⟩ := ite_some hF
          refine va_iald (n := 4) (f := (o 3)) hx hb hK hP _ 0 (gO (x := x) (r := 3) (o := o) (f := (o 3)) hk (by decide) rfl) rfl (vp_inb h17) dX4_giveTitle_85 ?_
          refine lv_aload_n hx hb dX4_giveTitle_86 rfl (lv_at hl 0 rfl) ?_
          refine getN' (ci := 4) (fs := cF (o (p1.toNatClampNeg + 7))) (v := .int ((o (p1.toNatClampNeg + 7)) 2)) hx hb hw hN inWX1 hown hK hP (gO (x := x) (r := (p1.toNatClampNeg + 7)) (o := o) (f := (o (p1.toNatClampNeg + 7))) hk hr10 rfl) rfl 2 (by decide) n_94 rfl rfl dX4_giveTitle_87 ?_
          refine lv_isub hx hb dX4_giveTitle_90 ?_
          obtain ⟨h18, hF⟩ := ite_some hF
          refine iast' (n := 4) (f := (o 3)) (ws' := (cW cy ad en (va_up x k (va_up o 3 (upd (o 3) (p2.toNatClampNeg) (((o 3) p2.toNatClampNeg) - ((o (p1.toNatClampNeg + 7)) 2))))))) hx hb hK hP hD hS (gO (x := x) (r := 3) (o := o) (f := (o 3)) hk (by decide) rfl) (t0 := 0) rfl (vp_inb h18) dX4_giveTitle_91 (sO (x := x) (r := 3) (o := o) (g := (upd (o 3) (p2.toNatClampNeg) (((o 3) p2.toNatClampNeg) - ((o (p1.toNatClampNeg + 7)) 2)))) hk (by decide)) (fun H locs hP hD hS => ?_)
          refine lv_aload_n hx hb dX4_giveTitle_92 rfl (lv_at hl 1 rfl) ?_
          refine lv_dup hx hb dX4_giveTitle_93 rfl ?_
          refine get' (ci := 6) (fs := oF (ad k) (o 0)) (v := .int ((o 0) 10)) hx hb hw inWX4 hown hK hP (gO (x := x) (r := 0) (o := (va_up o 3 (upd (o 3) (p2.toNatClampNeg) (((o 3) p2.toNatClampNeg) - ((o (p1.toNatClampNeg + 7)) 2))))) (f := (o 0)) hk (by decide) ((va_up_ne _ _ (by decide)).trans rfl)) rfl 10 (by decide) k_130 rfl rfl dX4_giveTitle_94 ?_
          refine lv_aload_n hx hb dX4_giveTitle_97 rfl (lv_at hl 0 rfl) ?_
          refine getN' (ci := 4) (fs := cF (o (p1.toNatClampNeg + 7))) (v := .int ((o (p1.toNatClampNeg + 7)) 2)) hx hb hw hN inWX1 hown hK hP (gO (x := x) (r := (p1.toNatClampNeg + 7)) (o := (va_up o 3 (upd (o 3) (p2.toNatClampNeg) (((o 3) p2.toNatClampNeg) - ((o (p1.toNatClampNeg + 7)) 2))))) (f := (o (p1.toNatClampNeg + 7))) hk hr10 ((va_up_ne _ _ (by omega)).trans rfl)) rfl 2 (by decide) n_94 rfl rfl dX4_giveTitle_98 ?_
          refine lv_iadd hx hb dX4_giveTitle_101 ?_
          refine put' (ci := 6) (fs := oF (ad k) (o 0)) (v := .int (((o 0) 10) + ((o (p1.toNatClampNeg + 7)) 2))) (ty := .int) (ws' := (cW cy ad en (va_up x k (va_up (va_up o 3 (upd (o 3) (p2.toNatClampNeg) (((o 3) p2.toNatClampNeg) - ((o (p1.toNatClampNeg + 7)) 2)))) 0 (upd (o 0) 10 (((o 0) 10) + ((o (p1.toNatClampNeg + 7)) 2))))))) hx hb hw inWX4 tyX4 tyX4_ok nmX4 hown hK hP hD hS (gO (x := x) (r := 0) (o := (va_up o 3 (upd (o 3) (p2.toNatClampNeg) (((o 3) p2.toNatClampNeg) - ((o (p1.toNatClampNeg + 7)) 2))))) (f := (o 0)) hk (by decide) ((va_up_ne _ _ (by decide)).trans rfl)) rfl 10 (by decide) k_130 rfl rfl (by decide +kernel) rfl rfl (Nat.le_of_ble_eq_true rfl) dX4_giveTitle_102 (sO (x := x) (r := 0) (o := (va_up o 3 (upd (o 3) (p2.toNatClampNeg) (((o 3) p2.toNatClampNeg) - ((o (p1.toNatClampNeg + 7)) 2))))) (g := (upd (o 0) 10 (((o 0) 10) + ((o (p1.toNatClampNeg + 7)) 2)))) hk (by decide)) (fun H locs hP hD hS => ?_)
          refine lv_aload_n hx hb dX4_giveTitle_105 rfl (lv_at hl 0 rfl) ?_
          refine lv_iload_n hx hb dX4_giveTitle_106 rfl (lv_at hl 3 rfl) ?_
          refine cV_v (As := [.int p2]) (rest := []) hx hb hml hown hw hK hN hA hl.1 hP hD hS k_584 k_585 k_586 k_24 k_587 (met_X1_entitle l D cy _ (cW cy ad en (va_up x k (va_up (va_up o 3 (upd (o 3) (p2.toNatClampNeg) (((o 3) p2.toNatClampNeg) - ((o (p1.toNatClampNeg + 7)) 2)))) 0 (upd (o 0) 10 (((o 0) 10) + ((o (p1.toNatClampNeg + 7)) 2)))))) (13 * k + (p1.toNatClampNeg + 7)) (ad k (p1.toNatClampNeg + 7)) (o (p1.toNatClampNeg + 7)) p2 (gO (x := x) (r := (p1.toNatClampNeg + 7)) (o := (va_up (va_up o 3 (upd (o 3) (p2.toNatClampNeg) (((o 3) p2.toNatClampNeg) - ((o (p1.toNatClampNeg + 7)) 2)))) 0 (upd (o 0) 10 (((o 0) 10) + ((o (p1.toNatClampNeg + 7)) 2))))) (f := (o (p1.toNatClampNeg + 7))) hk hr10 ((va_up_ne _ _ (by omega)).trans ((va_up_ne _ _ (by omega)).trans rfl))) (D_X1_entitle (o (p1.toNatClampNeg + 7)) p2) rfl) (fun _ _ _ => trivial) Xok_T (gO (x := x) (r := (p1.toNatClampNeg + 7)) (o := (va_up (va_up o 3 (upd (o 3) (p2.toNatClampNeg) (((o 3) p2.toNatClampNeg) - ((o (p1.toNatClampNeg + 7)) 2)))) 0 (upd (o 0) 10 (((o 0) 10) + ((o (p1.toNatClampNeg + 7)) 2))))) (f := (o (p1.toNatClampNeg + 7))) hk hr10 ((va_up_ne _ _ (by omega)).trans ((va_up_ne _ _ (by omega)).trans rfl))) rfl ⟨rfl, rfl⟩ (n := 1) (by decide +kernel) rfl ⟨Nat.le_of_ble_eq_true rfl, Nat.le_of_ble_eq_true rfl⟩ ⟨Nat.le_of_ble_eq_true rfl, Nat.le_of_ble_eq_true rfl⟩ (Nat.le_of_ble_eq_true rfl) rfl dX4_giveTitle_107 (fun H locs hP hD hS => ?_)
          have hP : va_P D vwCl (cW cy ad en (va_up x k (va_up (va_up (va_up o 3 (upd (o 3) (p2.toNatClampNeg) (((o 3) p2.toNatClampNeg) - ((o (p1.toNatClampNeg + 7)) 2)))) 0 (upd (o 0) 10 (((o 0) 10) + ((o (p1.toNatClampNeg + 7)) 2)))) (p1.toNatClampNeg + 7) (D_X1_entitle (o (p1.toNatClampNeg + 7)) p2)))) H := cvP hP (sO (x := x) (r := (p1.toNatClampNeg + 7)) (o := (va_up (va_up o 3 (upd (o 3) (p2.toNatClampNeg) (((o 3) p2.toNatClampNeg) - ((o (p1.toNatClampNeg + 7)) 2)))) 0 (upd (o 0) 10 (((o 0) 10) + ((o (p1.toNatClampNeg + 7)) 2))))) (g := (D_X1_entitle (o (p1.toNatClampNeg + 7)) p2)) hk hr10)
          have hD : va_D A (cW cy ad en (va_up x k (va_up (va_up (va_up o 3 (upd (o 3) (p2.toNatClampNeg) (((o 3) p2.toNatClampNeg) - ((o (p1.toNatClampNeg + 7)) 2)))) 0 (upd (o 0) 10 (((o 0) 10) + ((o (p1.toNatClampNeg + 7)) 2)))) (p1.toNatClampNeg + 7) (D_X1_entitle (o (p1.toNatClampNeg + 7)) p2)))) := cvD hD (sO (x := x) (r := (p1.toNatClampNeg + 7)) (o := (va_up (va_up o 3 (upd (o 3) (p2.toNatClampNeg) (((o 3) p2.toNatClampNeg) - ((o (p1.toNatClampNeg + 7)) 2)))) 0 (upd (o 0) 10 (((o 0) 10) + ((o (p1.toNatClampNeg + 7)) 2))))) (g := (D_X1_entitle (o (p1.toNatClampNeg + 7)) p2)) hk hr10)
          refine lv_aload_n hx hb dX4_giveTitle_110 rfl (lv_at hl 1 rfl) ?_
          refine get' (ci := 6) (fs := oF (ad k) (upd (o 0) 10 (((o 0) 10) + ((o (p1.toNatClampNeg + 7)) 2)))) (v := .ref (ad k 3)) hx hb hw inWX4 hown hK hP (gO (x := x) (r := 0) (o := (va_up (va_up (va_up o 3 (upd (o 3) (p2.toNatClampNeg) (((o 3) p2.toNatClampNeg) - ((o (p1.toNatClampNeg + 7)) 2)))) 0 (upd (o 0) 10 (((o 0) 10) + ((o (p1.toNatClampNeg + 7)) 2)))) (p1.toNatClampNeg + 7) (D_X1_entitle (o (p1.toNatClampNeg + 7)) p2))) (f := (upd (o 0) 10 (((o 0) 10) + ((o (p1.toNatClampNeg + 7)) 2)))) hk (by decide) ((va_up_ne _ _ (by omega)).trans (va_up_self _ _ _))) rfl 3 (by decide) k_122 rfl rfl dX4_giveTitle_111 ?_
          refine lv_iload_n hx hb dX4_giveTitle_114 rfl (lv_at hl 3 rfl) ?_
          obtain ⟨h22, hF⟩ := ite_some hF
          refine va_iald (n := 4) (f := (upd (o 3) (p2.toNatClampNeg) (((o 3) p2.toNatClampNeg) - ((o (p1.toNatClampNeg + 7)) 2)))) hx hb hK hP _ 0 (gO (x := x) (r := 3) (o := (va_up (va_up (va_up o 3 (upd (o 3) (p2.toNatClampNeg) (((o 3) p2.toNatClampNeg) - ((o (p1.toNatClampNeg + 7)) 2)))) 0 (upd (o 0) 10 (((o 0) 10) + ((o (p1.toNatClampNeg + 7)) 2)))) (p1.toNatClampNeg + 7) (D_X1_entitle (o (p1.toNatClampNeg + 7)) p2))) (f := (upd (o 3) (p2.toNatClampNeg) (((o 3) p2.toNatClampNeg) - ((o (p1.toNatClampNeg + 7)) 2)))) hk (by decide) ((va_up_ne _ _ (by omega)).trans ((va_up_ne _ _ (by decide)).trans (va_up_self _ _ _)))) rfl (vp_inb h22) dX4_giveTitle_115 ?_
          cases hF
          exact hret _ _ _ _ _ _ hP hD hS rfl rfl dX4_giveTitle_116
        · replace hF := (if_neg h16).symm.trans hF
          refine lv_aload_n hx hb dX4_giveTitle_66 rfl (lv_at hl 1 rfl) ?_
          refine lv_bipush (v := 7) hx hb dX4_giveTitle_67 (by decide) ?_
          refine lv_aload_n hx hb dX4_giveTitle_69 rfl (lv_at hl 1 rfl) ?_
          refine get' (ci := 6) (fs := oF (ad k) (o 0)) (v := .ref (ad k 3)) hx hb hw inWX4 hown hK hP (gO (x := x) (r := 0) (o := o) (f := (o 0)) hk (by decide) rfl) rfl 3 (by decide) k_122 rfl rfl dX4_giveTitle_70 ?_
          refine lv_iload_n hx hb dX4_giveTitle_73 rfl (lv_at hl 3 rfl) ?_
          obtain ⟨h23, hF⟩ := ite_some hF
          refine va_iald (n := 4) (f := (o 3)) hx hb hK hP _ 0 (gO (x := x) (r := 3) (o := o) (f := (o 3)) hk (by decide) rfl) rfl (vp_inb h23) dX4_giveTitle_74 ?_
          refine cV_i (As := [.int 7, .int ((o 3) p2.toNatClampNeg)]) (rest := []) hx hb hml hown hw hK hN hA hl.1 hP hD hS k_540 k_542 k_4 k_22 k_543 (met_X4_refuse l D cy _ ad en x k hk o 7 ((o 3) p2.toNatClampNeg) (D_X4_refuse o 7 ((o 3) p2.toNatClampNeg)).1 (D_X4_refuse o 7 ((o 3) p2.toNatClampNeg)).2 rfl) (fun _ _ _ => trivial) Xok_T (gO (x := x) (r := 0) (o := o) (f := (o 0)) hk (by decide) rfl) rfl ⟨rfl, rfl⟩ (n := 2) (by decide +kernel) rfl ⟨Nat.le_of_ble_eq_true rfl, Nat.le_of_ble_eq_true rfl⟩ ⟨Nat.le_of_ble_eq_true rfl, Nat.le_of_ble_eq_true rfl⟩ (Nat.le_of_ble_eq_true rfl) rfl dX4_giveTitle_75 (fun H locs hP hD hS => ?_)
          cases hF
          exact hret _ _ _ _ _ _ hP hD hS rfl rfl dX4_giveTitle_78
      · replace hF := (if_neg h14).symm.trans hF
        refine lv_aload_n hx hb dX4_giveTitle_43 rfl (lv_at hl 1 rfl) ?_
        refine lv_iconst (v := 5) hx hb dX4_giveTitle_44 (by decide) ?_
        refine lv_aload_n hx hb dX4_giveTitle_45 rfl (lv_at hl 0 rfl) ?_
        refine getN' (ci := 4) (fs := cF (o (p1.toNatClampNeg + 7))) (v := .int ((o (p1.toNatClampNeg + 7)) 3)) hx hb hw hN inWX1 hown hK hP (gO (x := x) (r := (p1.toNatClampNeg + 7)) (o := o) (f := (o (p1.toNatClampNeg + 7))) hk hr10 rfl) rfl 3 (by decide) n_97 rfl rfl dX4_giveTitle_46 ?_
        refine cV_i (As := [.int 5, .int ((o (p1.toNatClampNeg + 7)) 3)]) (rest := []) hx hb hml hown hw hK hN hA hl.1 hP hD hS k_540 k_542 k_4 k_22 k_543 (met_X4_refuse l D cy _ ad en x k hk o 5 ((o (p1.toNatClampNeg + 7)) 3) (D_X4_refuse o 5 ((o (p1.toNatClampNeg + 7)) 3)).1 (D_X4_refuse o 5 ((o (p1.toNatClampNeg + 7)) 3)).2 rfl) (fun _ _ _ => trivial) Xok_T (gO (x := x) (r := 0) (o := o) (f := (o 0)) hk (by decide) rfl) rfl ⟨rfl, rfl⟩ (n := 2) (by decide +kernel) rfl ⟨Nat.le_of_ble_eq_true rfl, Nat.le_of_ble_eq_true rfl⟩ ⟨Nat.le_of_ble_eq_true rfl, Nat.le_of_ble_eq_true rfl⟩ (Nat.le_of_ble_eq_true rfl) rfl dX4_giveTitle_49 (fun H locs hP hD hS => ?_)
        cases hF
        exact hret _ _ _ _ _ _ hP hD hS rfl rfl dX4_giveTitle_52
    · replace hF := (if_pos h8).symm.trans hF
      refine lv_aload_n hx hb dX4_giveTitle_22 rfl (lv_at hl 0 rfl) ?_
      refine lv_iconst (v := 2) hx hb dX4_giveTitle_23 (by decide) ?_
      refine lv_iload_n hx hb dX4_giveTitle_24 rfl (lv_at hl 2 rfl) ?_
      refine cV_i (As := [.int 2, .int p2]) (rest := []) hx hb hml hown hw hK hN hA hl.1 hP hD hS k_540 k_542 k_4 k_22 k_543 (met_X4_refuse l D cy _ ad en x k hk o 2 p2 (D_X4_refuse o 2 p2).1 (D_X4_refuse o 2 p2).2 rfl) (fun _ _ _ => trivial) Xok_T (gO (x := x) (r := 0) (o := o) (f := (o 0)) hk (by decide) rfl) rfl ⟨rfl, rfl⟩ (n := 2) (by decide +kernel) rfl ⟨Nat.le_of_ble_eq_true rfl, Nat.le_of_ble_eq_true rfl⟩ ⟨Nat.le_of_ble_eq_true rfl, Nat.le_of_ble_eq_true rfl⟩ (Nat.le_of_ble_eq_true rfl) rfl dX4_giveTitle_25 (fun H locs hP hD hS => ?_)
      cases hF
      exact hret _ _ _ _ _ _ hP hD hS rfl rfl dX4_giveTitle_28
  · replace hF := (if_pos h4).symm.trans hF
    refine lv_aload_n hx hb dX4_giveTitle_8 rfl (lv_at hl 0 rfl) ?_
    refine lv_iconst (v := 2) hx hb dX4_giveTitle_9 (by decide) ?_
    refine lv_iload_n hx hb dX4_giveTitle_10 rfl (lv_at hl 1 rfl) ?_
    refine cV_i (As := [.int 2, .int p1]) (rest := []) hx hb hml hown hw hK hN hA hl.1 hP hD hS k_540 k_542 k_4 k_22 k_543 (met_X4_refuse l D cy _ ad en x k hk o 2 p1 (D_X4_refuse o 2 p1).1 (D_X4_refuse o 2 p1).2 rfl) (fun _ _ _ => trivial) Xok_T (gO (x := x) (r := 0) (o := o) (f := (o 0)) hk (by decide) rfl) rfl ⟨rfl, rfl⟩ (n := 2) (by decide +kernel) rfl ⟨Nat.le_of_ble_eq_true rfl, Nat.le_of_ble_eq_true rfl⟩ ⟨Nat.le_of_ble_eq_true rfl, Nat.le_of_ble_eq_true rfl⟩ (Nat.le_of_ble_eq_true rfl) rfl dX4_giveTitle_11 (fun H locs hP hD hS => ?_)
    cases hF
    exact hret _ _ _ _ _ _ hP hD hS rfl rfl dX4_giveTitle_14
def D_X4_checkDeal (o : Nat → Nat → Int32) (p1 : Nat) (p2 : Int32) (p3 : Int32) (p4 : Int32) : Option (Int32 × (Nat → Nat → Int32)) := if (D_X1_hasTitle (o (p1 + 7))) = 0 then (some ((D_X4_refuse o 6 p2).1, (D_X4_refuse o 6 p2).2)) else (if ((o (p1 + 7)) 3) = p3 then (some ((D_X4_refuse o 4 p3).1, (D_X4_refuse o 4 p3).2)) else (if (D_X1_isPledged (o (p1 + 7))) = 0 then ((D_X4_purseOf o p3).bind (fun r10 => if p4 ≤ r10 then (some (0, o)) else ((D_X4_purseOf o p3).bind (fun r14 => some ((D_X4_refuse o 7 r14).1, (D_X4_refuse o 7 r14).2))))) else (some ((D_X4_refuse o 8 ((o (p1 + 7)) 5)).1, (D_X4_refuse o 8 ((o (p1 + 7)) 5)).2))))
abbrev rm_X4_checkDeal : Room := { frames := 2, cells := 0, slots := 0, locals := 41 }
set_option maxHeartbeats 4000000 in
set_option maxRecDepth 100000 in
theorem met_X4_checkDeal (l : Launch) (D : va_G) (cy : Nat → ClassId) (sz : Nat) (ad : Nat → Nat → Nat) (en : Nat → Nat) (x : Mem) (k : Nat) (hk : k < 12) (o : Nat → Nat → Int32) (p1 : Nat) (hp1 : p1 + 7 < 13) (p2 : Int32) (p3 : Int32) (p4 : Int32)  (r : Int32) (t' : Nat → Nat → Int32) (hF : D_X4_checkDeal o p1 p2 p3 p4 = some (r, t')) : MI l yX4_checkDeal cX4_checkDeal 5 (some .int) rm_X4_checkDeal D cy (cW cy ad en (va_up x k o)) sz (fun _ => True) [.ref (ad k 0), .ref (ad k (p1 + 7)), .int p2, .int p3, .int p4] r (cW cy ad en (va_up x k t')) := by
  refine MI.of (by decide +kernel) (Nat.le_of_ble_eq_true rfl) ?_
  intro p e s m args below meth c A ls Q hAt _ hP hD hA hS hl hret
  obtain ⟨hx, hb, hr, hml, hown, hw, hlk, hK, hN⟩ := hAt
  have hown : s.vm.findClass "CloudDeeds$Office" = some m.cls := hown
  have hl : lv_has ls 5 [(0, .ref (ad k 0)), (1, .ref (ad k (p1 + 7))), (2, .int p2), (3, .int p3), (4, .int p4)] := hl
  refine lv_aload_n hx hb dX4_checkDeal_0 rfl (lv_at hl 1 rfl) ?_
  refine cV_i (As := []) (rest := []) hx hb hml hown hw hK hN hA hl.1 hP hD hS k_583 k_556 k_557 k_24 k_558 (met_X1_hasTitle l D cy _ (cW cy ad en (va_up x k o)) (13 * k + (p1 + 7)) (ad k (p1 + 7)) (o (p1 + 7)) (gO (x := x) (r := (p1 + 7)) (o := o) (f := (o (p1 + 7))) hk hp1 rfl) (D_X1_hasTitle (o (p1 + 7))) rfl) (fun _ _ _ => trivial) Xok_T (gO (x := x) (r := (p1 + 7)) (o := o) (f := (o (p1 + 7))) hk hp1 rfl) rfl ⟨rfl, rfl⟩ (n := 0) (by decide +kernel) rfl ⟨Nat.le_of_ble_eq_true rfl, Nat.le_of_ble_eq_true rfl⟩ ⟨Nat.le_of_ble_eq_true rfl, Nat.le_of_ble_eq_true rfl⟩ (Nat.le_of_ble_eq_true rfl) rfl dX4_checkDeal_1 (fun H locs hP hD hS => ?_)
  refine lv_if_ne (tgt := 15) hx hb dX4_checkDeal_4 (by decide) (fun h4 => ?_) (fun h4 => ?_)
  · replace hF := (if_neg h4).symm.trans hF
    refine lv_aload_n hx hb dX4_checkDeal_15 rfl (lv_at hl 1 rfl) ?_
    refine getN' (ci := 4) (fs := cF (o (p1 + 7))) (v := .int ((o (p1 + 7)) 3)) hx hb hw hN inWX1 hown hK hP (gO (x := x) (r := (p1 + 7)) (o := o) (f := (o (p1 + 7))) hk hp1 rfl) rfl 3 (by decide) n_97 rfl rfl dX4_checkDeal_16 ?_
    refine lv_iload_n hx hb dX4_checkDeal_19 rfl (lv_at hl 3 rfl) ?_
    refine lv_icmp_ne (tgt := 30) hx hb dX4_checkDeal_20 (by decide) (fun h5 => ?_) (fun h5 => ?_)
    · replace hF := (if_neg h5).symm.trans hF
      refine lv_aload_n hx hb dX4_checkDeal_30 rfl (lv_at hl 1 rfl) ?_
      refine cV_i (As := []) (rest := []) hx hb hml hown hw hK hN hA hl.1 hP hD hS k_449 k_421 k_422 k_24 k_423 (met_X1_isPledged l D cy _ (cW cy ad en (va_up x k o)) (13 * k + (p1 + 7)) (ad k (p1 + 7)) (o (p1 + 7)) (gO (x := x) (r := (p1 + 7)) (o := o) (f := (o (p1 + 7))) hk hp1 rfl) (D_X1_isPledged (o (p1 + 7))) rfl) (fun _ _ _ => trivial) Xok_T (gO (x := x) (r := (p1 + 7)) (o := o) (f := (o (p1 + 7))) hk hp1 rfl) rfl ⟨rfl, rfl⟩ (n := 0) (by decide +kernel) rfl ⟨Nat.le_of_ble_eq_true rfl, Nat.le_of_ble_eq_true rfl⟩ ⟨Nat.le_of_ble_eq_true rfl, Nat.le_of_ble_eq_true rfl⟩ (Nat.le_of_ble_eq_true rfl) rfl dX4_checkDeal_31 (fun H locs hP hD hS => ?_)
      refine lv_if_eq (tgt := 48) hx hb dX4_checkDeal_34 (by decide) (fun h9 => ?_) (fun h9 => ?_)
      · replace hF := (if_pos h9).symm.trans hF
        refine lv_aload_n hx hb dX4_checkDeal_48 rfl (lv_at hl 0 rfl) ?_
        refine lv_iload_n hx hb dX4_checkDeal_49 rfl (lv_at hl 3 rfl) ?_
        obtain ⟨r10, hc12, hF⟩ := bind_some hF
        try dsimp only at hF
        refine cV_i (As := [.int p3]) (rest := []) hx hb hml hown hw hK hN hA hl.1 hP hD hS k_440 k_442 k_1 k_22 k_443 (met_X4_purseOf l D cy _ ad en x k hk o p3 r10 hc12) (fun _ _ _ => trivial) Xok_T (gO (x := x) (r := 0) (o := o) (f := (o 0)) hk (by decide) rfl) rfl ⟨rfl, rfl⟩ (n := 1) (by decide +kernel) rfl ⟨Nat.le_of_ble_eq_true rfl, Nat.le_of_ble_eq_true rfl⟩ ⟨Nat.le_of_ble_eq_true rfl, Nat.le_of_ble_eq_true rfl⟩ (Nat.le_of_ble_eq_true rfl) rfl dX4_checkDeal_50 (fun H locs hP hD hS => ?_)
        refine lv_iload hx hb dX4_checkDeal_53 (lv_at hl 4 rfl) ?_
        refine lv_icmp_ge (tgt := 70) hx hb dX4_checkDeal_55 (by decide) (fun h13 => ?_) (fun h13 => ?_)
        · replace hF := (if_pos h13).symm.trans hF
          refine lv_iconst (v := 0) hx hb dX4_checkDeal_70 (by decide) ?_
          cases hF
          exact hret _ _ _ _ _ _ hP hD hS rfl rfl dX4_checkDeal_71
        · replace hF := (if_neg h13).symm.trans hF
          refine lv_aload_n hx hb dX4_checkDeal_58 rfl (lv_at hl 0 rfl) ?_
          refine lv_bipush (v := 7) hx hb dX4_checkDeal_59 (by decide) ?_
          refine lv_aload_n hx hb dX4_checkDeal_61 rfl (lv_at hl 0 rfl) ?_
          refine lv_iload_n hx hb dX4_checkDeal_62 rfl (lv_at hl 3 rfl) ?_
          obtain ⟨r14, hc16, hF⟩ := bind_some hF
          try dsimp only at hF
          refine cV_i (As := [.int p3]) (rest := [.int 7, .ref (ad k 0)]) hx hb hml hown hw hK hN hA hl.1 hP hD hS k_440 k_442 k_1 k_22 k_443 (met_X4_purseOf l D cy _ ad en x k hk o p3 r14 hc16) (fun _ _ _ => trivial) Xok_T (gO (x := x) (r := 0) (o := o) (f := (o 0)) hk (by decide) rfl) rfl ⟨rfl, rfl⟩ (n := 1) (by decide +kernel) rfl ⟨Nat.le_of_ble_eq_true rfl, Nat.le_of_ble_eq_true rfl⟩ ⟨Nat.le_of_ble_eq_true rfl, Nat.le_of_ble_eq_true rfl⟩ (Nat.le_of_ble_eq_true rfl) rfl dX4_checkDeal_63 (fun H locs hP hD hS => ?_)
          refine cV_i (As := [.int 7, .int r14]) (rest := []) hx hb hml hown hw hK hN hA hl.1 hP hD hS k_540 k_542 k_4 k_22 k_543 (met_X4_refuse l D cy _ ad en x k hk o 7 r14 (D_X4_refuse o 7 r14).1 (D_X4_refuse o 7 r14).2 rfl) (fun _ _ _ => trivial) Xok_T (gO (x := x) (r := 0) (o := o) (f := (o 0)) hk (by decide) rfl) rfl ⟨rfl, rfl⟩ (n := 2) (by decide +kernel) rfl ⟨Nat.le_of_ble_eq_true rfl, Nat.le_of_ble_eq_true rfl⟩ ⟨Nat.le_of_ble_eq_true rfl, Nat.le_of_ble_eq_true rfl⟩ (Nat.le_of_ble_eq_true rfl) rfl dX4_checkDeal_66 (fun H locs hP hD hS => ?_)
          cases hF
          exact hret _ _ _ _ _ _ hP hD hS rfl rfl dX4_checkDeal_69
      · replace hF := (if_neg h9).symm.trans hF
        refine lv_aload_n hx hb dX4_checkDeal_37 rfl (lv_at hl 0 rfl) ?_
        refine lv_bipush (v := 8) hx hb dX4_checkDeal_38 (by decide) ?_
        refine lv_aload_n hx hb dX4_checkDeal_40 rfl (lv_at hl 1 rfl) ?_
        refine getN' (ci := 4) (fs := cF (o (p1 + 7))) (v := .int ((o (p1 + 7)) 5)) hx hb hw hN inWX1 hown hK hP (gO (x := x) (r := (p1 + 7)) (o := o) (f := (o (p1 + 7))) hk hp1 rfl) rfl 5 (by decide) n_100 rfl rfl dX4_checkDeal_41 ?_
        refine cV_i (As := [.int 8, .int ((o (p1 + 7)) 5)]) (rest := []) hx hb hml hown hw hK hN hA hl.1 hP hD hS k_540 k_542 k_4 k_22 k_543 (met_X4_refuse l D cy _ ad en x k hk o 8 ((o (p1 + 7)) 5) (D_X4_refuse o 8 ((o (p1 + 7)) 5)).1 (D_X4_refuse o 8 ((o (p1 + 7)) 5)).2 rfl) (fun _ _ _ => trivial) Xok_T (gO (x := x) (r := 0) (o := o) (f := (o 0)) hk (by decide) rfl) rfl ⟨rfl, rfl⟩ (n := 2) (by decide +kernel) rfl ⟨Nat.le_of_ble_eq_true rfl, Nat.le_of_ble_eq_true rfl⟩ ⟨Nat.le_of_ble_eq_true rfl, Nat.le_of_ble_eq_true rfl⟩ (Nat.le_of_ble_eq_true rfl) rfl dX4_checkDeal_44 (fun H locs hP hD hS => ?_)
        cases hF
        exact hret _ _ _ _ _ _ hP hD hS rfl rfl dX4_checkDeal_47
    · replace hF := (if_pos h5).symm.trans hF
      refine lv_aload_n hx hb dX4_checkDeal_23 rfl (lv_at hl 0 rfl) ?_
      refine lv_iconst (v := 4) hx hb dX4_checkDeal_24 (by decide) ?_
      refine lv_iload_n hx hb dX4_checkDeal_25 rfl (lv_at hl 3 rfl) ?_
      refine cV_i (As := [.int 4, .int p3]) (rest := []) hx hb hml hown hw hK hN hA hl.1 hP hD hS k_540 k_542 k_4 k_22 k_543 (met_X4_refuse l D cy _ ad en x k hk o 4 p3 (D_X4_refuse o 4 p3).1 (D_X4_refuse o 4 p3).2 rfl) (fun _ _ _ => trivial) Xok_T (gO (x := x) (r := 0) (o := o) (f := (o 0)) hk (by decide) rfl) rfl ⟨rfl, rfl⟩ (n := 2) (by decide +kernel) rfl ⟨Nat.le_of_ble_eq_true rfl, Nat.le_of_ble_eq_true rfl⟩ ⟨Nat.le_of_ble_eq_true rfl, Nat.le_of_ble_eq_true rfl⟩ (Nat.le_of_ble_eq_true rfl) rfl dX4_checkDeal_26 (fun H locs hP hD hS => ?_)
      cases hF
      exact hret _ _ _ _ _ _ hP hD hS rfl rfl dX4_checkDeal_29
  · replace hF := (if_pos h4).symm.trans hF
    refine lv_aload_n hx hb dX4_checkDeal_7 rfl (lv_at hl 0 rfl) ?_
    refine lv_bipush (v := 6) hx hb dX4_checkDeal_8 (by decide) ?_
    refine lv_iload_n hx hb dX4_checkDeal_10 rfl (lv_at hl 2 rfl) ?_
    refine cV_i (As := [.int 6, .int p2]) (rest := []) hx hb hml hown hw hK hN hA hl.1 hP hD hS k_540 k_542 k_4 k_22 k_543 (met_X4_refuse l D cy _ ad en x k hk o 6 p2 (D_X4_refuse o 6 p2).1 (D_X4_refuse o 6 p2).2 rfl) (fun _ _ _ => trivial) Xok_T (gO (x := x) (r := 0) (o := o) (f := (o 0)) hk (by decide) rfl) rfl ⟨rfl, rfl⟩ (n := 2) (by decide +kernel) rfl ⟨Nat.le_of_ble_eq_true rfl, Nat.le_of_ble_eq_true rfl⟩ ⟨Nat.le_of_ble_eq_true rfl, Nat.le_of_ble_eq_true rfl⟩ (Nat.le_of_ble_eq_true rfl) rfl dX4_checkDeal_11 (fun H locs hP hD hS => ?_)
    cases hF
    exact hret _ _ _ _ _ _ hP hD hS rfl rfl dX4_checkDeal_14
def D_X4_redeemPledge (o : Nat → Nat → Int32) (p1 : Int32) : Option (Int32 × (Nat → Nat → Int32)) := if (D_X4_hasCloud o p1) = 0 then (some ((D_X4_refuse o 2 p1).1, (D_X4_refuse o 2 p1).2)) else (if inb p1 6 then (if (D_X1_isPledged (o (p1.toNatClampNeg + 7))) = 0 then (some ((D_X4_refuse o 9 p1).1, (D_X4_refuse o 9 p1).2)) else ((D_X4_purseOf o ((o (p1.toNatClampNeg + 7)) 3)).bind (fun r14 => if (D_X1_redemption (o (p1.toNatClampNeg + 7))) ≤ r14 then ((D_X4_pay o ((o (p1.toNatClampNeg + 7)) 3) ((o (p1.toNatClampNeg + 7)) 5) (D_X1_redemption (o (p1.toNatClampNeg + 7)))).bind (fun o19 => some ((D_X1_redemption (o (p1.toNatClampNeg + 7))), (va_up o19 (p1.toNatClampNeg + 7) (D_X1_endPledge (o19 (p1.toNatClampNeg + 7))))))) else ((D_X4_purseOf o ((o (p1.toNatClampNeg + 7)) 3)).bind (fun r24 => some ((D_X4_refuse o 7 r24).1, (D_X4_refuse o 7 r24).2)))))) else none)
abbrev rm_X4_redeemPledge : Room := { frames := 2, cells := 0, slots := 0, locals := 43 }
set_option maxHeartbeats 4000000 in
set_option maxRecDepth 100000 in
theorem met_X4_redeemPledge (l : Launch) (D : va_G) (cy : Nat → ClassId) (sz : Nat) (ad : Nat → Nat → Nat) (en : Nat → Nat) (x : Mem) (k : Nat) (hk : k < 12) (o : Nat → Nat → Int32) (p1 : Int32)  (r : Int32) (t' : Nat → Nat → Int32) (hF : D_X4_redeemPledge o p1 = some (r, t')) : MI l yX4_redeemPledge cX4_redeemPledge 4 (some .int) rm_X4_redeemPledge D cy (cW cy ad en (va_up x k o)) sz (fun _ => True) [.ref (ad k 0), .int p1] r (cW cy ad en (va_up x k t')) := by
  refine MI.of (by decide +kernel) (Nat.le_of_ble_eq_true rfl) ?_
  intro p e s m args below meth c A ls Q hAt _ hP hD hA hS hl hret
  obtain ⟨hx, hb, hr, hml, hown, hw, hlk, hK, hN⟩ := hAt
  have hown : s.vm.findClass "CloudDeeds$Office" = some m.cls := hown
  have hl : lv_has ls 4 [(0, .ref (ad k 0)), (1, .int p1)] := hl
  refine lv_aload_n hx hb dX4_redeemPledge_0 rfl (lv_at hl 0 rfl) ?_
  refine lv_iload_n hx hb dX4_redeemPledge_1 rfl (lv_at hl 1 rfl) ?_
  refine cV_i (As := [.int p1]) (rest := []) hx hb hml hown hw hK hN hA hl.1 hP hD hS k_653 k_320 k_321 k_22 k_322 (met_X4_hasCloud l D cy _ ad en x k hk o p1 (D_X4_hasCloud o p1) rfl) (fun _ _ _ => trivial) Xok_T (gO (x := x) (r := 0) (o := o) (f := (o 0)) hk (by decide) rfl) rfl ⟨rfl, rfl⟩ (n := 1) (by decide +kernel) rfl ⟨Nat.le_of_ble_eq_true rfl, Nat.le_of_ble_eq_true rfl⟩ ⟨Nat.le_of_ble_eq_true rfl, Nat.le_of_ble_eq_true rfl⟩ (Nat.le_of_ble_eq_true rfl) rfl dX4_redeemPledge_2 (fun H locs hP hD hS => ?_)
  refine lv_if_ne (tgt := 15) hx hb dX4_redeemPledge_5 (by decide) (fun h4 => ?_) (fun h4 => ?_)
  · replace hF := (if_neg h4).symm.trans hF
    refine lv_aload_n hx hb dX4_redeemPledge_15 rfl (lv_at hl 0 rfl) ?_
    refine get' (ci := 6) (fs := oF (ad k) (o 0)) (v := .ref (ad k 1)) hx hb hw inWX4 hown hK hP (gO (x := x) (r := 0) (o := o) (f := (o 0)) hk (by decide) rfl) rfl 0 (by decide) k_117 rfl rfl dX4_redeemPledge_16 ?_
    refine lv_iload_n hx hb dX4_redeemPledge_19 rfl (lv_at hl 1 rfl) ?_
    obtain ⟨h5, hF⟩ := ite_some hF
    have hr6 : (p1.toNatClampNeg + 7) < 13 := Nat.add_lt_add_right (inb_lt h5) 7
    refine aald' (n := 6) (g := (ad k (p1.toNatClampNeg + 7))) hx hb hK hP (gO (x := x) (r := 1) (o := o) (f := (o 1)) hk (by decide) rfl) (t0 := 3) rfl (vp_inb h5) rfl dX4_redeemPledge_20 ?_
    refine lv_astore_n (lv' := [(2, .ref (ad k (p1.toNatClampNeg + 7))), (0, .ref (ad k 0)), (1, .int p1)]) hx hb dX4_redeemPledge_21 rfl hl (by decide) rfl (fun ls hl => ?_)
    refine lv_aload_n hx hb dX4_redeemPledge_22 rfl (lv_at hl 0 rfl) ?_
    refine cV_i (As := []) (rest := []) hx hb hml hown hw hK hN hA hl.1 hP hD hS k_449 k_421 k_422 k_24 k_423 (met_X1_isPledged l D cy _ (cW cy ad en (va_up x k o)) (13 * k + (p1.toNatClampNeg + 7)) (ad k (p1.toNatClampNeg + 7)) (o (p1.toNatClampNeg + 7)) (gO (x := x) (r := (p1.toNatClampNeg + 7)) (o := o) (f := (o (p1.toNatClampNeg + 7))) hk hr6 rfl) (D_X1_isPledged (o (p1.toNatClampNeg + 7))) rfl) (fun _ _ _ => trivial) Xok_T (gO (x := x) (r := (p1.toNatClampNeg + 7)) (o := o) (f := (o (p1.toNatClampNeg + 7))) hk hr6 rfl) rfl ⟨rfl, rfl⟩ (n := 0) (by decide +kernel) rfl ⟨Nat.le_of_ble_eq_true rfl, Nat.le_of_ble_eq_true rfl⟩ ⟨Nat.le_of_ble_eq_true rfl, Nat.le_of_ble_eq_true rfl⟩ (Nat.le_of_ble_eq_true rfl) rfl dX4_redeemPledge_23 (fun H locs hP hD hS => ?_)
    refine lv_if_ne (tgt := 37) hx hb dX4_redeemPledge_26 (by decide) (fun h10 => ?_) (fun h10 => ?_)
    · replace hF := (if_neg h10).symm.trans hF
      refine lv_aload_n hx hb dX4_redeemPledge_37 rfl (lv_at hl 0 rfl) ?_
      refine cV_i (As := []) (rest := []) hx hb hml hown hw hK hN hA hl.1 hP hD hS k_1043 k_417 k_418 k_24 k_419 (met_X1_redemption l D cy _ (cW cy ad en (va_up x k o)) (13 * k + (p1.toNatClampNeg + 7)) (ad k (p1.toNatClampNeg + 7)) (o (p1.toNatClampNeg + 7)) (gO (x := x) (r := (p1.toNatClampNeg + 7)) (o := o) (f := (o (p1.toNatClampNeg + 7))) hk hr6 rfl) (D_X1_redemption (o (p1.toNatClampNeg + 7))) rfl) (fun _ _ _ => trivial) Xok_T (gO (x := x) (r := (p1.toNatClampNeg + 7)) (o := o) (f := (o (p1.toNatClampNeg + 7))) hk hr6 rfl) rfl ⟨rfl, rfl⟩ (n := 0) (by decide +kernel) rfl ⟨Nat.le_of_ble_eq_true rfl, Nat.le_of_ble_eq_true rfl⟩ ⟨Nat.le_of_ble_eq_true rfl, Nat.le_of_ble_eq_true rfl⟩ (Nat.le_of_ble_eq_true rfl) rfl dX4_redeemPledge_38 (fun H locs hP hD hS => ?_)
      refine lv_istore_n (lv' := [(3, .int (D_X1_redemption (o (p1.toNatClampNeg + 7)))), (2, .ref (ad k (p1.toNatClampNeg + 7))), (0, .ref (ad k 0)), (1, .int p1)]) hx hb dX4_redeemPledge_41 rfl hl (by decide) rfl (fun ls hl => ?_)
      refine lv_aload_n hx hb dX4_redeemPledge_42 rfl (lv_at hl 2 rfl) ?_
      refine lv_aload_n hx hb dX4_redeemPledge_43 rfl (lv_at hl 1 rfl) ?_
      refine getN' (ci := 4) (fs := cF (o (p1.toNatClampNeg + 7))) (v := .int ((o (p1.toNatClampNeg + 7)) 3)) hx hb hw hN inWX1 hown hK hP (gO (x := x) (r := (p1.toNatClampNeg + 7)) (o := o) (f := (o (p1.toNatClampNeg + 7))) hk hr6 rfl) rfl 3 (by decide) n_97 rfl rfl dX4_redeemPledge_44 ?_
      obtain ⟨r14, hc16, hF⟩ := bind_some hF
      try dsimp only at hF
      refine cV_i (As := [.int ((o (p1.toNatClampNeg + 7)) 3)]) (rest := []) hx hb hml hown hw hK hN hA hl.1 hP hD hS k_440 k_442 k_1 k_22 k_443 (met_X4_purseOf l D cy _ ad en x k hk o ((o (p1.toNatClampNeg + 7)) 3) r14 hc16) (fun _ _ _ => trivial) Xok_T (gO (x := x) (r := 0) (o := o) (f := (o 0)) hk (by decide) rfl) rfl ⟨rfl, rfl⟩ (n := 1) (by decide +kernel) rfl ⟨Nat.le_of_ble_eq_true rfl, Nat.le_of_ble_eq_true rfl⟩ ⟨Nat.le_of_ble_eq_true rfl, Nat.le_of_ble_eq_true rfl⟩ (Nat.le_of_ble_eq_true rfl) rfl dX4_redeemPledge_47 (fun H locs hP hD hS => ?_)
      refine lv_iload_n hx hb dX4_redeemPledge_50 rfl (lv_at hl 0 rfl) ?_
      refine lv_icmp_ge (tgt := 69) hx hb dX4_redeemPledge_51 (by decide) (fun h17 => ?_) (fun h17 => ?_)
      · replace hF := (if_pos h17).symm.trans hF
        refine lv_aload_n hx hb dX4_redeemPledge_69 rfl (lv_at hl 2 rfl) ?_
        refine lv_aload_n hx hb dX4_redeemPledge_70 rfl (lv_at hl 1 rfl) ?_
        refine getN' (ci := 4) (fs := cF (o (p1.toNatClampNeg + 7))) (v := .int ((o (p1.toNatClampNeg + 7)) 3)) hx hb hw hN inWX1 hown hK hP (gO (x := x) (r := (p1.toNatClampNeg + 7)) (o := o) (f := (o (p1.toNatClampNeg + 7))) hk hr6 rfl) rfl 3 (by decide) n_97 rfl rfl dX4_redeemPledge_71 ?_
        refine lv_aload_n hx hb dX4_redeemPledge_74 rfl (lv_at hl 1 rfl) ?_
        refine getN' (ci := 4) (fs := cF (o (p1.toNatClampNeg + 7))) (v := .int ((o (p1.toNatClampNeg + 7)) 5)) hx hb hw hN inWX1 hown hK hP (gO (x := x) (r := (p1.toNatClampNeg + 7)) (o := o) (f := (o (p1.toNatClampNeg + 7))) hk hr6 rfl) rfl 5 (by decide) n_100 rfl rfl dX4_redeemPledge_75 ?_
        refine lv_iload_n hx hb dX4_redeemPledge_78 rfl (lv_at hl 0 rfl) ?_
        obtain ⟨o19, hc20, hF⟩ := bind_some hF
        try dsimp only at hF
        refine cV_v (As := [.int ((o (p1.toNatClampNeg + 7)) 3), .int ((o (p1.toNatClampNeg + 7)) 5), .int (D_X1_redemption (o (p1.toNatClampNeg + 7)))]) (rest := []) hx hb hml hown hw hK hN hA hl.1 hP hD hS k_1023 k_1025 k_18 k_22 k_1026 (met_X4_pay l D cy _ ad en x k hk o ((o (p1.toNatClampNeg + 7)) 3) ((o (p1.toNatClampNeg + 7)) 5) (D_X1_redemption (o (p1.toNatClampNeg + 7))) o19 hc20) (fun _ _ _ => trivial) Xok_T (gO (x := x) (r := 0) (o := o) (f := (o 0)) hk (by decide) rfl) rfl ⟨rfl, rfl⟩ (n := 3) (by decide +kernel) rfl ⟨Nat.le_of_ble_eq_true rfl, Nat.le_of_ble_eq_true rfl⟩ ⟨Nat.le_of_ble_eq_true rfl, Nat.le_of_ble_eq_true rfl⟩ (Nat.le_of_ble_eq_true rfl) rfl dX4_redeemPledge_79 (fun H locs hP hD hS => ?_)
        refine lv_aload_n hx hb dX4_redeemPledge_82 rfl (lv_at hl 1 rfl) ?_
        refine cV_v (As := []) (rest := []) hx hb hml hown hw hK hN hA hl.1 hP hD hS k_1044 k_572 k_573 k_24 k_574 (met_X1_endPledge l D cy _ (cW cy ad en (va_up x k o19)) (13 * k + (p1.toNatClampNeg + 7)) (ad k (p1.toNatClampNeg + 7)) (o19 (p1.toNatClampNeg + 7)) (gO (x := x) (r := (p1.toNatClampNeg + 7)) (o := o19) (f := (o19 (p1.toNatClampNeg + 7))) hk hr6 rfl) (D_X1_endPledge (o19 (p1.toNatClampNeg + 7))) rfl) (fun _ _ _ => trivial) Xok_T (gO (x := x) (r := (p1.toNatClampNeg + 7)) (o := o19) (f := (o19 (p1.toNatClampNeg + 7))) hk hr6 rfl) rfl ⟨rfl, rfl⟩ (n := 0) (by decide +kernel) rfl ⟨Nat.le_of_ble_eq_true rfl, Nat.le_of_ble_eq_true rfl⟩ ⟨Nat.le_of_ble_eq_true rfl, Nat.le_of_ble_eq_true rfl⟩ (Nat.le_of_ble_eq_true rfl) rfl dX4_redeemPledge_83 (fun H locs hP hD hS => ?_)
        have hP : va_P D vwCl (cW cy ad en (va_up x k (va_up o19 (p1.toNatClampNeg + 7) (D_X1_endPledge (o19 (p1.toNatClampNeg + 7)))))) H := cvP hP (sO (x := x) (r := (p1.toNatClampNeg + 7)) (o := o19) (g := (D_X1_endPledge (o19 (p1.toNatClampNeg + 7)))) hk hr6)
        have hD : va_D A (cW cy ad en (va_up x k (va_up o19 (p1.toNatClampNeg + 7) (D_X1_endPledge (o19 (p1.toNatClampNeg + 7)))))) := cvD hD (sO (x := x) (r := (p1.toNatClampNeg + 7)) (o := o19) (g := (D_X1_endPledge (o19 (p1.toNatClampNeg + 7)))) hk hr6)
        refine lv_iload_n hx hb dX4_redeemPledge_86 rfl (lv_at hl 0 rfl) ?_
        cases hF
        exact hret _ _ _ _ _ _ hP hD hS rfl rfl dX4_redeemPledge_87
      · replace hF := (if_neg h17).symm.trans hF
        refine lv_aload_n hx hb dX4_redeemPledge_54 rfl (lv_at hl 2 rfl) ?_
        refine lv_bipush (v := 7) hx hb dX4_redeemPledge_55 (by decide) ?_
        refine lv_aload_n hx hb dX4_redeemPledge_57 rfl (lv_at hl 2 rfl) ?_
        refine lv_aload_n hx hb dX4_redeemPledge_58 rfl (lv_at hl 1 rfl) ?_
        refine getN' (ci := 4) (fs := cF (o (p1.toNatClampNeg + 7))) (v := .int ((o (p1.toNatClampNeg + 7)) 3)) hx hb hw hN inWX1 hown hK hP (gO (x := x) (r := (p1.toNatClampNeg + 7)) (o := o) (f := (o (p1.toNatClampNeg + 7))) hk hr6 rfl) rfl 3 (by decide) n_97 rfl rfl dX4_redeemPledge_59 ?_
        obtain ⟨r24, hc26, hF⟩ := bind_some hF
        try dsimp only at hF
        refine cV_i (As := [.int ((o (p1.toNatClampNeg + 7)) 3)]) (rest := [.int 7, .ref (ad k 0)]) hx hb hml hown hw hK hN hA hl.1 hP hD hS k_440 k_442 k_1 k_22 k_443 (met_X4_purseOf l D cy _ ad en x k hk o ((o (p1.toNatClampNeg + 7)) 3) r24 hc26) (fun _ _ _ => trivial) Xok_T (gO (x := x) (r := 0) (o := o) (f := (o 0)) hk (by decide) rfl) rfl ⟨rfl, rfl⟩ (n := 1) (by decide +kernel) rfl ⟨Nat.le_of_ble_eq_true rfl, Nat.le_of_ble_eq_true rfl⟩ ⟨Nat.le_of_ble_eq_true rfl, Nat.le_of_ble_eq_true rfl⟩ (Nat.le_of_ble_eq_true rfl) rfl dX4_redeemPledge_62 (fun H locs hP hD hS => ?_)
        refine cV_i (As := [.int 7, .int r24]) (rest := []) hx hb hml hown hw hK hN hA hl.1 hP hD hS k_540 k_542 k_4 k_22 k_543 (met_X4_refuse l D cy _ ad en x k hk o 7 r24 (D_X4_refuse o 7 r24).1 (D_X4_refuse o 7 r24).2 rfl) (fun _ _ _ => trivial) Xok_T (gO (x := x) (r := 0) (o := o) (f := (o 0)) hk (by decide) rfl) rfl ⟨rfl, rfl⟩ (n := 2) (by decide +kernel) rfl ⟨Nat.le_of_ble_eq_true rfl, Nat.le_of_ble_eq_true rfl⟩ ⟨Nat.le_of_ble_eq_true rfl, Nat.le_of_ble_eq_true rfl⟩ (Nat.le_of_ble_eq_true rfl) rfl dX4_redeemPledge_65 (fun H locs hP hD hS => ?_)
        cases hF
        exact hret _ _ _ _ _ _ hP hD hS rfl rfl dX4_redeemPledge_68
    · replace hF := (if_pos h10).symm.trans hF
      refine lv_aload_n hx hb dX4_redeemPledge_29 rfl (lv_at hl 1 rfl) ?_
      refine lv_bipush (v := 9) hx hb dX4_redeemPledge_30 (by decide) ?_
      refine lv_iload_n hx hb dX4_redeemPledge_32 rfl (lv_at hl 2 rfl) ?_
      refine cV_i (As := [.int 9, .int p1]) (rest := []) hx hb hml hown hw hK hN hA hl.1 hP hD hS k_540 k_542 k_4 k_22 k_543 (met_X4_refuse l D cy _ ad en x k hk o 9 p1 (D_X4_refuse o 9 p1).1 (D_X4_refuse o 9 p1).2 rfl) (fun _ _ _ => trivial) Xok_T (gO (x := x) (r := 0) (o := o) (f := (o 0)) hk (by decide) rfl) rfl ⟨rfl, rfl⟩ (n := 2) (by decide +kernel) rfl ⟨Nat.le_of_ble_eq_true rfl, Nat.le_of_ble_eq_true rfl⟩ ⟨Nat.le_of_ble_eq_true rfl, Nat.le_of_ble_eq_true rfl⟩ (Nat.le_of_ble_eq_true rfl) rfl dX4_redeemPledge_33 (fun H locs hP hD hS => ?_)
      cases hF
      exact hret _ _ _ _ _ _ hP hD hS rfl rfl dX4_redeemPledge_36
  · replace hF := (if_pos h4).symm.trans hF
    refine lv_aload_n hx hb dX4_redeemPledge_8 rfl (lv_at hl 0 rfl) ?_
    refine lv_iconst (v := 2) hx hb dX4_redeemPledge_9 (by decide) ?_
    refine lv_iload_n hx hb dX4_redeemPledge_10 rfl (lv_at hl 1 rfl) ?_
    refine cV_i (As := [.int 2, .int p1]) (rest := []) hx hb hml hown hw hK hN hA hl.1 hP hD hS k_540 k_542 k_4 k_22 k_543 (met_X4_refuse l D cy _ ad en x k hk o 2 p1 (D_X4_refuse o 2 p1).1 (D_X4_refuse o 2 p1).2 rfl) (fun _ _ _ => trivial) Xok_T (gO (x := x) (r := 0) (o := o) (f := (o 0)) hk (by decide) rfl) rfl ⟨rfl, rfl⟩ (n := 2) (by decide +kernel) rfl ⟨Nat.le_of_ble_eq_true rfl, Nat.le_of_ble_eq_true rfl⟩ ⟨Nat.le_of_ble_eq_true rfl, Nat.le_of_ble_eq_true rfl⟩ (Nat.le_of_ble_eq_true rfl) rfl dX4_redeemPledge_11 (fun H locs hP hD hS => ?_)
    cases hF
    exact hret _ _ _ _ _ _ hP hD hS rfl rfl dX4_redeemPledge_14
def L_X4_blow_26 : Nat → (Nat → Nat → Int32) → (Int32) → (Int32) → (Int32) → (Nat → Nat → Int32) → Option (Int32 × (Nat → Nat → Int32))
  | 0, _, _, _, _, _ => none
  | n26 + 1, o, p1, i3h26, i2h26, s26 => if ((s26 0) 1) ≤ i3h26 then (some (i2h26, s26)) else (if inb i3h26 6 then ((D_X1_drift (s26 (i3h26.toNatClampNeg + 7)) p1).bind (fun o14 => if inb i3h26 6 then (if (D_X1_hasTitleForOtherShape o14) = 0 then (L_X4_blow_26 n26 o p1 (i3h26 + 1) i2h26 (va_up s26 (i3h26.toNatClampNeg + 7) o14)) else (L_X4_blow_26 n26 o p1 (i3h26 + 1) (i2h26 + 1) (va_up s26 (i3h26.toNatClampNeg + 7) o14))) else none)) else none)
def D_X4_blow (o : Nat → Nat → Int32) (p1 : Int32) : Option (Int32 × (Nat → Nat → Int32)) := if p1 = 0 then (some ((D_X4_refuse o 3 p1).1, (D_X4_refuse o 3 p1).2)) else (if p1 < (-3) then (some ((D_X4_refuse o 3 p1).1, (D_X4_refuse o 3 p1).2)) else (if p1 ≤ 3 then (L_X4_blow_26 200 o p1 0 0 o) else (some ((D_X4_refuse o 3 p1).1, (D_X4_refuse o 3 p1).2))))
abbrev rm_X4_blow : Room := { frames := 3, cells := 0, slots := 0, locals := 64 }
set_option maxHeartbeats 4000000 in
set_option maxRecDepth 100000 in
theorem met_X4_blow (l : Launch) (D : va_G) (cy : Nat → ClassId) (sz : Nat) (ad : Nat → Nat → Nat) (en : Nat → Nat) (x : Mem) (k : Nat) (hk : k < 12) (o : Nat → Nat → Int32) (p1 : Int32)  (r : Int32) (t' : Nat → Nat → Int32) (hF : D_X4_blow o p1 = some (r, t')) : MI l yX4_blow cX4_blow 4 (some .int) rm_X4_blow D cy (cW cy ad en (va_up x k o)) sz (fun _ => True) [.ref (ad k 0), .int p1] r (cW cy ad en (va_up x k t')) := by
  refine MI.of (by decide +kernel) (Nat.le_of_ble_eq_true rfl) ?_
  intro p e s m args below meth c A ls Q hAt _ hP hD hA hS hl hret
  obtain ⟨hx, hb, hr, hml, hown, hw, hlk, hK, hN⟩ := hAt
  have hown : s.vm.findClass "CloudDeeds$Office" = some m.cls := hown
  have hl : lv_has ls 4 [(0, .ref (ad k 0)), (1, .int p1)] := hl
  refine lv_iload_n hx hb dX4_blow_0 rfl (lv_at hl 1 rfl) ?_
  refine lv_if_eq (tgt := 15) hx hb dX4_blow_1 (by decide) (fun h1 => ?_) (fun h1 => ?_)
  · replace hF := (if_pos h1).symm.trans hF
    refine lv_aload_n hx hb dX4_blow_15 rfl (lv_at hl 0 rfl) ?_
    refine lv_iconst (v := 3) hx hb dX4_blow_16 (by decide) ?_
    refine lv_iload_n hx hb dX4_blow_17 rfl (lv_at hl 1 rfl) ?_
    refine cV_i (As := [.int 3, .int p1]) (rest := []) hx hb hml hown hw hK hN hA hl.1 hP hD hS k_540 k_542 k_4 k_22 k_543 (met_X4_refuse l D cy _ ad en x k hk o 3 p1 (D_X4_refuse o 3 p1).1 (D_X4_refuse o 3 p1).2 rfl) (fun _ _ _ => trivial) Xok_T (gO (x := x) (r := 0) (o := o) (f := (o 0)) hk (by decide) rfl) rfl ⟨rfl, rfl⟩ (n := 2) (by decide +kernel) rfl ⟨Nat.le_of_ble_eq_true rfl, Nat.le_of_ble_eq_true rfl⟩ ⟨Nat.le_of_ble_eq_true rfl, Nat.le_of_ble_eq_true rfl⟩ (Nat.le_of_ble_eq_true rfl) rfl dX4_blow_18 (fun H locs hP hD hS => ?_)
    cases hF
    exact hret _ _ _ _ _ _ hP hD hS rfl rfl dX4_blow_21
  · replace hF := (if_neg h1).symm.trans hF
    refine lv_iload_n hx hb dX4_blow_4 rfl (lv_at hl 1 rfl) ?_
    refine lv_bipush (v := (-3)) hx hb dX4_blow_5 (by decide) ?_
    refine lv_icmp_lt (tgt := 15) hx hb dX4_blow_7 (by decide) (fun h5 => ?_) (fun h5 => ?_)
    · replace hF := (if_pos h5).symm.trans hF
      refine lv_aload_n hx hb dX4_blow_15 rfl (lv_at hl 0 rfl) ?_
      refine lv_iconst (v := 3) hx hb dX4_blow_16 (by decide) ?_
      refine lv_iload_n hx hb dX4_blow_17 rfl (lv_at hl 1 rfl) ?_
      refine cV_i (As := [.int 3, .int p1]) (rest := []) hx hb hml hown hw hK hN hA hl.1 hP hD hS k_540 k_542 k_4 k_22 k_543 (met_X4_refuse l D cy _ ad en x k hk o 3 p1 (D_X4_refuse o 3 p1).1 (D_X4_refuse o 3 p1).2 rfl) (fun _ _ _ => trivial) Xok_T (gO (x := x) (r := 0) (o := o) (f := (o 0)) hk (by decide) rfl) rfl ⟨rfl, rfl⟩ (n := 2) (by decide +kernel) rfl ⟨Nat.le_of_ble_eq_true rfl, Nat.le_of_ble_eq_true rfl⟩ ⟨Nat.le_of_ble_eq_true rfl, Nat.le_of_ble_eq_true rfl⟩ (Nat.le_of_ble_eq_true rfl) rfl dX4_blow_18 (fun H locs hP hD hS => ?_)
      cases hF
      exact hret _ _ _ _ _ _ hP hD hS rfl rfl dX4_blow_21
    · replace hF := (if_neg h5).symm.trans hF
      refine lv_iload_n hx hb dX4_blow_10 rfl (lv_at hl 1 rfl) ?_
      refine lv_iconst (v := 3) hx hb dX4_blow_11 (by decide) ?_
      refine lv_icmp_le (tgt := 22) hx hb dX4_blow_12 (by decide) (fun h9 => ?_) (fun h9 => ?_)
      · replace hF := (if_pos h9).symm.trans hF
        refine lv_iconst (v := 0) hx hb dX4_blow_22 (by decide) ?_
        refine lv_istore_n (lv' := [(2, .int 0), (0, .ref (ad k 0)), (1, .int p1)]) hx hb dX4_blow_23 rfl hl (by decide) rfl (fun ls hl => ?_)
        refine lv_iconst (v := 0) hx hb dX4_blow_24 (by decide) ?_
        refine lv_istore_n (lv' := [(3, .int 0), (2, .int 0), (0, .ref (ad k 0)), (1, .int p1)]) hx hb dX4_blow_25 rfl hl (by decide) rfl (fun ls hl => ?_)
        have loop26 : ∀ (n : Nat) (i3h26 : Int32) (i2h26 : Int32) (s26 : Nat → Nat → Int32) (H : Heap) (locs : List Loc) (ls : Array Slot), L_X4_blow_26 n o p1 i3h26 i2h26 s26 = some (r, t') → va_P D vwCl (cW cy ad en (va_up x k s26)) H → va_D A (cW cy ad en (va_up x k s26)) → va_S A s.heap H locs → lv_has ls 4 [(3, .int i3h26), (2, .int i2h26), (0, .ref (ad k 0)), (1, .int p1)] → W p l e rm_X4_blow s m args below meth c H locs 0 0 Q (F0 m 26 ls []) := by
          intro n
          induction n with
          | zero => intro i3h26 i2h26 s26 H locs ls hF _ _ _ _; exact absurd hF (by simp [L_X4_blow_26])
          | succ n26 ih26 =>
            intro i3h26 i2h26 s26 H locs ls hF hP hD hS hl
            refine lv_iload_n hx hb dX4_blow_26 rfl (lv_at hl 0 rfl) ?_
            refine lv_aload_n hx hb dX4_blow_27 rfl (lv_at hl 2 rfl) ?_
            refine get' (ci := 6) (fs := oF (ad k) (s26 0)) (v := .int ((s26 0) 1)) hx hb hw inWX4 hown hK hP (gO (x := x) (r := 0) (o := s26) (f := (s26 0)) hk (by decide) rfl) rfl 1 (by decide) k_119 rfl rfl dX4_blow_28 ?_
            refine lv_icmp_ge (tgt := 65) hx hb dX4_blow_31 (by decide) (fun h10 => ?_) (fun h10 => ?_)
            · replace hF := (if_pos h10).symm.trans hF
              refine lv_iload_n hx hb dX4_blow_65 rfl (lv_at hl 1 rfl) ?_
              cases hF
              exact hret _ _ _ _ _ _ hP hD hS rfl rfl dX4_blow_66
            · replace hF := (if_neg h10).symm.trans hF
              refine lv_aload_n hx hb dX4_blow_34 rfl (lv_at hl 2 rfl) ?_
              refine get' (ci := 6) (fs := oF (ad k) (s26 0)) (v := .ref (ad k 1)) hx hb hw inWX4 hown hK hP (gO (x := x) (r := 0) (o := s26) (f := (s26 0)) hk (by decide) rfl) rfl 0 (by decide) k_117 rfl rfl dX4_blow_35 ?_
              refine lv_iload_n hx hb dX4_blow_38 rfl (lv_at hl 0 rfl) ?_
              obtain ⟨h11, hF⟩ := ite_some hF
              have hr12 : (i3h26.toNatClampNeg + 7) < 13 := Nat.add_lt_add_right (inb_lt h11) 7
              refine aald' (n := 6) (g := (ad k (i3h26.toNatClampNeg + 7))) hx hb hK hP (gO (x := x) (r := 1) (o := s26) (f := (s26 1)) hk (by decide) rfl) (t0 := 3) rfl (vp_inb h11) rfl dX4_blow_39 ?_
              refine lv_iload_n hx hb dX4_blow_40 rfl (lv_at hl 3 rfl) ?_
              obtain ⟨o14, hc15, hF⟩ := bind_some hF
              try dsimp only at hF
              refine cV_v (As := [.int p1]) (rest := []) hx hb hml hown hw hK hN hA hl.1 hP hD hS k_544 k_545 k_546 k_24 k_547 (met_X1_drift l D cy _ (cW cy ad en (va_up x k s26)) (13 * k + (i3h26.toNatClampNeg + 7)) (ad k (i3h26.toNatClampNeg + 7)) (s26 (i3h26.toNatClampNeg + 7)) p1 (gO (x := x) (r := (i3h26.toNatClampNeg + 7)) (o := s26) (f := (s26 (i3h26.toNatClampNeg + 7))) hk hr12 rfl) o14 hc15) (fun _ _ _ => trivial) Xok_T (gO (x := x) (r := (i3h26.toNatClampNeg + 7)) (o := s26) (f := (s26 (i3h26.toNatClampNeg + 7))) hk hr12 rfl) rfl ⟨rfl, rfl⟩ (n := 1) (by decide +kernel) rfl ⟨Nat.le_of_ble_eq_true rfl, Nat.le_of_ble_eq_true rfl⟩ ⟨Nat.le_of_ble_eq_true rfl, Nat.le_of_ble_eq_true rfl⟩ (Nat.le_of_ble_eq_true rfl) rfl dX4_blow_41 (fun H locs hP hD hS => ?_)
              have hP : va_P D vwCl (cW cy ad en (va_up x k (va_up s26 (i3h26.toNatClampNeg + 7) o14))) H := cvP hP (sO (x := x) (r := (i3h26.toNatClampNeg + 7)) (o := s26) (g := o14) hk hr12)
              have hD : va_D A (cW cy ad en (va_up x k (va_up s26 (i3h26.toNatClampNeg + 7) o14))) := cvD hD (sO (x := x) (r := (i3h26.toNatClampNeg + 7)) (o := s26) (g := o14) hk hr12)
              refine lv_aload_n hx hb dX4_blow_44 rfl (lv_at hl 2 rfl) ?_
              refine get' (ci := 6) (fs := oF (ad k) (s26 0)) (v := .ref (ad k 1)) hx hb hw inWX4 hown hK hP (gO (x := x) (r := 0) (o := (va_up s26 (i3h26.toNatClampNeg + 7) o14)) (f := (s26 0)) hk (by decide) ((va_up_ne _ _ (by omega)).trans rfl)) rfl 0 (by decide) k_117 rfl rfl dX4_blow_45 ?_
              refine lv_iload_n hx hb dX4_blow_48 rfl (lv_at hl 0 rfl) ?_
              obtain ⟨h16, hF⟩ := ite_some hF
              have hr17 : (i3h26.toNatClampNeg + 7) < 13 := Nat.add_lt_add_right (inb_lt h16) 7
              refine aald' (n := 6) (g := (ad k (i3h26.toNatClampNeg + 7))) hx hb hK hP (gO (x := x) (r := 1) (o := (va_up s26 (i3h26.toNatClampNeg + 7) o14)) (f := (s26 1)) hk (by decide) ((va_up_ne _ _ (by omega)).trans rfl)) (t0 := 3) rfl (vp_inb h16) rfl dX4_blow_49 ?_
              refine cV_i (As := []) (rest := []) hx hb hml hown hw hK hN hA hl.1 hP hD hS k_551 k_552 k_553 k_24 k_554 (met_X1_hasTitleForOtherShape l D cy _ (cW cy ad en (va_up x k (va_up s26 (i3h26.toNatClampNeg + 7) o14))) (13 * k + (i3h26.toNatClampNeg + 7)) (ad k (i3h26.toNatClampNeg + 7)) o14 (gO (x := x) (r := (i3h26.toNatClampNeg + 7)) (o := (va_up s26 (i3h26.toNatClampNeg + 7) o14)) (f := o14) hk hr17 (va_up_self _ _ _)) (D_X1_hasTitleForOtherShape o14) rfl) (fun _ _ _ => trivial) Xok_T (gO (x := x) (r := (i3h26.toNatClampNeg + 7)) (o := (va_up s26 (i3h26.toNatClampNeg + 7) o14)) (f := o14) hk hr17 (va_up_self _ _ _)) rfl ⟨rfl, rfl⟩ (n := 0) (by decide +kernel) rfl ⟨Nat.le_of_ble_eq_true rfl, Nat.le_of_ble_eq_true rfl⟩ ⟨Nat.le_of_ble_eq_true rfl, Nat.le_of_ble_eq_true rfl⟩ (Nat.le_of_ble_eq_true rfl) rfl dX4_blow_50 (fun H locs hP hD hS => ?_)
              refine lv_if_eq (tgt := 59) hx hb dX4_blow_53 (by decide) (fun h21 => ?_) (fun h21 => ?_)
              · replace hF := (if_pos h21).symm.trans hF
                refine lv_iinc (v := (i3h26 + 1)) (lv' := [(3, .int (i3h26 + 1)), (2, .int i2h26), (0, .ref (ad k 0)), (1, .int p1)]) hx hb dX4_blow_59 hl (k := 0) rfl rfl (by decide) rfl (fun ls hl => ?_)
                refine lv_goto (tgt := 26) hx hb dX4_blow_62 (by decide) ?_
                exact ih26 (i3h26 + 1) i2h26 (va_up s26 (i3h26.toNatClampNeg + 7) o14) _ _ _ hF hP hD hS (lv_sub hl [0, 1, 2, 3] rfl)
              · replace hF := (if_neg h21).symm.trans hF
                refine lv_iinc (v := (i2h26 + 1)) (lv' := [(2, .int (i2h26 + 1)), (3, .int i3h26), (0, .ref (ad k 0)), (1, .int p1)]) hx hb dX4_blow_56 hl (k := 1) rfl rfl (by decide) rfl (fun ls hl => ?_)
                refine lv_iinc (v := (i3h26 + 1)) (lv' := [(3, .int (i3h26 + 1)), (2, .int (i2h26 + 1)), (0, .ref (ad k 0)), (1, .int p1)]) hx hb dX4_blow_59 hl (k := 1) rfl rfl (by decide) rfl (fun ls hl => ?_)
                refine lv_goto (tgt := 26) hx hb dX4_blow_62 (by decide) ?_
                exact ih26 (i3h26 + 1) (i2h26 + 1) (va_up s26 (i3h26.toNatClampNeg + 7) o14) _ _ _ hF hP hD hS (lv_sub hl [0, 1, 2, 3] rfl)
        exact loop26 200 0 0 o _ _ _ hF hP hD hS (lv_sub hl [0, 1, 2, 3] rfl)
      · replace hF := (if_neg h9).symm.trans hF
        refine lv_aload_n hx hb dX4_blow_15 rfl (lv_at hl 0 rfl) ?_
        refine lv_iconst (v := 3) hx hb dX4_blow_16 (by decide) ?_
        refine lv_iload_n hx hb dX4_blow_17 rfl (lv_at hl 1 rfl) ?_
        refine cV_i (As := [.int 3, .int p1]) (rest := []) hx hb hml hown hw hK hN hA hl.1 hP hD hS k_540 k_542 k_4 k_22 k_543 (met_X4_refuse l D cy _ ad en x k hk o 3 p1 (D_X4_refuse o 3 p1).1 (D_X4_refuse o 3 p1).2 rfl) (fun _ _ _ => trivial) Xok_T (gO (x := x) (r := 0) (o := o) (f := (o 0)) hk (by decide) rfl) rfl ⟨rfl, rfl⟩ (n := 2) (by decide +kernel) rfl ⟨Nat.le_of_ble_eq_true rfl, Nat.le_of_ble_eq_true rfl⟩ ⟨Nat.le_of_ble_eq_true rfl, Nat.le_of_ble_eq_true rfl⟩ (Nat.le_of_ble_eq_true rfl) rfl dX4_blow_18 (fun H locs hP hD hS => ?_)
        cases hF
        exact hret _ _ _ _ _ _ hP hD hS rfl rfl dX4_blow_21
def L_X4_hailDown_18 : Nat → (Nat → Nat → Int32) → (Int32) → (Int32) → (Int32) → (Nat → Nat → Int32) → Option (Int32 × (Nat → Nat → Int32))
  | 0, _, _, _, _, _ => none
  | n18 + 1, o, p1, i3h18, i2h18, s18 => if ((s18 0) 1) ≤ i3h18 then ((D_X4_removeGone (va_up s18 0 (upd (s18 0) 8 (((s18 0) 8) + i2h18)))).bind (fun o7 => some (i2h18, o7))) else (if inb i3h18 6 then (if ((s18 (i3h18.toNatClampNeg + 7)) 0) = p1 then (if (D_X1_isPledged (s18 (i3h18.toNatClampNeg + 7))) = 0 then (if ((s18 (i3h18.toNatClampNeg + 7)) 0) = p1 then (L_X4_hailDown_18 n18 o p1 (i3h18 + 1) i2h18 (va_up s18 (i3h18.toNatClampNeg + 7) (upd (s18 (i3h18.toNatClampNeg + 7)) 2 (((s18 (i3h18.toNatClampNeg + 7)) 2) - 1)))) else (L_X4_hailDown_18 n18 o p1 (i3h18 + 1) i2h18 s18)) else (L_X4_hailDown_18 n18 o p1 (i3h18 + 1) (i2h18 + 1) (va_up s18 (i3h18.toNatClampNeg + 7) (D_X1_entitle (s18 (i3h18.toNatClampNeg + 7)) ((s18 (i3h18.toNatClampNeg + 7)) 5))))) else (if ((s18 (i3h18.toNatClampNeg + 7)) 0) = p1 then (L_X4_hailDown_18 n18 o p1 (i3h18 + 1) i2h18 (va_up s18 (i3h18.toNatClampNeg + 7) (upd (s18 (i3h18.toNatClampNeg + 7)) 2 (((s18 (i3h18.toNatClampNeg + 7)) 2) - 1)))) else (L_X4_hailDown_18 n18 o p1 (i3h18 + 1) i2h18 s18))) else none)
def D_X4_hailDown (o : Nat → Nat → Int32) (p1 : Int32) : Option (Int32 × (Nat → Nat → Int32)) := if (D_X9_isVineyard p1) = 0 then (some ((D_X4_refuse o 2 p1).1, (D_X4_refuse o 2 p1).2)) else (L_X4_hailDown_18 200 o p1 0 0 o)
abbrev rm_X4_hailDown : Room := { frames := 2, cells := 0, slots := 0, locals := 43 }
set_option maxHeartbeats 4000000 in
set_option maxRecDepth 100000 in
theorem met_X4_hailDown (l : Launch) (D : va_G) (cy : Nat → ClassId) (sz : Nat) (ad : Nat → Nat → Nat) (en : Nat → Nat) (x : Mem) (k : Nat) (hk : k < 12) (o : Nat → Nat → Int32) (p1 : Int32)  (r : Int32) (t' : Nat → Nat → Int32) (hF : D_X4_hailDown o p1 = some (r, t')) : MI l yX4_hailDown cX4_hailDown 5 (some .int) rm_X4_hailDown D cy (cW cy ad en (va_up x k o)) sz (fun _ => True) [.ref (ad k 0), .int p1] r (cW cy ad en (va_up x k t')) := by
  refine MI.of (by decide +kernel) (Nat.le_of_ble_eq_true rfl) ?_
  intro p e s m args below meth c A ls Q hAt _ hP hD hA hS hl hret
  obtain ⟨hx, hb, hr, hml, hown, hw, hlk, hK, hN⟩ := hAt
  have hown : s.vm.findClass "CloudDeeds$Office" = some m.cls := hown
  have hl : lv_has ls 5 [(0, .ref (ad k 0)), (1, .int p1)] := hl
  refine lv_iload_n hx hb dX4_hailDown_0 rfl (lv_at hl 1 rfl) ?_
  refine cSN_i (As := [.int p1]) (rest := []) hx hb hml hown hw hK hN hA hl.1 hP hD hS n_463 k_455 k_21 k_456 (met_X9_isVineyard l D cy _ (cW cy ad en (va_up x k o)) p1 (D_X9_isVineyard p1) rfl) (fun _ _ _ => trivial) Xok_T ⟨rfl, rfl⟩ (n := 1) (by decide +kernel) rfl ⟨Nat.le_of_ble_eq_true rfl, Nat.le_of_ble_eq_true rfl⟩ ⟨Nat.le_of_ble_eq_true rfl, Nat.le_of_ble_eq_true rfl⟩ (Nat.le_of_ble_eq_true rfl) rfl dX4_hailDown_1 (fun H locs hP hD hS => ?_)
  refine lv_if_ne (tgt := 14) hx hb dX4_hailDown_4 (by decide) (fun h4 => ?_) (fun h4 => ?_)
  · replace hF := (if_neg h4).symm.trans hF
    refine lv_iconst (v := 0) hx hb dX4_hailDown_14 (by decide) ?_
    refine lv_istore_n (lv' := [(2, .int 0), (0, .ref (ad k 0)), (1, .int p1)]) hx hb dX4_hailDown_15 rfl hl (by decide) rfl (fun ls hl => ?_)
    refine lv_iconst (v := 0) hx hb dX4_hailDown_16 (by decide) ?_
    refine lv_istore_n (lv' := [(3, .int 0), (2, .int 0), (0, .ref (ad k 0)), (1, .int p1)]) hx hb dX4_hailDown_17 rfl hl (by decide) rfl (fun ls hl => ?_)
    have loop18 : ∀ (n : Nat) (i3h18 : Int32) (i2h18 : Int32) (s18 : Nat → Nat → Int32) (H : Heap) (locs : List Loc) (ls : Array Slot), L_X4_hailDown_18 n o p1 i3h18 i2h18 s18 = some (r, t') → va_P D vwCl (cW cy ad en (va_up x k s18)) H → va_D A (cW cy ad en (va_up x k s18)) → va_S A s.heap H locs → lv_has ls 5 [(3, .int i3h18), (2, .int i2h18), (0, .ref (ad k 0)), (1, .int p1)] → W p l e rm_X4_hailDown s m args below meth c H locs 0 0 Q (F0 m 18 ls []) := by
      intro n
      induction n with
      | zero => intro i3h18 i2h18 s18 H locs ls hF _ _ _ _; exact absurd hF (by simp [L_X4_hailDown_18])
      | succ n18 ih18 =>
        intro i3h18 i2h18 s18 H locs ls hF hP hD hS hl
        refine lv_iload_n hx hb dX4_hailDown_18 rfl (lv_at hl 0 rfl) ?_
        refine lv_aload_n hx hb dX4_hailDown_19 rfl (lv_at hl 2 rfl) ?_
        refine get' (ci := 6) (fs := oF (ad k) (s18 0)) (v := .int ((s18 0) 1)) hx hb hw inWX4 hown hK hP (gO (x := x) (r := 0) (o := s18) (f := (s18 0)) hk (by decide) rfl) rfl 1 (by decide) k_119 rfl rfl dX4_hailDown_20 ?_
        refine lv_icmp_ge (tgt := 93) hx hb dX4_hailDown_23 (by decide) (fun h5 => ?_) (fun h5 => ?_)
        · replace hF := (if_pos h5).symm.trans hF
          refine lv_aload_n hx hb dX4_hailDown_93 rfl (lv_at hl 2 rfl) ?_
          refine lv_dup hx hb dX4_hailDown_94 rfl ?_
          refine get' (ci := 6) (fs := oF (ad k) (s18 0)) (v := .int ((s18 0) 8)) hx hb hw inWX4 hown hK hP (gO (x := x) (r := 0) (o := s18) (f := (s18 0)) hk (by decide) rfl) rfl 8 (by decide) k_128 rfl rfl dX4_hailDown_95 ?_
          refine lv_iload_n hx hb dX4_hailDown_98 rfl (lv_at hl 1 rfl) ?_
          refine lv_iadd hx hb dX4_hailDown_99 ?_
          refine put' (ci := 6) (fs := oF (ad k) (s18 0)) (v := .int (((s18 0) 8) + i2h18)) (ty := .int) (ws' := (cW cy ad en (va_up x k (va_up s18 0 (upd (s18 0) 8 (((s18 0) 8) + i2h18)))))) hx hb hw inWX4 tyX4 tyX4_ok nmX4 hown hK hP hD hS (gO (x := x) (r := 0) (o := s18) (f := (s18 0)) hk (by decide) rfl) rfl 8 (by decide) k_128 rfl rfl (by decide +kernel) rfl rfl (Nat.le_of_ble_eq_true rfl) dX4_hailDown_100 (sO (x := x) (r := 0) (o := s18) (g := (upd (s18 0) 8 (((s18 0) 8) + i2h18))) hk (by decide)) (fun H locs hP hD hS => ?_)
          refine lv_aload_n hx hb dX4_hailDown_103 rfl (lv_at hl 2 rfl) ?_
          obtain ⟨o7, hc8, hF⟩ := bind_some hF
          try dsimp only at hF
          refine cV_v (As := []) (rest := []) hx hb hml hown hw hK hN hA hl.1 hP hD hS k_1050 k_1052 k_19 k_22 k_1053 (met_X4_removeGone l D cy _ ad en x k hk (va_up s18 0 (upd (s18 0) 8 (((s18 0) 8) + i2h18))) o7 hc8) (fun _ _ _ => trivial) Xok_T (gO (x := x) (r := 0) (o := (va_up s18 0 (upd (s18 0) 8 (((s18 0) 8) + i2h18)))) (f := (upd (s18 0) 8 (((s18 0) 8) + i2h18))) hk (by decide) (va_up_self _ _ _)) rfl ⟨rfl, rfl⟩ (n := 0) (by decide +kernel) rfl ⟨Nat.le_of_ble_eq_true rfl, Nat.le_of_ble_eq_true rfl⟩ ⟨Nat.le_of_ble_eq_true rfl, Nat.le_of_ble_eq_true rfl⟩ (Nat.le_of_ble_eq_true rfl) rfl dX4_hailDown_104 (fun H locs hP hD hS => ?_)
          refine lv_iload_n hx hb dX4_hailDown_107 rfl (lv_at hl 1 rfl) ?_
          cases hF
          exact hret _ _ _ _ _ _ hP hD hS rfl rfl dX4_hailDown_108
        · replace hF := (if_neg h5).symm.trans hF
          refine lv_aload_n hx hb dX4_hailDown_26 rfl (lv_at hl 2 rfl) ?_
          refine get' (ci := 6) (fs := oF (ad k) (s18 0)) (v := .ref (ad k 1)) hx hb hw inWX4 hown hK hP (gO (x := x) (r := 0) (o := s18) (f := (s18 0)) hk (by decide) rfl) rfl 0 (by decide) k_117 rfl rfl dX4_hailDown_27 ?_
          refine lv_iload_n hx hb dX4_hailDown_30 rfl (lv_at hl 0 rfl) ?_
          obtain ⟨h9, hF⟩ := ite_some hF
          have hr10 : (i3h18.toNatClampNeg + 7) < 13 := Nat.add_lt_add_right (inb_lt h9) 7
          refine aald' (n := 6) (g := (ad k (i3h18.toNatClampNeg + 7))) hx hb hK hP (gO (x := x) (r := 1) (o := s18) (f := (s18 1)) hk (by decide) rfl) (t0 := 3) rfl (vp_inb h9) rfl dX4_hailDown_31 ?_
          refine lv_astore (lv' := [(4, .ref (ad k (i3h18.toNatClampNeg + 7))), (3, .int i3h18), (2, .int i2h18), (0, .ref (ad k 0)), (1, .int p1)]) hx hb dX4_hailDown_32 hl (by decide) rfl (fun ls hl => ?_)
          refine lv_aload hx hb dX4_hailDown_34 (lv_at hl 0 rfl) ?_
          refine getN' (ci := 4) (fs := cF (s18 (i3h18.toNatClampNeg + 7))) (v := .int ((s18 (i3h18.toNatClampNeg + 7)) 0)) hx hb hw hN inWX1 hown hK hP (gO (x := x) (r := (i3h18.toNatClampNeg + 7)) (o := s18) (f := (s18 (i3h18.toNatClampNeg + 7))) hk hr10 rfl) rfl 0 (by decide) n_91 rfl rfl dX4_hailDown_36 ?_
          refine lv_iload_n hx hb dX4_hailDown_39 rfl (lv_at hl 4 rfl) ?_
          refine lv_icmp_ne (tgt := 67) hx hb dX4_hailDown_40 (by decide) (fun h11 => ?_) (fun h11 => ?_)
          · replace hF := (if_neg h11).symm.trans hF
            refine lv_aload hx hb dX4_hailDown_67 (lv_at hl 0 rfl) ?_
            refine getN' (ci := 4) (fs := cF (s18 (i3h18.toNatClampNeg + 7))) (v := .int ((s18 (i3h18.toNatClampNeg + 7)) 0)) hx hb hw hN inWX1 hown hK hP (gO (x := x) (r := (i3h18.toNatClampNeg + 7)) (o := s18) (f := (s18 (i3h18.toNatClampNeg + 7))) hk hr10 rfl) rfl 0 (by decide) n_91 rfl rfl dX4_hailDown_69 ?_
            refine lv_iload_n hx hb dX4_hailDown_72 rfl (lv_at hl 4 rfl) ?_
            refine lv_icmp_ne (tgt := 87) hx hb dX4_hailDown_73 (by decide) (fun h12 => ?_) (fun h12 => ?_)
            · replace hF := (if_neg h12).symm.trans hF
              refine lv_iinc (v := (i3h18 + 1)) (lv' := [(3, .int (i3h18 + 1)), (4, .ref (ad k (i3h18.toNatClampNeg + 7))), (2, .int i2h18), (0, .ref (ad k 0)), (1, .int p1)]) hx hb dX4_hailDown_87 hl (k := 1) rfl rfl (by decide) rfl (fun ls hl => ?_)
              refine lv_goto (tgt := 18) hx hb dX4_hailDown_90 (by decide) ?_
              exact ih18 (i3h18 + 1) i2h18 s18 _ _ _ hF hP hD hS (lv_sub hl [0, 2, 3, 4] rfl)
            · replace hF := (if_pos h12).symm.trans hF
              refine lv_aload hx hb dX4_hailDown_76 (lv_at hl 0 rfl) ?_
              refine lv_dup hx hb dX4_hailDown_78 rfl ?_
              refine getN' (ci := 4) (fs := cF (s18 (i3h18.toNatClampNeg + 7))) (v := .int ((s18 (i3h18.toNatClampNeg + 7)) 2)) hx hb hw hN inWX1 hown hK hP (gO (x := x) (r := (i3h18.toNatClampNeg + 7)) (o := s18) (f := (s18 (i3h18.toNatClampNeg + 7))) hk hr10 rfl) rfl 2 (by decide) n_94 rfl rfl dX4_hailDown_79 ?_
              refine lv_iconst (v := 1) hx hb dX4_hailDown_82 (by decide) ?_
              refine lv_isub hx hb dX4_hailDown_83 ?_
              refine putN' (ci := 4) (fs := cF (s18 (i3h18.toNatClampNeg + 7))) (v := .int (((s18 (i3h18.toNatClampNeg + 7)) 2) - 1)) (ty := .int) (ws' := (cW cy ad en (va_up x k (va_up s18 (i3h18.toNatClampNeg + 7) (upd (s18 (i3h18.toNatClampNeg + 7)) 2 (((s18 (i3h18.toNatClampNeg + 7)) 2) - 1)))))) hx hb hw hN inWX1 tyX1 tyX1_ok nmX1 hown hK hP hD hS (gO (x := x) (r := (i3h18.toNatClampNeg + 7)) (o := s18) (f := (s18 (i3h18.toNatClampNeg + 7))) hk hr10 rfl) rfl 2 (by decide) n_94 rfl rfl (by decide +kernel) rfl rfl (Nat.le_of_ble_eq_true rfl) dX4_hailDown_84 (sO (x := x) (r := (i3h18.toNatClampNeg + 7)) (o := s18) (g := (upd (s18 (i3h18.toNatClampNeg + 7)) 2 (((s18 (i3h18.toNatClampNeg + 7)) 2) - 1))) hk hr10) (fun H locs hP hD hS => ?_)
              refine lv_iinc (v := (i3h18 + 1)) (lv' := [(3, .int (i3h18 + 1)), (4, .ref (ad k (i3h18.toNatClampNeg + 7))), (2, .int i2h18), (0, .ref (ad k 0)), (1, .int p1)]) hx hb dX4_hailDown_87 hl (k := 1) rfl rfl (by decide) rfl (fun ls hl => ?_)
              refine lv_goto (tgt := 18) hx hb dX4_hailDown_90 (by decide) ?_
              exact ih18 (i3h18 + 1) i2h18 (va_up s18 (i3h18.toNatClampNeg + 7) (upd (s18 (i3h18.toNatClampNeg + 7)) 2 (((s18 (i3h18.toNatClampNeg + 7)) 2) - 1))) _ _ _ hF hP hD hS (lv_sub hl [0, 2, 3, 4] rfl)
          · replace hF := (if_pos h11).symm.trans hF
            refine lv_aload hx hb dX4_hailDown_43 (lv_at hl 0 rfl) ?_
            refine cV_i (As := []) (rest := []) hx hb hml hown hw hK hN hA hl.1 hP hD hS k_449 k_421 k_422 k_24 k_423 (met_X1_isPledged l D cy _ (cW cy ad en (va_up x k s18)) (13 * k + (i3h18.toNatClampNeg + 7)) (ad k (i3h18.toNatClampNeg + 7)) (s18 (i3h18.toNatClampNeg + 7)) (gO (x := x) (r := (i3h18.toNatClampNeg + 7)) (o := s18) (f := (s18 (i3h18.toNatClampNeg + 7))) hk hr10 rfl) (D_X1_isPledged (s18 (i3h18.toNatClampNeg + 7))) rfl) (fun _ _ _ => trivial) Xok_T (gO (x := x) (r := (i3h18.toNatClampNeg + 7)) (o := s18) (f := (s18 (i3h18.toNatClampNeg + 7))) hk hr10 rfl) rfl ⟨rfl, rfl⟩ (n := 0) (by decide +kernel) rfl ⟨Nat.le_of_ble_eq_true rfl, Nat.le_of_ble_eq_true rfl⟩ ⟨Nat.le_of_ble_eq_true rfl, Nat.le_of_ble_eq_true rfl⟩ (Nat.le_of_ble_eq_true rfl) rfl dX4_hailDown_45 (fun H locs hP hD hS => ?_)
            refine lv_if_eq (tgt := 67) hx hb dX4_hailDown_48 (by decide) (fun h16 => ?_) (fun h16 => ?_)
            · replace hF := (if_pos h16).symm.trans hF
              refine lv_aload hx hb dX4_hailDown_67 (lv_at hl 0 rfl) ?_
              refine getN' (ci := 4) (fs := cF (s18 (i3h18.toNatClampNeg + 7))) (v := .int ((s18 (i3h18.toNatClampNeg + 7)) 0)) hx hb hw hN inWX1 hown hK hP (gO (x := x) (r := (i3h18.toNatClampNeg + 7)) (o := s18) (f := (s18 (i3h18.toNatClampNeg + 7))) hk hr10 rfl) rfl 0 (by decide) n_91 rfl rfl dX4_hailDown_69 ?_
              refine lv_iload_n hx hb dX4_hailDown_72 rfl (lv_at hl 4 rfl) ?_
              refine lv_icmp_ne (tgt := 87) hx hb dX4_hailDown_73 (by decide) (fun h17 => ?_) (fun h17 => ?_)
              · replace hF := (if_neg h17).symm.trans hF
                refine lv_iinc (v := (i3h18 + 1)) (lv' := [(3, .int (i3h18 + 1)), (4, .ref (ad k (i3h18.toNatClampNeg + 7))), (2, .int i2h18), (0, .ref (ad k 0)), (1, .int p1)]) hx hb dX4_hailDown_87 hl (k := 1) rfl rfl (by decide) rfl (fun ls hl => ?_)
                refine lv_goto (tgt := 18) hx hb dX4_hailDown_90 (by decide) ?_
                exact ih18 (i3h18 + 1) i2h18 s18 _ _ _ hF hP hD hS (lv_sub hl [0, 2, 3, 4] rfl)
              · replace hF := (if_pos h17).symm.trans hF
                refine lv_aload hx hb dX4_hailDown_76 (lv_at hl 0 rfl) ?_
                refine lv_dup hx hb dX4_hailDown_78 rfl ?_
                refine getN' (ci := 4) (fs := cF (s18 (i3h18.toNatClampNeg + 7))) (v := .int ((s18 (i3h18.toNatClampNeg + 7)) 2)) hx hb hw hN inWX1 hown hK hP (gO (x := x) (r := (i3h18.toNatClampNeg + 7)) (o := s18) (f := (s18 (i3h18.toNatClampNeg + 7))) hk hr10 rfl) rfl 2 (by decide) n_94 rfl rfl dX4_hailDown_79 ?_
                refine lv_iconst (v := 1) hx hb dX4_hailDown_82 (by decide) ?_
                refine lv_isub hx hb dX4_hailDown_83 ?_
                refine putN' (ci := 4) (fs := cF (s18 (i3h18.toNatClampNeg + 7))) (v := .int (((s18 (i3h18.toNatClampNeg + 7)) 2) - 1)) (ty := .int) (ws' := (cW cy ad en (va_up x k (va_up s18 (i3h18.toNatClampNeg + 7) (upd (s18 (i3h18.toNatClampNeg + 7)) 2 (((s18 (i3h18.toNatClampNeg + 7)) 2) - 1)))))) hx hb hw hN inWX1 tyX1 tyX1_ok nmX1 hown hK hP hD hS (gO (x := x) (r := (i3h18.toNatClampNeg + 7)) (o := s18) (f := (s18 (i3h18.toNatClampNeg + 7))) hk hr10 rfl) rfl 2 (by decide) n_94 rfl rfl (by decide +kernel) rfl rfl (Nat.le_of_ble_eq_true rfl) dX4_hailDown_84 (sO (x := x) (r := (i3h18.toNatClampNeg + 7)) (o := s18) (g := (upd (s18 (i3h18.toNatClampNeg + 7)) 2 (((s18 (i3h18.toNatClampNeg + 7)) 2) - 1))) hk hr10) (fun H locs hP hD hS => ?_)
                refine lv_iinc (v := (i3h18 + 1)) (lv' := [(3, .int (i3h18 + 1)), (4, .ref (ad k (i3h18.toNatClampNeg + 7))), (2, .int i2h18), (0, .ref (ad k 0)), (1, .int p1)]) hx hb dX4_hailDown_87 hl (k := 1) rfl rfl (by decide) rfl (fun ls hl => ?_)
                refine lv_goto (tgt := 18) hx hb dX4_hailDown_90 (by decide) ?_
                exact ih18 (i3h18 + 1) i2h18 (va_up s18 (i3h18.toNatClampNeg + 7) (upd (s18 (i3h18.toNatClampNeg + 7)) 2 (((s18 (i3h18.toNatClampNeg + 7)) 2) - 1))) _ _ _ hF hP hD hS (lv_sub hl [0, 2, 3, 4] rfl)
            · replace hF := (if_neg h16).symm.trans hF
              refine lv_aload hx hb dX4_hailDown_51 (lv_at hl 0 rfl) ?_
              refine lv_aload hx hb dX4_hailDown_53 (lv_at hl 0 rfl) ?_
              refine getN' (ci := 4) (fs := cF (s18 (i3h18.toNatClampNeg + 7))) (v := .int ((s18 (i3h18.toNatClampNeg + 7)) 5)) hx hb hw hN inWX1 hown hK hP (gO (x := x) (r := (i3h18.toNatClampNeg + 7)) (o := s18) (f := (s18 (i3h18.toNatClampNeg + 7))) hk hr10 rfl) rfl 5 (by decide) n_100 rfl rfl dX4_hailDown_55 ?_
              refine cV_v (As := [.int ((s18 (i3h18.toNatClampNeg + 7)) 5)]) (rest := []) hx hb hml hown hw hK hN hA hl.1 hP hD hS k_584 k_585 k_586 k_24 k_587 (met_X1_entitle l D cy _ (cW cy ad en (va_up x k s18)) (13 * k + (i3h18.toNatClampNeg + 7)) (ad k (i3h18.toNatClampNeg + 7)) (s18 (i3h18.toNatClampNeg + 7)) ((s18 (i3h18.toNatClampNeg + 7)) 5) (gO (x := x) (r := (i3h18.toNatClampNeg + 7)) (o := s18) (f := (s18 (i3h18.toNatClampNeg + 7))) hk hr10 rfl) (D_X1_entitle (s18 (i3h18.toNatClampNeg + 7)) ((s18 (i3h18.toNatClampNeg + 7)) 5)) rfl) (fun _ _ _ => trivial) Xok_T (gO (x := x) (r := (i3h18.toNatClampNeg + 7)) (o := s18) (f := (s18 (i3h18.toNatClampNeg + 7))) hk hr10 rfl) rfl ⟨rfl, rfl⟩ (n := 1) (by decide +kernel) rfl ⟨Nat.le_of_ble_eq_true rfl, Nat.le_of_ble_eq_true rfl⟩ ⟨Nat.le_of_ble_eq_true rfl, Nat.le_of_ble_eq_true rfl⟩ (Nat.le_of_ble_eq_true rfl) rfl dX4_hailDown_58 (fun H locs hP hD hS => ?_)
              have hP : va_P D vwCl (cW cy ad en (va_up x k (va_up s18 (i3h18.toNatClampNeg + 7) (D_X1_entitle (s18 (i3h18.toNatClampNeg + 7)) ((s18 (i3h18.toNatClampNeg + 7)) 5))))) H := cvP hP (sO (x := x) (r := (i3h18.toNatClampNeg + 7)) (o := s18) (g := (D_X1_entitle (s18 (i3h18.toNatClampNeg + 7)) ((s18 (i3h18.toNatClampNeg + 7)) 5))) hk hr10)
              have hD : va_D A (cW cy ad en (va_up x k (va_up s18 (i3h18.toNatClampNeg + 7) (D_X1_entitle (s18 (i3h18.toNatClampNeg + 7)) ((s18 (i3h18.toNatClampNeg + 7)) 5))))) := cvD hD (sO (x := x) (r := (i3h18.toNatClampNeg + 7)) (o := s18) (g := (D_X1_entitle (s18 (i3h18.toNatClampNeg + 7)) ((s18 (i3h18.toNatClampNeg + 7)) 5))) hk hr10)
              refine lv_iinc (v := (i2h18 + 1)) (lv' := [(2, .int (i2h18 + 1)), (4, .ref (ad k (i3h18.toNatClampNeg + 7))), (3, .int i3h18), (0, .ref (ad k 0)), (1, .int p1)]) hx hb dX4_hailDown_61 hl (k := 2) rfl rfl (by decide) rfl (fun ls hl => ?_)
              refine lv_goto (tgt := 87) hx hb dX4_hailDown_64 (by decide) ?_
              refine lv_iinc (v := (i3h18 + 1)) (lv' := [(3, .int (i3h18 + 1)), (2, .int (i2h18 + 1)), (4, .ref (ad k (i3h18.toNatClampNeg + 7))), (0, .ref (ad k 0)), (1, .int p1)]) hx hb dX4_hailDown_87 hl (k := 2) rfl rfl (by decide) rfl (fun ls hl => ?_)
              refine lv_goto (tgt := 18) hx hb dX4_hailDown_90 (by decide) ?_
              exact ih18 (i3h18 + 1) (i2h18 + 1) (va_up s18 (i3h18.toNatClampNeg + 7) (D_X1_entitle (s18 (i3h18.toNatClampNeg + 7)) ((s18 (i3h18.toNatClampNeg + 7)) 5))) _ _ _ hF hP hD hS (lv_sub hl [0, 1, 3, 4] rfl)
    exact loop18 200 0 0 o _ _ _ hF hP hD hS (lv_sub hl [0, 1, 2, 3] rfl)
  · replace hF := (if_pos h4).symm.trans hF
    refine lv_aload_n hx hb dX4_hailDown_7 rfl (lv_at hl 0 rfl) ?_
    refine lv_iconst (v := 2) hx hb dX4_hailDown_8 (by decide) ?_
    refine lv_iload_n hx hb dX4_hailDown_9 rfl (lv_at hl 1 rfl) ?_
    refine cV_i (As := [.int 2, .int p1]) (rest := []) hx hb hml hown hw hK hN hA hl.1 hP hD hS k_540 k_542 k_4 k_22 k_543 (met_X4_refuse l D cy _ ad en x k hk o 2 p1 (D_X4_refuse o 2 p1).1 (D_X4_refuse o 2 p1).2 rfl) (fun _ _ _ => trivial) Xok_T (gO (x := x) (r := 0) (o := o) (f := (o 0)) hk (by decide) rfl) rfl ⟨rfl, rfl⟩ (n := 2) (by decide +kernel) rfl ⟨Nat.le_of_ble_eq_true rfl, Nat.le_of_ble_eq_true rfl⟩ ⟨Nat.le_of_ble_eq_true rfl, Nat.le_of_ble_eq_true rfl⟩ (Nat.le_of_ble_eq_true rfl) rfl dX4_hailDown_10 (fun H locs hP hD hS => ?_)
    cases hF
    exact hret _ _ _ _ _ _ hP hD hS rfl rfl dX4_hailDown_13
def L_X4_claimClouds_4 : Nat → (Nat → Nat → Int32) → (Int32) → (Int32) → (Nat → Nat → Int32) → Option (Int32 × (Nat → Nat → Int32))
  | 0, _, _, _, _ => none
  | n4 + 1, o, i2h4, i1h4, s4 => if ((s4 0) 1) ≤ i2h4 then (some (i1h4, (va_up s4 0 (upd (s4 0) 7 (((s4 0) 7) + i1h4))))) else (if inb i2h4 6 then ((D_X4_ownerBelow s4 i2h4.toNatClampNeg).bind (fun r4 => if inb i2h4 6 then (if (D_X1_hasTitle (s4 (i2h4.toNatClampNeg + 7))) = 0 then (if r4 = (-1) then (L_X4_claimClouds_4 n4 o (i2h4 + 1) i1h4 s4) else (if inb i2h4 6 then (L_X4_claimClouds_4 n4 o (i2h4 + 1) (i1h4 + 1) (va_up s4 (i2h4.toNatClampNeg + 7) (D_X1_entitle (s4 (i2h4.toNatClampNeg + 7)) r4))) else none)) else (L_X4_claimClouds_4 n4 o (i2h4 + 1) i1h4 s4)) else none)) else none)
def D_X4_claimClouds (o : Nat → Nat → Int32) : Option (Int32 × (Nat → Nat → Int32)) := L_X4_claimClouds_4 200 o 0 0 o
abbrev rm_X4_claimClouds : Room := { frames := 2, cells := 0, slots := 0, locals := 41 }
set_option maxHeartbeats 4000000 in
set_option maxRecDepth 100000 in
theorem met_X4_claimClouds (l : Launch) (D : va_G) (cy : Nat → ClassId) (sz : Nat) (ad : Nat → Nat → Nat) (en : Nat → Nat) (x : Mem) (k : Nat) (hk : k < 12) (o : Nat → Nat → Int32)  (r : Int32) (t' : Nat → Nat → Int32) (hF : D_X4_claimClouds o = some (r, t')) : MI l yX4_claimClouds cX4_claimClouds 4 (some .int) rm_X4_claimClouds D cy (cW cy ad en (va_up x k o)) sz (fun _ => True) [.ref (ad k 0)] r (cW cy ad en (va_up x k t')) := by
  refine MI.of (by decide +kernel) (Nat.le_of_ble_eq_true rfl) ?_
  intro p e s m args below meth c A ls Q hAt _ hP hD hA hS hl hret
  obtain ⟨hx, hb, hr, hml, hown, hw, hlk, hK, hN⟩ := hAt
  have hown : s.vm.findClass "CloudDeeds$Office" = some m.cls := hown
  have hl : lv_has ls 4 [(0, .ref (ad k 0))] := hl
  refine lv_iconst (v := 0) hx hb dX4_claimClouds_0 (by decide) ?_
  refine lv_istore_n (lv' := [(1, .int 0), (0, .ref (ad k 0))]) hx hb dX4_claimClouds_1 rfl hl (by decide) rfl (fun ls hl => ?_)
  refine lv_iconst (v := 0) hx hb dX4_claimClouds_2 (by decide) ?_
  refine lv_istore_n (lv' := [(2, .int 0), (1, .int 0), (0, .ref (ad k 0))]) hx hb dX4_claimClouds_3 rfl hl (by decide) rfl (fun ls hl => ?_)
  have loop4 : ∀ (n : Nat) (i2h4 : Int32) (i1h4 : Int32) (s4 : Nat → Nat → Int32) (H : Heap) (locs : List Loc) (ls : Array Slot), L_X4_claimClouds_4 n o i2h4 i1h4 s4 = some (r, t') → va_P D vwCl (cW cy ad en (va_up x k s4)) H → va_D A (cW cy ad en (va_up x k s4)) → va_S A s.heap H locs → lv_has ls 4 [(2, .int i2h4), (1, .int i1h4), (0, .ref (ad k 0))] → W p l e rm_X4_claimClouds s m args below meth c H locs 0 0 Q (F0 m 4 ls []) := by
    intro n
    induction n with
    | zero => intro i2h4 i1h4 s4 H locs ls hF _ _ _ _; exact absurd hF (by simp [L_X4_claimClouds_4])
    | succ n4 ih4 =>
      intro i2h4 i1h4 s4 H locs ls hF hP hD hS hl
      refine lv_iload_n hx hb dX4_claimClouds_4 rfl (lv_at hl 0 rfl) ?_
      refine lv_aload_n hx hb dX4_claimClouds_5 rfl (lv_at hl 2 rfl) ?_
      refine get' (ci := 6) (fs := oF (ad k) (s4 0)) (v := .int ((s4 0) 1)) hx hb hw inWX4 hown hK hP (gO (x := x) (r := 0) (o := s4) (f := (s4 0)) hk (by decide) rfl) rfl 1 (by decide) k_119 rfl rfl dX4_claimClouds_6 ?_
      refine lv_icmp_ge (tgt := 59) hx hb dX4_claimClouds_9 (by decide) (fun h1 => ?_) (fun h1 => ?_)
      · replace hF := (if_pos h1).symm.trans hF
        refine lv_aload_n hx hb dX4_claimClouds_59 rfl (lv_at hl 2 rfl) ?_
        refine lv_dup hx hb dX4_claimClouds_60 rfl ?_
        refine get' (ci := 6) (fs := oF (ad k) (s4 0)) (v := .int ((s4 0) 7)) hx hb hw inWX4 hown hK hP (gO (x := x) (r := 0) (o := s4) (f := (s4 0)) hk (by decide) rfl) rfl 7 (by decide) k_127 rfl rfl dX4_claimClouds_61 ?_
        refine lv_iload_n hx hb dX4_claimClouds_64 rfl (lv_at hl 1 rfl) ?_
        refine lv_iadd hx hb dX4_claimClouds_65 ?_
        refine put' (ci := 6) (fs := oF (ad k) (s4 0)) (v := .int (((s4 0) 7) + i1h4)) (ty := .int) (ws' := (cW cy ad en (va_up x k (va_up s4 0 (upd (s4 0) 7 (((s4 0) 7) + i1h4)))))) hx hb hw inWX4 tyX4 tyX4_ok nmX4 hown hK hP hD hS (gO (x := x) (r := 0) (o := s4) (f := (s4 0)) hk (by decide) rfl) rfl 7 (by decide) k_127 rfl rfl (by decide +kernel) rfl rfl (Nat.le_of_ble_eq_true rfl) dX4_claimClouds_66 (sO (x := x) (r := 0) (o := s4) (g := (upd (s4 0) 7 (((s4 0) 7) + i1h4))) hk (by decide)) (fun H locs hP hD hS => ?_)
        refine lv_iload_n hx hb dX4_claimClouds_69 rfl (lv_at hl 1 rfl) ?_
        cases hF
        exact hret _ _ _ _ _ _ hP hD hS rfl rfl dX4_claimClouds_70
      · replace hF := (if_neg h1).symm.trans hF
        refine lv_aload_n hx hb dX4_claimClouds_12 rfl (lv_at hl 2 rfl) ?_
        refine lv_aload_n hx hb dX4_claimClouds_13 rfl (lv_at hl 2 rfl) ?_
        refine get' (ci := 6) (fs := oF (ad k) (s4 0)) (v := .ref (ad k 1)) hx hb hw inWX4 hown hK hP (gO (x := x) (r := 0) (o := s4) (f := (s4 0)) hk (by decide) rfl) rfl 0 (by decide) k_117 rfl rfl dX4_claimClouds_14 ?_
        refine lv_iload_n hx hb dX4_claimClouds_17 rfl (lv_at hl 0 rfl) ?_
        obtain ⟨h2, hF⟩ := ite_some hF
        have hr3 : (i2h4.toNatClampNeg + 7) < 13 := Nat.add_lt_add_right (inb_lt h2) 7
        refine aald' (n := 6) (g := (ad k (i2h4.toNatClampNeg + 7))) hx hb hK hP (gO (x := x) (r := 1) (o := s4) (f := (s4 1)) hk (by decide) rfl) (t0 := 3) rfl (vp_inb h2) rfl dX4_claimClouds_18 ?_
        obtain ⟨r4, hc6, hF⟩ := bind_some hF
        try dsimp only at hF
        refine cV_i (As := [.ref (ad k (i2h4.toNatClampNeg + 7))]) (rest := []) hx hb hml hown hw hK hN hA hl.1 hP hD hS k_579 k_581 k_7 k_22 k_582 (met_X4_ownerBelow l D cy _ ad en x k hk s4 i2h4.toNatClampNeg hr3 r4 hc6) (fun _ _ _ => trivial) Xok_T (gO (x := x) (r := 0) (o := s4) (f := (s4 0)) hk (by decide) rfl) rfl ⟨rfl, rfl⟩ (n := 1) (by decide +kernel) rfl ⟨Nat.le_of_ble_eq_true rfl, Nat.le_of_ble_eq_true rfl⟩ ⟨Nat.le_of_ble_eq_true rfl, Nat.le_of_ble_eq_true rfl⟩ (Nat.le_of_ble_eq_true rfl) rfl dX4_claimClouds_19 (fun H locs hP hD hS => ?_)
        refine lv_istore_n (lv' := [(3, .int r4), (2, .int i2h4), (1, .int i1h4), (0, .ref (ad k 0))]) hx hb dX4_claimClouds_22 rfl hl (by decide) rfl (fun ls hl => ?_)
        refine lv_aload_n hx hb dX4_claimClouds_23 rfl (lv_at hl 3 rfl) ?_
        refine get' (ci := 6) (fs := oF (ad k) (s4 0)) (v := .ref (ad k 1)) hx hb hw inWX4 hown hK hP (gO (x := x) (r := 0) (o := s4) (f := (s4 0)) hk (by decide) rfl) rfl 0 (by decide) k_117 rfl rfl dX4_claimClouds_24 ?_
        refine lv_iload_n hx hb dX4_claimClouds_27 rfl (lv_at hl 1 rfl) ?_
        obtain ⟨h7, hF⟩ := ite_some hF
        have hr8 : (i2h4.toNatClampNeg + 7) < 13 := Nat.add_lt_add_right (inb_lt h7) 7
        refine aald' (n := 6) (g := (ad k (i2h4.toNatClampNeg + 7))) hx hb hK hP (gO (x := x) (r := 1) (o := s4) (f := (s4 1)) hk (by decide) rfl) (t0 := 3) rfl (vp_inb h7) rfl dX4_claimClouds_28 ?_
        refine cV_i (As := []) (rest := []) hx hb hml hown hw hK hN hA hl.1 hP hD hS k_583 k_556 k_557 k_24 k_558 (met_X1_hasTitle l D cy _ (cW cy ad en (va_up x k s4)) (13 * k + (i2h4.toNatClampNeg + 7)) (ad k (i2h4.toNatClampNeg + 7)) (s4 (i2h4.toNatClampNeg + 7)) (gO (x := x) (r := (i2h4.toNatClampNeg + 7)) (o := s4) (f := (s4 (i2h4.toNatClampNeg + 7))) hk hr8 rfl) (D_X1_hasTitle (s4 (i2h4.toNatClampNeg + 7))) rfl) (fun _ _ _ => trivial) Xok_T (gO (x := x) (r := (i2h4.toNatClampNeg + 7)) (o := s4) (f := (s4 (i2h4.toNatClampNeg + 7))) hk hr8 rfl) rfl ⟨rfl, rfl⟩ (n := 0) (by decide +kernel) rfl ⟨Nat.le_of_ble_eq_true rfl, Nat.le_of_ble_eq_true rfl⟩ ⟨Nat.le_of_ble_eq_true rfl, Nat.le_of_ble_eq_true rfl⟩ (Nat.le_of_ble_eq_true rfl) rfl dX4_claimClouds_29 (fun H locs hP hD hS => ?_)
        refine lv_if_ne (tgt := 53) hx hb dX4_claimClouds_32 (by decide) (fun h12 => ?_) (fun h12 => ?_)
        · replace hF := (if_neg h12).symm.trans hF
          refine lv_iinc (v := (i2h4 + 1)) (lv' := [(2, .int (i2h4 + 1)), (3, .int r4), (1, .int i1h4), (0, .ref (ad k 0))]) hx hb dX4_claimClouds_53 hl (k := 1) rfl rfl (by decide) rfl (fun ls hl => ?_)
          refine lv_goto (tgt := 4) hx hb dX4_claimClouds_56 (by decide) ?_
          exact ih4 (i2h4 + 1) i1h4 s4 _ _ _ hF hP hD hS (lv_sub hl [0, 2, 3] rfl)
        · replace hF := (if_pos h12).symm.trans hF
          refine lv_iload_n hx hb dX4_claimClouds_35 rfl (lv_at hl 0 rfl) ?_
          refine lv_iconst (v := (-1)) hx hb dX4_claimClouds_36 (by decide) ?_
          refine lv_icmp_eq (tgt := 53) hx hb dX4_claimClouds_37 (by decide) (fun h13 => ?_) (fun h13 => ?_)
          · replace hF := (if_pos h13).symm.trans hF
            refine lv_iinc (v := (i2h4 + 1)) (lv' := [(2, .int (i2h4 + 1)), (3, .int r4), (1, .int i1h4), (0, .ref (ad k 0))]) hx hb dX4_claimClouds_53 hl (k := 1) rfl rfl (by decide) rfl (fun ls hl => ?_)
            refine lv_goto (tgt := 4) hx hb dX4_claimClouds_56 (by decide) ?_
            exact ih4 (i2h4 + 1) i1h4 s4 _ _ _ hF hP hD hS (lv_sub hl [0, 2, 3] rfl)
          · replace hF := (if_neg h13).symm.trans hF
            refine lv_aload_n hx hb dX4_claimClouds_40 rfl (lv_at hl 3 rfl) ?_
            refine get' (ci := 6) (fs := oF (ad k) (s4 0)) (v := .ref (ad k 1)) hx hb hw inWX4 hown hK hP (gO (x := x) (r := 0) (o := s4) (f := (s4 0)) hk (by decide) rfl) rfl 0 (by decide) k_117 rfl rfl dX4_claimClouds_41 ?_
            refine lv_iload_n hx hb dX4_claimClouds_44 rfl (lv_at hl 1 rfl) ?_
            obtain ⟨h14, hF⟩ := ite_some hF
            have hr15 : (i2h4.toNatClampNeg + 7) < 13 := Nat.add_lt_add_right (inb_lt h14) 7
            refine aald' (n := 6) (g := (ad k (i2h4.toNatClampNeg + 7))) hx hb hK hP (gO (x := x) (r := 1) (o := s4) (f := (s4 1)) hk (by decide) rfl) (t0 := 3) rfl (vp_inb h14) rfl dX4_claimClouds_45 ?_
            refine lv_iload_n hx hb dX4_claimClouds_46 rfl (lv_at hl 0 rfl) ?_
            refine cV_v (As := [.int r4]) (rest := []) hx hb hml hown hw hK hN hA hl.1 hP hD hS k_584 k_585 k_586 k_24 k_587 (met_X1_entitle l D cy _ (cW cy ad en (va_up x k s4)) (13 * k + (i2h4.toNatClampNeg + 7)) (ad k (i2h4.toNatClampNeg + 7)) (s4 (i2h4.toNatClampNeg + 7)) r4 (gO (x := x) (r := (i2h4.toNatClampNeg + 7)) (o := s4) (f := (s4 (i2h4.toNatClampNeg + 7))) hk hr15 rfl) (D_X1_entitle (s4 (i2h4.toNatClampNeg + 7)) r4) rfl) (fun _ _ _ => trivial) Xok_T (gO (x := x) (r := (i2h4.toNatClampNeg + 7)) (o := s4) (f := (s4 (i2h4.toNatClampNeg + 7))) hk hr15 rfl) rfl ⟨rfl, rfl⟩ (n := 1) (by decide +kernel) rfl ⟨Nat.le_of_ble_eq_true rfl, Nat.le_of_ble_eq_true rfl⟩ ⟨Nat.le_of_ble_eq_true rfl, Nat.le_of_ble_eq_true rfl⟩ (Nat.le_of_ble_eq_true rfl) rfl dX4_claimClouds_47 (fun H locs hP hD hS => ?_)
            have hP : va_P D vwCl (cW cy ad en (va_up x k (va_up s4 (i2h4.toNatClampNeg + 7) (D_X1_entitle (s4 (i2h4.toNatClampNeg + 7)) r4)))) H := cvP hP (sO (x := x) (r := (i2h4.toNatClampNeg + 7)) (o := s4) (g := (D_X1_entitle (s4 (i2h4.toNatClampNeg + 7)) r4)) hk hr15)
            have hD : va_D A (cW cy ad en (va_up x k (va_up s4 (i2h4.toNatClampNeg + 7) (D_X1_entitle (s4 (i2h4.toNatClampNeg + 7)) r4)))) := cvD hD (sO (x := x) (r := (i2h4.toNatClampNeg + 7)) (o := s4) (g := (D_X1_entitle (s4 (i2h4.toNatClampNeg + 7)) r4)) hk hr15)
            refine lv_iinc (v := (i1h4 + 1)) (lv' := [(1, .int (i1h4 + 1)), (3, .int r4), (2, .int i2h4), (0, .ref (ad k 0))]) hx hb dX4_claimClouds_50 hl (k := 2) rfl rfl (by decide) rfl (fun ls hl => ?_)
            refine lv_iinc (v := (i2h4 + 1)) (lv' := [(2, .int (i2h4 + 1)), (1, .int (i1h4 + 1)), (3, .int r4), (0, .ref (ad k 0))]) hx hb dX4_claimClouds_53 hl (k := 2) rfl rfl (by decide) rfl (fun ls hl => ?_)
            refine lv_goto (tgt := 4) hx hb dX4_claimClouds_56 (by decide) ?_
            exact ih4 (i2h4 + 1) (i1h4 + 1) (va_up s4 (i2h4.toNatClampNeg + 7) (D_X1_entitle (s4 (i2h4.toNatClampNeg + 7)) r4)) _ _ _ hF hP hD hS (lv_sub hl [0, 1, 3] rfl)
  exact loop4 200 0 0 o _ _ _ hF hP hD hS (lv_sub hl [0, 1, 2] rfl)
def L_X4_payForClouds_2 : Nat → (Nat → Nat → Int32) → (Int32) → (Nat → Nat → Int32) → Option ((Nat → Nat → Int32))
  | 0, _, _, _ => none
  | n2 + 1, o, i1h2, s2 => if ((s2 0) 1) ≤ i1h2 then (some s2) else (if inb i1h2 6 then (if (D_X9_isOwner ((s2 (i1h2.toNatClampNeg + 7)) 3)) = 0 then (L_X4_payForClouds_2 n2 o (i1h2 + 1) s2) else (if inb i1h2 6 then ((D_X4_ownerBelow s2 i1h2.toNatClampNeg).bind (fun r10 => if ((s2 (i1h2.toNatClampNeg + 7)) 3) = r10 then (if inb ((s2 (i1h2.toNatClampNeg + 7)) 3) 4 then (if inb ((s2 (i1h2.toNatClampNeg + 7)) 3) 4 then (L_X4_payForClouds_2 n2 o (i1h2 + 1) (va_up (va_up s2 3 (upd (s2 3) (((s2 (i1h2.toNatClampNeg + 7)) 3).toNatClampNeg) (((s2 3) ((s2 (i1h2.toNatClampNeg + 7)) 3).toNatClampNeg) + 1))) 0 (upd (s2 0) 11 (((s2 0) 11) + 1)))) else none) else none) else (L_X4_payForClouds_2 n2 o (i1h2 + 1) s2))) else none)) else none)
def D_X4_payForClouds (o : Nat → Nat → Int32) : Option ((Nat → Nat → Int32)) := L_X4_payForClouds_2 200 o 0 o
abbrev rm_X4_payForClouds : Room := { frames := 2, cells := 0, slots := 0, locals := 41 }
set_option maxHeartbeats 4000000 in
set_option maxRecDepth 100000 in
theorem met_X4_payForClouds (l : Launch) (D : va_G) (cy : Nat → ClassId) (sz : Nat) (ad : Nat → Nat → Nat) (en : Nat → Nat) (x : Mem) (k : Nat) (hk : k < 12) (o : Nat → Nat → Int32)  (t' : Nat → Nat → Int32) (hF : D_X4_payForClouds o = some t') : MV l yX4_payForClouds cX4_payForClouds 3 rm_X4_payForClouds D cy (cW cy ad en (va_up x k o)) sz (fun _ => True) [.ref (ad k 0)] (cW cy ad en (va_up x k t')) := by
  refine MV.of (by decide +kernel) (Nat.le_of_ble_eq_true rfl) ?_
  intro p e s m args below meth c A ls Q hAt _ hP hD hA hS hl hret
  obtain ⟨hx, hb, hr, hml, hown, hw, hlk, hK, hN⟩ := hAt
  have hown : s.vm.findClass "CloudDeeds$Office" = some m.cls := hown
  have hl : lv_has ls 3 [(0, .ref (ad k 0))] := hl
  refine lv_iconst (v := 0) hx hb dX4_payForClouds_0 (by decide) ?_
  refine lv_istore_n (lv' := [(1, .int 0), (0, .ref (ad k 0))]) hx hb dX4_payForClouds_1 rfl hl (by decide) rfl (fun ls hl => ?_)
  have loop2 : ∀ (n : Nat) (i1h2 : Int32) (s2 : Nat → Nat → Int32) (H : Heap) (locs : List Loc) (ls : Array Slot), L_X4_payForClouds_2 n o i1h2 s2 = some t' → va_P D vwCl (cW cy ad en (va_up x k s2)) H → va_D A (cW cy ad en (va_up x k s2)) → va_S A s.heap H locs → lv_has ls 3 [(1, .int i1h2), (0, .ref (ad k 0))] → W p l e rm_X4_payForClouds s m args below meth c H locs 0 0 Q (F0 m 2 ls []) := by
    intro n
    induction n with
    | zero => intro i1h2 s2 H locs ls hF _ _ _ _; exact absurd hF (by simp [L_X4_payForClouds_2])
    | succ n2 ih2 =>
      intro i1h2 s2 H locs ls hF hP hD hS hl
      refine lv_iload_n hx hb dX4_payForClouds_2 rfl (lv_at hl 0 rfl) ?_
      refine lv_aload_n hx hb dX4_payForClouds_3 rfl (lv_at hl 1 rfl) ?_
      refine get' (ci := 6) (fs := oF (ad k) (s2 0)) (v := .int ((s2 0) 1)) hx hb hw inWX4 hown hK hP (gO (x := x) (r := 0) (o := s2) (f := (s2 0)) hk (by decide) rfl) rfl 1 (by decide) k_119 rfl rfl dX4_payForClouds_4 ?_
      refine lv_icmp_ge (tgt := 67) hx hb dX4_payForClouds_7 (by decide) (fun h1 => ?_) (fun h1 => ?_)
      · replace hF := (if_pos h1).symm.trans hF
        cases hF
        exact hret _ _ _ _ _ hP hD hS rfl dX4_payForClouds_67
      · replace hF := (if_neg h1).symm.trans hF
        refine lv_aload_n hx hb dX4_payForClouds_10 rfl (lv_at hl 1 rfl) ?_
        refine get' (ci := 6) (fs := oF (ad k) (s2 0)) (v := .ref (ad k 1)) hx hb hw inWX4 hown hK hP (gO (x := x) (r := 0) (o := s2) (f := (s2 0)) hk (by decide) rfl) rfl 0 (by decide) k_117 rfl rfl dX4_payForClouds_11 ?_
        refine lv_iload_n hx hb dX4_payForClouds_14 rfl (lv_at hl 0 rfl) ?_
        obtain ⟨h2, hF⟩ := ite_some hF
        have hr3 : (i1h2.toNatClampNeg + 7) < 13 := Nat.add_lt_add_right (inb_lt h2) 7
        refine aald' (n := 6) (g := (ad k (i1h2.toNatClampNeg + 7))) hx hb hK hP (gO (x := x) (r := 1) (o := s2) (f := (s2 1)) hk (by decide) rfl) (t0 := 3) rfl (vp_inb h2) rfl dX4_payForClouds_15 ?_
        refine getN' (ci := 4) (fs := cF (s2 (i1h2.toNatClampNeg + 7))) (v := .int ((s2 (i1h2.toNatClampNeg + 7)) 3)) hx hb hw hN inWX1 hown hK hP (gO (x := x) (r := (i1h2.toNatClampNeg + 7)) (o := s2) (f := (s2 (i1h2.toNatClampNeg + 7))) hk hr3 rfl) rfl 3 (by decide) n_97 rfl rfl dX4_payForClouds_16 ?_
        refine lv_istore_n (lv' := [(2, .int ((s2 (i1h2.toNatClampNeg + 7)) 3)), (1, .int i1h2), (0, .ref (ad k 0))]) hx hb dX4_payForClouds_19 rfl hl (by decide) rfl (fun ls hl => ?_)
        refine lv_iload_n hx hb dX4_payForClouds_20 rfl (lv_at hl 0 rfl) ?_
        refine cSN_i (As := [.int ((s2 (i1h2.toNatClampNeg + 7)) 3)]) (rest := []) hx hb hml hown hw hK hN hA hl.1 hP hD hS n_444 k_432 k_21 k_433 (met_X9_isOwner l D cy _ (cW cy ad en (va_up x k s2)) ((s2 (i1h2.toNatClampNeg + 7)) 3) (D_X9_isOwner ((s2 (i1h2.toNatClampNeg + 7)) 3)) rfl) (fun _ _ _ => trivial) Xok_T ⟨rfl, rfl⟩ (n := 1) (by decide +kernel) rfl ⟨Nat.le_of_ble_eq_true rfl, Nat.le_of_ble_eq_true rfl⟩ ⟨Nat.le_of_ble_eq_true rfl, Nat.le_of_ble_eq_true rfl⟩ (Nat.le_of_ble_eq_true rfl) rfl dX4_payForClouds_21 (fun H locs hP hD hS => ?_)
        refine lv_if_eq (tgt := 61) hx hb dX4_payForClouds_24 (by decide) (fun h7 => ?_) (fun h7 => ?_)
        · replace hF := (if_pos h7).symm.trans hF
          refine lv_iinc (v := (i1h2 + 1)) (lv' := [(1, .int (i1h2 + 1)), (2, .int ((s2 (i1h2.toNatClampNeg + 7)) 3)), (0, .ref (ad k 0))]) hx hb dX4_payForClouds_61 hl (k := 1) rfl rfl (by decide) rfl (fun ls hl => ?_)
          refine lv_goto (tgt := 2) hx hb dX4_payForClouds_64 (by decide) ?_
          exact ih2 (i1h2 + 1) s2 _ _ _ hF hP hD hS (lv_sub hl [0, 2] rfl)
        · replace hF := (if_neg h7).symm.trans hF
          refine lv_iload_n hx hb dX4_payForClouds_27 rfl (lv_at hl 0 rfl) ?_
          refine lv_aload_n hx hb dX4_payForClouds_28 rfl (lv_at hl 2 rfl) ?_
          refine lv_aload_n hx hb dX4_payForClouds_29 rfl (lv_at hl 2 rfl) ?_
          refine get' (ci := 6) (fs := oF (ad k) (s2 0)) (v := .ref (ad k 1)) hx hb hw inWX4 hown hK hP (gO (x := x) (r := 0) (o := s2) (f := (s2 0)) hk (by decide) rfl) rfl 0 (by decide) k_117 rfl rfl dX4_payForClouds_30 ?_
          refine lv_iload_n hx hb dX4_payForClouds_33 rfl (lv_at hl 1 rfl) ?_
          obtain ⟨h8, hF⟩ := ite_some hF
          have hr9 : (i1h2.toNatClampNeg + 7) < 13 := Nat.add_lt_add_right (inb_lt h8) 7
          refine aald' (n := 6) (g := (ad k (i1h2.toNatClampNeg + 7))) hx hb hK hP (gO (x := x) (r := 1) (o := s2) (f := (s2 1)) hk (by decide) rfl) (t0 := 3) rfl (vp_inb h8) rfl dX4_payForClouds_34 ?_
          obtain ⟨r10, hc12, hF⟩ := bind_some hF
          try dsimp only at hF
          refine cV_i (As := [.ref (ad k (i1h2.toNatClampNeg + 7))]) (rest := [.int ((s2 (i1h2.toNatClampNeg + 7)) 3)]) hx hb hml hown hw hK hN hA hl.1 hP hD hS k_579 k_581 k_7 k_22 k_582 (met_X4_ownerBelow l D cy _ ad en x k hk s2 i1h2.toNatClampNeg hr9 r10 hc12) (fun _ _ _ => trivial) Xok_T (gO (x := x) (r := 0) (o := s2) (f := (s2 0)) hk (by decide) rfl) rfl ⟨rfl, rfl⟩ (n := 1) (by decide +kernel) rfl ⟨Nat.le_of_ble_eq_true rfl, Nat.le_of_ble_eq_true rfl⟩ ⟨Nat.le_of_ble_eq_true rfl, Nat.le_of_ble_eq_true rfl⟩ (Nat.le_of_ble_eq_true rfl) rfl dX4_payForClouds_35 (fun H locs hP hD hS => ?_)
          refine lv_icmp_ne (tgt := 61) hx hb dX4_payForClouds_38 (by decide) (fun h13 => ?_) (fun h13 => ?_)
          · replace hF := (if_neg h13).symm.trans hF
            refine lv_iinc (v := (i1h2 + 1)) (lv' := [(1, .int (i1h2 + 1)), (2, .int ((s2 (i1h2.toNatClampNeg + 7)) 3)), (0, .ref (ad k 0))]) hx hb dX4_payForClouds_61 hl (k := 1) rfl rfl (by decide) rfl (fun ls hl => ?_)
            refine lv_goto (tgt := 2) hx hb dX4_payForClouds_64 (by decide) ?_
            exact ih2 (i1h2 + 1) s2 _ _ _ hF hP hD hS (lv_sub hl [0, 2] rfl)
          · replace hF := (if_pos h13).symm.trans hF
            refine lv_aload_n hx hb dX4_payForClouds_41 rfl (lv_at hl 2 rfl) ?_
            refine get' (ci := 6) (fs := oF (ad k) (s2 0)) (v := .ref (ad k 3)) hx hb hw inWX4 hown hK hP (gO (x := x) (r := 0) (o := s2) (f := (s2 0)) hk (by decide) rfl) rfl 3 (by decide) k_122 rfl rfl dX4_payForClouds_42 ?_
            refine lv_iload_n hx hb dX4_payForClouds_45 rfl (lv_at hl 0 rfl) ?_
            refine lv_dup2_11 hx hb dX4_payForClouds_46 rfl rfl ?_
            obtain ⟨h14, hF⟩ := ite_some hF
            refine va_iald (n := 4) (f := (s2 3)) hx hb hK hP _ 0 (gO (x := x) (r := 3) (o := s2) (f := (s2 3)) hk (by decide) rfl) rfl (vp_inb h14) dX4_payForClouds_47 ?_
            refine lv_iconst (v := 1) hx hb dX4_payForClouds_48 (by decide) ?_
            refine lv_iadd hx hb dX4_payForClouds_49 ?_
            obtain ⟨h15, hF⟩ := ite_some hF
            refine iast' (n := 4) (f := (s2 3)) (ws' := (cW cy ad en (va_up x k (va_up s2 3 (upd (s2 3) (((s2 (i1h2.toNatClampNeg + 7)) 3).toNatClampNeg) (((s2 3) ((s2 (i1h2.toNatClampNeg + 7)) 3).toNatClampNeg) + 1)))))) hx hb hK hP hD hS (gO (x := x) (r := 3) (o := s2) (f := (s2 3)) hk (by decide) rfl) (t0 := 0) rfl (vp_inb h15) dX4_payForClouds_50 (sO (x := x) (r := 3) (o := s2) (g := (upd (s2 3) (((s2 (i1h2.toNatClampNeg + 7)) 3).toNatClampNeg) (((s2 3) ((s2 (i1h2.toNatClampNeg + 7)) 3).toNatClampNeg) + 1))) hk (by decide)) (fun H locs hP hD hS => ?_)
            refine lv_aload_n hx hb dX4_payForClouds_51 rfl (lv_at hl 2 rfl) ?_
            refine lv_dup hx hb dX4_payForClouds_52 rfl ?_
            refine get' (ci := 6) (fs := oF (ad k) (s2 0)) (v := .int ((s2 0) 11)) hx hb hw inWX4 hown hK hP (gO (x := x) (r := 0) (o := (va_up s2 3 (upd (s2 3) (((s2 (i1h2.toNatClampNeg + 7)) 3).toNatClampNeg) (((s2 3) ((s2 (i1h2.toNatClampNeg + 7)) 3).toNatClampNeg) + 1)))) (f := (s2 0)) hk (by decide) ((va_up_ne _ _ (by decide)).trans rfl)) rfl 11 (by decide) k_131 rfl rfl dX4_payForClouds_53 ?_
            refine lv_iconst (v := 1) hx hb dX4_payForClouds_56 (by decide) ?_
            refine lv_iadd hx hb dX4_payForClouds_57 ?_
            refine put' (ci := 6) (fs := oF (ad k) (s2 0)) (v := .int (((s2 0) 11) + 1)) (ty := .int) (ws' := (cW cy ad en (va_up x k (va_up (va_up s2 3 (upd (s2 3) (((s2 (i1h2.toNatClampNeg + 7)) 3).toNatClampNeg) (((s2 3) ((s2 (i1h2.toNatClampNeg + 7)) 3).toNatClampNeg) + 1))) 0 (upd (s2 0) 11 (((s2 0) 11) + 1)))))) hx hb hw inWX4 tyX4 tyX4_ok nmX4 hown hK hP hD hS (gO (x := x) (r := 0) (o := (va_up s2 3 (upd (s2 3) (((s2 (i1h2.toNatClampNeg + 7)) 3).toNatClampNeg) (((s2 3) ((s2 (i1h2.toNatClampNeg + 7)) 3).toNatClampNeg) + 1)))) (f := (s2 0)) hk (by decide) ((va_up_ne _ _ (by decide)).trans rfl)) rfl 11 (by decide) k_131 rfl rfl (by decide +kernel) rfl rfl (Nat.le_of_ble_eq_true rfl) dX4_payForClouds_58 (sO (x := x) (r := 0) (o := (va_up s2 3 (upd (s2 3) (((s2 (i1h2.toNatClampNeg + 7)) 3).toNatClampNeg) (((s2 3) ((s2 (i1h2.toNatClampNeg + 7)) 3).toNatClampNeg) + 1)))) (g := (upd (s2 0) 11 (((s2 0) 11) + 1))) hk (by decide)) (fun H locs hP hD hS => ?_)
            refine lv_iinc (v := (i1h2 + 1)) (lv' := [(1, .int (i1h2 + 1)), (2, .int ((s2 (i1h2.toNatClampNeg + 7)) 3)), (0, .ref (ad k 0))]) hx hb dX4_payForClouds_61 hl (k := 1) rfl rfl (by decide) rfl (fun ls hl => ?_)
            refine lv_goto (tgt := 2) hx hb dX4_payForClouds_64 (by decide) ?_
            exact ih2 (i1h2 + 1) (va_up (va_up s2 3 (upd (s2 3) (((s2 (i1h2.toNatClampNeg + 7)) 3).toNatClampNeg) (((s2 3) ((s2 (i1h2.toNatClampNeg + 7)) 3).toNatClampNeg) + 1))) 0 (upd (s2 0) 11 (((s2 0) 11) + 1))) _ _ _ hF hP hD hS (lv_sub hl [0, 2] rfl)
  exact loop2 200 0 o _ _ _ hF hP hD hS (lv_sub hl [0, 1] rfl)
def L_X4_cloudsLeftOver_13 : Nat → (Nat → Nat → Int32) → (Int32) → (Int32) → (Int32) → (Int32) → Option (Int32)
  | 0, _, _, _, _, _ => none
  | n13 + 1, o, p1, r1, i3h13, i2h13 => if 4 ≤ i3h13 then (some i2h13) else (if i3h13 = p1 then (L_X4_cloudsLeftOver_13 n13 o p1 r1 (i3h13 + 1) i2h13) else ((D_X4_cloudsCounted o i3h13).bind (fun r6 => L_X4_cloudsLeftOver_13 n13 o p1 r1 (i3h13 + 1) (i2h13 - r6))))
def D_X4_cloudsLeftOver (o : Nat → Nat → Int32) (p1 : Int32) : Option (Int32) := (D_X4_cloudsCounted o (-1)).bind (fun r1 => L_X4_cloudsLeftOver_13 200 o p1 r1 0 (((o 0) 1) - r1))
abbrev rm_X4_cloudsLeftOver : Room := { frames := 1, cells := 0, slots := 0, locals := 23 }
set_option maxHeartbeats 4000000 in
set_option maxRecDepth 100000 in
theorem met_X4_cloudsLeftOver (l : Launch) (D : va_G) (cy : Nat → ClassId) (sz : Nat) (ad : Nat → Nat → Nat) (en : Nat → Nat) (x : Mem) (k : Nat) (hk : k < 12) (o : Nat → Nat → Int32) (p1 : Int32)  (r : Int32) (hF : D_X4_cloudsLeftOver o p1 = some r) : MI l yX4_cloudsLeftOver cX4_cloudsLeftOver 4 (some .int) rm_X4_cloudsLeftOver D cy (cW cy ad en (va_up x k o)) sz (fun _ => True) [.ref (ad k 0), .int p1] r (cW cy ad en (va_up x k o)) := by
  refine MI.of (by decide +kernel) (Nat.le_of_ble_eq_true rfl) ?_
  intro p e s m args below meth c A ls Q hAt _ hP hD hA hS hl hret
  obtain ⟨hx, hb, hr, hml, hown, hw, hlk, hK, hN⟩ := hAt
  have hown : s.vm.findClass "CloudDeeds$Office" = some m.cls := hown
  have hl : lv_has ls 4 [(0, .ref (ad k 0)), (1, .int p1)] := hl
  refine lv_aload_n hx hb dX4_cloudsLeftOver_0 rfl (lv_at hl 0 rfl) ?_
  refine get' (ci := 6) (fs := oF (ad k) (o 0)) (v := .int ((o 0) 1)) hx hb hw inWX4 hown hK hP (gO (x := x) (r := 0) (o := o) (f := (o 0)) hk (by decide) rfl) rfl 1 (by decide) k_119 rfl rfl dX4_cloudsLeftOver_1 ?_
  refine lv_aload_n hx hb dX4_cloudsLeftOver_4 rfl (lv_at hl 0 rfl) ?_
  refine lv_iconst (v := (-1)) hx hb dX4_cloudsLeftOver_5 (by decide) ?_
  obtain ⟨r1, hc3, hF⟩ := bind_some hF
  try dsimp only at hF
  refine cV_i (As := [.int (-1)]) (rest := [.int ((o 0) 1)]) hx hb hml hown hw hK hN hA hl.1 hP hD hS k_480 k_469 k_470 k_22 k_471 (met_X4_cloudsCounted l D cy _ ad en x k hk o (-1) r1 hc3) (fun _ _ _ => trivial) Xok_T (gO (x := x) (r := 0) (o := o) (f := (o 0)) hk (by decide) rfl) rfl ⟨rfl, rfl⟩ (n := 1) (by decide +kernel) rfl ⟨Nat.le_of_ble_eq_true rfl, Nat.le_of_ble_eq_true rfl⟩ ⟨Nat.le_of_ble_eq_true rfl, Nat.le_of_ble_eq_true rfl⟩ (Nat.le_of_ble_eq_true rfl) rfl dX4_cloudsLeftOver_6 (fun H locs hP hD hS => ?_)
  refine lv_isub hx hb dX4_cloudsLeftOver_9 ?_
  refine lv_istore_n (lv' := [(2, .int (((o 0) 1) - r1)), (0, .ref (ad k 0)), (1, .int p1)]) hx hb dX4_cloudsLeftOver_10 rfl hl (by decide) rfl (fun ls hl => ?_)
  refine lv_iconst (v := 0) hx hb dX4_cloudsLeftOver_11 (by decide) ?_
  refine lv_istore_n (lv' := [(3, .int 0), (2, .int (((o 0) 1) - r1)), (0, .ref (ad k 0)), (1, .int p1)]) hx hb dX4_cloudsLeftOver_12 rfl hl (by decide) rfl (fun ls hl => ?_)
  have loop13 : ∀ (n : Nat) (i3h13 : Int32) (i2h13 : Int32) (H : Heap) (locs : List Loc) (ls : Array Slot), L_X4_cloudsLeftOver_13 n o p1 r1 i3h13 i2h13 = some r → va_P D vwCl (cW cy ad en (va_up x k o)) H → va_D A (cW cy ad en (va_up x k o)) → va_S A s.heap H locs → lv_has ls 4 [(3, .int i3h13), (2, .int i2h13), (0, .ref (ad k 0)), (1, .int p1)] → W p l e rm_X4_cloudsLeftOver s m args below meth c H locs 0 0 Q (F0 m 13 ls []) := by
    intro n
    induction n with
    | zero => intro i3h13 i2h13 H locs ls hF _ _ _ _; exact absurd hF (by simp [L_X4_cloudsLeftOver_13])
    | succ n13 ih13 =>
      intro i3h13 i2h13 H locs ls hF hP hD hS hl
      refine lv_iload_n hx hb dX4_cloudsLeftOver_13 rfl (lv_at hl 0 rfl) ?_
      refine lv_iconst (v := 4) hx hb dX4_cloudsLeftOver_14 (by decide) ?_
      refine lv_icmp_ge (tgt := 37) hx hb dX4_cloudsLeftOver_15 (by decide) (fun h4 => ?_) (fun h4 => ?_)
      · replace hF := (if_pos h4).symm.trans hF
        refine lv_iload_n hx hb dX4_cloudsLeftOver_37 rfl (lv_at hl 1 rfl) ?_
        cases hF
        exact hret _ _ _ _ _ _ hP hD hS rfl rfl dX4_cloudsLeftOver_38
      · replace hF := (if_neg h4).symm.trans hF
        refine lv_iload_n hx hb dX4_cloudsLeftOver_18 rfl (lv_at hl 0 rfl) ?_
        refine lv_iload_n hx hb dX4_cloudsLeftOver_19 rfl (lv_at hl 3 rfl) ?_
        refine lv_icmp_eq (tgt := 31) hx hb dX4_cloudsLeftOver_20 (by decide) (fun h5 => ?_) (fun h5 => ?_)
        · replace hF := (if_pos h5).symm.trans hF
          refine lv_iinc (v := (i3h13 + 1)) (lv' := [(3, .int (i3h13 + 1)), (2, .int i2h13), (0, .ref (ad k 0)), (1, .int p1)]) hx hb dX4_cloudsLeftOver_31 hl (k := 0) rfl rfl (by decide) rfl (fun ls hl => ?_)
          refine lv_goto (tgt := 13) hx hb dX4_cloudsLeftOver_34 (by decide) ?_
          exact ih13 (i3h13 + 1) i2h13  _ _ _ hF hP hD hS (lv_sub hl [0, 1, 2, 3] rfl)
        · replace hF := (if_neg h5).symm.trans hF
          refine lv_iload_n hx hb dX4_cloudsLeftOver_23 rfl (lv_at hl 1 rfl) ?_
          refine lv_aload_n hx hb dX4_cloudsLeftOver_24 rfl (lv_at hl 2 rfl) ?_
          refine lv_iload_n hx hb dX4_cloudsLeftOver_25 rfl (lv_at hl 0 rfl) ?_
          obtain ⟨r6, hc8, hF⟩ := bind_some hF
          try dsimp only at hF
          refine cV_i (As := [.int i3h13]) (rest := [.int i2h13]) hx hb hml hown hw hK hN hA hl.1 hP hD hS k_480 k_469 k_470 k_22 k_471 (met_X4_cloudsCounted l D cy _ ad en x k hk o i3h13 r6 hc8) (fun _ _ _ => trivial) Xok_T (gO (x := x) (r := 0) (o := o) (f := (o 0)) hk (by decide) rfl) rfl ⟨rfl, rfl⟩ (n := 1) (by decide +kernel) rfl ⟨Nat.le_of_ble_eq_true rfl, Nat.le_of_ble_eq_true rfl⟩ ⟨Nat.le_of_ble_eq_true rfl, Nat.le_of_ble_eq_true rfl⟩ (Nat.le_of_ble_eq_true rfl) rfl dX4_cloudsLeftOver_26 (fun H locs hP hD hS => ?_)
          refine lv_isub hx hb dX4_cloudsLeftOver_29 ?_
          refine lv_istore_n (lv' := [(2, .int (i2h13 - r6)), (3, .int i3h13), (0, .ref (ad k 0)), (1, .int p1)]) hx hb dX4_cloudsLeftOver_30 rfl hl (by decide) rfl (fun ls hl => ?_)
          refine lv_iinc (v := (i3h13 + 1)) (lv' := [(3, .int (i3h13 + 1)), (2, .int (i2h13 - r6)), (0, .ref (ad k 0)), (1, .int p1)]) hx hb dX4_cloudsLeftOver_31 hl (k := 1) rfl rfl (by decide) rfl (fun ls hl => ?_)
          refine lv_goto (tgt := 13) hx hb dX4_cloudsLeftOver_34 (by decide) ?_
          exact ih13 (i3h13 + 1) (i2h13 - r6)  _ _ _ hF hP hD hS (lv_sub hl [0, 1, 2, 3] rfl)
  exact loop13 200 0 (((o 0) 1) - r1)  _ _ _ hF hP hD hS (lv_sub hl [0, 1, 2, 3] rfl)
def D_X4_titledClouds (o : Nat → Nat → Int32) : Option (Int32) := (D_X4_cloudsCounted o (-1)).bind (fun r1 => some (((o 0) 1) - r1))
abbrev rm_X4_titledClouds : Room := { frames := 1, cells := 0, slots := 0, locals := 23 }
set_option maxHeartbeats 4000000 in
set_option maxRecDepth 100000 in
theorem met_X4_titledClouds (l : Launch) (D : va_G) (cy : Nat → ClassId) (sz : Nat) (ad : Nat → Nat → Nat) (en : Nat → Nat) (x : Mem) (k : Nat) (hk : k < 12) (o : Nat → Nat → Int32)  (r : Int32) (hF : D_X4_titledClouds o = some r) : MI l yX4_titledClouds cX4_titledClouds 1 (some .int) rm_X4_titledClouds D cy (cW cy ad en (va_up x k o)) sz (fun _ => True) [.ref (ad k 0)] r (cW cy ad en (va_up x k o)) := by
  refine MI.of (by decide +kernel) (Nat.le_of_ble_eq_true rfl) ?_
  intro p e s m args below meth c A ls Q hAt _ hP hD hA hS hl hret
  obtain ⟨hx, hb, hr, hml, hown, hw, hlk, hK, hN⟩ := hAt
  have hown : s.vm.findClass "CloudDeeds$Office" = some m.cls := hown
  have hl : lv_has ls 1 [(0, .ref (ad k 0))] := hl
  refine lv_aload_n hx hb dX4_titledClouds_0 rfl (lv_at hl 0 rfl) ?_
  refine get' (ci := 6) (fs := oF (ad k) (o 0)) (v := .int ((o 0) 1)) hx hb hw inWX4 hown hK hP (gO (x := x) (r := 0) (o := o) (f := (o 0)) hk (by decide) rfl) rfl 1 (by decide) k_119 rfl rfl dX4_titledClouds_1 ?_
  refine lv_aload_n hx hb dX4_titledClouds_4 rfl (lv_at hl 0 rfl) ?_
  refine lv_iconst (v := (-1)) hx hb dX4_titledClouds_5 (by decide) ?_
  obtain ⟨r1, hc3, hF⟩ := bind_some hF
  try dsimp only at hF
  refine cV_i (As := [.int (-1)]) (rest := [.int ((o 0) 1)]) hx hb hml hown hw hK hN hA hl.1 hP hD hS k_480 k_469 k_470 k_22 k_471 (met_X4_cloudsCounted l D cy _ ad en x k hk o (-1) r1 hc3) (fun _ _ _ => trivial) Xok_T (gO (x := x) (r := 0) (o := o) (f := (o 0)) hk (by decide) rfl) rfl ⟨rfl, rfl⟩ (n := 1) (by decide +kernel) rfl ⟨Nat.le_of_ble_eq_true rfl, Nat.le_of_ble_eq_true rfl⟩ ⟨Nat.le_of_ble_eq_true rfl, Nat.le_of_ble_eq_true rfl⟩ (Nat.le_of_ble_eq_true rfl) rfl dX4_titledClouds_6 (fun H locs hP hD hS => ?_)
  refine lv_isub hx hb dX4_titledClouds_9 ?_
  cases hF
  exact hret _ _ _ _ _ _ hP hD hS rfl rfl dX4_titledClouds_10
def D_X4_ownedVineyards (o : Nat → Nat → Int32) : Option (Int32) := (D_X4_vineyardsBelongingTo o (-1)).bind (fun r1 => some (6 - r1))
abbrev rm_X4_ownedVineyards : Room := { frames := 1, cells := 0, slots := 0, locals := 23 }
set_option maxHeartbeats 4000000 in
set_option maxRecDepth 100000 in
theorem met_X4_ownedVineyards (l : Launch) (D : va_G) (cy : Nat → ClassId) (sz : Nat) (ad : Nat → Nat → Nat) (en : Nat → Nat) (x : Mem) (k : Nat) (hk : k < 12) (o : Nat → Nat → Int32)  (r : Int32) (hF : D_X4_ownedVineyards o = some r) : MI l yX4_ownedVineyards cX4_ownedVineyards 1 (some .int) rm_X4_ownedVineyards D cy (cW cy ad en (va_up x k o)) sz (fun _ => True) [.ref (ad k 0)] r (cW cy ad en (va_up x k o)) := by
  refine MI.of (by decide +kernel) (Nat.le_of_ble_eq_true rfl) ?_
  intro p e s m args below meth c A ls Q hAt _ hP hD hA hS hl hret
  obtain ⟨hx, hb, hr, hml, hown, hw, hlk, hK, hN⟩ := hAt
  have hown : s.vm.findClass "CloudDeeds$Office" = some m.cls := hown
  have hl : lv_has ls 1 [(0, .ref (ad k 0))] := hl
  refine lv_bipush (v := 6) hx hb dX4_ownedVineyards_0 (by decide) ?_
  refine lv_aload_n hx hb dX4_ownedVineyards_2 rfl (lv_at hl 0 rfl) ?_
  refine lv_iconst (v := (-1)) hx hb dX4_ownedVineyards_3 (by decide) ?_
  obtain ⟨r1, hc3, hF⟩ := bind_some hF
  try dsimp only at hF
  refine cV_i (As := [.int (-1)]) (rest := [.int 6]) hx hb hml hown hw hK hN hA hl.1 hP hD hS k_445 k_447 k_2 k_22 k_448 (met_X4_vineyardsBelongingTo l D cy _ ad en x k hk o (-1) r1 hc3) (fun _ _ _ => trivial) Xok_T (gO (x := x) (r := 0) (o := o) (f := (o 0)) hk (by decide) rfl) rfl ⟨rfl, rfl⟩ (n := 1) (by decide +kernel) rfl ⟨Nat.le_of_ble_eq_true rfl, Nat.le_of_ble_eq_true rfl⟩ ⟨Nat.le_of_ble_eq_true rfl, Nat.le_of_ble_eq_true rfl⟩ (Nat.le_of_ble_eq_true rfl) rfl dX4_ownedVineyards_4 (fun H locs hP hD hS => ?_)
  refine lv_isub hx hb dX4_ownedVineyards_7 ?_
  cases hF
  exact hret _ _ _ _ _ _ hP hD hS rfl rfl dX4_ownedVineyards_8
def L_X4_tellOfOwner_26 : Nat → (Nat → Nat → Int32) → (Int32) → (Int32) → (Int32) → (Int32) → Option (Int32)
  | 0, _, _, _, _, _ => none
  | n26 + 1, o, p1, p2, i4h26, i3h26 => if ((o 0) 1) ≤ i4h26 then (some i3h26) else (if inb i4h26 6 then (if p2 = 2 then (if ((o (i4h26.toNatClampNeg + 7)) 5) = p1 then (L_X4_tellOfOwner_26 n26 o p1 p2 (i4h26 + 1) (i3h26 + 1)) else (if p2 = 3 then (if ((o (i4h26.toNatClampNeg + 7)) 3) = p1 then (if (D_X1_isPledged (o (i4h26.toNatClampNeg + 7))) = 0 then (if p2 = 4 then (if ((o (i4h26.toNatClampNeg + 7)) 3) = p1 then (L_X4_tellOfOwner_26 n26 o p1 p2 (i4h26 + 1) (i3h26 + ((o (i4h26.toNatClampNeg + 7)) 2))) else (L_X4_tellOfOwner_26 n26 o p1 p2 (i4h26 + 1) i3h26)) else (L_X4_tellOfOwner_26 n26 o p1 p2 (i4h26 + 1) i3h26)) else (L_X4_tellOfOwner_26 n26 o p1 p2 (i4h26 + 1) (i3h26 + 1))) else (if p2 = 4 then (if ((o (i4h26.toNatClampNeg + 7)) 3) = p1 then (L_X4_tellOfOwner_26 n26 o p1 p2 (i4h26 + 1) (i3h26 + ((o (i4h26.toNatClampNeg + 7)) 2))) else (L_X4_tellOfOwner_26 n26 o p1 p2 (i4h26 + 1) i3h26)) else (L_X4_tellOfOwner_26 n26 o p1 p2 (i4h26 + 1) i3h26))) else (if p2 = 4 then (if ((o (i4h26.toNatClampNeg + 7)) 3) = p1 then (L_X4_tellOfOwner_26 n26 o p1 p2 (i4h26 + 1) (i3h26 + ((o (i4h26.toNatClampNeg + 7)) 2))) else (L_X4_tellOfOwner_26 n26 o p1 p2 (i4h26 + 1) i3h26)) else (L_X4_tellOfOwner_26 n26 o p1 p2 (i4h26 + 1) i3h26)))) else (if p2 = 3 then (if ((o (i4h26.toNatClampNeg + 7)) 3) = p1 then (if (D_X1_isPledged (o (i4h26.toNatClampNeg + 7))) = 0 then (if p2 = 4 then (if ((o (i4h26.toNatClampNeg + 7)) 3) = p1 then (L_X4_tellOfOwner_26 n26 o p1 p2 (i4h26 + 1) (i3h26 + ((o (i4h26.toNatClampNeg + 7)) 2))) else (L_X4_tellOfOwner_26 n26 o p1 p2 (i4h26 + 1) i3h26)) else (L_X4_tellOfOwner_26 n26 o p1 p2 (i4h26 + 1) i3h26)) else (L_X4_tellOfOwner_26 n26 o p1 p2 (i4h26 + 1) (i3h26 + 1))) else (if p2 = 4 then (if ((o (i4h26.toNatClampNeg + 7)) 3) = p1 then (L_X4_tellOfOwner_26 n26 o p1 p2 (i4h26 + 1) (i3h26 + ((o (i4h26.toNatClampNeg + 7)) 2))) else (L_X4_tellOfOwner_26 n26 o p1 p2 (i4h26 + 1) i3h26)) else (L_X4_tellOfOwner_26 n26 o p1 p2 (i4h26 + 1) i3h26))) else (if p2 = 4 then (if ((o (i4h26.toNatClampNeg + 7)) 3) = p1 then (L_X4_tellOfOwner_26 n26 o p1 p2 (i4h26 + 1) (i3h26 + ((o (i4h26.toNatClampNeg + 7)) 2))) else (L_X4_tellOfOwner_26 n26 o p1 p2 (i4h26 + 1) i3h26)) else (L_X4_tellOfOwner_26 n26 o p1 p2 (i4h26 + 1) i3h26)))) else none)
def D_X4_tellOfOwner (o : Nat → Nat → Int32) (p1 : Int32) (p2 : Int32) : Option (Int32) := if p2 = 0 then ((D_X4_purseOf o p1).bind (fun r35 => some r35)) else (if p2 = 1 then ((D_X4_vineyardsBelongingTo o p1).bind (fun r32 => some r32)) else (L_X4_tellOfOwner_26 200 o p1 p2 0 0))
abbrev rm_X4_tellOfOwner : Room := { frames := 2, cells := 0, slots := 0, locals := 41 }
set_option maxHeartbeats 4000000 in
set_option maxRecDepth 100000 in
theorem met_X4_tellOfOwner (l : Launch) (D : va_G) (cy : Nat → ClassId) (sz : Nat) (ad : Nat → Nat → Nat) (en : Nat → Nat) (x : Mem) (k : Nat) (hk : k < 12) (o : Nat → Nat → Int32) (p1 : Int32) (p2 : Int32)  (r : Int32) (hF : D_X4_tellOfOwner o p1 p2 = some r) : MI l yX4_tellOfOwner cX4_tellOfOwner 6 (some .int) rm_X4_tellOfOwner D cy (cW cy ad en (va_up x k o)) sz (fun _ => True) [.ref (ad k 0), .int p1, .int p2] r (cW cy ad en (va_up x k o)) := by
  refine MI.of (by decide +kernel) (Nat.le_of_ble_eq_true rfl) ?_
  intro p e s m args below meth c A ls Q hAt _ hP hD hA hS hl hret
  obtain ⟨hx, hb, hr, hml, hown, hw, hlk, hK, hN⟩ := hAt
  have hown : s.vm.findClass "CloudDeeds$Office" = some m.cls := hown
  have hl : lv_has ls 6 [(0, .ref (ad k 0)), (1, .int p1), (2, .int p2)] := hl
  refine lv_iload_n hx hb dX4_tellOfOwner_0 rfl (lv_at hl 2 rfl) ?_
  refine lv_if_ne (tgt := 10) hx hb dX4_tellOfOwner_1 (by decide) (fun h1 => ?_) (fun h1 => ?_)
  · replace hF := (if_neg h1).symm.trans hF
    refine lv_iload_n hx hb dX4_tellOfOwner_10 rfl (lv_at hl 2 rfl) ?_
    refine lv_iconst (v := 1) hx hb dX4_tellOfOwner_11 (by decide) ?_
    refine lv_icmp_ne (tgt := 21) hx hb dX4_tellOfOwner_12 (by decide) (fun h2 => ?_) (fun h2 => ?_)
    · replace hF := (if_neg h2).symm.trans hF
      refine lv_iconst (v := 0) hx hb dX4_tellOfOwner_21 (by decide) ?_
      refine lv_istore_n (lv' := [(3, .int 0), (0, .ref (ad k 0)), (1, .int p1), (2, .int p2)]) hx hb dX4_tellOfOwner_22 rfl hl (by decide) rfl (fun ls hl => ?_)
      refine lv_iconst (v := 0) hx hb dX4_tellOfOwner_23 (by decide) ?_
      refine lv_istore (lv' := [(4, .int 0), (3, .int 0), (0, .ref (ad k 0)), (1, .int p1), (2, .int p2)]) hx hb dX4_tellOfOwner_24 hl (by decide) rfl (fun ls hl => ?_)
      have loop26 : ∀ (n : Nat) (i4h26 : Int32) (i3h26 : Int32) (H : Heap) (locs : List Loc) (ls : Array Slot), L_X4_tellOfOwner_26 n o p1 p2 i4h26 i3h26 = some r → va_P D vwCl (cW cy ad en (va_up x k o)) H → va_D A (cW cy ad en (va_up x k o)) → va_S A s.heap H locs → lv_has ls 6 [(4, .int i4h26), (3, .int i3h26), (0, .ref (ad k 0)), (1, .int p1), (2, .int p2)] → W p l e rm_X4_tellOfOwner s m args below meth c H locs 0 0 Q (F0 m 26 ls []) := by
        intro n
        induction n with
        | zero => intro i4h26 i3h26 H locs ls hF _ _ _ _; exact absurd hF (by simp [L_X4_tellOfOwner_26])
        | succ n26 ih26 =>
          intro i4h26 i3h26 H locs ls hF hP hD hS hl
          refine lv_iload hx hb dX4_tellOfOwner_26 (lv_at hl 0 rfl) ?_
          refine lv_aload_n hx hb dX4_tellOfOwner_28 rfl (lv_at hl 2 rfl) ?_
          refine get' (ci := 6) (fs := oF (ad k) (o 0)) (v := .int ((o 0) 1)) hx hb hw inWX4 hown hK hP (gO (x := x) (r := 0) (o := o) (f := (o 0)) hk (by decide) rfl) rfl 1 (by decide) k_119 rfl rfl dX4_tellOfOwner_29 ?_
          refine lv_icmp_ge (tgt := 120) hx hb dX4_tellOfOwner_32 (by decide) (fun h3 => ?_) (fun h3 => ?_)
          · replace hF := (if_pos h3).symm.trans hF
            refine lv_iload_n hx hb dX4_tellOfOwner_120 rfl (lv_at hl 1 rfl) ?_
            cases hF
            exact hret _ _ _ _ _ _ hP hD hS rfl rfl dX4_tellOfOwner_121
          · replace hF := (if_neg h3).symm.trans hF
            refine lv_aload_n hx hb dX4_tellOfOwner_35 rfl (lv_at hl 2 rfl) ?_
            refine get' (ci := 6) (fs := oF (ad k) (o 0)) (v := .ref (ad k 1)) hx hb hw inWX4 hown hK hP (gO (x := x) (r := 0) (o := o) (f := (o 0)) hk (by decide) rfl) rfl 0 (by decide) k_117 rfl rfl dX4_tellOfOwner_36 ?_
            refine lv_iload hx hb dX4_tellOfOwner_39 (lv_at hl 0 rfl) ?_
            obtain ⟨h4, hF⟩ := ite_some hF
            have hr5 : (i4h26.toNatClampNeg + 7) < 13 := Nat.add_lt_add_right (inb_lt h4) 7
            refine aald' (n := 6) (g := (ad k (i4h26.toNatClampNeg + 7))) hx hb hK hP (gO (x := x) (r := 1) (o := o) (f := (o 1)) hk (by decide) rfl) (t0 := 3) rfl (vp_inb h4) rfl dX4_tellOfOwner_41 ?_
            refine lv_astore (lv' := [(5, .ref (ad k (i4h26.toNatClampNeg + 7))), (4, .int i4h26), (3, .int i3h26), (0, .ref (ad k 0)), (1, .int p1), (2, .int p2)]) hx hb dX4_tellOfOwner_42 hl (by decide) rfl (fun ls hl => ?_)
            refine lv_iload_n hx hb dX4_tellOfOwner_44 rfl (lv_at hl 5 rfl) ?_
            refine lv_iconst (v := 2) hx hb dX4_tellOfOwner_45 (by decide) ?_
            refine lv_icmp_ne (tgt := 64) hx hb dX4_tellOfOwner_46 (by decide) (fun h6 => ?_) (fun h6 => ?_)
            · replace hF := (if_neg h6).symm.trans hF
              refine lv_iload_n hx hb dX4_tellOfOwner_64 rfl (lv_at hl 5 rfl) ?_
              refine lv_iconst (v := 3) hx hb dX4_tellOfOwner_65 (by decide) ?_
              refine lv_icmp_ne (tgt := 92) hx hb dX4_tellOfOwner_66 (by decide) (fun h7 => ?_) (fun h7 => ?_)
              · replace hF := (if_neg h7).symm.trans hF
                refine lv_iload_n hx hb dX4_tellOfOwner_92 rfl (lv_at hl 5 rfl) ?_
                refine lv_iconst (v := 4) hx hb dX4_tellOfOwner_93 (by decide) ?_
                refine lv_icmp_ne (tgt := 114) hx hb dX4_tellOfOwner_94 (by decide) (fun h8 => ?_) (fun h8 => ?_)
                · replace hF := (if_neg h8).symm.trans hF
                  refine lv_iinc (v := (i4h26 + 1)) (lv' := [(4, .int (i4h26 + 1)), (5, .ref (ad k (i4h26.toNatClampNeg + 7))), (3, .int i3h26), (0, .ref (ad k 0)), (1, .int p1), (2, .int p2)]) hx hb dX4_tellOfOwner_114 hl (k := 1) rfl rfl (by decide) rfl (fun ls hl => ?_)
                  refine lv_goto (tgt := 26) hx hb dX4_tellOfOwner_117 (by decide) ?_
                  exact ih26 (i4h26 + 1) i3h26  _ _ _ hF hP hD hS (lv_sub hl [0, 2, 3, 4, 5] rfl)
                · replace hF := (if_pos h8).symm.trans hF
                  refine lv_aload hx hb dX4_tellOfOwner_97 (lv_at hl 0 rfl) ?_
                  refine getN' (ci := 4) (fs := cF (o (i4h26.toNatClampNeg + 7))) (v := .int ((o (i4h26.toNatClampNeg + 7)) 3)) hx hb hw hN inWX1 hown hK hP (gO (x := x) (r := (i4h26.toNatClampNeg + 7)) (o := o) (f := (o (i4h26.toNatClampNeg + 7))) hk hr5 rfl) rfl 3 (by decide) n_97 rfl rfl dX4_tellOfOwner_99 ?_
                  refine lv_iload_n hx hb dX4_tellOfOwner_102 rfl (lv_at hl 4 rfl) ?_
                  refine lv_icmp_ne (tgt := 114) hx hb dX4_tellOfOwner_103 (by decide) (fun h9 => ?_) (fun h9 => ?_)
                  · replace hF := (if_neg h9).symm.trans hF
                    refine lv_iinc (v := (i4h26 + 1)) (lv' := [(4, .int (i4h26 + 1)), (5, .ref (ad k (i4h26.toNatClampNeg + 7))), (3, .int i3h26), (0, .ref (ad k 0)), (1, .int p1), (2, .int p2)]) hx hb dX4_tellOfOwner_114 hl (k := 1) rfl rfl (by decide) rfl (fun ls hl => ?_)
                    refine lv_goto (tgt := 26) hx hb dX4_tellOfOwner_117 (by decide) ?_
                    exact ih26 (i4h26 + 1) i3h26  _ _ _ hF hP hD hS (lv_sub hl [0, 2, 3, 4, 5] rfl)
                  · replace hF := (if_pos h9).symm.trans hF
                    refine lv_iload_n hx hb dX4_tellOfOwner_106 rfl (lv_at hl 2 rfl) ?_
                    refine lv_aload hx hb dX4_tellOfOwner_107 (lv_at hl 0 rfl) ?_
                    refine getN' (ci := 4) (fs := cF (o (i4h26.toNatClampNeg + 7))) (v := .int ((o (i4h26.toNatClampNeg + 7)) 2)) hx hb hw hN inWX1 hown hK hP (gO (x := x) (r := (i4h26.toNatClampNeg + 7)) (o := o) (f := (o (i4h26.toNatClampNeg + 7))) hk hr5 rfl) rfl 2 (by decide) n_94 rfl rfl dX4_tellOfOwner_109 ?_
                    refine lv_iadd hx hb dX4_tellOfOwner_112 ?_
                    refine lv_istore_n (lv' := [(3, .int (i3h26 + ((o (i4h26.toNatClampNeg + 7)) 2))), (5, .ref (ad k (i4h26.toNatClampNeg + 7))), (4, .int i4h26), (0, .ref (ad k 0)), (1, .int p1), (2, .int p2)]) hx hb dX4_tellOfOwner_113 rfl hl (by decide) rfl (fun ls hl => ?_)
                    refine lv_iinc (v := (i4h26 + 1)) (lv' := [(4, .int (i4h26 + 1)), (3, .int (i3h26 + ((o (i4h26.toNatClampNeg + 7)) 2))), (5, .ref (ad k (i4h26.toNatClampNeg + 7))), (0, .ref (ad k 0)), (1, .int p1), (2, .int p2)]) hx hb dX4_tellOfOwner_114 hl (k := 2) rfl rfl (by decide) rfl (fun ls hl => ?_)
                    refine lv_goto (tgt := 26) hx hb dX4_tellOfOwner_117 (by decide) ?_
                    exact ih26 (i4h26 + 1) (i3h26 + ((o (i4h26.toNatClampNeg + 7)) 2))  _ _ _ hF hP hD hS (lv_sub hl [0, 1, 3, 4, 5] rfl)
              · replace hF := (if_pos h7).symm.trans hF
                refine lv_aload hx hb dX4_tellOfOwner_69 (lv_at hl 0 rfl) ?_
                refine getN' (ci := 4) (fs := cF (o (i4h26.toNatClampNeg + 7))) (v := .int ((o (i4h26.toNatClampNeg + 7)) 3)) hx hb hw hN inWX1 hown hK hP (gO (x := x) (r := (i4h26.toNatClampNeg + 7)) (o := o) (f := (o (i4h26.toNatClampNeg + 7))) hk hr5 rfl) rfl 3 (by decide) n_97 rfl rfl dX4_tellOfOwner_71 ?_
                refine lv_iload_n hx hb dX4_tellOfOwner_74 rfl (lv_at hl 4 rfl) ?_
                refine lv_icmp_ne (tgt := 92) hx hb dX4_tellOfOwner_75 (by decide) (fun h10 => ?_) (fun h10 => ?_)
                · replace hF := (if_neg h10).symm.trans hF
                  refine lv_iload_n hx hb dX4_tellOfOwner_92 rfl (lv_at hl 5 rfl) ?_
                  refine lv_iconst (v := 4) hx hb dX4_tellOfOwner_93 (by decide) ?_
                  refine lv_icmp_ne (tgt := 114) hx hb dX4_tellOfOwner_94 (by decide) (fun h11 => ?_) (fun h11 => ?_)
                  · replace hF := (if_neg h11).symm.trans hF
                    refine lv_iinc (v := (i4h26 + 1)) (lv' := [(4, .int (i4h26 + 1)), (5, .ref (ad k (i4h26.toNatClampNeg + 7))), (3, .int i3h26), (0, .ref (ad k 0)), (1, .int p1), (2, .int p2)]) hx hb dX4_tellOfOwner_114 hl (k := 1) rfl rfl (by decide) rfl (fun ls hl => ?_)
                    refine lv_goto (tgt := 26) hx hb dX4_tellOfOwner_117 (by decide) ?_
                    exact ih26 (i4h26 + 1) i3h26  _ _ _ hF hP hD hS (lv_sub hl [0, 2, 3, 4, 5] rfl)
                  · replace hF := (if_pos h11).symm.trans hF
                    refine lv_aload hx hb dX4_tellOfOwner_97 (lv_at hl 0 rfl) ?_
                    refine getN' (ci := 4) (fs := cF (o (i4h26.toNatClampNeg + 7))) (v := .int ((o (i4h26.toNatClampNeg + 7)) 3)) hx hb hw hN inWX1 hown hK hP (gO (x := x) (r := (i4h26.toNatClampNeg + 7)) (o := o) (f := (o (i4h26.toNatClampNeg + 7))) hk hr5 rfl) rfl 3 (by decide) n_97 rfl rfl dX4_tellOfOwner_99 ?_
                    refine lv_iload_n hx hb dX4_tellOfOwner_102 rfl (lv_at hl 4 rfl) ?_
                    refine lv_icmp_ne (tgt := 114) hx hb dX4_tellOfOwner_103 (by decide) (fun h12 => ?_) (fun h12 => ?_)
                    · replace hF := (if_neg h12).symm.trans hF
                      refine lv_iinc (v := (i4h26 + 1)) (lv' := [(4, .int (i4h26 + 1)), (5, .ref (ad k (i4h26.toNatClampNeg + 7))), (3, .int i3h26), (0, .ref (ad k 0)), (1, .int p1), (2, .int p2)]) hx hb dX4_tellOfOwner_114 hl (k := 1) rfl rfl (by decide) rfl (fun ls hl => ?_)
                      refine lv_goto (tgt := 26) hx hb dX4_tellOfOwner_117 (by decide) ?_
                      exact ih26 (i4h26 + 1) i3h26  _ _ _ hF hP hD hS (lv_sub hl [0, 2, 3, 4, 5] rfl)
                    · replace hF := (if_pos h12).symm.trans hF
                      refine lv_iload_n hx hb dX4_tellOfOwner_106 rfl (lv_at hl 2 rfl) ?_
                      refine lv_aload hx hb dX4_tellOfOwner_107 (lv_at hl 0 rfl) ?_
                      refine getN' (ci := 4) (fs := cF (o (i4h26.toNatClampNeg + 7))) (v := .int ((o (i4h26.toNatClampNeg + 7)) 2)) hx hb hw hN inWX1 hown hK hP (gO (x := x) (r := (i4h26.toNatClampNeg + 7)) (o := o) (f := (o (i4h26.toNatClampNeg + 7))) hk hr5 rfl) rfl 2 (by decide) n_94 rfl rfl dX4_tellOfOwner_109 ?_
                      refine lv_iadd hx hb dX4_tellOfOwner_112 ?_
                      refine lv_istore_n (lv' := [(3, .int (i3h26 + ((o (i4h26.toNatClampNeg + 7)) 2))), (5, .ref (ad k (i4h26.toNatClampNeg + 7))), (4, .int i4h26), (0, .ref (ad k 0)), (1, .int p1), (2, .int p2)]) hx hb dX4_tellOfOwner_113 rfl hl (by decide) rfl (fun ls hl => ?_)
                      refine lv_iinc (v := (i4h26 + 1)) (lv' := [(4, .int (i4h26 + 1)), (3, .int (i3h26 + ((o (i4h26.toNatClampNeg + 7)) 2))), (5, .ref (ad k (i4h26.toNatClampNeg + 7))), (0, .ref (ad k 0)), (1, .int p1), (2, .int p2)]) hx hb dX4_tellOfOwner_114 hl (k := 2) rfl rfl (by decide) rfl (fun ls hl => ?_)
                      refine lv_goto (tgt := 26) hx hb dX4_tellOfOwner_117 (by decide) ?_
                      exact ih26 (i4h26 + 1) (i3h26 + ((o (i4h26.toNatClampNeg + 7)) 2))  _ _ _ hF hP hD hS (lv_sub hl [0, 1, 3, 4, 5] rfl)
                · replace hF := (if_pos h10).symm.trans hF
                  refine lv_aload hx hb dX4_tellOfOwner_78 (lv_at hl 0 rfl) ?_
                  refine cV_i (As := []) (rest := []) hx hb hml hown hw hK hN hA hl.1 hP hD hS k_449 k_421 k_422 k_24 k_423 (met_X1_isPledged l D cy _ (cW cy ad en (va_up x k o)) (13 * k + (i4h26.toNatClampNeg + 7)) (ad k (i4h26.toNatClampNeg + 7)) (o (i4h26.toNatClampNeg + 7)) (gO (x := x) (r := (i4h26.toNatClampNeg + 7)) (o := o) (f := (o (i4h26.toNatClampNeg + 7))) hk hr5 rfl) (D_X1_isPledged (o (i4h26.toNatClampNeg + 7))) rfl) (fun _ _ _ => trivial) Xok_T (gO (x := x) (r := (i4h26.toNatClampNeg + 7)) (o := o) (f := (o (i4h26.toNatClampNeg + 7))) hk hr5 rfl) rfl ⟨rfl, rfl⟩ (n := 0) (by decide +kernel) rfl ⟨Nat.le_of_ble_eq_true rfl, Nat.le_of_ble_eq_true rfl⟩ ⟨Nat.le_of_ble_eq_true rfl, Nat.le_of_ble_eq_true rfl⟩ (Nat.le_of_ble_eq_true rfl) rfl dX4_tellOfOwner_80 (fun H locs hP hD hS => ?_)
                  refine lv_if_eq (tgt := 92) hx hb dX4_tellOfOwner_83 (by decide) (fun h16 => ?_) (fun h16 => ?_)
                  · replace hF := (if_pos h16).symm.trans hF
                    refine lv_iload_n hx hb dX4_tellOfOwner_92 rfl (lv_at hl 5 rfl) ?_
                    refine lv_iconst (v := 4) hx hb dX4_tellOfOwner_93 (by decide) ?_
                    refine lv_icmp_ne (tgt := 114) hx hb dX4_tellOfOwner_94 (by decide) (fun h17 => ?_) (fun h17 => ?_)
                    · replace hF := (if_neg h17).symm.trans hF
                      refine lv_iinc (v := (i4h26 + 1)) (lv' := [(4, .int (i4h26 + 1)), (5, .ref (ad k (i4h26.toNatClampNeg + 7))), (3, .int i3h26), (0, .ref (ad k 0)), (1, .int p1), (2, .int p2)]) hx hb dX4_tellOfOwner_114 hl (k := 1) rfl rfl (by decide) rfl (fun ls hl => ?_)
                      refine lv_goto (tgt := 26) hx hb dX4_tellOfOwner_117 (by decide) ?_
                      exact ih26 (i4h26 + 1) i3h26  _ _ _ hF hP hD hS (lv_sub hl [0, 2, 3, 4, 5] rfl)
                    · replace hF := (if_pos h17).symm.trans hF
                      refine lv_aload hx hb dX4_tellOfOwner_97 (lv_at hl 0 rfl) ?_
                      refine getN' (ci := 4) (fs := cF (o (i4h26.toNatClampNeg + 7))) (v := .int ((o (i4h26.toNatClampNeg + 7)) 3)) hx hb hw hN inWX1 hown hK hP (gO (x := x) (r := (i4h26.toNatClampNeg + 7)) (o := o) (f := (o (i4h26.toNatClampNeg + 7))) hk hr5 rfl) rfl 3 (by decide) n_97 rfl rfl dX4_tellOfOwner_99 ?_
                      refine lv_iload_n hx hb dX4_tellOfOwner_102 rfl (lv_at hl 4 rfl) ?_
                      refine lv_icmp_ne (tgt := 114) hx hb dX4_tellOfOwner_103 (by decide) (fun h18 => ?_) (fun h18 => ?_)
                      · replace hF := (if_neg h18).symm.trans hF
                        refine lv_iinc (v := (i4h26 + 1)) (lv' := [(4, .int (i4h26 + 1)), (5, .ref (ad k (i4h26.toNatClampNeg + 7))), (3, .int i3h26), (0, .ref (ad k 0)), (1, .int p1), (2, .int p2)]) hx hb dX4_tellOfOwner_114 hl (k := 1) rfl rfl (by decide) rfl (fun ls hl => ?_)
                        refine lv_goto (tgt := 26) hx hb dX4_tellOfOwner_117 (by decide) ?_
                        exact ih26 (i4h26 + 1) i3h26  _ _ _ hF hP hD hS (lv_sub hl [0, 2, 3, 4, 5] rfl)
                      · replace hF := (if_pos h18).symm.trans hF
                        refine lv_iload_n hx hb dX4_tellOfOwner_106 rfl (lv_at hl 2 rfl) ?_
                        refine lv_aload hx hb dX4_tellOfOwner_107 (lv_at hl 0 rfl) ?_
                        refine getN' (ci := 4) (fs := cF (o (i4h26.toNatClampNeg + 7))) (v := .int ((o (i4h26.toNatClampNeg + 7)) 2)) hx hb hw hN inWX1 hown hK hP (gO (x := x) (r := (i4h26.toNatClampNeg + 7)) (o := o) (f := (o (i4h26.toNatClampNeg + 7))) hk hr5 rfl) rfl 2 (by decide) n_94 rfl rfl dX4_tellOfOwner_109 ?_
                        refine lv_iadd hx hb dX4_tellOfOwner_112 ?_
                        refine lv_istore_n (lv' := [(3, .int (i3h26 + ((o (i4h26.toNatClampNeg + 7)) 2))), (5, .ref (ad k (i4h26.toNatClampNeg + 7))), (4, .int i4h26), (0, .ref (ad k 0)), (1, .int p1), (2, .int p2)]) hx hb dX4_tellOfOwner_113 rfl hl (by decide) rfl (fun ls hl => ?_)
                        refine lv_iinc (v := (i4h26 + 1)) (lv' := [(4, .int (i4h26 + 1)), (3, .int (i3h26 + ((o (i4h26.toNatClampNeg + 7)) 2))), (5, .ref (ad k (i4h26.toNatClampNeg + 7))), (0, .ref (ad k 0)), (1, .int p1), (2, .int p2)]) hx hb dX4_tellOfOwner_114 hl (k := 2) rfl rfl (by decide) rfl (fun ls hl => ?_)
                        refine lv_goto (tgt := 26) hx hb dX4_tellOfOwner_117 (by decide) ?_
                        exact ih26 (i4h26 + 1) (i3h26 + ((o (i4h26.toNatClampNeg + 7)) 2))  _ _ _ hF hP hD hS (lv_sub hl [0, 1, 3, 4, 5] rfl)
                  · replace hF := (if_neg h16).symm.trans hF
                    refine lv_iinc (v := (i3h26 + 1)) (lv' := [(3, .int (i3h26 + 1)), (5, .ref (ad k (i4h26.toNatClampNeg + 7))), (4, .int i4h26), (0, .ref (ad k 0)), (1, .int p1), (2, .int p2)]) hx hb dX4_tellOfOwner_86 hl (k := 2) rfl rfl (by decide) rfl (fun ls hl => ?_)
                    refine lv_goto (tgt := 114) hx hb dX4_tellOfOwner_89 (by decide) ?_
                    refine lv_iinc (v := (i4h26 + 1)) (lv' := [(4, .int (i4h26 + 1)), (3, .int (i3h26 + 1)), (5, .ref (ad k (i4h26.toNatClampNeg + 7))), (0, .ref (ad k 0)), (1, .int p1), (2, .int p2)]) hx hb dX4_tellOfOwner_114 hl (k := 2) rfl rfl (by decide) rfl (fun ls hl => ?_)
                    refine lv_goto (tgt := 26) hx hb dX4_tellOfOwner_117 (by decide) ?_
                    exact ih26 (i4h26 + 1) (i3h26 + 1)  _ _ _ hF hP hD hS (lv_sub hl [0, 1, 3, 4, 5] rfl)
            · replace hF := (if_pos h6).symm.trans hF
              refine lv_aload hx hb dX4_tellOfOwner_49 (lv_at hl 0 rfl) ?_
              refine getN' (ci := 4) (fs := cF (o (i4h26.toNatClampNeg + 7))) (v := .int ((o (i4h26.toNatClampNeg + 7)) 5)) hx hb hw hN inWX1 hown hK hP (gO (x := x) (r := (i4h26.toNatClampNeg + 7)) (o := o) (f := (o (i4h26.toNatClampNeg + 7))) hk hr5 rfl) rfl 5 (by decide) n_100 rfl rfl dX4_tellOfOwner_51 ?_
              refine lv_iload_n hx hb dX4_tellOfOwner_54 rfl (lv_at hl 4 rfl) ?_
              refine lv_icmp_ne (tgt := 64) hx hb dX4_tellOfOwner_55 (by decide) (fun h19 => ?_) (fun h19 => ?_)
              · replace hF := (if_neg h19).symm.trans hF
                refine lv_iload_n hx hb dX4_tellOfOwner_64 rfl (lv_at hl 5 rfl) ?_
                refine lv_iconst (v := 3) hx hb dX4_tellOfOwner_65 (by decide) ?_
                refine lv_icmp_ne (tgt := 92) hx hb dX4_tellOfOwner_66 (by decide) (fun h20 => ?_) (fun h20 => ?_)
                · replace hF := (if_neg h20).symm.trans hF
                  refine lv_iload_n hx hb dX4_tellOfOwner_92 rfl (lv_at hl 5 rfl) ?_
                  refine lv_iconst (v := 4) hx hb dX4_tellOfOwner_93 (by decide) ?_
                  refine lv_icmp_ne (tgt := 114) hx hb dX4_tellOfOwner_94 (by decide) (fun h21 => ?_) (fun h21 => ?_)
                  · replace hF := (if_neg h21).symm.trans hF
                    refine lv_iinc (v := (i4h26 + 1)) (lv' := [(4, .int (i4h26 + 1)), (5, .ref (ad k (i4h26.toNatClampNeg + 7))), (3, .int i3h26), (0, .ref (ad k 0)), (1, .int p1), (2, .int p2)]) hx hb dX4_tellOfOwner_114 hl (k := 1) rfl rfl (by decide) rfl (fun ls hl => ?_)
                    refine lv_goto (tgt := 26) hx hb dX4_tellOfOwner_117 (by decide) ?_
                    exact ih26 (i4h26 + 1) i3h26  _ _ _ hF hP hD hS (lv_sub hl [0, 2, 3, 4, 5] rfl)
                  · replace hF := (if_pos h21).symm.trans hF
                    refine lv_aload hx hb dX4_tellOfOwner_97 (lv_at hl 0 rfl) ?_
                    refine getN' (ci := 4) (fs := cF (o (i4h26.toNatClampNeg + 7))) (v := .int ((o (i4h26.toNatClampNeg + 7)) 3)) hx hb hw hN inWX1 hown hK hP (gO (x := x) (r := (i4h26.toNatClampNeg + 7)) (o := o) (f := (o (i4h26.toNatClampNeg + 7))) hk hr5 rfl) rfl 3 (by decide) n_97 rfl rfl dX4_tellOfOwner_99 ?_
                    refine lv_iload_n hx hb dX4_tellOfOwner_102 rfl (lv_at hl 4 rfl) ?_
                    refine lv_icmp_ne (tgt := 114) hx hb dX4_tellOfOwner_103 (by decide) (fun h22 => ?_) (fun h22 => ?_)
                    · replace hF := (if_neg h22).symm.trans hF
                      refine lv_iinc (v := (i4h26 + 1)) (lv' := [(4, .int (i4h26 + 1)), (5, .ref (ad k (i4h26.toNatClampNeg + 7))), (3, .int i3h26), (0, .ref (ad k 0)), (1, .int p1), (2, .int p2)]) hx hb dX4_tellOfOwner_114 hl (k := 1) rfl rfl (by decide) rfl (fun ls hl => ?_)
                      refine lv_goto (tgt := 26) hx hb dX4_tellOfOwner_117 (by decide) ?_
                      exact ih26 (i4h26 + 1) i3h26  _ _ _ hF hP hD hS (lv_sub hl [0, 2, 3, 4, 5] rfl)
                    · replace hF := (if_pos h22).symm.trans hF
                      refine lv_iload_n hx hb dX4_tellOfOwner_106 rfl (lv_at hl 2 rfl) ?_
                      refine lv_aload hx hb dX4_tellOfOwner_107 (lv_at hl 0 rfl) ?_
                      refine getN' (ci := 4) (fs := cF (o (i4h26.toNatClampNeg + 7))) (v := .int ((o (i4h26.toNatClampNeg + 7)) 2)) hx hb hw hN inWX1 hown hK hP (gO (x := x) (r := (i4h26.toNatClampNeg + 7)) (o := o) (f := (o (i4h26.toNatClampNeg + 7))) hk hr5 rfl) rfl 2 (by decide) n_94 rfl rfl dX4_tellOfOwner_109 ?_
                      refine lv_iadd hx hb dX4_tellOfOwner_112 ?_
                      refine lv_istore_n (lv' := [(3, .int (i3h26 + ((o (i4h26.toNatClampNeg + 7)) 2))), (5, .ref (ad k (i4h26.toNatClampNeg + 7))), (4, .int i4h26), (0, .ref (ad k 0)), (1, .int p1), (2, .int p2)]) hx hb dX4_tellOfOwner_113 rfl hl (by decide) rfl (fun ls hl => ?_)
                      refine lv_iinc (v := (i4h26 + 1)) (lv' := [(4, .int (i4h26 + 1)), (3, .int (i3h26 + ((o (i4h26.toNatClampNeg + 7)) 2))), (5, .ref (ad k (i4h26.toNatClampNeg + 7))), (0, .ref (ad k 0)), (1, .int p1), (2, .int p2)]) hx hb dX4_tellOfOwner_114 hl (k := 2) rfl rfl (by decide) rfl (fun ls hl => ?_)
                      refine lv_goto (tgt := 26) hx hb dX4_tellOfOwner_117 (by decide) ?_
                      exact ih26 (i4h26 + 1) (i3h26 + ((o (i4h26.toNatClampNeg + 7)) 2))  _ _ _ hF hP hD hS (lv_sub hl [0, 1, 3, 4, 5] rfl)
                · replace hF := (if_pos h20).symm.trans hF
                  refine lv_aload hx hb dX4_tellOfOwner_69 (lv_at hl 0 rfl) ?_
                  refine getN' (ci := 4) (fs := cF (o (i4h26.toNatClampNeg + 7))) (v := .int ((o (i4h26.toNatClampNeg + 7)) 3)) hx hb hw hN inWX1 hown hK hP (gO (x := x) (r := (i4h26.toNatClampNeg + 7)) (o := o) (f := (o (i4h26.toNatClampNeg + 7))) hk hr5 rfl) rfl 3 (by decide) n_97 rfl rfl dX4_tellOfOwner_71 ?_
                  refine lv_iload_n hx hb dX4_tellOfOwner_74 rfl (lv_at hl 4 rfl) ?_
                  refine lv_icmp_ne (tgt := 92) hx hb dX4_tellOfOwner_75 (by decide) (fun h23 => ?_) (fun h23 => ?_)
                  · replace hF := (if_neg h23).symm.trans hF
                    refine lv_iload_n hx hb dX4_tellOfOwner_92 rfl (lv_at hl 5 rfl) ?_
                    refine lv_iconst (v := 4) hx hb dX4_tellOfOwner_93 (by decide) ?_
                    refine lv_icmp_ne (tgt := 114) hx hb dX4_tellOfOwner_94 (by decide) (fun h24 => ?_) (fun h24 => ?_)
                    · replace hF := (if_neg h24).symm.trans hF
                      refine lv_iinc (v := (i4h26 + 1)) (lv' := [(4, .int (i4h26 + 1)), (5, .ref (ad k (i4h26.toNatClampNeg + 7))), (3, .int i3h26), (0, .ref (ad k 0)), (1, .int p1), (2, .int p2)]) hx hb dX4_tellOfOwner_114 hl (k := 1) rfl rfl (by decide) rfl (fun ls hl => ?_)
                      refine lv_goto (tgt := 26) hx hb dX4_tellOfOwner_117 (by decide) ?_
                      exact ih26 (i4h26 + 1) i3h26  _ _ _ hF hP hD hS (lv_sub hl [0, 2, 3, 4, 5] rfl)
                    · replace hF := (if_pos h24).symm.trans hF
                      refine lv_aload hx hb dX4_tellOfOwner_97 (lv_at hl 0 rfl) ?_
                      refine getN' (ci := 4) (fs := cF (o (i4h26.toNatClampNeg + 7))) (v := .int ((o (i4h26.toNatClampNeg + 7)) 3)) hx hb hw hN inWX1 hown hK hP (gO (x := x) (r := (i4h26.toNatClampNeg + 7)) (o := o) (f := (o (i4h26.toNatClampNeg + 7))) hk hr5 rfl) rfl 3 (by decide) n_97 rfl rfl dX4_tellOfOwner_99 ?_
                      refine lv_iload_n hx hb dX4_tellOfOwner_102 rfl (lv_at hl 4 rfl) ?_
                      refine lv_icmp_ne (tgt := 114) hx hb dX4_tellOfOwner_103 (by decide) (fun h25 => ?_) (fun h25 => ?_)
                      · replace hF := (if_neg h25).symm.trans hF
                        refine lv_iinc (v := (i4h26 + 1)) (lv' := [(4, .int (i4h26 + 1)), (5, .ref (ad k (i4h26.toNatClampNeg + 7))), (3, .int i3h26), (0, .ref (ad k 0)), (1, .int p1), (2, .int p2)]) hx hb dX4_tellOfOwner_114 hl (k := 1) rfl rfl (by decide) rfl (fun ls hl => ?_)
                        refine lv_goto (tgt := 26) hx hb dX4_tellOfOwner_117 (by decide) ?_
                        exact ih26 (i4h26 + 1) i3h26  _ _ _ hF hP hD hS (lv_sub hl [0, 2, 3, 4, 5] rfl)
                      · replace hF := (if_pos h25).symm.trans hF
                        refine lv_iload_n hx hb dX4_tellOfOwner_106 rfl (lv_at hl 2 rfl) ?_
                        refine lv_aload hx hb dX4_tellOfOwner_107 (lv_at hl 0 rfl) ?_
                        refine getN' (ci := 4) (fs := cF (o (i4h26.toNatClampNeg + 7))) (v := .int ((o (i4h26.toNatClampNeg + 7)) 2)) hx hb hw hN inWX1 hown hK hP (gO (x := x) (r := (i4h26.toNatClampNeg + 7)) (o := o) (f := (o (i4h26.toNatClampNeg + 7))) hk hr5 rfl) rfl 2 (by decide) n_94 rfl rfl dX4_tellOfOwner_109 ?_
                        refine lv_iadd hx hb dX4_tellOfOwner_112 ?_
                        refine lv_istore_n (lv' := [(3, .int (i3h26 + ((o (i4h26.toNatClampNeg + 7)) 2))), (5, .ref (ad k (i4h26.toNatClampNeg + 7))), (4, .int i4h26), (0, .ref (ad k 0)), (1, .int p1), (2, .int p2)]) hx hb dX4_tellOfOwner_113 rfl hl (by decide) rfl (fun ls hl => ?_)
                        refine lv_iinc (v := (i4h26 + 1)) (lv' := [(4, .int (i4h26 + 1)), (3, .int (i3h26 + ((o (i4h26.toNatClampNeg + 7)) 2))), (5, .ref (ad k (i4h26.toNatClampNeg + 7))), (0, .ref (ad k 0)), (1, .int p1), (2, .int p2)]) hx hb dX4_tellOfOwner_114 hl (k := 2) rfl rfl (by decide) rfl (fun ls hl => ?_)
                        refine lv_goto (tgt := 26) hx hb dX4_tellOfOwner_117 (by decide) ?_
                        exact ih26 (i4h26 + 1) (i3h26 + ((o (i4h26.toNatClampNeg + 7)) 2))  _ _ _ hF hP hD hS (lv_sub hl [0, 1, 3, 4, 5] rfl)
                  · replace hF := (if_pos h23).symm.trans hF
                    refine lv_aload hx hb dX4_tellOfOwner_78 (lv_at hl 0 rfl) ?_
                    refine cV_i (As := []) (rest := []) hx hb hml hown hw hK hN hA hl.1 hP hD hS k_449 k_421 k_422 k_24 k_423 (met_X1_isPledged l D cy _ (cW cy ad en (va_up x k o)) (13 * k + (i4h26.toNatClampNeg + 7)) (ad k (i4h26.toNatClampNeg + 7)) (o (i4h26.toNatClampNeg + 7)) (gO (x := x) (r := (i4h26.toNatClampNeg + 7)) (o := o) (f := (o (i4h26.toNatClampNeg + 7))) hk hr5 rfl) (D_X1_isPledged (o (i4h26.toNatClampNeg + 7))) rfl) (fun _ _ _ => trivial) Xok_T (gO (x := x) (r := (i4h26.toNatClampNeg + 7)) (o := o) (f := (o (i4h26.toNatClampNeg + 7))) hk hr5 rfl) rfl ⟨rfl, rfl⟩ (n := 0) (by decide +kernel) rfl ⟨Nat.le_of_ble_eq_true rfl, Nat.le_of_ble_eq_true rfl⟩ ⟨Nat.le_of_ble_eq_true rfl, Nat.le_of_ble_eq_true rfl⟩ (Nat.le_of_ble_eq_true rfl) rfl dX4_tellOfOwner_80 (fun H locs hP hD hS => ?_)
                    refine lv_if_eq (tgt := 92) hx hb dX4_tellOfOwner_83 (by decide) (fun h29 => ?_) (fun h29 => ?_)
                    · replace hF := (if_pos h29).symm.trans hF
                      refine lv_iload_n hx hb dX4_tellOfOwner_92 rfl (lv_at hl 5 rfl) ?_
                      refine lv_iconst (v := 4) hx hb dX4_tellOfOwner_93 (by decide) ?_
                      refine lv_icmp_ne (tgt := 114) hx hb dX4_tellOfOwner_94 (by decide) (fun h30 => ?_) (fun h30 => ?_)
                      · replace hF := (if_neg h30).symm.trans hF
                        refine lv_iinc (v := (i4h26 + 1)) (lv' := [(4, .int (i4h26 + 1)), (5, .ref (ad k (i4h26.toNatClampNeg + 7))), (3, .int i3h26), (0, .ref (ad k 0)), (1, .int p1), (2, .int p2)]) hx hb dX4_tellOfOwner_114 hl (k := 1) rfl rfl (by decide) rfl (fun ls hl => ?_)
                        refine lv_goto (tgt := 26) hx hb dX4_tellOfOwner_117 (by decide) ?_
                        exact ih26 (i4h26 + 1) i3h26  _ _ _ hF hP hD hS (lv_sub hl [0, 2, 3, 4, 5] rfl)
                      · replace hF := (if_pos h30).symm.trans hF
                        refine lv_aload hx hb dX4_tellOfOwner_97 (lv_at hl 0 rfl) ?_
                        refine getN' (ci := 4) (fs := cF (o (i4h26.toNatClampNeg + 7))) (v := .int ((o (i4h26.toNatClampNeg + 7)) 3)) hx hb hw hN inWX1 hown hK hP (gO (x := x) (r := (i4h26.toNatClampNeg + 7)) (o := o) (f := (o (i4h26.toNatClampNeg + 7))) hk hr5 rfl) rfl 3 (by decide) n_97 rfl rfl dX4_tellOfOwner_99 ?_
                        refine lv_iload_n hx hb dX4_tellOfOwner_102 rfl (lv_at hl 4 rfl) ?_
                        refine lv_icmp_ne (tgt := 114) hx hb dX4_tellOfOwner_103 (by decide) (fun h31 => ?_) (fun h31 => ?_)
                        · replace hF := (if_neg h31).symm.trans hF
                          refine lv_iinc (v := (i4h26 + 1)) (lv' := [(4, .int (i4h26 + 1)), (5, .ref (ad k (i4h26.toNatClampNeg + 7))), (3, .int i3h26), (0, .ref (ad k 0)), (1, .int p1), (2, .int p2)]) hx hb dX4_tellOfOwner_114 hl (k := 1) rfl rfl (by decide) rfl (fun ls hl => ?_)
                          refine lv_goto (tgt := 26) hx hb dX4_tellOfOwner_117 (by decide) ?_
                          exact ih26 (i4h26 + 1) i3h26  _ _ _ hF hP hD hS (lv_sub hl [0, 2, 3, 4, 5] rfl)
                        · replace hF := (if_pos h31).symm.trans hF
                          refine lv_iload_n hx hb dX4_tellOfOwner_106 rfl (lv_at hl 2 rfl) ?_
                          refine lv_aload hx hb dX4_tellOfOwner_107 (lv_at hl 0 rfl) ?_
                          refine getN' (ci := 4) (fs := cF (o (i4h26.toNatClampNeg + 7))) (v := .int ((o (i4h26.toNatClampNeg + 7)) 2)) hx hb hw hN inWX1 hown hK hP (gO (x := x) (r := (i4h26.toNatClampNeg + 7)) (o := o) (f := (o (i4h26.toNatClampNeg + 7))) hk hr5 rfl) rfl 2 (by decide) n_94 rfl rfl dX4_tellOfOwner_109 ?_
                          refine lv_iadd hx hb dX4_tellOfOwner_112 ?_
                          refine lv_istore_n (lv' := [(3, .int (i3h26 + ((o (i4h26.toNatClampNeg + 7)) 2))), (5, .ref (ad k (i4h26.toNatClampNeg + 7))), (4, .int i4h26), (0, .ref (ad k 0)), (1, .int p1), (2, .int p2)]) hx hb dX4_tellOfOwner_113 rfl hl (by decide) rfl (fun ls hl => ?_)
                          refine lv_iinc (v := (i4h26 + 1)) (lv' := [(4, .int (i4h26 + 1)), (3, .int (i3h26 + ((o (i4h26.toNatClampNeg + 7)) 2))), (5, .ref (ad k (i4h26.toNatClampNeg + 7))), (0, .ref (ad k 0)), (1, .int p1), (2, .int p2)]) hx hb dX4_tellOfOwner_114 hl (k := 2) rfl rfl (by decide) rfl (fun ls hl => ?_)
                          refine lv_goto (tgt := 26) hx hb dX4_tellOfOwner_117 (by decide) ?_
                          exact ih26 (i4h26 + 1) (i3h26 + ((o (i4h26.toNatClampNeg + 7)) 2))  _ _ _ hF hP hD hS (lv_sub hl [0, 1, 3, 4, 5] rfl)
                    · replace hF := (if_neg h29).symm.trans hF
                      refine lv_iinc (v := (i3h26 + 1)) (lv' := [(3, .int (i3h26 + 1)), (5, .ref (ad k (i4h26.toNatClampNeg + 7))), (4, .int i4h26), (0, .ref (ad k 0)), (1, .int p1), (2, .int p2)]) hx hb dX4_tellOfOwner_86 hl (k := 2) rfl rfl (by decide) rfl (fun ls hl => ?_)
                      refine lv_goto (tgt := 114) hx hb dX4_tellOfOwner_89 (by decide) ?_
                      refine lv_iinc (v := (i4h26 + 1)) (lv' := [(4, .int (i4h26 + 1)), (3, .int (i3h26 + 1)), (5, .ref (ad k (i4h26.toNatClampNeg + 7))), (0, .ref (ad k 0)), (1, .int p1), (2, .int p2)]) hx hb dX4_tellOfOwner_114 hl (k := 2) rfl rfl (by decide) rfl (fun ls hl => ?_)
                      refine lv_goto (tgt := 26) hx hb dX4_tellOfOwner_117 (by decide) ?_
                      exact ih26 (i4h26 + 1) (i3h26 + 1)  _ _ _ hF hP hD hS (lv_sub hl [0, 1, 3, 4, 5] rfl)
              · replace hF := (if_pos h19).symm.trans hF
                refine lv_iinc (v := (i3h26 + 1)) (lv' := [(3, .int (i3h26 + 1)), (5, .ref (ad k (i4h26.toNatClampNeg + 7))), (4, .int i4h26), (0, .ref (ad k 0)), (1, .int p1), (2, .int p2)]) hx hb dX4_tellOfOwner_58 hl (k := 2) rfl rfl (by decide) rfl (fun ls hl => ?_)
                refine lv_goto (tgt := 114) hx hb dX4_tellOfOwner_61 (by decide) ?_
                refine lv_iinc (v := (i4h26 + 1)) (lv' := [(4, .int (i4h26 + 1)), (3, .int (i3h26 + 1)), (5, .ref (ad k (i4h26.toNatClampNeg + 7))), (0, .ref (ad k 0)), (1, .int p1), (2, .int p2)]) hx hb dX4_tellOfOwner_114 hl (k := 2) rfl rfl (by decide) rfl (fun ls hl => ?_)
                refine lv_goto (tgt := 26) hx hb dX4_tellOfOwner_117 (by decide) ?_
                exact ih26 (i4h26 + 1) (i3h26 + 1)  _ _ _ hF hP hD hS (lv_sub hl [0, 1, 3, 4, 5] rfl)
      exact loop26 200 0 0  _ _ _ hF hP hD hS (lv_sub hl [0, 1, 2, 3, 4] rfl)
    · replace hF := (if_pos h2).symm.trans hF
      refine lv_aload_n hx hb dX4_tellOfOwner_15 rfl (lv_at hl 0 rfl) ?_
      refine lv_iload_n hx hb dX4_tellOfOwner_16 rfl (lv_at hl 1 rfl) ?_
      obtain ⟨r32, hc34, hF⟩ := bind_some hF
      try dsimp only at hF
      refine cV_i (As := [.int p1]) (rest := []) hx hb hml hown hw hK hN hA hl.1 hP hD hS k_445 k_447 k_2 k_22 k_448 (met_X4_vineyardsBelongingTo l D cy _ ad en x k hk o p1 r32 hc34) (fun _ _ _ => trivial) Xok_T (gO (x := x) (r := 0) (o := o) (f := (o 0)) hk (by decide) rfl) rfl ⟨rfl, rfl⟩ (n := 1) (by decide +kernel) rfl ⟨Nat.le_of_ble_eq_true rfl, Nat.le_of_ble_eq_true rfl⟩ ⟨Nat.le_of_ble_eq_true rfl, Nat.le_of_ble_eq_true rfl⟩ (Nat.le_of_ble_eq_true rfl) rfl dX4_tellOfOwner_17 (fun H locs hP hD hS => ?_)
      cases hF
      exact hret _ _ _ _ _ _ hP hD hS rfl rfl dX4_tellOfOwner_20
  · replace hF := (if_pos h1).symm.trans hF
    refine lv_aload_n hx hb dX4_tellOfOwner_4 rfl (lv_at hl 0 rfl) ?_
    refine lv_iload_n hx hb dX4_tellOfOwner_5 rfl (lv_at hl 1 rfl) ?_
    obtain ⟨r35, hc37, hF⟩ := bind_some hF
    try dsimp only at hF
    refine cV_i (As := [.int p1]) (rest := []) hx hb hml hown hw hK hN hA hl.1 hP hD hS k_440 k_442 k_1 k_22 k_443 (met_X4_purseOf l D cy _ ad en x k hk o p1 r35 hc37) (fun _ _ _ => trivial) Xok_T (gO (x := x) (r := 0) (o := o) (f := (o 0)) hk (by decide) rfl) rfl ⟨rfl, rfl⟩ (n := 1) (by decide +kernel) rfl ⟨Nat.le_of_ble_eq_true rfl, Nat.le_of_ble_eq_true rfl⟩ ⟨Nat.le_of_ble_eq_true rfl, Nat.le_of_ble_eq_true rfl⟩ (Nat.le_of_ble_eq_true rfl) rfl dX4_tellOfOwner_6 (fun H locs hP hD hS => ?_)
    cases hF
    exact hret _ _ _ _ _ _ hP hD hS rfl rfl dX4_tellOfOwner_9
def D_X4_isCloudAhead (o : Nat → Nat → Int32) (p1 : Int32) (p2 : Int32) : Option (Int32) := if (D_X4_hasCloud o p1) = 0 then (some 0) else (if (D_X4_hasCloud o p2) = 0 then (some 0) else (if inb p1 6 then (if inb p2 6 then (if (D_X1_isAheadOf (o (p1.toNatClampNeg + 7)) (o (p2.toNatClampNeg + 7))) = 0 then (if p2 ≤ p1 then (some 0) else (if inb p2 6 then (if inb p1 6 then (if (D_X1_isAheadOf (o (p2.toNatClampNeg + 7)) (o (p1.toNatClampNeg + 7))) = 0 then (some 1) else (some 0)) else none) else none)) else (some 1)) else none) else none))
abbrev rm_X4_isCloudAhead : Room := { frames := 2, cells := 0, slots := 0, locals := 42 }
set_option maxHeartbeats 4000000 in
set_option maxRecDepth 100000 in
theorem met_X4_isCloudAhead (l : Launch) (D : va_G) (cy : Nat → ClassId) (sz : Nat) (ad : Nat → Nat → Nat) (en : Nat → Nat) (x : Mem) (k : Nat) (hk : k < 12) (o : Nat → Nat → Int32) (p1 : Int32) (p2 : Int32)  (r : Int32) (hF : D_X4_isCloudAhead o p1 p2 = some r) : MI l yX4_isCloudAhead cX4_isCloudAhead 3 (some .boolean) rm_X4_isCloudAhead D cy (cW cy ad en (va_up x k o)) sz (fun _ => True) [.ref (ad k 0), .int p1, .int p2] r (cW cy ad en (va_up x k o)) := by
  refine MZ.of (by decide +kernel) (Nat.le_of_ble_eq_true rfl) ?_
  intro p e s m args below meth c A ls Q hAt _ hP hD hA hS hl hret
  obtain ⟨hx, hb, hr, hml, hown, hw, hlk, hK, hN⟩ := hAt
  have hown : s.vm.findClass "CloudDeeds$Office" = some m.cls := hown
  have hl : lv_has ls 3 [(0, .ref (ad k 0)), (1, .int p1), (2, .int p2)] := hl
  refine lv_aload_n hx hb dX4_isCloudAhead_0 rfl (lv_at hl 0 rfl) ?_
  refine lv_iload_n hx hb dX4_isCloudAhead_1 rfl (lv_at hl 1 rfl) ?_
  refine cV_i (As := [.int p1]) (rest := []) hx hb hml hown hw hK hN hA hl.1 hP hD hS k_653 k_320 k_321 k_22 k_322 (met_X4_hasCloud l D cy _ ad en x k hk o p1 (D_X4_hasCloud o p1) rfl) (fun _ _ _ => trivial) Xok_T (gO (x := x) (r := 0) (o := o) (f := (o 0)) hk (by decide) rfl) rfl ⟨rfl, rfl⟩ (n := 1) (by decide +kernel) rfl ⟨Nat.le_of_ble_eq_true rfl, Nat.le_of_ble_eq_true rfl⟩ ⟨Nat.le_of_ble_eq_true rfl, Nat.le_of_ble_eq_true rfl⟩ (Nat.le_of_ble_eq_true rfl) rfl dX4_isCloudAhead_2 (fun H locs hP hD hS => ?_)
  refine lv_if_eq (tgt := 16) hx hb dX4_isCloudAhead_5 (by decide) (fun h4 => ?_) (fun h4 => ?_)
  · replace hF := (if_pos h4).symm.trans hF
    refine lv_iconst (v := 0) hx hb dX4_isCloudAhead_16 (by decide) ?_
    cases hF
    exact hret _ _ _ _ _ _ hP hD hS rfl rfl rfl dX4_isCloudAhead_17
  · replace hF := (if_neg h4).symm.trans hF
    refine lv_aload_n hx hb dX4_isCloudAhead_8 rfl (lv_at hl 0 rfl) ?_
    refine lv_iload_n hx hb dX4_isCloudAhead_9 rfl (lv_at hl 2 rfl) ?_
    refine cV_i (As := [.int p2]) (rest := []) hx hb hml hown hw hK hN hA hl.1 hP hD hS k_653 k_320 k_321 k_22 k_322 (met_X4_hasCloud l D cy _ ad en x k hk o p2 (D_X4_hasCloud o p2) rfl) (fun _ _ _ => trivial) Xok_T (gO (x := x) (r := 0) (o := o) (f := (o 0)) hk (by decide) rfl) rfl ⟨rfl, rfl⟩ (n := 1) (by decide +kernel) rfl ⟨Nat.le_of_ble_eq_true rfl, Nat.le_of_ble_eq_true rfl⟩ ⟨Nat.le_of_ble_eq_true rfl, Nat.le_of_ble_eq_true rfl⟩ (Nat.le_of_ble_eq_true rfl) rfl dX4_isCloudAhead_10 (fun H locs hP hD hS => ?_)
    refine lv_if_ne (tgt := 18) hx hb dX4_isCloudAhead_13 (by decide) (fun h8 => ?_) (fun h8 => ?_)
    · replace hF := (if_neg h8).symm.trans hF
      refine lv_aload_n hx hb dX4_isCloudAhead_18 rfl (lv_at hl 0 rfl) ?_
      refine get' (ci := 6) (fs := oF (ad k) (o 0)) (v := .ref (ad k 1)) hx hb hw inWX4 hown hK hP (gO (x := x) (r := 0) (o := o) (f := (o 0)) hk (by decide) rfl) rfl 0 (by decide) k_117 rfl rfl dX4_isCloudAhead_19 ?_
      refine lv_iload_n hx hb dX4_isCloudAhead_22 rfl (lv_at hl 1 rfl) ?_
      obtain ⟨h9, hF⟩ := ite_some hF
      have hr10 : (p1.toNatClampNeg + 7) < 13 := Nat.add_lt_add_right (inb_lt h9) 7
      refine aald' (n := 6) (g := (ad k (p1.toNatClampNeg + 7))) hx hb hK hP (gO (x := x) (r := 1) (o := o) (f := (o 1)) hk (by decide) rfl) (t0 := 3) rfl (vp_inb h9) rfl dX4_isCloudAhead_23 ?_
      refine lv_aload_n hx hb dX4_isCloudAhead_24 rfl (lv_at hl 0 rfl) ?_
      refine get' (ci := 6) (fs := oF (ad k) (o 0)) (v := .ref (ad k 1)) hx hb hw inWX4 hown hK hP (gO (x := x) (r := 0) (o := o) (f := (o 0)) hk (by decide) rfl) rfl 0 (by decide) k_117 rfl rfl dX4_isCloudAhead_25 ?_
      refine lv_iload_n hx hb dX4_isCloudAhead_28 rfl (lv_at hl 2 rfl) ?_
      obtain ⟨h11, hF⟩ := ite_some hF
      have hr12 : (p2.toNatClampNeg + 7) < 13 := Nat.add_lt_add_right (inb_lt h11) 7
      refine aald' (n := 6) (g := (ad k (p2.toNatClampNeg + 7))) hx hb hK hP (gO (x := x) (r := 1) (o := o) (f := (o 1)) hk (by decide) rfl) (t0 := 3) rfl (vp_inb h11) rfl dX4_isCloudAhead_29 ?_
      refine cV_i (As := [.ref (ad k (p2.toNatClampNeg + 7))]) (rest := []) hx hb hml hown hw hK hN hA hl.1 hP hD hS k_654 k_655 k_656 k_24 k_657 (met_X1_isAheadOf l D cy _ (cW cy ad en (va_up x k o)) (13 * k + (p1.toNatClampNeg + 7)) (ad k (p1.toNatClampNeg + 7)) (o (p1.toNatClampNeg + 7)) (13 * k + (p2.toNatClampNeg + 7)) (ad k (p2.toNatClampNeg + 7)) (o (p2.toNatClampNeg + 7)) (gO (x := x) (r := (p1.toNatClampNeg + 7)) (o := o) (f := (o (p1.toNatClampNeg + 7))) hk hr10 rfl) (gO (x := x) (r := (p2.toNatClampNeg + 7)) (o := o) (f := (o (p2.toNatClampNeg + 7))) hk hr12 rfl) (D_X1_isAheadOf (o (p1.toNatClampNeg + 7)) (o (p2.toNatClampNeg + 7))) rfl) (fun _ _ _ => trivial) Xok_T (gO (x := x) (r := (p1.toNatClampNeg + 7)) (o := o) (f := (o (p1.toNatClampNeg + 7))) hk hr10 rfl) rfl ⟨rfl, rfl⟩ (n := 1) (by decide +kernel) rfl ⟨Nat.le_of_ble_eq_true rfl, Nat.le_of_ble_eq_true rfl⟩ ⟨Nat.le_of_ble_eq_true rfl, Nat.le_of_ble_eq_true rfl⟩ (Nat.le_of_ble_eq_true rfl) rfl dX4_isCloudAhead_30 (fun H locs hP hD hS => ?_)
      refine lv_if_eq (tgt := 38) hx hb dX4_isCloudAhead_33 (by decide) (fun h16 => ?_) (fun h16 => ?_)
      · replace hF := (if_pos h16).symm.trans hF
        refine lv_iload_n hx hb dX4_isCloudAhead_38 rfl (lv_at hl 1 rfl) ?_
        refine lv_iload_n hx hb dX4_isCloudAhead_39 rfl (lv_at hl 2 rfl) ?_
        refine lv_icmp_ge (tgt := 65) hx hb dX4_isCloudAhead_40 (by decide) (fun h17 => ?_) (fun h17 => ?_)
        · replace hF := (if_pos h17).symm.trans hF
          refine lv_iconst (v := 0) hx hb dX4_isCloudAhead_65 (by decide) ?_
          cases hF
          exact hret _ _ _ _ _ _ hP hD hS rfl rfl rfl dX4_isCloudAhead_66
        · replace hF := (if_neg h17).symm.trans hF
          refine lv_aload_n hx hb dX4_isCloudAhead_43 rfl (lv_at hl 0 rfl) ?_
          refine get' (ci := 6) (fs := oF (ad k) (o 0)) (v := .ref (ad k 1)) hx hb hw inWX4 hown hK hP (gO (x := x) (r := 0) (o := o) (f := (o 0)) hk (by decide) rfl) rfl 0 (by decide) k_117 rfl rfl dX4_isCloudAhead_44 ?_
          refine lv_iload_n hx hb dX4_isCloudAhead_47 rfl (lv_at hl 2 rfl) ?_
          obtain ⟨h18, hF⟩ := ite_some hF
          have hr19 : (p2.toNatClampNeg + 7) < 13 := Nat.add_lt_add_right (inb_lt h18) 7
          refine aald' (n := 6) (g := (ad k (p2.toNatClampNeg + 7))) hx hb hK hP (gO (x := x) (r := 1) (o := o) (f := (o 1)) hk (by decide) rfl) (t0 := 3) rfl (vp_inb h18) rfl dX4_isCloudAhead_48 ?_
          refine lv_aload_n hx hb dX4_isCloudAhead_49 rfl (lv_at hl 0 rfl) ?_
          refine get' (ci := 6) (fs := oF (ad k) (o 0)) (v := .ref (ad k 1)) hx hb hw inWX4 hown hK hP (gO (x := x) (r := 0) (o := o) (f := (o 0)) hk (by decide) rfl) rfl 0 (by decide) k_117 rfl rfl dX4_isCloudAhead_50 ?_
          refine lv_iload_n hx hb dX4_isCloudAhead_53 rfl (lv_at hl 1 rfl) ?_
          obtain ⟨h20, hF⟩ := ite_some hF
          have hr21 : (p1.toNatClampNeg + 7) < 13 := Nat.add_lt_add_right (inb_lt h20) 7
          refine aald' (n := 6) (g := (ad k (p1.toNatClampNeg + 7))) hx hb hK hP (gO (x := x) (r := 1) (o := o) (f := (o 1)) hk (by decide) rfl) (t0 := 3) rfl (vp_inb h20) rfl dX4_isCloudAhead_54 ?_
          refine cV_i (As := [.ref (ad k (p1.toNatClampNeg + 7))]) (rest := []) hx hb hml hown hw hK hN hA hl.1 hP hD hS k_654 k_655 k_656 k_24 k_657 (met_X1_isAheadOf l D cy _ (cW cy ad en (va_up x k o)) (13 * k + (p2.toNatClampNeg + 7)) (ad k (p2.toNatClampNeg + 7)) (o (p2.toNatClampNeg + 7)) (13 * k + (p1.toNatClampNeg + 7)) (ad k (p1.toNatClampNeg + 7)) (o (p1.toNatClampNeg + 7)) (gO (x := x) (r := (p2.toNatClampNeg + 7)) (o := o) (f := (o (p2.toNatClampNeg + 7))) hk hr19 rfl) (gO (x := x) (r := (p1.toNatClampNeg + 7)) (o := o) (f := (o (p1.toNatClampNeg + 7))) hk hr21 rfl) (D_X1_isAheadOf (o (p2.toNatClampNeg + 7)) (o (p1.toNatClampNeg + 7))) rfl) (fun _ _ _ => trivial) Xok_T (gO (x := x) (r := (p2.toNatClampNeg + 7)) (o := o) (f := (o (p2.toNatClampNeg + 7))) hk hr19 rfl) rfl ⟨rfl, rfl⟩ (n := 1) (by decide +kernel) rfl ⟨Nat.le_of_ble_eq_true rfl, Nat.le_of_ble_eq_true rfl⟩ ⟨Nat.le_of_ble_eq_true rfl, Nat.le_of_ble_eq_true rfl⟩ (Nat.le_of_ble_eq_true rfl) rfl dX4_isCloudAhead_55 (fun H locs hP hD hS => ?_)
          refine lv_if_ne (tgt := 65) hx hb dX4_isCloudAhead_58 (by decide) (fun h25 => ?_) (fun h25 => ?_)
          · replace hF := (if_neg h25).symm.trans hF
            refine lv_iconst (v := 0) hx hb dX4_isCloudAhead_65 (by decide) ?_
            cases hF
            exact hret _ _ _ _ _ _ hP hD hS rfl rfl rfl dX4_isCloudAhead_66
          · replace hF := (if_pos h25).symm.trans hF
            refine lv_iconst (v := 1) hx hb dX4_isCloudAhead_61 (by decide) ?_
            refine lv_goto (tgt := 66) hx hb dX4_isCloudAhead_62 (by decide) ?_
            cases hF
            exact hret _ _ _ _ _ _ hP hD hS rfl rfl rfl dX4_isCloudAhead_66
      · replace hF := (if_neg h16).symm.trans hF
        refine lv_iconst (v := 1) hx hb dX4_isCloudAhead_36 (by decide) ?_
        cases hF
        exact hret _ _ _ _ _ _ hP hD hS rfl rfl rfl dX4_isCloudAhead_37
    · replace hF := (if_pos h8).symm.trans hF
      refine lv_iconst (v := 0) hx hb dX4_isCloudAhead_16 (by decide) ?_
      cases hF
      exact hret _ _ _ _ _ _ hP hD hS rfl rfl rfl dX4_isCloudAhead_17
def D_X4_isOwnerAhead (o : Nat → Nat → Int32) (p1 : Int32) (p2 : Int32) : Option (Int32) := (D_X4_cloudsCounted o p1).bind (fun r1 => (D_X4_cloudsCounted o p2).bind (fun r4 => if (r1 - r4) = 0 then ((D_X4_purseOf o p1).bind (fun r8 => (D_X4_purseOf o p2).bind (fun r11 => if r8 = r11 then (if p2 ≤ p1 then (some 0) else (some 1)) else ((D_X4_purseOf o p1).bind (fun r16 => (D_X4_purseOf o p2).bind (fun r19 => if r16 ≤ r19 then (some 0) else (some 1))))))) else (if (r1 - r4) ≤ 0 then (some 0) else (some 1))))
abbrev rm_X4_isOwnerAhead : Room := { frames := 2, cells := 0, slots := 0, locals := 41 }
set_option maxHeartbeats 4000000 in
set_option maxRecDepth 100000 in
theorem met_X4_isOwnerAhead (l : Launch) (D : va_G) (cy : Nat → ClassId) (sz : Nat) (ad : Nat → Nat → Nat) (en : Nat → Nat) (x : Mem) (k : Nat) (hk : k < 12) (o : Nat → Nat → Int32) (p1 : Int32) (p2 : Int32)  (r : Int32) (hF : D_X4_isOwnerAhead o p1 p2 = some r) : MI l yX4_isOwnerAhead cX4_isOwnerAhead 4 (some .boolean) rm_X4_isOwnerAhead D cy (cW cy ad en (va_up x k o)) sz (fun _ => True) [.ref (ad k 0), .int p1, .int p2] r (cW cy ad en (va_up x k o)) := by
  refine MZ.of (by decide +kernel) (Nat.le_of_ble_eq_true rfl) ?_
  intro p e s m args below meth c A ls Q hAt _ hP hD hA hS hl hret
  obtain ⟨hx, hb, hr, hml, hown, hw, hlk, hK, hN⟩ := hAt
  have hown : s.vm.findClass "CloudDeeds$Office" = some m.cls := hown
  have hl : lv_has ls 4 [(0, .ref (ad k 0)), (1, .int p1), (2, .int p2)] := hl
  refine lv_aload_n hx hb dX4_isOwnerAhead_0 rfl (lv_at hl 0 rfl) ?_
  refine lv_iload_n hx hb dX4_isOwnerAhead_1 rfl (lv_at hl 1 rfl) ?_
  obtain ⟨r1, hc3, hF⟩ := bind_some hF
  try dsimp only at hF
  refine cV_i (As := [.int p1]) (rest := []) hx hb hml hown hw hK hN hA hl.1 hP hD hS k_480 k_469 k_470 k_22 k_471 (met_X4_cloudsCounted l D cy _ ad en x k hk o p1 r1 hc3) (fun _ _ _ => trivial) Xok_T (gO (x := x) (r := 0) (o := o) (f := (o 0)) hk (by decide) rfl) rfl ⟨rfl, rfl⟩ (n := 1) (by decide +kernel) rfl ⟨Nat.le_of_ble_eq_true rfl, Nat.le_of_ble_eq_true rfl⟩ ⟨Nat.le_of_ble_eq_true rfl, Nat.le_of_ble_eq_true rfl⟩ (Nat.le_of_ble_eq_true rfl) rfl dX4_isOwnerAhead_2 (fun H locs hP hD hS => ?_)
  refine lv_aload_n hx hb dX4_isOwnerAhead_5 rfl (lv_at hl 0 rfl) ?_
  refine lv_iload_n hx hb dX4_isOwnerAhead_6 rfl (lv_at hl 2 rfl) ?_
  obtain ⟨r4, hc6, hF⟩ := bind_some hF
  try dsimp only at hF
  refine cV_i (As := [.int p2]) (rest := [.int r1]) hx hb hml hown hw hK hN hA hl.1 hP hD hS k_480 k_469 k_470 k_22 k_471 (met_X4_cloudsCounted l D cy _ ad en x k hk o p2 r4 hc6) (fun _ _ _ => trivial) Xok_T (gO (x := x) (r := 0) (o := o) (f := (o 0)) hk (by decide) rfl) rfl ⟨rfl, rfl⟩ (n := 1) (by decide +kernel) rfl ⟨Nat.le_of_ble_eq_true rfl, Nat.le_of_ble_eq_true rfl⟩ ⟨Nat.le_of_ble_eq_true rfl, Nat.le_of_ble_eq_true rfl⟩ (Nat.le_of_ble_eq_true rfl) rfl dX4_isOwnerAhead_7 (fun H locs hP hD hS => ?_)
  refine lv_isub hx hb dX4_isOwnerAhead_10 ?_
  refine lv_istore_n (lv' := [(3, .int (r1 - r4)), (0, .ref (ad k 0)), (1, .int p1), (2, .int p2)]) hx hb dX4_isOwnerAhead_11 rfl hl (by decide) rfl (fun ls hl => ?_)
  refine lv_iload_n hx hb dX4_isOwnerAhead_12 rfl (lv_at hl 0 rfl) ?_
  refine lv_if_eq (tgt := 26) hx hb dX4_isOwnerAhead_13 (by decide) (fun h7 => ?_) (fun h7 => ?_)
  · replace hF := (if_pos h7).symm.trans hF
    refine lv_aload_n hx hb dX4_isOwnerAhead_26 rfl (lv_at hl 1 rfl) ?_
    refine lv_iload_n hx hb dX4_isOwnerAhead_27 rfl (lv_at hl 2 rfl) ?_
    obtain ⟨r8, hc10, hF⟩ := bind_some hF
    try dsimp only at hF
    refine cV_i (As := [.int p1]) (rest := []) hx hb hml hown hw hK hN hA hl.1 hP hD hS k_440 k_442 k_1 k_22 k_443 (met_X4_purseOf l D cy _ ad en x k hk o p1 r8 hc10) (fun _ _ _ => trivial) Xok_T (gO (x := x) (r := 0) (o := o) (f := (o 0)) hk (by decide) rfl) rfl ⟨rfl, rfl⟩ (n := 1) (by decide +kernel) rfl ⟨Nat.le_of_ble_eq_true rfl, Nat.le_of_ble_eq_true rfl⟩ ⟨Nat.le_of_ble_eq_true rfl, Nat.le_of_ble_eq_true rfl⟩ (Nat.le_of_ble_eq_true rfl) rfl dX4_isOwnerAhead_28 (fun H locs hP hD hS => ?_)
    refine lv_aload_n hx hb dX4_isOwnerAhead_31 rfl (lv_at hl 1 rfl) ?_
    refine lv_iload_n hx hb dX4_isOwnerAhead_32 rfl (lv_at hl 3 rfl) ?_
    obtain ⟨r11, hc13, hF⟩ := bind_some hF
    try dsimp only at hF
    refine cV_i (As := [.int p2]) (rest := [.int r8]) hx hb hml hown hw hK hN hA hl.1 hP hD hS k_440 k_442 k_1 k_22 k_443 (met_X4_purseOf l D cy _ ad en x k hk o p2 r11 hc13) (fun _ _ _ => trivial) Xok_T (gO (x := x) (r := 0) (o := o) (f := (o 0)) hk (by decide) rfl) rfl ⟨rfl, rfl⟩ (n := 1) (by decide +kernel) rfl ⟨Nat.le_of_ble_eq_true rfl, Nat.le_of_ble_eq_true rfl⟩ ⟨Nat.le_of_ble_eq_true rfl, Nat.le_of_ble_eq_true rfl⟩ (Nat.le_of_ble_eq_true rfl) rfl dX4_isOwnerAhead_33 (fun H locs hP hD hS => ?_)
    refine lv_icmp_eq (tgt := 58) hx hb dX4_isOwnerAhead_36 (by decide) (fun h14 => ?_) (fun h14 => ?_)
    · replace hF := (if_pos h14).symm.trans hF
      refine lv_iload_n hx hb dX4_isOwnerAhead_58 rfl (lv_at hl 2 rfl) ?_
      refine lv_iload_n hx hb dX4_isOwnerAhead_59 rfl (lv_at hl 3 rfl) ?_
      refine lv_icmp_ge (tgt := 67) hx hb dX4_isOwnerAhead_60 (by decide) (fun h15 => ?_) (fun h15 => ?_)
      · replace hF := (if_pos h15).symm.trans hF
        refine lv_iconst (v := 0) hx hb dX4_isOwnerAhead_67 (by decide) ?_
        cases hF
        exact hret _ _ _ _ _ _ hP hD hS rfl rfl rfl dX4_isOwnerAhead_68
      · replace hF := (if_neg h15).symm.trans hF
        refine lv_iconst (v := 1) hx hb dX4_isOwnerAhead_63 (by decide) ?_
        refine lv_goto (tgt := 68) hx hb dX4_isOwnerAhead_64 (by decide) ?_
        cases hF
        exact hret _ _ _ _ _ _ hP hD hS rfl rfl rfl dX4_isOwnerAhead_68
    · replace hF := (if_neg h14).symm.trans hF
      refine lv_aload_n hx hb dX4_isOwnerAhead_39 rfl (lv_at hl 1 rfl) ?_
      refine lv_iload_n hx hb dX4_isOwnerAhead_40 rfl (lv_at hl 2 rfl) ?_
      obtain ⟨r16, hc18, hF⟩ := bind_some hF
      try dsimp only at hF
      refine cV_i (As := [.int p1]) (rest := []) hx hb hml hown hw hK hN hA hl.1 hP hD hS k_440 k_442 k_1 k_22 k_443 (met_X4_purseOf l D cy _ ad en x k hk o p1 r16 hc18) (fun _ _ _ => trivial) Xok_T (gO (x := x) (r := 0) (o := o) (f := (o 0)) hk (by decide) rfl) rfl ⟨rfl, rfl⟩ (n := 1) (by decide +kernel) rfl ⟨Nat.le_of_ble_eq_true rfl, Nat.le_of_ble_eq_true rfl⟩ ⟨Nat.le_of_ble_eq_true rfl, Nat.le_of_ble_eq_true rfl⟩ (Nat.le_of_ble_eq_true rfl) rfl dX4_isOwnerAhead_41 (fun H locs hP hD hS => ?_)
      refine lv_aload_n hx hb dX4_isOwnerAhead_44 rfl (lv_at hl 1 rfl) ?_
      refine lv_iload_n hx hb dX4_isOwnerAhead_45 rfl (lv_at hl 3 rfl) ?_
      obtain ⟨r19, hc21, hF⟩ := bind_some hF
      try dsimp only at hF
      refine cV_i (As := [.int p2]) (rest := [.int r16]) hx hb hml hown hw hK hN hA hl.1 hP hD hS k_440 k_442 k_1 k_22 k_443 (met_X4_purseOf l D cy _ ad en x k hk o p2 r19 hc21) (fun _ _ _ => trivial) Xok_T (gO (x := x) (r := 0) (o := o) (f := (o 0)) hk (by decide) rfl) rfl ⟨rfl, rfl⟩ (n := 1) (by decide +kernel) rfl ⟨Nat.le_of_ble_eq_true rfl, Nat.le_of_ble_eq_true rfl⟩ ⟨Nat.le_of_ble_eq_true rfl, Nat.le_of_ble_eq_true rfl⟩ (Nat.le_of_ble_eq_true rfl) rfl dX4_isOwnerAhead_46 (fun H locs hP hD hS => ?_)
      refine lv_icmp_le (tgt := 56) hx hb dX4_isOwnerAhead_49 (by decide) (fun h22 => ?_) (fun h22 => ?_)
      · replace hF := (if_pos h22).symm.trans hF
        refine lv_iconst (v := 0) hx hb dX4_isOwnerAhead_56 (by decide) ?_
        cases hF
        exact hret _ _ _ _ _ _ hP hD hS rfl rfl rfl dX4_isOwnerAhead_57
      · replace hF := (if_neg h22).symm.trans hF
        refine lv_iconst (v := 1) hx hb dX4_isOwnerAhead_52 (by decide) ?_
        refine lv_goto (tgt := 57) hx hb dX4_isOwnerAhead_53 (by decide) ?_
        cases hF
        exact hret _ _ _ _ _ _ hP hD hS rfl rfl rfl dX4_isOwnerAhead_57
  · replace hF := (if_neg h7).symm.trans hF
    refine lv_iload_n hx hb dX4_isOwnerAhead_16 rfl (lv_at hl 0 rfl) ?_
    refine lv_if_le (tgt := 24) hx hb dX4_isOwnerAhead_17 (by decide) (fun h23 => ?_) (fun h23 => ?_)
    · replace hF := (if_pos h23).symm.trans hF
      refine lv_iconst (v := 0) hx hb dX4_isOwnerAhead_24 (by decide) ?_
      cases hF
      exact hret _ _ _ _ _ _ hP hD hS rfl rfl rfl dX4_isOwnerAhead_25
    · replace hF := (if_neg h23).symm.trans hF
      refine lv_iconst (v := 1) hx hb dX4_isOwnerAhead_20 (by decide) ?_
      refine lv_goto (tgt := 25) hx hb dX4_isOwnerAhead_21 (by decide) ?_
      cases hF
      exact hret _ _ _ _ _ _ hP hD hS rfl rfl rfl dX4_isOwnerAhead_25
def L_X7_record_6 : Nat → (Nat → Nat → Int32) → (Int32) → (Nat → Nat → Int32) → (Int32) → (Nat → Nat → Int32) → Option ((Nat → Nat → Int32))
  | 0, _, _, _, _, _ => none
  | n6 + 1, o, p2, o2, i3h6, s6 => if p2 ≤ i3h6 then (if inb 0 5 then (some (va_up (va_up s6 6 (upd (s6 6) ((0 : Int32).toNatClampNeg) p2)) 4 (upd (s6 4) 2 (if 5 < (((s6 4) 2) + 1) then 5 else (((s6 4) 2) + 1))))) else none) else (if 6 ≤ i3h6 then (if inb 0 5 then (some (va_up (va_up s6 6 (upd (s6 6) ((0 : Int32).toNatClampNeg) p2)) 4 (upd (s6 4) 2 (if 5 < (((s6 4) 2) + 1) then 5 else (((s6 4) 2) + 1))))) else none) else (if inb i3h6 6 then (if inb i3h6 30 then (L_X7_record_6 n6 o p2 o2 (i3h6 + 1) (va_up s6 5 (upd (s6 5) (i3h6.toNatClampNeg) ((s6 (i3h6.toNatClampNeg + 7)) 3)))) else none) else none))
def D_X7_record (o : Nat → Nat → Int32) (p2 : Int32) : Option ((Nat → Nat → Int32)) := (D_X7_makeRoom o).bind (fun o2 => L_X7_record_6 200 o p2 o2 0 o2)
abbrev rm_X7_record : Room := { frames := 1, cells := 0, slots := 0, locals := 21 }
set_option maxHeartbeats 4000000 in
set_option maxRecDepth 100000 in
theorem met_X7_record (l : Launch) (D : va_G) (cy : Nat → ClassId) (sz : Nat) (ad : Nat → Nat → Nat) (en : Nat → Nat) (x : Mem) (k : Nat) (hk : k < 12) (o : Nat → Nat → Int32) (p2 : Int32)  (t' : Nat → Nat → Int32) (hF : D_X7_record o p2 = some t') : MV l yX7_record cX7_record 4 rm_X7_record D cy (cW cy ad en (va_up x k o)) sz (fun _ => True) [.ref (ad k 4), .ref (ad k 1), .int p2] (cW cy ad en (va_up x k t')) := by
  refine MV.of (by decide +kernel) (Nat.le_of_ble_eq_true rfl) ?_
  intro p e s m args below meth c A ls Q hAt _ hP hD hA hS hl hret
  obtain ⟨hx, hb, hr, hml, hown, hw, hlk, hK, hN⟩ := hAt
  have hown : s.vm.findClass "CloudDeeds$Records" = some m.cls := hown
  have hl : lv_has ls 4 [(0, .ref (ad k 4)), (1, .ref (ad k 1)), (2, .int p2)] := hl
  refine lv_aload_n hx hb dX7_record_0 rfl (lv_at hl 0 rfl) ?_
  obtain ⟨o2, hc3, hF⟩ := bind_some hF
  try dsimp only at hF
  refine cV_v (As := []) (rest := []) hx hb hml hown hw hK hN hA hl.1 hP hD hS k_596 k_598 k_9 k_23 k_599 (met_X7_makeRoom l D cy _ ad en x k hk o o2 hc3) (fun _ _ _ => trivial) Xok_T (gO (x := x) (r := 4) (o := o) (f := (o 4)) hk (by decide) rfl) rfl ⟨rfl, rfl⟩ (n := 0) (by decide +kernel) rfl ⟨Nat.le_of_ble_eq_true rfl, Nat.le_of_ble_eq_true rfl⟩ ⟨Nat.le_of_ble_eq_true rfl, Nat.le_of_ble_eq_true rfl⟩ (Nat.le_of_ble_eq_true rfl) rfl dX7_record_1 (fun H locs hP hD hS => ?_)
  refine lv_iconst (v := 0) hx hb dX7_record_4 (by decide) ?_
  refine lv_istore_n (lv' := [(3, .int 0), (0, .ref (ad k 4)), (1, .ref (ad k 1)), (2, .int p2)]) hx hb dX7_record_5 rfl hl (by decide) rfl (fun ls hl => ?_)
  have loop6 : ∀ (n : Nat) (i3h6 : Int32) (s6 : Nat → Nat → Int32) (H : Heap) (locs : List Loc) (ls : Array Slot), L_X7_record_6 n o p2 o2 i3h6 s6 = some t' → va_P D vwCl (cW cy ad en (va_up x k s6)) H → va_D A (cW cy ad en (va_up x k s6)) → va_S A s.heap H locs → lv_has ls 4 [(3, .int i3h6), (0, .ref (ad k 4)), (1, .ref (ad k 1)), (2, .int p2)] → W p l e rm_X7_record s m args below meth c H locs 0 0 Q (F0 m 6 ls []) := by
    intro n
    induction n with
    | zero => intro i3h6 s6 H locs ls hF _ _ _ _; exact absurd hF (by simp [L_X7_record_6])
    | succ n6 ih6 =>
      intro i3h6 s6 H locs ls hF hP hD hS hl
      refine lv_iload_n hx hb dX7_record_6 rfl (lv_at hl 0 rfl) ?_
      refine lv_iload_n hx hb dX7_record_7 rfl (lv_at hl 3 rfl) ?_
      refine lv_icmp_ge (tgt := 35) hx hb dX7_record_8 (by decide) (fun h4 => ?_) (fun h4 => ?_)
      · replace hF := (if_pos h4).symm.trans hF
        refine lv_aload_n hx hb dX7_record_35 rfl (lv_at hl 1 rfl) ?_
        refine get' (ci := 9) (fs := rF (ad k) (s6 4)) (v := .ref (ad k 6)) hx hb hw inWX7 hown hK hP (gO (x := x) (r := 4) (o := s6) (f := (s6 4)) hk (by decide) rfl) rfl 1 (by decide) k_75 rfl rfl dX7_record_36 ?_
        refine lv_iconst (v := 0) hx hb dX7_record_39 (by decide) ?_
        refine lv_iload_n hx hb dX7_record_40 rfl (lv_at hl 3 rfl) ?_
        obtain ⟨h5, hF⟩ := ite_some hF
        refine iast' (n := 5) (f := (s6 6)) (ws' := (cW cy ad en (va_up x k (va_up s6 6 (upd (s6 6) ((0 : Int32).toNatClampNeg) p2))))) hx hb hK hP hD hS (gO (x := x) (r := 6) (o := s6) (f := (s6 6)) hk (by decide) rfl) (t0 := 0) rfl (vp_inb h5) dX7_record_41 (sO (x := x) (r := 6) (o := s6) (g := (upd (s6 6) ((0 : Int32).toNatClampNeg) p2)) hk (by decide)) (fun H locs hP hD hS => ?_)
        refine lv_aload_n hx hb dX7_record_42 rfl (lv_at hl 1 rfl) ?_
        refine lv_aload_n hx hb dX7_record_43 rfl (lv_at hl 1 rfl) ?_
        refine get' (ci := 9) (fs := rF (ad k) (s6 4)) (v := .int ((s6 4) 2)) hx hb hw inWX7 hown hK hP (gO (x := x) (r := 4) (o := (va_up s6 6 (upd (s6 6) ((0 : Int32).toNatClampNeg) p2))) (f := (s6 4)) hk (by decide) ((va_up_ne _ _ (by decide)).trans rfl)) rfl 2 (by decide) k_76 rfl rfl dX7_record_44 ?_
        refine lv_iconst (v := 1) hx hb dX7_record_47 (by decide) ?_
        refine lv_iadd hx hb dX7_record_48 ?_
        refine lv_iconst (v := 5) hx hb dX7_record_49 (by decide) ?_
        refine va_mmin hx hb (hml.trans hl.1.symm) hown (hw _ k_600) (hw _ k_526) (hw _ k_35) (hw _ k_527) (Nat.le_of_ble_eq_true rfl) (Nat.le_of_ble_eq_true rfl) (Nat.zero_le _) (Nat.zero_le _) dX7_record_50 ?_
        refine put' (ci := 9) (fs := rF (ad k) (s6 4)) (v := .int (if 5 < (((s6 4) 2) + 1) then 5 else (((s6 4) 2) + 1))) (ty := .int) (ws' := (cW cy ad en (va_up x k (va_up (va_up s6 6 (upd (s6 6) ((0 : Int32).toNatClampNeg) p2)) 4 (upd (s6 4) 2 (if 5 < (((s6 4) 2) + 1) then 5 else (((s6 4) 2) + 1))))))) hx hb hw inWX7 tyX7 tyX7_ok nmX7 hown hK hP hD hS (gO (x := x) (r := 4) (o := (va_up s6 6 (upd (s6 6) ((0 : Int32).toNatClampNeg) p2))) (f := (s6 4)) hk (by decide) ((va_up_ne _ _ (by decide)).trans rfl)) rfl 2 (by decide) k_76 rfl rfl (by decide +kernel) rfl rfl (Nat.le_of_ble_eq_true rfl) dX7_record_53 (sO (x := x) (r := 4) (o := (va_up s6 6 (upd (s6 6) ((0 : Int32).toNatClampNeg) p2))) (g := (upd (s6 4) 2 (if 5 < (((s6 4) 2) + 1) then 5 else (((s6 4) 2) + 1)))) hk (by decide)) (fun H locs hP hD hS => ?_)
        cases hF
        exact hret _ _ _ _ _ hP hD hS rfl dX7_record_56
      · replace hF := (if_neg h4).symm.trans hF
        refine lv_iload_n hx hb dX7_record_11 rfl (lv_at hl 0 rfl) ?_
        refine lv_bipush (v := 6) hx hb dX7_record_12 (by decide) ?_
        refine lv_icmp_ge (tgt := 35) hx hb dX7_record_14 (by decide) (fun h6 => ?_) (fun h6 => ?_)
        · replace hF := (if_pos h6).symm.trans hF
          refine lv_aload_n hx hb dX7_record_35 rfl (lv_at hl 1 rfl) ?_
          refine get' (ci := 9) (fs := rF (ad k) (s6 4)) (v := .ref (ad k 6)) hx hb hw inWX7 hown hK hP (gO (x := x) (r := 4) (o := s6) (f := (s6 4)) hk (by decide) rfl) rfl 1 (by decide) k_75 rfl rfl dX7_record_36 ?_
          refine lv_iconst (v := 0) hx hb dX7_record_39 (by decide) ?_
          refine lv_iload_n hx hb dX7_record_40 rfl (lv_at hl 3 rfl) ?_
          obtain ⟨h7, hF⟩ := ite_some hF
          refine iast' (n := 5) (f := (s6 6)) (ws' := (cW cy ad en (va_up x k (va_up s6 6 (upd (s6 6) ((0 : Int32).toNatClampNeg) p2))))) hx hb hK hP hD hS (gO (x := x) (r := 6) (o := s6) (f := (s6 6)) hk (by decide) rfl) (t0 := 0) rfl (vp_inb h7) dX7_record_41 (sO (x := x) (r := 6) (o := s6) (g := (upd (s6 6) ((0 : Int32).toNatClampNeg) p2)) hk (by decide)) (fun H locs hP hD hS => ?_)
          refine lv_aload_n hx hb dX7_record_42 rfl (lv_at hl 1 rfl) ?_
          refine lv_aload_n hx hb dX7_record_43 rfl (lv_at hl 1 rfl) ?_
          refine get' (ci := 9) (fs := rF (ad k) (s6 4)) (v := .int ((s6 4) 2)) hx hb hw inWX7 hown hK hP (gO (x := x) (r := 4) (o := (va_up s6 6 (upd (s6 6) ((0 : Int32).toNatClampNeg) p2))) (f := (s6 4)) hk (by decide) ((va_up_ne _ _ (by decide)).trans rfl)) rfl 2 (by decide) k_76 rfl rfl dX7_record_44 ?_
          refine lv_iconst (v := 1) hx hb dX7_record_47 (by decide) ?_
          refine lv_iadd hx hb dX7_record_48 ?_
          refine lv_iconst (v := 5) hx hb dX7_record_49 (by decide) ?_
          refine va_mmin hx hb (hml.trans hl.1.symm) hown (hw _ k_600) (hw _ k_526) (hw _ k_35) (hw _ k_527) (Nat.le_of_ble_eq_true rfl) (Nat.le_of_ble_eq_true rfl) (Nat.zero_le _) (Nat.zero_le _) dX7_record_50 ?_
          refine put' (ci := 9) (fs := rF (ad k) (s6 4)) (v := .int (if 5 < (((s6 4) 2) + 1) then 5 else (((s6 4) 2) + 1))) (ty := .int) (ws' := (cW cy ad en (va_up x k (va_up (va_up s6 6 (upd (s6 6) ((0 : Int32).toNatClampNeg) p2)) 4 (upd (s6 4) 2 (if 5 < (((s6 4) 2) + 1) then 5 else (((s6 4) 2) + 1))))))) hx hb hw inWX7 tyX7 tyX7_ok nmX7 hown hK hP hD hS (gO (x := x) (r := 4) (o := (va_up s6 6 (upd (s6 6) ((0 : Int32).toNatClampNeg) p2))) (f := (s6 4)) hk (by decide) ((va_up_ne _ _ (by decide)).trans rfl)) rfl 2 (by decide) k_76 rfl rfl (by decide +kernel) rfl rfl (Nat.le_of_ble_eq_true rfl) dX7_record_53 (sO (x := x) (r := 4) (o := (va_up s6 6 (upd (s6 6) ((0 : Int32).toNatClampNeg) p2))) (g := (upd (s6 4) 2 (if 5 < (((s6 4) 2) + 1) then 5 else (((s6 4) 2) + 1)))) hk (by decide)) (fun H locs hP hD hS => ?_)
          cases hF
          exact hret _ _ _ _ _ hP hD hS rfl dX7_record_56
        · replace hF := (if_neg h6).symm.trans hF
          refine lv_aload_n hx hb dX7_record_17 rfl (lv_at hl 1 rfl) ?_
          refine get' (ci := 9) (fs := rF (ad k) (s6 4)) (v := .ref (ad k 5)) hx hb hw inWX7 hown hK hP (gO (x := x) (r := 4) (o := s6) (f := (s6 4)) hk (by decide) rfl) rfl 0 (by decide) k_74 rfl rfl dX7_record_18 ?_
          refine lv_iload_n hx hb dX7_record_21 rfl (lv_at hl 0 rfl) ?_
          refine lv_aload_n hx hb dX7_record_22 rfl (lv_at hl 2 rfl) ?_
          refine lv_iload_n hx hb dX7_record_23 rfl (lv_at hl 0 rfl) ?_
          obtain ⟨h8, hF⟩ := ite_some hF
          have hr9 : (i3h6.toNatClampNeg + 7) < 13 := Nat.add_lt_add_right (inb_lt h8) 7
          refine aald' (n := 6) (g := (ad k (i3h6.toNatClampNeg + 7))) hx hb hK hP (gO (x := x) (r := 1) (o := s6) (f := (s6 1)) hk (by decide) rfl) (t0 := 3) rfl (vp_inb h8) rfl dX7_record_24 ?_
          refine getN' (ci := 4) (fs := cF (s6 (i3h6.toNatClampNeg + 7))) (v := .int ((s6 (i3h6.toNatClampNeg + 7)) 3)) hx hb hw hN inWX1 hown hK hP (gO (x := x) (r := (i3h6.toNatClampNeg + 7)) (o := s6) (f := (s6 (i3h6.toNatClampNeg + 7))) hk hr9 rfl) rfl 3 (by decide) n_96 rfl rfl dX7_record_25 ?_
          obtain ⟨h10, hF⟩ := ite_some hF
          refine iast' (n := 30) (f := (s6 5)) (ws' := (cW cy ad en (va_up x k (va_up s6 5 (upd (s6 5) (i3h6.toNatClampNeg) ((s6 (i3h6.toNatClampNeg + 7)) 3)))))) hx hb hK hP hD hS (gO (x := x) (r := 5) (o := s6) (f := (s6 5)) hk (by decide) rfl) (t0 := 0) rfl (vp_inb h10) dX7_record_28 (sO (x := x) (r := 5) (o := s6) (g := (upd (s6 5) (i3h6.toNatClampNeg) ((s6 (i3h6.toNatClampNeg + 7)) 3))) hk (by decide)) (fun H locs hP hD hS => ?_)
          refine lv_iinc (v := (i3h6 + 1)) (lv' := [(3, .int (i3h6 + 1)), (0, .ref (ad k 4)), (1, .ref (ad k 1)), (2, .int p2)]) hx hb dX7_record_29 hl (k := 0) rfl rfl (by decide) rfl (fun ls hl => ?_)
          refine lv_goto (tgt := 6) hx hb dX7_record_32 (by decide) ?_
          exact ih6 (i3h6 + 1) (va_up s6 5 (upd (s6 5) (i3h6.toNatClampNeg) ((s6 (i3h6.toNatClampNeg + 7)) 3))) _ _ _ hF hP hD hS (lv_sub hl [0, 1, 2, 3] rfl)
  exact loop6 200 0 o2 _ _ _ hF hP hD hS (lv_sub hl [0, 1, 2, 3] rfl)
def D_X7_cloudsAt (o : Nat → Nat → Int32) (p1 : Int32) : Option (Int32) := if (D_X7_hasDawn o p1) = 0 then (some 0) else (if inb p1 5 then (some ((o 6) p1.toNatClampNeg)) else none)
abbrev rm_X7_cloudsAt : Room := { frames := 2, cells := 0, slots := 0, locals := 42 }
set_option maxHeartbeats 4000000 in
set_option maxRecDepth 100000 in
theorem met_X7_cloudsAt (l : Launch) (D : va_G) (cy : Nat → ClassId) (sz : Nat) (ad : Nat → Nat → Nat) (en : Nat → Nat) (x : Mem) (k : Nat) (hk : k < 12) (o : Nat → Nat → Int32) (p1 : Int32)  (r : Int32) (hF : D_X7_cloudsAt o p1 = some r) : MI l yX7_cloudsAt cX7_cloudsAt 2 (some .int) rm_X7_cloudsAt D cy (cW cy ad en (va_up x k o)) sz (fun _ => True) [.ref (ad k 4), .int p1] r (cW cy ad en (va_up x k o)) := by
  refine MI.of (by decide +kernel) (Nat.le_of_ble_eq_true rfl) ?_
  intro p e s m args below meth c A ls Q hAt _ hP hD hA hS hl hret
  obtain ⟨hx, hb, hr, hml, hown, hw, hlk, hK, hN⟩ := hAt
  have hown : s.vm.findClass "CloudDeeds$Records" = some m.cls := hown
  have hl : lv_has ls 2 [(0, .ref (ad k 4)), (1, .int p1)] := hl
  refine lv_aload_n hx hb dX7_cloudsAt_0 rfl (lv_at hl 0 rfl) ?_
  refine lv_iload_n hx hb dX7_cloudsAt_1 rfl (lv_at hl 1 rfl) ?_
  refine cV_i (As := [.int p1]) (rest := []) hx hb hml hown hw hK hN hA hl.1 hP hD hS k_935 k_927 k_928 k_23 k_929 (met_X7_hasDawn l D cy _ ad en x k hk o p1 (D_X7_hasDawn o p1) rfl) (fun _ _ _ => trivial) Xok_T (gO (x := x) (r := 4) (o := o) (f := (o 4)) hk (by decide) rfl) rfl ⟨rfl, rfl⟩ (n := 1) (by decide +kernel) rfl ⟨Nat.le_of_ble_eq_true rfl, Nat.le_of_ble_eq_true rfl⟩ ⟨Nat.le_of_ble_eq_true rfl, Nat.le_of_ble_eq_true rfl⟩ (Nat.le_of_ble_eq_true rfl) rfl dX7_cloudsAt_2 (fun H locs hP hD hS => ?_)
  refine lv_if_eq (tgt := 17) hx hb dX7_cloudsAt_5 (by decide) (fun h4 => ?_) (fun h4 => ?_)
  · replace hF := (if_pos h4).symm.trans hF
    refine lv_iconst (v := 0) hx hb dX7_cloudsAt_17 (by decide) ?_
    cases hF
    exact hret _ _ _ _ _ _ hP hD hS rfl rfl dX7_cloudsAt_18
  · replace hF := (if_neg h4).symm.trans hF
    refine lv_aload_n hx hb dX7_cloudsAt_8 rfl (lv_at hl 0 rfl) ?_
    refine get' (ci := 9) (fs := rF (ad k) (o 4)) (v := .ref (ad k 6)) hx hb hw inWX7 hown hK hP (gO (x := x) (r := 4) (o := o) (f := (o 4)) hk (by decide) rfl) rfl 1 (by decide) k_75 rfl rfl dX7_cloudsAt_9 ?_
    refine lv_iload_n hx hb dX7_cloudsAt_12 rfl (lv_at hl 1 rfl) ?_
    obtain ⟨h5, hF⟩ := ite_some hF
    refine va_iald (n := 5) (f := (o 6)) hx hb hK hP _ 0 (gO (x := x) (r := 6) (o := o) (f := (o 6)) hk (by decide) rfl) rfl (vp_inb h5) dX7_cloudsAt_13 ?_
    refine lv_goto (tgt := 18) hx hb dX7_cloudsAt_14 (by decide) ?_
    cases hF
    exact hret _ _ _ _ _ _ hP hD hS rfl rfl dX7_cloudsAt_18
def D_X4_giveVineyard (o : Nat → Nat → Int32) (p1 : Int32) (p2 : Int32) : Option (Int32 × (Nat → Nat → Int32)) := if (D_X9_isVineyard p1) = 0 then (some ((D_X4_refuse o 2 p1).1, (D_X4_refuse o 2 p1).2)) else (if p2 = (-1) then (if inb p1 6 then (if ((o 2) p1.toNatClampNeg) = p2 then (some ((D_X4_refuse o 4 p2).1, (D_X4_refuse o 4 p2).2)) else (if inb p1 6 then ((D_X4_ownedVineyards (va_up o 2 (upd (o 2) (p1.toNatClampNeg) p2))).bind (fun r9 => some (r9, (va_up o 2 (upd (o 2) (p1.toNatClampNeg) p2))))) else none)) else none) else (if (D_X9_isOwner p2) = 0 then (some ((D_X4_refuse o 2 p2).1, (D_X4_refuse o 2 p2).2)) else (if inb p1 6 then (if ((o 2) p1.toNatClampNeg) = p2 then (some ((D_X4_refuse o 4 p2).1, (D_X4_refuse o 4 p2).2)) else (if inb p1 6 then ((D_X4_ownedVineyards (va_up o 2 (upd (o 2) (p1.toNatClampNeg) p2))).bind (fun r22 => some (r22, (va_up o 2 (upd (o 2) (p1.toNatClampNeg) p2))))) else none)) else none)))
abbrev rm_X4_giveVineyard : Room := { frames := 2, cells := 0, slots := 0, locals := 43 }
set_option maxHeartbeats 4000000 in
set_option maxRecDepth 100000 in
theorem met_X4_giveVineyard (l : Launch) (D : va_G) (cy : Nat → ClassId) (sz : Nat) (ad : Nat → Nat → Nat) (en : Nat → Nat) (x : Mem) (k : Nat) (hk : k < 12) (o : Nat → Nat → Int32) (p1 : Int32) (p2 : Int32)  (r : Int32) (t' : Nat → Nat → Int32) (hF : D_X4_giveVineyard o p1 p2 = some (r, t')) : MI l yX4_giveVineyard cX4_giveVineyard 3 (some .int) rm_X4_giveVineyard D cy (cW cy ad en (va_up x k o)) sz (fun _ => True) [.ref (ad k 0), .int p1, .int p2] r (cW cy ad en (va_up x k t')) := by
  refine MI.of (by decide +kernel) (Nat.le_of_ble_eq_true rfl) ?_
  intro p e s m args below meth c A ls Q hAt _ hP hD hA hS hl hret
  obtain ⟨hx, hb, hr, hml, hown, hw, hlk, hK, hN⟩ := hAt
  have hown : s.vm.findClass "CloudDeeds$Office" = some m.cls := hown
  have hl : lv_has ls 3 [(0, .ref (ad k 0)), (1, .int p1), (2, .int p2)] := hl
  refine lv_iload_n hx hb dX4_giveVineyard_0 rfl (lv_at hl 1 rfl) ?_
  refine cSN_i (As := [.int p1]) (rest := []) hx hb hml hown hw hK hN hA hl.1 hP hD hS n_463 k_455 k_21 k_456 (met_X9_isVineyard l D cy _ (cW cy ad en (va_up x k o)) p1 (D_X9_isVineyard p1) rfl) (fun _ _ _ => trivial) Xok_T ⟨rfl, rfl⟩ (n := 1) (by decide +kernel) rfl ⟨Nat.le_of_ble_eq_true rfl, Nat.le_of_ble_eq_true rfl⟩ ⟨Nat.le_of_ble_eq_true rfl, Nat.le_of_ble_eq_true rfl⟩ (Nat.le_of_ble_eq_true rfl) rfl dX4_giveVineyard_1 (fun H locs hP hD hS => ?_)
  refine lv_if_ne (tgt := 14) hx hb dX4_giveVineyard_4 (by decide) (fun h4 => ?_) (fun h4 => ?_)
  · replace hF := (if_neg h4).symm.trans hF
    refine lv_iload_n hx hb dX4_giveVineyard_14 rfl (lv_at hl 2 rfl) ?_
    refine lv_iconst (v := (-1)) hx hb dX4_giveVineyard_15 (by decide) ?_
    refine lv_icmp_eq (tgt := 33) hx hb dX4_giveVineyard_16 (by decide) (fun h5 => ?_) (fun h5 => ?_)
    · replace hF := (if_pos h5).symm.trans hF
      refine lv_aload_n hx hb dX4_giveVineyard_33 rfl (lv_at hl 0 rfl) ?_
      refine get' (ci := 6) (fs := oF (ad k) (o 0)) (v := .ref (ad k 2)) hx hb hw inWX4 hown hK hP (gO (x := x) (r := 0) (o := o) (f := (o 0)) hk (by decide) rfl) rfl 2 (by decide) k_121 rfl rfl dX4_giveVineyard_34 ?_
      refine lv_iload_n hx hb dX4_giveVineyard_37 rfl (lv_at hl 1 rfl) ?_
      obtain ⟨h6, hF⟩ := ite_some hF
      refine va_iald (n := 6) (f := (o 2)) hx hb hK hP _ 0 (gO (x := x) (r := 2) (o := o) (f := (o 2)) hk (by decide) rfl) rfl (vp_inb h6) dX4_giveVineyard_38 ?_
      refine lv_iload_n hx hb dX4_giveVineyard_39 rfl (lv_at hl 2 rfl) ?_
      refine lv_icmp_ne (tgt := 50) hx hb dX4_giveVineyard_40 (by decide) (fun h7 => ?_) (fun h7 => ?_)
      · replace hF := (if_neg h7).symm.trans hF
        refine lv_aload_n hx hb dX4_giveVineyard_50 rfl (lv_at hl 0 rfl) ?_
        refine get' (ci := 6) (fs := oF (ad k) (o 0)) (v := .ref (ad k 2)) hx hb hw inWX4 hown hK hP (gO (x := x) (r := 0) (o := o) (f := (o 0)) hk (by decide) rfl) rfl 2 (by decide) k_121 rfl rfl dX4_giveVineyard_51 ?_
        refine lv_iload_n hx hb dX4_giveVineyard_54 rfl (lv_at hl 1 rfl) ?_
        refine lv_iload_n hx hb dX4_giveVineyard_55 rfl (lv_at hl 2 rfl) ?_
        obtain ⟨h8, hF⟩ := ite_some hF
        refine iast' (n := 6) (f := (o 2)) (ws' := (cW cy ad en (va_up x k (va_up o 2 (upd (o 2) (p1.toNatClampNeg) p2))))) hx hb hK hP hD hS (gO (x := x) (r := 2) (o := o) (f := (o 2)) hk (by decide) rfl) (t0 := 0) rfl (vp_inb h8) dX4_giveVineyard_56 (sO (x := x) (r := 2) (o := o) (g := (upd (o 2) (p1.toNatClampNeg) p2)) hk (by decide)) (fun H locs hP hD hS => ?_)
        refine lv_aload_n hx hb dX4_giveVineyard_57 rfl (lv_at hl 0 rfl) ?_
        obtain ⟨r9, hc11, hF⟩ := bind_some hF
        try dsimp only at hF
        refine cV_i (As := []) (rest := []) hx hb hml hown hw hK hN hA hl.1 hP hD hS k_899 k_901 k_15 k_22 k_902 (met_X4_ownedVineyards l D cy _ ad en x k hk (va_up o 2 (upd (o 2) (p1.toNatClampNeg) p2)) r9 hc11) (fun _ _ _ => trivial) Xok_T (gO (x := x) (r := 0) (o := (va_up o 2 (upd (o 2) (p1.toNatClampNeg) p2))) (f := (o 0)) hk (by decide) ((va_up_ne _ _ (by decide)).trans rfl)) rfl ⟨rfl, rfl⟩ (n := 0) (by decide +kernel) rfl ⟨Nat.le_of_ble_eq_true rfl, Nat.le_of_ble_eq_true rfl⟩ ⟨Nat.le_of_ble_eq_true rfl, Nat.le_of_ble_eq_true rfl⟩ (Nat.le_of_ble_eq_true rfl) rfl dX4_giveVineyard_58 (fun H locs hP hD hS => ?_)
        cases hF
        exact hret _ _ _ _ _ _ hP hD hS rfl rfl dX4_giveVineyard_61
      · replace hF := (if_pos h7).symm.trans hF
        refine lv_aload_n hx hb dX4_giveVineyard_43 rfl (lv_at hl 0 rfl) ?_
        refine lv_iconst (v := 4) hx hb dX4_giveVineyard_44 (by decide) ?_
        refine lv_iload_n hx hb dX4_giveVineyard_45 rfl (lv_at hl 2 rfl) ?_
        refine cV_i (As := [.int 4, .int p2]) (rest := []) hx hb hml hown hw hK hN hA hl.1 hP hD hS k_540 k_542 k_4 k_22 k_543 (met_X4_refuse l D cy _ ad en x k hk o 4 p2 (D_X4_refuse o 4 p2).1 (D_X4_refuse o 4 p2).2 rfl) (fun _ _ _ => trivial) Xok_T (gO (x := x) (r := 0) (o := o) (f := (o 0)) hk (by decide) rfl) rfl ⟨rfl, rfl⟩ (n := 2) (by decide +kernel) rfl ⟨Nat.le_of_ble_eq_true rfl, Nat.le_of_ble_eq_true rfl⟩ ⟨Nat.le_of_ble_eq_true rfl, Nat.le_of_ble_eq_true rfl⟩ (Nat.le_of_ble_eq_true rfl) rfl dX4_giveVineyard_46 (fun H locs hP hD hS => ?_)
        cases hF
        exact hret _ _ _ _ _ _ hP hD hS rfl rfl dX4_giveVineyard_49
    · replace hF := (if_neg h5).symm.trans hF
      refine lv_iload_n hx hb dX4_giveVineyard_19 rfl (lv_at hl 2 rfl) ?_
      refine cSN_i (As := [.int p2]) (rest := []) hx hb hml hown hw hK hN hA hl.1 hP hD hS n_444 k_432 k_21 k_433 (met_X9_isOwner l D cy _ (cW cy ad en (va_up x k o)) p2 (D_X9_isOwner p2) rfl) (fun _ _ _ => trivial) Xok_T ⟨rfl, rfl⟩ (n := 1) (by decide +kernel) rfl ⟨Nat.le_of_ble_eq_true rfl, Nat.le_of_ble_eq_true rfl⟩ ⟨Nat.le_of_ble_eq_true rfl, Nat.le_of_ble_eq_true rfl⟩ (Nat.le_of_ble_eq_true rfl) rfl dX4_giveVineyard_20 (fun H locs hP hD hS => ?_)
      refine lv_if_ne (tgt := 33) hx hb dX4_giveVineyard_23 (by decide) (fun h18 => ?_) (fun h18 => ?_)
      · replace hF := (if_neg h18).symm.trans hF
        refine lv_aload_n hx hb dX4_giveVineyard_33 rfl (lv_at hl 0 rfl) ?_
        refine get' (ci := 6) (fs := oF (ad k) (o 0)) (v := .ref (ad k 2)) hx hb hw inWX4 hown hK hP (gO (x := x) (r := 0) (o := o) (f := (o 0)) hk (by decide) rfl) rfl 2 (by decide) k_121 rfl rfl dX4_giveVineyard_34 ?_
        refine lv_iload_n hx hb dX4_giveVineyard_37 rfl (lv_at hl 1 rfl) ?_
        obtain ⟨h19, hF⟩ := ite_some hF
        refine va_iald (n := 6) (f := (o 2)) hx hb hK hP _ 0 (gO (x := x) (r := 2) (o := o) (f := (o 2)) hk (by decide) rfl) rfl (vp_inb h19) dX4_giveVineyard_38 ?_
        refine lv_iload_n hx hb dX4_giveVineyard_39 rfl (lv_at hl 2 rfl) ?_
        refine lv_icmp_ne (tgt := 50) hx hb dX4_giveVineyard_40 (by decide) (fun h20 => ?_) (fun h20 => ?_)
        · replace hF := (if_neg h20).symm.trans hF
          refine lv_aload_n hx hb dX4_giveVineyard_50 rfl (lv_at hl 0 rfl) ?_
          refine get' (ci := 6) (fs := oF (ad k) (o 0)) (v := .ref (ad k 2)) hx hb hw inWX4 hown hK hP (gO (x := x) (r := 0) (o := o) (f := (o 0)) hk (by decide) rfl) rfl 2 (by decide) k_121 rfl rfl dX4_giveVineyard_51 ?_
          refine lv_iload_n hx hb dX4_giveVineyard_54 rfl (lv_at hl 1 rfl) ?_
          refine lv_iload_n hx hb dX4_giveVineyard_55 rfl (lv_at hl 2 rfl) ?_
          obtain ⟨h21, hF⟩ := ite_some hF
          refine iast' (n := 6) (f := (o 2)) (ws' := (cW cy ad en (va_up x k (va_up o 2 (upd (o 2) (p1.toNatClampNeg) p2))))) hx hb hK hP hD hS (gO (x := x) (r := 2) (o := o) (f := (o 2)) hk (by decide) rfl) (t0 := 0) rfl (vp_inb h21) dX4_giveVineyard_56 (sO (x := x) (r := 2) (o := o) (g := (upd (o 2) (p1.toNatClampNeg) p2)) hk (by decide)) (fun H locs hP hD hS => ?_)
          refine lv_aload_n hx hb dX4_giveVineyard_57 rfl (lv_at hl 0 rfl) ?_
          obtain ⟨r22, hc24, hF⟩ := bind_some hF
          try dsimp only at hF
          refine cV_i (As := []) (rest := []) hx hb hml hown hw hK hN hA hl.1 hP hD hS k_899 k_901 k_15 k_22 k_902 (met_X4_ownedVineyards l D cy _ ad en x k hk (va_up o 2 (upd (o 2) (p1.toNatClampNeg) p2)) r22 hc24) (fun _ _ _ => trivial) Xok_T (gO (x := x) (r := 0) (o := (va_up o 2 (upd (o 2) (p1.toNatClampNeg) p2))) (f := (o 0)) hk (by decide) ((va_up_ne _ _ (by decide)).trans rfl)) rfl ⟨rfl, rfl⟩ (n := 0) (by decide +kernel) rfl ⟨Nat.le_of_ble_eq_true rfl, Nat.le_of_ble_eq_true rfl⟩ ⟨Nat.le_of_ble_eq_true rfl, Nat.le_of_ble_eq_true rfl⟩ (Nat.le_of_ble_eq_true rfl) rfl dX4_giveVineyard_58 (fun H locs hP hD hS => ?_)
          cases hF
          exact hret _ _ _ _ _ _ hP hD hS rfl rfl dX4_giveVineyard_61
        · replace hF := (if_pos h20).symm.trans hF
          refine lv_aload_n hx hb dX4_giveVineyard_43 rfl (lv_at hl 0 rfl) ?_
          refine lv_iconst (v := 4) hx hb dX4_giveVineyard_44 (by decide) ?_
          refine lv_iload_n hx hb dX4_giveVineyard_45 rfl (lv_at hl 2 rfl) ?_
          refine cV_i (As := [.int 4, .int p2]) (rest := []) hx hb hml hown hw hK hN hA hl.1 hP hD hS k_540 k_542 k_4 k_22 k_543 (met_X4_refuse l D cy _ ad en x k hk o 4 p2 (D_X4_refuse o 4 p2).1 (D_X4_refuse o 4 p2).2 rfl) (fun _ _ _ => trivial) Xok_T (gO (x := x) (r := 0) (o := o) (f := (o 0)) hk (by decide) rfl) rfl ⟨rfl, rfl⟩ (n := 2) (by decide +kernel) rfl ⟨Nat.le_of_ble_eq_true rfl, Nat.le_of_ble_eq_true rfl⟩ ⟨Nat.le_of_ble_eq_true rfl, Nat.le_of_ble_eq_true rfl⟩ (Nat.le_of_ble_eq_true rfl) rfl dX4_giveVineyard_46 (fun H locs hP hD hS => ?_)
          cases hF
          exact hret _ _ _ _ _ _ hP hD hS rfl rfl dX4_giveVineyard_49
      · replace hF := (if_pos h18).symm.trans hF
        refine lv_aload_n hx hb dX4_giveVineyard_26 rfl (lv_at hl 0 rfl) ?_
        refine lv_iconst (v := 2) hx hb dX4_giveVineyard_27 (by decide) ?_
        refine lv_iload_n hx hb dX4_giveVineyard_28 rfl (lv_at hl 2 rfl) ?_
        refine cV_i (As := [.int 2, .int p2]) (rest := []) hx hb hml hown hw hK hN hA hl.1 hP hD hS k_540 k_542 k_4 k_22 k_543 (met_X4_refuse l D cy _ ad en x k hk o 2 p2 (D_X4_refuse o 2 p2).1 (D_X4_refuse o 2 p2).2 rfl) (fun _ _ _ => trivial) Xok_T (gO (x := x) (r := 0) (o := o) (f := (o 0)) hk (by decide) rfl) rfl ⟨rfl, rfl⟩ (n := 2) (by decide +kernel) rfl ⟨Nat.le_of_ble_eq_true rfl, Nat.le_of_ble_eq_true rfl⟩ ⟨Nat.le_of_ble_eq_true rfl, Nat.le_of_ble_eq_true rfl⟩ (Nat.le_of_ble_eq_true rfl) rfl dX4_giveVineyard_29 (fun H locs hP hD hS => ?_)
        cases hF
        exact hret _ _ _ _ _ _ hP hD hS rfl rfl dX4_giveVineyard_32
  · replace hF := (if_pos h4).symm.trans hF
    refine lv_aload_n hx hb dX4_giveVineyard_7 rfl (lv_at hl 0 rfl) ?_
    refine lv_iconst (v := 2) hx hb dX4_giveVineyard_8 (by decide) ?_
    refine lv_iload_n hx hb dX4_giveVineyard_9 rfl (lv_at hl 1 rfl) ?_
    refine cV_i (As := [.int 2, .int p1]) (rest := []) hx hb hml hown hw hK hN hA hl.1 hP hD hS k_540 k_542 k_4 k_22 k_543 (met_X4_refuse l D cy _ ad en x k hk o 2 p1 (D_X4_refuse o 2 p1).1 (D_X4_refuse o 2 p1).2 rfl) (fun _ _ _ => trivial) Xok_T (gO (x := x) (r := 0) (o := o) (f := (o 0)) hk (by decide) rfl) rfl ⟨rfl, rfl⟩ (n := 2) (by decide +kernel) rfl ⟨Nat.le_of_ble_eq_true rfl, Nat.le_of_ble_eq_true rfl⟩ ⟨Nat.le_of_ble_eq_true rfl, Nat.le_of_ble_eq_true rfl⟩ (Nat.le_of_ble_eq_true rfl) rfl dX4_giveVineyard_10 (fun H locs hP hD hS => ?_)
    cases hF
    exact hret _ _ _ _ _ _ hP hD hS rfl rfl dX4_giveVineyard_13
def D_X4_sellTo (o : Nat → Nat → Int32) (p1 : Int32) (p2 : Int32) (p3 : Int32) : Option (Int32 × (Nat → Nat → Int32)) := if (D_X4_hasCloud o p1) = 0 then (some ((D_X4_refuse o 2 p1).1, (D_X4_refuse o 2 p1).2)) else (if (D_X9_isOwner p2) = 0 then (some ((D_X4_refuse o 2 p2).1, (D_X4_refuse o 2 p2).2)) else (if p3 < 0 then (some ((D_X4_refuse o 3 p3).1, (D_X4_refuse o 3 p3).2)) else (if p3 ≤ 99 then (if inb p1 6 then ((D_X4_checkDeal o p1.toNatClampNeg p1 p2 p3).bind (fun (r16, o17) => if r16 = (-1) then (some ((-1), o17)) else ((D_X4_pay o17 p2 ((o17 (p1.toNatClampNeg + 7)) 3) p3).bind (fun o21 => (D_X4_purseOf (va_up o21 (p1.toNatClampNeg + 7) (D_X1_entitle (o21 (p1.toNatClampNeg + 7)) p2)) ((o17 (p1.toNatClampNeg + 7)) 3)).bind (fun r26 => some (r26, (va_up o21 (p1.toNatClampNeg + 7) (D_X1_entitle (o21 (p1.toNatClampNeg + 7)) p2)))))))) else none) else (some ((D_X4_refuse o 3 p3).1, (D_X4_refuse o 3 p3).2)))))
abbrev rm_X4_sellTo : Room := { frames := 3, cells := 0, slots := 0, locals := 65 }
set_option maxHeartbeats 4000000 in
set_option maxRecDepth 100000 in
theorem met_X4_sellTo (l : Launch) (D : va_G) (cy : Nat → ClassId) (sz : Nat) (ad : Nat → Nat → Nat) (en : Nat → Nat) (x : Mem) (k : Nat) (hk : k < 12) (o : Nat → Nat → Int32) (p1 : Int32) (p2 : Int32) (p3 : Int32)  (r : Int32) (t' : Nat → Nat → Int32) (hF : D_X4_sellTo o p1 p2 p3 = some (r, t')) : MI l yX4_sellTo cX4_sellTo 6 (some .int) rm_X4_sellTo D cy (cW cy ad en (va_up x k o)) sz (fun _ => True) [.ref (ad k 0), .int p1, .int p2, .int p3] r (cW cy ad en (va_up x k t')) := by
  refine MI.of (by decide +kernel) (Nat.le_of_ble_eq_true rfl) ?_
  intro p e s m args below meth c A ls Q hAt _ hP hD hA hS hl hret
  obtain ⟨hx, hb, hr, hml, hown, hw, hlk, hK, hN⟩ := hAt
  have hown : s.vm.findClass "CloudDeeds$Office" = some m.cls := hown
  have hl : lv_has ls 6 [(0, .ref (ad k 0)), (1, .int p1), (2, .int p2), (3, .int p3)] := hl
  refine lv_aload_n hx hb dX4_sellTo_0 rfl (lv_at hl 0 rfl) ?_
  refine lv_iload_n hx hb dX4_sellTo_1 rfl (lv_at hl 1 rfl) ?_
  refine cV_i (As := [.int p1]) (rest := []) hx hb hml hown hw hK hN hA hl.1 hP hD hS k_653 k_320 k_321 k_22 k_322 (met_X4_hasCloud l D cy _ ad en x k hk o p1 (D_X4_hasCloud o p1) rfl) (fun _ _ _ => trivial) Xok_T (gO (x := x) (r := 0) (o := o) (f := (o 0)) hk (by decide) rfl) rfl ⟨rfl, rfl⟩ (n := 1) (by decide +kernel) rfl ⟨Nat.le_of_ble_eq_true rfl, Nat.le_of_ble_eq_true rfl⟩ ⟨Nat.le_of_ble_eq_true rfl, Nat.le_of_ble_eq_true rfl⟩ (Nat.le_of_ble_eq_true rfl) rfl dX4_sellTo_2 (fun H locs hP hD hS => ?_)
  refine lv_if_ne (tgt := 15) hx hb dX4_sellTo_5 (by decide) (fun h4 => ?_) (fun h4 => ?_)
  · replace hF := (if_neg h4).symm.trans hF
    refine lv_iload_n hx hb dX4_sellTo_15 rfl (lv_at hl 2 rfl) ?_
    refine cSN_i (As := [.int p2]) (rest := []) hx hb hml hown hw hK hN hA hl.1 hP hD hS n_444 k_432 k_21 k_433 (met_X9_isOwner l D cy _ (cW cy ad en (va_up x k o)) p2 (D_X9_isOwner p2) rfl) (fun _ _ _ => trivial) Xok_T ⟨rfl, rfl⟩ (n := 1) (by decide +kernel) rfl ⟨Nat.le_of_ble_eq_true rfl, Nat.le_of_ble_eq_true rfl⟩ ⟨Nat.le_of_ble_eq_true rfl, Nat.le_of_ble_eq_true rfl⟩ (Nat.le_of_ble_eq_true rfl) rfl dX4_sellTo_16 (fun H locs hP hD hS => ?_)
    refine lv_if_ne (tgt := 29) hx hb dX4_sellTo_19 (by decide) (fun h8 => ?_) (fun h8 => ?_)
    · replace hF := (if_neg h8).symm.trans hF
      refine lv_iload_n hx hb dX4_sellTo_29 rfl (lv_at hl 3 rfl) ?_
      refine lv_if_lt (tgt := 39) hx hb dX4_sellTo_30 (by decide) (fun h9 => ?_) (fun h9 => ?_)
      · replace hF := (if_pos h9).symm.trans hF
        refine lv_aload_n hx hb dX4_sellTo_39 rfl (lv_at hl 0 rfl) ?_
        refine lv_iconst (v := 3) hx hb dX4_sellTo_40 (by decide) ?_
        refine lv_iload_n hx hb dX4_sellTo_41 rfl (lv_at hl 3 rfl) ?_
        refine cV_i (As := [.int 3, .int p3]) (rest := []) hx hb hml hown hw hK hN hA hl.1 hP hD hS k_540 k_542 k_4 k_22 k_543 (met_X4_refuse l D cy _ ad en x k hk o 3 p3 (D_X4_refuse o 3 p3).1 (D_X4_refuse o 3 p3).2 rfl) (fun _ _ _ => trivial) Xok_T (gO (x := x) (r := 0) (o := o) (f := (o 0)) hk (by decide) rfl) rfl ⟨rfl, rfl⟩ (n := 2) (by decide +kernel) rfl ⟨Nat.le_of_ble_eq_true rfl, Nat.le_of_ble_eq_true rfl⟩ ⟨Nat.le_of_ble_eq_true rfl, Nat.le_of_ble_eq_true rfl⟩ (Nat.le_of_ble_eq_true rfl) rfl dX4_sellTo_42 (fun H locs hP hD hS => ?_)
        cases hF
        exact hret _ _ _ _ _ _ hP hD hS rfl rfl dX4_sellTo_45
      · replace hF := (if_neg h9).symm.trans hF
        refine lv_iload_n hx hb dX4_sellTo_33 rfl (lv_at hl 3 rfl) ?_
        refine lv_bipush (v := 99) hx hb dX4_sellTo_34 (by decide) ?_
        refine lv_icmp_le (tgt := 46) hx hb dX4_sellTo_36 (by decide) (fun h13 => ?_) (fun h13 => ?_)
        · replace hF := (if_pos h13).symm.trans hF
          refine lv_aload_n hx hb dX4_sellTo_46 rfl (lv_at hl 0 rfl) ?_
          refine get' (ci := 6) (fs := oF (ad k) (o 0)) (v := .ref (ad k 1)) hx hb hw inWX4 hown hK hP (gO (x := x) (r := 0) (o := o) (f := (o 0)) hk (by decide) rfl) rfl 0 (by decide) k_117 rfl rfl dX4_sellTo_47 ?_
          refine lv_iload_n hx hb dX4_sellTo_50 rfl (lv_at hl 1 rfl) ?_
          obtain ⟨h14, hF⟩ := ite_some hF
          have hr15 : (p1.toNatClampNeg + 7) < 13 := Nat.add_lt_add_right (inb_lt h14) 7
          refine aald' (n := 6) (g := (ad k (p1.toNatClampNeg + 7))) hx hb hK hP (gO (x := x) (r := 1) (o := o) (f := (o 1)) hk (by decide) rfl) (t0 := 3) rfl (vp_inb h14) rfl dX4_sellTo_51 ?_
          refine lv_astore (lv' := [(4, .ref (ad k (p1.toNatClampNeg + 7))), (0, .ref (ad k 0)), (1, .int p1), (2, .int p2), (3, .int p3)]) hx hb dX4_sellTo_52 hl (by decide) rfl (fun ls hl => ?_)
          refine lv_aload_n hx hb dX4_sellTo_54 rfl (lv_at hl 1 rfl) ?_
          refine lv_aload hx hb dX4_sellTo_55 (lv_at hl 0 rfl) ?_
          refine lv_iload_n hx hb dX4_sellTo_57 rfl (lv_at hl 2 rfl) ?_
          refine lv_iload_n hx hb dX4_sellTo_58 rfl (lv_at hl 3 rfl) ?_
          refine lv_iload_n hx hb dX4_sellTo_59 rfl (lv_at hl 4 rfl) ?_
          obtain ⟨⟨r16, o17⟩, hc18, hF⟩ := bind_some hF
          try dsimp only at hF
          refine cV_i (As := [.ref (ad k (p1.toNatClampNeg + 7)), .int p1, .int p2, .int p3]) (rest := []) hx hb hml hown hw hK hN hA hl.1 hP hD hS k_1019 k_1021 k_17 k_22 k_1022 (met_X4_checkDeal l D cy _ ad en x k hk o p1.toNatClampNeg hr15 p1 p2 p3 r16 o17 hc18) (fun _ _ _ => trivial) Xok_T (gO (x := x) (r := 0) (o := o) (f := (o 0)) hk (by decide) rfl) rfl ⟨rfl, rfl⟩ (n := 4) (by decide +kernel) rfl ⟨Nat.le_of_ble_eq_true rfl, Nat.le_of_ble_eq_true rfl⟩ ⟨Nat.le_of_ble_eq_true rfl, Nat.le_of_ble_eq_true rfl⟩ (Nat.le_of_ble_eq_true rfl) rfl dX4_sellTo_60 (fun H locs hP hD hS => ?_)
          refine lv_iconst (v := (-1)) hx hb dX4_sellTo_63 (by decide) ?_
          refine lv_icmp_ne (tgt := 69) hx hb dX4_sellTo_64 (by decide) (fun h19 => ?_) (fun h19 => ?_)
          · replace hF := (if_neg h19).symm.trans hF
            refine lv_aload hx hb dX4_sellTo_69 (lv_at hl 0 rfl) ?_
            refine getN' (ci := 4) (fs := cF (o17 (p1.toNatClampNeg + 7))) (v := .int ((o17 (p1.toNatClampNeg + 7)) 3)) hx hb hw hN inWX1 hown hK hP (gO (x := x) (r := (p1.toNatClampNeg + 7)) (o := o17) (f := (o17 (p1.toNatClampNeg + 7))) hk hr15 rfl) rfl 3 (by decide) n_97 rfl rfl dX4_sellTo_71 ?_
            refine lv_istore (lv' := [(5, .int ((o17 (p1.toNatClampNeg + 7)) 3)), (4, .ref (ad k (p1.toNatClampNeg + 7))), (0, .ref (ad k 0)), (1, .int p1), (2, .int p2), (3, .int p3)]) hx hb dX4_sellTo_74 hl (by decide) rfl (fun ls hl => ?_)
            refine lv_aload_n hx hb dX4_sellTo_76 rfl (lv_at hl 2 rfl) ?_
            refine lv_iload_n hx hb dX4_sellTo_77 rfl (lv_at hl 4 rfl) ?_
            refine lv_iload hx hb dX4_sellTo_78 (lv_at hl 0 rfl) ?_
            refine lv_iload_n hx hb dX4_sellTo_80 rfl (lv_at hl 5 rfl) ?_
            obtain ⟨o21, hc22, hF⟩ := bind_some hF
            try dsimp only at hF
            refine cV_v (As := [.int p2, .int ((o17 (p1.toNatClampNeg + 7)) 3), .int p3]) (rest := []) hx hb hml hown hw hK hN hA hl.1 hP hD hS k_1023 k_1025 k_18 k_22 k_1026 (met_X4_pay l D cy _ ad en x k hk o17 p2 ((o17 (p1.toNatClampNeg + 7)) 3) p3 o21 hc22) (fun _ _ _ => trivial) Xok_T (gO (x := x) (r := 0) (o := o17) (f := (o17 0)) hk (by decide) rfl) rfl ⟨rfl, rfl⟩ (n := 3) (by decide +kernel) rfl ⟨Nat.le_of_ble_eq_true rfl, Nat.le_of_ble_eq_true rfl⟩ ⟨Nat.le_of_ble_eq_true rfl, Nat.le_of_ble_eq_true rfl⟩ (Nat.le_of_ble_eq_true rfl) rfl dX4_sellTo_81 (fun H locs hP hD hS => ?_)
            refine lv_aload hx hb dX4_sellTo_84 (lv_at hl 1 rfl) ?_
            refine lv_iload_n hx hb dX4_sellTo_86 rfl (lv_at hl 4 rfl) ?_
            refine cV_v (As := [.int p2]) (rest := []) hx hb hml hown hw hK hN hA hl.1 hP hD hS k_584 k_585 k_586 k_24 k_587 (met_X1_entitle l D cy _ (cW cy ad en (va_up x k o21)) (13 * k + (p1.toNatClampNeg + 7)) (ad k (p1.toNatClampNeg + 7)) (o21 (p1.toNatClampNeg + 7)) p2 (gO (x := x) (r := (p1.toNatClampNeg + 7)) (o := o21) (f := (o21 (p1.toNatClampNeg + 7))) hk hr15 rfl) (D_X1_entitle (o21 (p1.toNatClampNeg + 7)) p2) rfl) (fun _ _ _ => trivial) Xok_T (gO (x := x) (r := (p1.toNatClampNeg + 7)) (o := o21) (f := (o21 (p1.toNatClampNeg + 7))) hk hr15 rfl) rfl ⟨rfl, rfl⟩ (n := 1) (by decide +kernel) rfl ⟨Nat.le_of_ble_eq_true rfl, Nat.le_of_ble_eq_true rfl⟩ ⟨Nat.le_of_ble_eq_true rfl, Nat.le_of_ble_eq_true rfl⟩ (Nat.le_of_ble_eq_true rfl) rfl dX4_sellTo_87 (fun H locs hP hD hS => ?_)
            have hP : va_P D vwCl (cW cy ad en (va_up x k (va_up o21 (p1.toNatClampNeg + 7) (D_X1_entitle (o21 (p1.toNatClampNeg + 7)) p2)))) H := cvP hP (sO (x := x) (r := (p1.toNatClampNeg + 7)) (o := o21) (g := (D_X1_entitle (o21 (p1.toNatClampNeg + 7)) p2)) hk hr15)
            have hD : va_D A (cW cy ad en (va_up x k (va_up o21 (p1.toNatClampNeg + 7) (D_X1_entitle (o21 (p1.toNatClampNeg + 7)) p2)))) := cvD hD (sO (x := x) (r := (p1.toNatClampNeg + 7)) (o := o21) (g := (D_X1_entitle (o21 (p1.toNatClampNeg + 7)) p2)) hk hr15)
            refine lv_aload_n hx hb dX4_sellTo_90 rfl (lv_at hl 2 rfl) ?_
            refine lv_iload hx hb dX4_sellTo_91 (lv_at hl 0 rfl) ?_
            obtain ⟨r26, hc28, hF⟩ := bind_some hF
            try dsimp only at hF
            refine cV_i (As := [.int ((o17 (p1.toNatClampNeg + 7)) 3)]) (rest := []) hx hb hml hown hw hK hN hA hl.1 hP hD hS k_440 k_442 k_1 k_22 k_443 (met_X4_purseOf l D cy _ ad en x k hk (va_up o21 (p1.toNatClampNeg + 7) (D_X1_entitle (o21 (p1.toNatClampNeg + 7)) p2)) ((o17 (p1.toNatClampNeg + 7)) 3) r26 hc28) (fun _ _ _ => trivial) Xok_T (gO (x := x) (r := 0) (o := (va_up o21 (p1.toNatClampNeg + 7) (D_X1_entitle (o21 (p1.toNatClampNeg + 7)) p2))) (f := (o21 0)) hk (by decide) ((va_up_ne _ _ (by omega)).trans rfl)) rfl ⟨rfl, rfl⟩ (n := 1) (by decide +kernel) rfl ⟨Nat.le_of_ble_eq_true rfl, Nat.le_of_ble_eq_true rfl⟩ ⟨Nat.le_of_ble_eq_true rfl, Nat.le_of_ble_eq_true rfl⟩ (Nat.le_of_ble_eq_true rfl) rfl dX4_sellTo_93 (fun H locs hP hD hS => ?_)
            cases hF
            exact hret _ _ _ _ _ _ hP hD hS rfl rfl dX4_sellTo_96
          · replace hF := (if_pos h19).symm.trans hF
            refine lv_iconst (v := (-1)) hx hb dX4_sellTo_67 (by decide) ?_
            cases hF
            exact hret _ _ _ _ _ _ hP hD hS rfl rfl dX4_sellTo_68
        · replace hF := (if_neg h13).symm.trans hF
          refine lv_aload_n hx hb dX4_sellTo_39 rfl (lv_at hl 0 rfl) ?_
          refine lv_iconst (v := 3) hx hb dX4_sellTo_40 (by decide) ?_
          refine lv_iload_n hx hb dX4_sellTo_41 rfl (lv_at hl 3 rfl) ?_
          refine cV_i (As := [.int 3, .int p3]) (rest := []) hx hb hml hown hw hK hN hA hl.1 hP hD hS k_540 k_542 k_4 k_22 k_543 (met_X4_refuse l D cy _ ad en x k hk o 3 p3 (D_X4_refuse o 3 p3).1 (D_X4_refuse o 3 p3).2 rfl) (fun _ _ _ => trivial) Xok_T (gO (x := x) (r := 0) (o := o) (f := (o 0)) hk (by decide) rfl) rfl ⟨rfl, rfl⟩ (n := 2) (by decide +kernel) rfl ⟨Nat.le_of_ble_eq_true rfl, Nat.le_of_ble_eq_true rfl⟩ ⟨Nat.le_of_ble_eq_true rfl, Nat.le_of_ble_eq_true rfl⟩ (Nat.le_of_ble_eq_true rfl) rfl dX4_sellTo_42 (fun H locs hP hD hS => ?_)
          cases hF
          exact hret _ _ _ _ _ _ hP hD hS rfl rfl dX4_sellTo_45
    · replace hF := (if_pos h8).symm.trans hF
      refine lv_aload_n hx hb dX4_sellTo_22 rfl (lv_at hl 0 rfl) ?_
      refine lv_iconst (v := 2) hx hb dX4_sellTo_23 (by decide) ?_
      refine lv_iload_n hx hb dX4_sellTo_24 rfl (lv_at hl 2 rfl) ?_
      refine cV_i (As := [.int 2, .int p2]) (rest := []) hx hb hml hown hw hK hN hA hl.1 hP hD hS k_540 k_542 k_4 k_22 k_543 (met_X4_refuse l D cy _ ad en x k hk o 2 p2 (D_X4_refuse o 2 p2).1 (D_X4_refuse o 2 p2).2 rfl) (fun _ _ _ => trivial) Xok_T (gO (x := x) (r := 0) (o := o) (f := (o 0)) hk (by decide) rfl) rfl ⟨rfl, rfl⟩ (n := 2) (by decide +kernel) rfl ⟨Nat.le_of_ble_eq_true rfl, Nat.le_of_ble_eq_true rfl⟩ ⟨Nat.le_of_ble_eq_true rfl, Nat.le_of_ble_eq_true rfl⟩ (Nat.le_of_ble_eq_true rfl) rfl dX4_sellTo_25 (fun H locs hP hD hS => ?_)
      cases hF
      exact hret _ _ _ _ _ _ hP hD hS rfl rfl dX4_sellTo_28
  · replace hF := (if_pos h4).symm.trans hF
    refine lv_aload_n hx hb dX4_sellTo_8 rfl (lv_at hl 0 rfl) ?_
    refine lv_iconst (v := 2) hx hb dX4_sellTo_9 (by decide) ?_
    refine lv_iload_n hx hb dX4_sellTo_10 rfl (lv_at hl 1 rfl) ?_
    refine cV_i (As := [.int 2, .int p1]) (rest := []) hx hb hml hown hw hK hN hA hl.1 hP hD hS k_540 k_542 k_4 k_22 k_543 (met_X4_refuse l D cy _ ad en x k hk o 2 p1 (D_X4_refuse o 2 p1).1 (D_X4_refuse o 2 p1).2 rfl) (fun _ _ _ => trivial) Xok_T (gO (x := x) (r := 0) (o := o) (f := (o 0)) hk (by decide) rfl) rfl ⟨rfl, rfl⟩ (n := 2) (by decide +kernel) rfl ⟨Nat.le_of_ble_eq_true rfl, Nat.le_of_ble_eq_true rfl⟩ ⟨Nat.le_of_ble_eq_true rfl, Nat.le_of_ble_eq_true rfl⟩ (Nat.le_of_ble_eq_true rfl) rfl dX4_sellTo_11 (fun H locs hP hD hS => ?_)
    cases hF
    exact hret _ _ _ _ _ _ hP hD hS rfl rfl dX4_sellTo_14
def D_X4_pledgeTo (o : Nat → Nat → Int32) (p1 : Int32) (p2 : Int32) : Option (Int32 × (Nat → Nat → Int32)) := if (D_X4_hasCloud o p1) = 0 then (some ((D_X4_refuse o 2 p1).1, (D_X4_refuse o 2 p1).2)) else (if (D_X9_isOwner p2) = 0 then (some ((D_X4_refuse o 2 p2).1, (D_X4_refuse o 2 p2).2)) else (if inb p1 6 then ((D_X4_checkDeal o p1.toNatClampNeg p1 p2 (D_X1_loan (o (p1.toNatClampNeg + 7)))).bind (fun (r14, o15) => if r14 = (-1) then (some ((-1), o15)) else ((D_X4_pay o15 p2 ((o15 (p1.toNatClampNeg + 7)) 3) (D_X1_loan (o (p1.toNatClampNeg + 7)))).bind (fun o19 => some ((D_X1_loan (o (p1.toNatClampNeg + 7))), (va_up o19 (p1.toNatClampNeg + 7) (D_X1_pledgeTo (o19 (p1.toNatClampNeg + 7)) p2))))))) else none))
abbrev rm_X4_pledgeTo : Room := { frames := 3, cells := 0, slots := 0, locals := 65 }
set_option maxHeartbeats 4000000 in
set_option maxRecDepth 100000 in
theorem met_X4_pledgeTo (l : Launch) (D : va_G) (cy : Nat → ClassId) (sz : Nat) (ad : Nat → Nat → Nat) (en : Nat → Nat) (x : Mem) (k : Nat) (hk : k < 12) (o : Nat → Nat → Int32) (p1 : Int32) (p2 : Int32)  (r : Int32) (t' : Nat → Nat → Int32) (hF : D_X4_pledgeTo o p1 p2 = some (r, t')) : MI l yX4_pledgeTo cX4_pledgeTo 5 (some .int) rm_X4_pledgeTo D cy (cW cy ad en (va_up x k o)) sz (fun _ => True) [.ref (ad k 0), .int p1, .int p2] r (cW cy ad en (va_up x k t')) := by
  refine MI.of (by decide +kernel) (Nat.le_of_ble_eq_true rfl) ?_
  intro p e s m args below meth c A ls Q hAt _ hP hD hA hS hl hret
  obtain ⟨hx, hb, hr, hml, hown, hw, hlk, hK, hN⟩ := hAt
  have hown : s.vm.findClass "CloudDeeds$Office" = some m.cls := hown
  have hl : lv_has ls 5 [(0, .ref (ad k 0)), (1, .int p1), (2, .int p2)] := hl
  refine lv_aload_n hx hb dX4_pledgeTo_0 rfl (lv_at hl 0 rfl) ?_
  refine lv_iload_n hx hb dX4_pledgeTo_1 rfl (lv_at hl 1 rfl) ?_
  refine cV_i (As := [.int p1]) (rest := []) hx hb hml hown hw hK hN hA hl.1 hP hD hS k_653 k_320 k_321 k_22 k_322 (met_X4_hasCloud l D cy _ ad en x k hk o p1 (D_X4_hasCloud o p1) rfl) (fun _ _ _ => trivial) Xok_T (gO (x := x) (r := 0) (o := o) (f := (o 0)) hk (by decide) rfl) rfl ⟨rfl, rfl⟩ (n := 1) (by decide +kernel) rfl ⟨Nat.le_of_ble_eq_true rfl, Nat.le_of_ble_eq_true rfl⟩ ⟨Nat.le_of_ble_eq_true rfl, Nat.le_of_ble_eq_true rfl⟩ (Nat.le_of_ble_eq_true rfl) rfl dX4_pledgeTo_2 (fun H locs hP hD hS => ?_)
  refine lv_if_ne (tgt := 15) hx hb dX4_pledgeTo_5 (by decide) (fun h4 => ?_) (fun h4 => ?_)
  · replace hF := (if_neg h4).symm.trans hF
    refine lv_iload_n hx hb dX4_pledgeTo_15 rfl (lv_at hl 2 rfl) ?_
    refine cSN_i (As := [.int p2]) (rest := []) hx hb hml hown hw hK hN hA hl.1 hP hD hS n_444 k_432 k_21 k_433 (met_X9_isOwner l D cy _ (cW cy ad en (va_up x k o)) p2 (D_X9_isOwner p2) rfl) (fun _ _ _ => trivial) Xok_T ⟨rfl, rfl⟩ (n := 1) (by decide +kernel) rfl ⟨Nat.le_of_ble_eq_true rfl, Nat.le_of_ble_eq_true rfl⟩ ⟨Nat.le_of_ble_eq_true rfl, Nat.le_of_ble_eq_true rfl⟩ (Nat.le_of_ble_eq_true rfl) rfl dX4_pledgeTo_16 (fun H locs hP hD hS => ?_)
    refine lv_if_ne (tgt := 29) hx hb dX4_pledgeTo_19 (by decide) (fun h8 => ?_) (fun h8 => ?_)
    · replace hF := (if_neg h8).symm.trans hF
      refine lv_aload_n hx hb dX4_pledgeTo_29 rfl (lv_at hl 0 rfl) ?_
      refine get' (ci := 6) (fs := oF (ad k) (o 0)) (v := .ref (ad k 1)) hx hb hw inWX4 hown hK hP (gO (x := x) (r := 0) (o := o) (f := (o 0)) hk (by decide) rfl) rfl 0 (by decide) k_117 rfl rfl dX4_pledgeTo_30 ?_
      refine lv_iload_n hx hb dX4_pledgeTo_33 rfl (lv_at hl 1 rfl) ?_
      obtain ⟨h9, hF⟩ := ite_some hF
      have hr10 : (p1.toNatClampNeg + 7) < 13 := Nat.add_lt_add_right (inb_lt h9) 7
      refine aald' (n := 6) (g := (ad k (p1.toNatClampNeg + 7))) hx hb hK hP (gO (x := x) (r := 1) (o := o) (f := (o 1)) hk (by decide) rfl) (t0 := 3) rfl (vp_inb h9) rfl dX4_pledgeTo_34 ?_
      refine lv_astore_n (lv' := [(3, .ref (ad k (p1.toNatClampNeg + 7))), (0, .ref (ad k 0)), (1, .int p1), (2, .int p2)]) hx hb dX4_pledgeTo_35 rfl hl (by decide) rfl (fun ls hl => ?_)
      refine lv_aload_n hx hb dX4_pledgeTo_36 rfl (lv_at hl 0 rfl) ?_
      refine cV_i (As := []) (rest := []) hx hb hml hown hw hK hN hA hl.1 hP hD hS k_1031 k_1032 k_1033 k_24 k_1034 (met_X1_loan l D cy _ (cW cy ad en (va_up x k o)) (13 * k + (p1.toNatClampNeg + 7)) (ad k (p1.toNatClampNeg + 7)) (o (p1.toNatClampNeg + 7)) (gO (x := x) (r := (p1.toNatClampNeg + 7)) (o := o) (f := (o (p1.toNatClampNeg + 7))) hk hr10 rfl) (D_X1_loan (o (p1.toNatClampNeg + 7))) rfl) (fun _ _ _ => trivial) Xok_T (gO (x := x) (r := (p1.toNatClampNeg + 7)) (o := o) (f := (o (p1.toNatClampNeg + 7))) hk hr10 rfl) rfl ⟨rfl, rfl⟩ (n := 0) (by decide +kernel) rfl ⟨Nat.le_of_ble_eq_true rfl, Nat.le_of_ble_eq_true rfl⟩ ⟨Nat.le_of_ble_eq_true rfl, Nat.le_of_ble_eq_true rfl⟩ (Nat.le_of_ble_eq_true rfl) rfl dX4_pledgeTo_37 (fun H locs hP hD hS => ?_)
      refine lv_istore (lv' := [(4, .int (D_X1_loan (o (p1.toNatClampNeg + 7)))), (3, .ref (ad k (p1.toNatClampNeg + 7))), (0, .ref (ad k 0)), (1, .int p1), (2, .int p2)]) hx hb dX4_pledgeTo_40 hl (by decide) rfl (fun ls hl => ?_)
      refine lv_aload_n hx hb dX4_pledgeTo_42 rfl (lv_at hl 2 rfl) ?_
      refine lv_aload_n hx hb dX4_pledgeTo_43 rfl (lv_at hl 1 rfl) ?_
      refine lv_iload_n hx hb dX4_pledgeTo_44 rfl (lv_at hl 3 rfl) ?_
      refine lv_iload_n hx hb dX4_pledgeTo_45 rfl (lv_at hl 4 rfl) ?_
      refine lv_iload hx hb dX4_pledgeTo_46 (lv_at hl 0 rfl) ?_
      obtain ⟨⟨r14, o15⟩, hc16, hF⟩ := bind_some hF
      try dsimp only at hF
      refine cV_i (As := [.ref (ad k (p1.toNatClampNeg + 7)), .int p1, .int p2, .int (D_X1_loan (o (p1.toNatClampNeg + 7)))]) (rest := []) hx hb hml hown hw hK hN hA hl.1 hP hD hS k_1019 k_1021 k_17 k_22 k_1022 (met_X4_checkDeal l D cy _ ad en x k hk o p1.toNatClampNeg hr10 p1 p2 (D_X1_loan (o (p1.toNatClampNeg + 7))) r14 o15 hc16) (fun _ _ _ => trivial) Xok_T (gO (x := x) (r := 0) (o := o) (f := (o 0)) hk (by decide) rfl) rfl ⟨rfl, rfl⟩ (n := 4) (by decide +kernel) rfl ⟨Nat.le_of_ble_eq_true rfl, Nat.le_of_ble_eq_true rfl⟩ ⟨Nat.le_of_ble_eq_true rfl, Nat.le_of_ble_eq_true rfl⟩ (Nat.le_of_ble_eq_true rfl) rfl dX4_pledgeTo_48 (fun H locs hP hD hS => ?_)
      refine lv_iconst (v := (-1)) hx hb dX4_pledgeTo_51 (by decide) ?_
      refine lv_icmp_ne (tgt := 57) hx hb dX4_pledgeTo_52 (by decide) (fun h17 => ?_) (fun h17 => ?_)
      · replace hF := (if_neg h17).symm.trans hF
        refine lv_aload_n hx hb dX4_pledgeTo_57 rfl (lv_at hl 2 rfl) ?_
        refine lv_iload_n hx hb dX4_pledgeTo_58 rfl (lv_at hl 4 rfl) ?_
        refine lv_aload_n hx hb dX4_pledgeTo_59 rfl (lv_at hl 1 rfl) ?_
        refine getN' (ci := 4) (fs := cF (o15 (p1.toNatClampNeg + 7))) (v := .int ((o15 (p1.toNatClampNeg + 7)) 3)) hx hb hw hN inWX1 hown hK hP (gO (x := x) (r := (p1.toNatClampNeg + 7)) (o := o15) (f := (o15 (p1.toNatClampNeg + 7))) hk hr10 rfl) rfl 3 (by decide) n_97 rfl rfl dX4_pledgeTo_60 ?_
        refine lv_iload hx hb dX4_pledgeTo_63 (lv_at hl 0 rfl) ?_
        obtain ⟨o19, hc20, hF⟩ := bind_some hF
        try dsimp only at hF
        refine cV_v (As := [.int p2, .int ((o15 (p1.toNatClampNeg + 7)) 3), .int (D_X1_loan (o (p1.toNatClampNeg + 7)))]) (rest := []) hx hb hml hown hw hK hN hA hl.1 hP hD hS k_1023 k_1025 k_18 k_22 k_1026 (met_X4_pay l D cy _ ad en x k hk o15 p2 ((o15 (p1.toNatClampNeg + 7)) 3) (D_X1_loan (o (p1.toNatClampNeg + 7))) o19 hc20) (fun _ _ _ => trivial) Xok_T (gO (x := x) (r := 0) (o := o15) (f := (o15 0)) hk (by decide) rfl) rfl ⟨rfl, rfl⟩ (n := 3) (by decide +kernel) rfl ⟨Nat.le_of_ble_eq_true rfl, Nat.le_of_ble_eq_true rfl⟩ ⟨Nat.le_of_ble_eq_true rfl, Nat.le_of_ble_eq_true rfl⟩ (Nat.le_of_ble_eq_true rfl) rfl dX4_pledgeTo_65 (fun H locs hP hD hS => ?_)
        refine lv_aload_n hx hb dX4_pledgeTo_68 rfl (lv_at hl 1 rfl) ?_
        refine lv_iload_n hx hb dX4_pledgeTo_69 rfl (lv_at hl 4 rfl) ?_
        refine cV_v (As := [.int p2]) (rest := []) hx hb hml hown hw hK hN hA hl.1 hP hD hS k_1035 k_1036 k_1037 k_24 k_1038 (met_X1_pledgeTo l D cy _ (cW cy ad en (va_up x k o19)) (13 * k + (p1.toNatClampNeg + 7)) (ad k (p1.toNatClampNeg + 7)) (o19 (p1.toNatClampNeg + 7)) p2 (gO (x := x) (r := (p1.toNatClampNeg + 7)) (o := o19) (f := (o19 (p1.toNatClampNeg + 7))) hk hr10 rfl) (D_X1_pledgeTo (o19 (p1.toNatClampNeg + 7)) p2) rfl) (fun _ _ _ => trivial) Xok_T (gO (x := x) (r := (p1.toNatClampNeg + 7)) (o := o19) (f := (o19 (p1.toNatClampNeg + 7))) hk hr10 rfl) rfl ⟨rfl, rfl⟩ (n := 1) (by decide +kernel) rfl ⟨Nat.le_of_ble_eq_true rfl, Nat.le_of_ble_eq_true rfl⟩ ⟨Nat.le_of_ble_eq_true rfl, Nat.le_of_ble_eq_true rfl⟩ (Nat.le_of_ble_eq_true rfl) rfl dX4_pledgeTo_70 (fun H locs hP hD hS => ?_)
        have hP : va_P D vwCl (cW cy ad en (va_up x k (va_up o19 (p1.toNatClampNeg + 7) (D_X1_pledgeTo (o19 (p1.toNatClampNeg + 7)) p2)))) H := cvP hP (sO (x := x) (r := (p1.toNatClampNeg + 7)) (o := o19) (g := (D_X1_pledgeTo (o19 (p1.toNatClampNeg + 7)) p2)) hk hr10)
        have hD : va_D A (cW cy ad en (va_up x k (va_up o19 (p1.toNatClampNeg + 7) (D_X1_pledgeTo (o19 (p1.toNatClampNeg + 7)) p2)))) := cvD hD (sO (x := x) (r := (p1.toNatClampNeg + 7)) (o := o19) (g := (D_X1_pledgeTo (o19 (p1.toNatClampNeg + 7)) p2)) hk hr10)
        refine lv_iload hx hb dX4_pledgeTo_73 (lv_at hl 0 rfl) ?_
        cases hF
        exact hret _ _ _ _ _ _ hP hD hS rfl rfl dX4_pledgeTo_75
      · replace hF := (if_pos h17).symm.trans hF
        refine lv_iconst (v := (-1)) hx hb dX4_pledgeTo_55 (by decide) ?_
        cases hF
        exact hret _ _ _ _ _ _ hP hD hS rfl rfl dX4_pledgeTo_56
    · replace hF := (if_pos h8).symm.trans hF
      refine lv_aload_n hx hb dX4_pledgeTo_22 rfl (lv_at hl 0 rfl) ?_
      refine lv_iconst (v := 2) hx hb dX4_pledgeTo_23 (by decide) ?_
      refine lv_iload_n hx hb dX4_pledgeTo_24 rfl (lv_at hl 2 rfl) ?_
      refine cV_i (As := [.int 2, .int p2]) (rest := []) hx hb hml hown hw hK hN hA hl.1 hP hD hS k_540 k_542 k_4 k_22 k_543 (met_X4_refuse l D cy _ ad en x k hk o 2 p2 (D_X4_refuse o 2 p2).1 (D_X4_refuse o 2 p2).2 rfl) (fun _ _ _ => trivial) Xok_T (gO (x := x) (r := 0) (o := o) (f := (o 0)) hk (by decide) rfl) rfl ⟨rfl, rfl⟩ (n := 2) (by decide +kernel) rfl ⟨Nat.le_of_ble_eq_true rfl, Nat.le_of_ble_eq_true rfl⟩ ⟨Nat.le_of_ble_eq_true rfl, Nat.le_of_ble_eq_true rfl⟩ (Nat.le_of_ble_eq_true rfl) rfl dX4_pledgeTo_25 (fun H locs hP hD hS => ?_)
      cases hF
      exact hret _ _ _ _ _ _ hP hD hS rfl rfl dX4_pledgeTo_28
  · replace hF := (if_pos h4).symm.trans hF
    refine lv_aload_n hx hb dX4_pledgeTo_8 rfl (lv_at hl 0 rfl) ?_
    refine lv_iconst (v := 2) hx hb dX4_pledgeTo_9 (by decide) ?_
    refine lv_iload_n hx hb dX4_pledgeTo_10 rfl (lv_at hl 1 rfl) ?_
    refine cV_i (As := [.int 2, .int p1]) (rest := []) hx hb hml hown hw hK hN hA hl.1 hP hD hS k_540 k_542 k_4 k_22 k_543 (met_X4_refuse l D cy _ ad en x k hk o 2 p1 (D_X4_refuse o 2 p1).1 (D_X4_refuse o 2 p1).2 rfl) (fun _ _ _ => trivial) Xok_T (gO (x := x) (r := 0) (o := o) (f := (o 0)) hk (by decide) rfl) rfl ⟨rfl, rfl⟩ (n := 2) (by decide +kernel) rfl ⟨Nat.le_of_ble_eq_true rfl, Nat.le_of_ble_eq_true rfl⟩ ⟨Nat.le_of_ble_eq_true rfl, Nat.le_of_ble_eq_true rfl⟩ (Nat.le_of_ble_eq_true rfl) rfl dX4_pledgeTo_11 (fun H locs hP hD hS => ?_)
    cases hF
    exact hret _ _ _ _ _ _ hP hD hS rfl rfl dX4_pledgeTo_14
def D_X4_letDawn (o : Nat → Nat → Int32) : Option (Int32 × (Nat → Nat → Int32)) := (D_X4_lapseTitles o).bind (fun o2 => (D_X4_claimClouds o2).bind (fun (r4, o5) => (D_X4_payForClouds o5).bind (fun o8 => (D_X7_record o8 ((o8 0) 1)).bind (fun o11 => some (r4, (va_up o11 0 (upd (o11 0) 5 (((o11 0) 5) + 1))))))))
abbrev rm_X4_letDawn : Room := { frames := 3, cells := 0, slots := 0, locals := 64 }
set_option maxHeartbeats 4000000 in
set_option maxRecDepth 100000 in
theorem met_X4_letDawn (l : Launch) (D : va_G) (cy : Nat → ClassId) (sz : Nat) (ad : Nat → Nat → Nat) (en : Nat → Nat) (x : Mem) (k : Nat) (hk : k < 12) (o : Nat → Nat → Int32)  (r : Int32) (t' : Nat → Nat → Int32) (hF : D_X4_letDawn o = some (r, t')) : MI l yX4_letDawn cX4_letDawn 2 (some .int) rm_X4_letDawn D cy (cW cy ad en (va_up x k o)) sz (fun _ => True) [.ref (ad k 0)] r (cW cy ad en (va_up x k t')) := by
  refine MI.of (by decide +kernel) (Nat.le_of_ble_eq_true rfl) ?_
  intro p e s m args below meth c A ls Q hAt _ hP hD hA hS hl hret
  obtain ⟨hx, hb, hr, hml, hown, hw, hlk, hK, hN⟩ := hAt
  have hown : s.vm.findClass "CloudDeeds$Office" = some m.cls := hown
  have hl : lv_has ls 2 [(0, .ref (ad k 0))] := hl
  refine lv_aload_n hx hb dX4_letDawn_0 rfl (lv_at hl 0 rfl) ?_
  obtain ⟨o2, hc3, hF⟩ := bind_some hF
  try dsimp only at hF
  refine cV_v (As := []) (rest := []) hx hb hml hown hw hK hN hA hl.1 hP hD hS k_563 k_565 k_5 k_22 k_566 (met_X4_lapseTitles l D cy _ ad en x k hk o o2 hc3) (fun _ _ _ => trivial) Xok_T (gO (x := x) (r := 0) (o := o) (f := (o 0)) hk (by decide) rfl) rfl ⟨rfl, rfl⟩ (n := 0) (by decide +kernel) rfl ⟨Nat.le_of_ble_eq_true rfl, Nat.le_of_ble_eq_true rfl⟩ ⟨Nat.le_of_ble_eq_true rfl, Nat.le_of_ble_eq_true rfl⟩ (Nat.le_of_ble_eq_true rfl) rfl dX4_letDawn_1 (fun H locs hP hD hS => ?_)
  refine lv_aload_n hx hb dX4_letDawn_4 rfl (lv_at hl 0 rfl) ?_
  obtain ⟨⟨r4, o5⟩, hc6, hF⟩ := bind_some hF
  try dsimp only at hF
  refine cV_i (As := []) (rest := []) hx hb hml hown hw hK hN hA hl.1 hP hD hS k_575 k_577 k_6 k_22 k_578 (met_X4_claimClouds l D cy _ ad en x k hk o2 r4 o5 hc6) (fun _ _ _ => trivial) Xok_T (gO (x := x) (r := 0) (o := o2) (f := (o2 0)) hk (by decide) rfl) rfl ⟨rfl, rfl⟩ (n := 0) (by decide +kernel) rfl ⟨Nat.le_of_ble_eq_true rfl, Nat.le_of_ble_eq_true rfl⟩ ⟨Nat.le_of_ble_eq_true rfl, Nat.le_of_ble_eq_true rfl⟩ (Nat.le_of_ble_eq_true rfl) rfl dX4_letDawn_5 (fun H locs hP hD hS => ?_)
  refine lv_istore_n (lv' := [(1, .int r4), (0, .ref (ad k 0))]) hx hb dX4_letDawn_8 rfl hl (by decide) rfl (fun ls hl => ?_)
  refine lv_aload_n hx hb dX4_letDawn_9 rfl (lv_at hl 1 rfl) ?_
  obtain ⟨o8, hc9, hF⟩ := bind_some hF
  try dsimp only at hF
  refine cV_v (As := []) (rest := []) hx hb hml hown hw hK hN hA hl.1 hP hD hS k_588 k_590 k_8 k_22 k_591 (met_X4_payForClouds l D cy _ ad en x k hk o5 o8 hc9) (fun _ _ _ => trivial) Xok_T (gO (x := x) (r := 0) (o := o5) (f := (o5 0)) hk (by decide) rfl) rfl ⟨rfl, rfl⟩ (n := 0) (by decide +kernel) rfl ⟨Nat.le_of_ble_eq_true rfl, Nat.le_of_ble_eq_true rfl⟩ ⟨Nat.le_of_ble_eq_true rfl, Nat.le_of_ble_eq_true rfl⟩ (Nat.le_of_ble_eq_true rfl) rfl dX4_letDawn_10 (fun H locs hP hD hS => ?_)
  refine lv_aload_n hx hb dX4_letDawn_13 rfl (lv_at hl 1 rfl) ?_
  refine get' (ci := 6) (fs := oF (ad k) (o8 0)) (v := .ref (ad k 4)) hx hb hw inWX4 hown hK hP (gO (x := x) (r := 0) (o := o8) (f := (o8 0)) hk (by decide) rfl) rfl 4 (by decide) k_123 rfl rfl dX4_letDawn_14 ?_
  refine lv_aload_n hx hb dX4_letDawn_17 rfl (lv_at hl 1 rfl) ?_
  refine get' (ci := 6) (fs := oF (ad k) (o8 0)) (v := .ref (ad k 1)) hx hb hw inWX4 hown hK hP (gO (x := x) (r := 0) (o := o8) (f := (o8 0)) hk (by decide) rfl) rfl 0 (by decide) k_117 rfl rfl dX4_letDawn_18 ?_
  refine lv_aload_n hx hb dX4_letDawn_21 rfl (lv_at hl 1 rfl) ?_
  refine get' (ci := 6) (fs := oF (ad k) (o8 0)) (v := .int ((o8 0) 1)) hx hb hw inWX4 hown hK hP (gO (x := x) (r := 0) (o := o8) (f := (o8 0)) hk (by decide) rfl) rfl 1 (by decide) k_119 rfl rfl dX4_letDawn_22 ?_
  obtain ⟨o11, hc12, hF⟩ := bind_some hF
  try dsimp only at hF
  refine cV_v (As := [.ref (ad k 1), .int ((o8 0) 1)]) (rest := []) hx hb hml hown hw hK hN hA hl.1 hP hD hS k_592 k_593 k_594 k_23 k_595 (met_X7_record l D cy _ ad en x k hk o8 ((o8 0) 1) o11 hc12) (fun _ _ _ => trivial) Xok_T (gO (x := x) (r := 4) (o := o8) (f := (o8 4)) hk (by decide) rfl) rfl ⟨rfl, rfl⟩ (n := 2) (by decide +kernel) rfl ⟨Nat.le_of_ble_eq_true rfl, Nat.le_of_ble_eq_true rfl⟩ ⟨Nat.le_of_ble_eq_true rfl, Nat.le_of_ble_eq_true rfl⟩ (Nat.le_of_ble_eq_true rfl) rfl dX4_letDawn_25 (fun H locs hP hD hS => ?_)
  refine lv_aload_n hx hb dX4_letDawn_28 rfl (lv_at hl 1 rfl) ?_
  refine lv_dup hx hb dX4_letDawn_29 rfl ?_
  refine get' (ci := 6) (fs := oF (ad k) (o11 0)) (v := .int ((o11 0) 5)) hx hb hw inWX4 hown hK hP (gO (x := x) (r := 0) (o := o11) (f := (o11 0)) hk (by decide) rfl) rfl 5 (by decide) k_125 rfl rfl dX4_letDawn_30 ?_
  refine lv_iconst (v := 1) hx hb dX4_letDawn_33 (by decide) ?_
  refine lv_iadd hx hb dX4_letDawn_34 ?_
  refine put' (ci := 6) (fs := oF (ad k) (o11 0)) (v := .int (((o11 0) 5) + 1)) (ty := .int) (ws' := (cW cy ad en (va_up x k (va_up o11 0 (upd (o11 0) 5 (((o11 0) 5) + 1)))))) hx hb hw inWX4 tyX4 tyX4_ok nmX4 hown hK hP hD hS (gO (x := x) (r := 0) (o := o11) (f := (o11 0)) hk (by decide) rfl) rfl 5 (by decide) k_125 rfl rfl (by decide +kernel) rfl rfl (Nat.le_of_ble_eq_true rfl) dX4_letDawn_35 (sO (x := x) (r := 0) (o := o11) (g := (upd (o11 0) 5 (((o11 0) 5) + 1))) hk (by decide)) (fun H locs hP hD hS => ?_)
  refine lv_iload_n hx hb dX4_letDawn_38 rfl (lv_at hl 0 rfl) ?_
  cases hF
  exact hret _ _ _ _ _ _ hP hD hS rfl rfl dX4_letDawn_39
def L_X4_areCloudsAlike_2 : Nat → (Nat → Nat → Int32) → (Int32) → Option (Int32)
  | 0, _, _ => none
  | n2 + 1, o, i1h2 => if 4 ≤ i1h2 then (some 1) else ((D_X4_cloudsCounted o i1h2).bind (fun r2 => (D_X4_cloudsLeftOver o i1h2).bind (fun r5 => if r2 = r5 then (L_X4_areCloudsAlike_2 n2 o (i1h2 + 1)) else (some 0))))
def D_X4_areCloudsAlike (o : Nat → Nat → Int32) : Option (Int32) := L_X4_areCloudsAlike_2 200 o 0
abbrev rm_X4_areCloudsAlike : Room := { frames := 2, cells := 0, slots := 0, locals := 46 }
set_option maxHeartbeats 4000000 in
set_option maxRecDepth 100000 in
theorem met_X4_areCloudsAlike (l : Launch) (D : va_G) (cy : Nat → ClassId) (sz : Nat) (ad : Nat → Nat → Nat) (en : Nat → Nat) (x : Mem) (k : Nat) (hk : k < 12) (o : Nat → Nat → Int32)  (r : Int32) (hF : D_X4_areCloudsAlike o = some r) : MI l yX4_areCloudsAlike cX4_areCloudsAlike 2 (some .boolean) rm_X4_areCloudsAlike D cy (cW cy ad en (va_up x k o)) sz (fun _ => True) [.ref (ad k 0)] r (cW cy ad en (va_up x k o)) := by
  refine MZ.of (by decide +kernel) (Nat.le_of_ble_eq_true rfl) ?_
  intro p e s m args below meth c A ls Q hAt _ hP hD hA hS hl hret
  obtain ⟨hx, hb, hr, hml, hown, hw, hlk, hK, hN⟩ := hAt
  have hown : s.vm.findClass "CloudDeeds$Office" = some m.cls := hown
  have hl : lv_has ls 2 [(0, .ref (ad k 0))] := hl
  refine lv_iconst (v := 0) hx hb dX4_areCloudsAlike_0 (by decide) ?_
  refine lv_istore_n (lv' := [(1, .int 0), (0, .ref (ad k 0))]) hx hb dX4_areCloudsAlike_1 rfl hl (by decide) rfl (fun ls hl => ?_)
  have loop2 : ∀ (n : Nat) (i1h2 : Int32) (H : Heap) (locs : List Loc) (ls : Array Slot), L_X4_areCloudsAlike_2 n o i1h2 = some r → va_P D vwCl (cW cy ad en (va_up x k o)) H → va_D A (cW cy ad en (va_up x k o)) → va_S A s.heap H locs → lv_has ls 2 [(1, .int i1h2), (0, .ref (ad k 0))] → W p l e rm_X4_areCloudsAlike s m args below meth c H locs 0 0 Q (F0 m 2 ls []) := by
    intro n
    induction n with
    | zero => intro i1h2 H locs ls hF _ _ _ _; exact absurd hF (by simp [L_X4_areCloudsAlike_2])
    | succ n2 ih2 =>
      intro i1h2 H locs ls hF hP hD hS hl
      refine lv_iload_n hx hb dX4_areCloudsAlike_2 rfl (lv_at hl 0 rfl) ?_
      refine lv_iconst (v := 4) hx hb dX4_areCloudsAlike_3 (by decide) ?_
      refine lv_icmp_ge (tgt := 28) hx hb dX4_areCloudsAlike_4 (by decide) (fun h1 => ?_) (fun h1 => ?_)
      · replace hF := (if_pos h1).symm.trans hF
        refine lv_iconst (v := 1) hx hb dX4_areCloudsAlike_28 (by decide) ?_
        cases hF
        exact hret _ _ _ _ _ _ hP hD hS rfl rfl rfl dX4_areCloudsAlike_29
      · replace hF := (if_neg h1).symm.trans hF
        refine lv_aload_n hx hb dX4_areCloudsAlike_7 rfl (lv_at hl 1 rfl) ?_
        refine lv_iload_n hx hb dX4_areCloudsAlike_8 rfl (lv_at hl 0 rfl) ?_
        obtain ⟨r2, hc4, hF⟩ := bind_some hF
        try dsimp only at hF
        refine cV_i (As := [.int i1h2]) (rest := []) hx hb hml hown hw hK hN hA hl.1 hP hD hS k_480 k_469 k_470 k_22 k_471 (met_X4_cloudsCounted l D cy _ ad en x k hk o i1h2 r2 hc4) (fun _ _ _ => trivial) Xok_T (gO (x := x) (r := 0) (o := o) (f := (o 0)) hk (by decide) rfl) rfl ⟨rfl, rfl⟩ (n := 1) (by decide +kernel) rfl ⟨Nat.le_of_ble_eq_true rfl, Nat.le_of_ble_eq_true rfl⟩ ⟨Nat.le_of_ble_eq_true rfl, Nat.le_of_ble_eq_true rfl⟩ (Nat.le_of_ble_eq_true rfl) rfl dX4_areCloudsAlike_9 (fun H locs hP hD hS => ?_)
        refine lv_aload_n hx hb dX4_areCloudsAlike_12 rfl (lv_at hl 1 rfl) ?_
        refine lv_iload_n hx hb dX4_areCloudsAlike_13 rfl (lv_at hl 0 rfl) ?_
        obtain ⟨r5, hc7, hF⟩ := bind_some hF
        try dsimp only at hF
        refine cV_i (As := [.int i1h2]) (rest := [.int r2]) hx hb hml hown hw hK hN hA hl.1 hP hD hS k_911 k_477 k_478 k_22 k_479 (met_X4_cloudsLeftOver l D cy _ ad en x k hk o i1h2 r5 hc7) (fun _ _ _ => trivial) Xok_T (gO (x := x) (r := 0) (o := o) (f := (o 0)) hk (by decide) rfl) rfl ⟨rfl, rfl⟩ (n := 1) (by decide +kernel) rfl ⟨Nat.le_of_ble_eq_true rfl, Nat.le_of_ble_eq_true rfl⟩ ⟨Nat.le_of_ble_eq_true rfl, Nat.le_of_ble_eq_true rfl⟩ (Nat.le_of_ble_eq_true rfl) rfl dX4_areCloudsAlike_14 (fun H locs hP hD hS => ?_)
        refine lv_icmp_eq (tgt := 22) hx hb dX4_areCloudsAlike_17 (by decide) (fun h8 => ?_) (fun h8 => ?_)
        · replace hF := (if_pos h8).symm.trans hF
          refine lv_iinc (v := (i1h2 + 1)) (lv' := [(1, .int (i1h2 + 1)), (0, .ref (ad k 0))]) hx hb dX4_areCloudsAlike_22 hl (k := 0) rfl rfl (by decide) rfl (fun ls hl => ?_)
          refine lv_goto (tgt := 2) hx hb dX4_areCloudsAlike_25 (by decide) ?_
          exact ih2 (i1h2 + 1)  _ _ _ hF hP hD hS (lv_sub hl [0, 1] rfl)
        · replace hF := (if_neg h8).symm.trans hF
          refine lv_iconst (v := 0) hx hb dX4_areCloudsAlike_20 (by decide) ?_
          cases hF
          exact hret _ _ _ _ _ _ hP hD hS rfl rfl rfl dX4_areCloudsAlike_21
  exact loop2 200 0  _ _ _ hF hP hD hS (lv_sub hl [0, 1] rfl)
def D_X4_tellAccount (o : Nat → Nat → Int32) (p1 : Int32) : Option (Int32) := if p1 = 0 then (some ((o 0) 1)) else (if p1 = 1 then ((D_X4_titledClouds o).bind (fun r3 => some r3)) else (if p1 = 2 then ((D_X4_pledgedClouds o).bind (fun r7 => some r7)) else (if p1 = 3 then ((D_X4_ownedVineyards o).bind (fun r11 => some r11)) else (if p1 = 4 then (some ((o 0) 5)) else (if p1 = 5 then (some ((o 0) 6)) else (if p1 = 6 then (some ((o 0) 7)) else (if p1 = 7 then (some ((o 0) 8)) else (if p1 = 8 then (some ((o 0) 9)) else (if p1 = 9 then (some ((o 0) 10)) else (some ((o 0) 11)))))))))))
abbrev rm_X4_tellAccount : Room := { frames := 2, cells := 0, slots := 0, locals := 43 }
set_option maxHeartbeats 4000000 in
set_option maxRecDepth 100000 in
theorem met_X4_tellAccount (l : Launch) (D : va_G) (cy : Nat → ClassId) (sz : Nat) (ad : Nat → Nat → Nat) (en : Nat → Nat) (x : Mem) (k : Nat) (hk : k < 12) (o : Nat → Nat → Int32) (p1 : Int32)  (r : Int32) (hF : D_X4_tellAccount o p1 = some r) : MI l yX4_tellAccount cX4_tellAccount 2 (some .int) rm_X4_tellAccount D cy (cW cy ad en (va_up x k o)) sz (fun _ => True) [.ref (ad k 0), .int p1] r (cW cy ad en (va_up x k o)) := by
  refine MI.of (by decide +kernel) (Nat.le_of_ble_eq_true rfl) ?_
  intro p e s m args below meth c A ls Q hAt _ hP hD hA hS hl hret
  obtain ⟨hx, hb, hr, hml, hown, hw, hlk, hK, hN⟩ := hAt
  have hown : s.vm.findClass "CloudDeeds$Office" = some m.cls := hown
  have hl : lv_has ls 2 [(0, .ref (ad k 0)), (1, .int p1)] := hl
  refine lv_iload_n hx hb dX4_tellAccount_0 rfl (lv_at hl 1 rfl) ?_
  by_cases h1 : p1 = 0
  · replace hF := (if_pos h1).symm.trans hF
    refine lv_tableIn (tgt := 56) (off := 55) hx hb dX4_tellAccount_1 (by rw [h1]; decide) (by rw [h1]; decide) (by rw [h1]; decide) (by decide) ?_
    refine lv_aload_n hx hb dX4_tellAccount_56 rfl (lv_at hl 0 rfl) ?_
    refine get' (ci := 6) (fs := oF (ad k) (o 0)) (v := .int ((o 0) 1)) hx hb hw inWX4 hown hK hP (gO (x := x) (r := 0) (o := o) (f := (o 0)) hk (by decide) rfl) rfl 1 (by decide) k_119 rfl rfl dX4_tellAccount_57 ?_
    cases hF
    exact hret _ _ _ _ _ _ hP hD hS rfl rfl dX4_tellAccount_60
  · replace hF := (if_neg h1).symm.trans hF
    by_cases h2 : p1 = 1
    · replace hF := (if_pos h2).symm.trans hF
      refine lv_tableIn (tgt := 61) (off := 60) hx hb dX4_tellAccount_1 (by rw [h2]; decide) (by rw [h2]; decide) (by rw [h2]; decide) (by decide) ?_
      refine lv_aload_n hx hb dX4_tellAccount_61 rfl (lv_at hl 0 rfl) ?_
      obtain ⟨r3, hc5, hF⟩ := bind_some hF
      try dsimp only at hF
      refine cV_i (As := []) (rest := []) hx hb hml hown hw hK hN hA hl.1 hP hD hS k_894 k_882 k_883 k_22 k_884 (met_X4_titledClouds l D cy _ ad en x k hk o r3 hc5) (fun _ _ _ => trivial) Xok_T (gO (x := x) (r := 0) (o := o) (f := (o 0)) hk (by decide) rfl) rfl ⟨rfl, rfl⟩ (n := 0) (by decide +kernel) rfl ⟨Nat.le_of_ble_eq_true rfl, Nat.le_of_ble_eq_true rfl⟩ ⟨Nat.le_of_ble_eq_true rfl, Nat.le_of_ble_eq_true rfl⟩ (Nat.le_of_ble_eq_true rfl) rfl dX4_tellAccount_62 (fun H locs hP hD hS => ?_)
      cases hF
      exact hret _ _ _ _ _ _ hP hD hS rfl rfl dX4_tellAccount_65
    · replace hF := (if_neg h2).symm.trans hF
      by_cases h6 : p1 = 2
      · replace hF := (if_pos h6).symm.trans hF
        refine lv_tableIn (tgt := 66) (off := 65) hx hb dX4_tellAccount_1 (by rw [h6]; decide) (by rw [h6]; decide) (by rw [h6]; decide) (by decide) ?_
        refine lv_aload_n hx hb dX4_tellAccount_66 rfl (lv_at hl 0 rfl) ?_
        obtain ⟨r7, hc9, hF⟩ := bind_some hF
        try dsimp only at hF
        refine cV_i (As := []) (rest := []) hx hb hml hown hw hK hN hA hl.1 hP hD hS k_895 k_897 k_14 k_22 k_898 (met_X4_pledgedClouds l D cy _ ad en x k hk o r7 hc9) (fun _ _ _ => trivial) Xok_T (gO (x := x) (r := 0) (o := o) (f := (o 0)) hk (by decide) rfl) rfl ⟨rfl, rfl⟩ (n := 0) (by decide +kernel) rfl ⟨Nat.le_of_ble_eq_true rfl, Nat.le_of_ble_eq_true rfl⟩ ⟨Nat.le_of_ble_eq_true rfl, Nat.le_of_ble_eq_true rfl⟩ (Nat.le_of_ble_eq_true rfl) rfl dX4_tellAccount_67 (fun H locs hP hD hS => ?_)
        cases hF
        exact hret _ _ _ _ _ _ hP hD hS rfl rfl dX4_tellAccount_70
      · replace hF := (if_neg h6).symm.trans hF
        by_cases h10 : p1 = 3
        · replace hF := (if_pos h10).symm.trans hF
          refine lv_tableIn (tgt := 71) (off := 70) hx hb dX4_tellAccount_1 (by rw [h10]; decide) (by rw [h10]; decide) (by rw [h10]; decide) (by decide) ?_
          refine lv_aload_n hx hb dX4_tellAccount_71 rfl (lv_at hl 0 rfl) ?_
          obtain ⟨r11, hc13, hF⟩ := bind_some hF
          try dsimp only at hF
          refine cV_i (As := []) (rest := []) hx hb hml hown hw hK hN hA hl.1 hP hD hS k_899 k_901 k_15 k_22 k_902 (met_X4_ownedVineyards l D cy _ ad en x k hk o r11 hc13) (fun _ _ _ => trivial) Xok_T (gO (x := x) (r := 0) (o := o) (f := (o 0)) hk (by decide) rfl) rfl ⟨rfl, rfl⟩ (n := 0) (by decide +kernel) rfl ⟨Nat.le_of_ble_eq_true rfl, Nat.le_of_ble_eq_true rfl⟩ ⟨Nat.le_of_ble_eq_true rfl, Nat.le_of_ble_eq_true rfl⟩ (Nat.le_of_ble_eq_true rfl) rfl dX4_tellAccount_72 (fun H locs hP hD hS => ?_)
          cases hF
          exact hret _ _ _ _ _ _ hP hD hS rfl rfl dX4_tellAccount_75
        · replace hF := (if_neg h10).symm.trans hF
          by_cases h14 : p1 = 4
          · replace hF := (if_pos h14).symm.trans hF
            refine lv_tableIn (tgt := 76) (off := 75) hx hb dX4_tellAccount_1 (by rw [h14]; decide) (by rw [h14]; decide) (by rw [h14]; decide) (by decide) ?_
            refine lv_aload_n hx hb dX4_tellAccount_76 rfl (lv_at hl 0 rfl) ?_
            refine get' (ci := 6) (fs := oF (ad k) (o 0)) (v := .int ((o 0) 5)) hx hb hw inWX4 hown hK hP (gO (x := x) (r := 0) (o := o) (f := (o 0)) hk (by decide) rfl) rfl 5 (by decide) k_125 rfl rfl dX4_tellAccount_77 ?_
            cases hF
            exact hret _ _ _ _ _ _ hP hD hS rfl rfl dX4_tellAccount_80
          · replace hF := (if_neg h14).symm.trans hF
            by_cases h15 : p1 = 5
            · replace hF := (if_pos h15).symm.trans hF
              refine lv_tableIn (tgt := 81) (off := 80) hx hb dX4_tellAccount_1 (by rw [h15]; decide) (by rw [h15]; decide) (by rw [h15]; decide) (by decide) ?_
              refine lv_aload_n hx hb dX4_tellAccount_81 rfl (lv_at hl 0 rfl) ?_
              refine get' (ci := 6) (fs := oF (ad k) (o 0)) (v := .int ((o 0) 6)) hx hb hw inWX4 hown hK hP (gO (x := x) (r := 0) (o := o) (f := (o 0)) hk (by decide) rfl) rfl 6 (by decide) k_126 rfl rfl dX4_tellAccount_82 ?_
              cases hF
              exact hret _ _ _ _ _ _ hP hD hS rfl rfl dX4_tellAccount_85
            · replace hF := (if_neg h15).symm.trans hF
              by_cases h16 : p1 = 6
              · replace hF := (if_pos h16).symm.trans hF
                refine lv_tableIn (tgt := 86) (off := 85) hx hb dX4_tellAccount_1 (by rw [h16]; decide) (by rw [h16]; decide) (by rw [h16]; decide) (by decide) ?_
                refine lv_aload_n hx hb dX4_tellAccount_86 rfl (lv_at hl 0 rfl) ?_
                refine get' (ci := 6) (fs := oF (ad k) (o 0)) (v := .int ((o 0) 7)) hx hb hw inWX4 hown hK hP (gO (x := x) (r := 0) (o := o) (f := (o 0)) hk (by decide) rfl) rfl 7 (by decide) k_127 rfl rfl dX4_tellAccount_87 ?_
                cases hF
                exact hret _ _ _ _ _ _ hP hD hS rfl rfl dX4_tellAccount_90
              · replace hF := (if_neg h16).symm.trans hF
                by_cases h17 : p1 = 7
                · replace hF := (if_pos h17).symm.trans hF
                  refine lv_tableIn (tgt := 91) (off := 90) hx hb dX4_tellAccount_1 (by rw [h17]; decide) (by rw [h17]; decide) (by rw [h17]; decide) (by decide) ?_
                  refine lv_aload_n hx hb dX4_tellAccount_91 rfl (lv_at hl 0 rfl) ?_
                  refine get' (ci := 6) (fs := oF (ad k) (o 0)) (v := .int ((o 0) 8)) hx hb hw inWX4 hown hK hP (gO (x := x) (r := 0) (o := o) (f := (o 0)) hk (by decide) rfl) rfl 8 (by decide) k_128 rfl rfl dX4_tellAccount_92 ?_
                  cases hF
                  exact hret _ _ _ _ _ _ hP hD hS rfl rfl dX4_tellAccount_95
                · replace hF := (if_neg h17).symm.trans hF
                  by_cases h18 : p1 = 8
                  · replace hF := (if_pos h18).symm.trans hF
                    refine lv_tableIn (tgt := 96) (off := 95) hx hb dX4_tellAccount_1 (by rw [h18]; decide) (by rw [h18]; decide) (by rw [h18]; decide) (by decide) ?_
                    refine lv_aload_n hx hb dX4_tellAccount_96 rfl (lv_at hl 0 rfl) ?_
                    refine get' (ci := 6) (fs := oF (ad k) (o 0)) (v := .int ((o 0) 9)) hx hb hw inWX4 hown hK hP (gO (x := x) (r := 0) (o := o) (f := (o 0)) hk (by decide) rfl) rfl 9 (by decide) k_129 rfl rfl dX4_tellAccount_97 ?_
                    cases hF
                    exact hret _ _ _ _ _ _ hP hD hS rfl rfl dX4_tellAccount_100
                  · replace hF := (if_neg h18).symm.trans hF
                    by_cases h19 : p1 = 9
                    · replace hF := (if_pos h19).symm.trans hF
                      refine lv_tableIn (tgt := 101) (off := 100) hx hb dX4_tellAccount_1 (by rw [h19]; decide) (by rw [h19]; decide) (by rw [h19]; decide) (by decide) ?_
                      refine lv_aload_n hx hb dX4_tellAccount_101 rfl (lv_at hl 0 rfl) ?_
                      refine get' (ci := 6) (fs := oF (ad k) (o 0)) (v := .int ((o 0) 10)) hx hb hw inWX4 hown hK hP (gO (x := x) (r := 0) (o := o) (f := (o 0)) hk (by decide) rfl) rfl 10 (by decide) k_130 rfl rfl dX4_tellAccount_102 ?_
                      cases hF
                      exact hret _ _ _ _ _ _ hP hD hS rfl rfl dX4_tellAccount_105
                    · replace hF := (if_neg h19).symm.trans hF
                      refine tableDf (tgt := 106) hx hb dX4_tellAccount_1 (fun z hz1 hz2 hz3 => by have eh1 := lv_neT h1 (show (0 : Int32).toInt = 0 by decide); have eh2 := lv_neT h2 (show (1 : Int32).toInt = 1 by decide); have eh6 := lv_neT h6 (show (2 : Int32).toInt = 2 by decide); have eh10 := lv_neT h10 (show (3 : Int32).toInt = 3 by decide); have eh14 := lv_neT h14 (show (4 : Int32).toInt = 4 by decide); have eh15 := lv_neT h15 (show (5 : Int32).toInt = 5 by decide); have eh16 := lv_neT h16 (show (6 : Int32).toInt = 6 by decide); have eh17 := lv_neT h17 (show (7 : Int32).toInt = 7 by decide); have eh18 := lv_neT h18 (show (8 : Int32).toInt = 8 by decide); have eh19 := lv_neT h19 (show (9 : Int32).toInt = 9 by decide); omega) (by decide) ?_
                      refine lv_aload_n hx hb dX4_tellAccount_106 rfl (lv_at hl 0 rfl) ?_
                      refine get' (ci := 6) (fs := oF (ad k) (o 0)) (v := .int ((o 0) 11)) hx hb hw inWX4 hown hK hP (gO (x := x) (r := 0) (o := o) (f := (o 0)) hk (by decide) rfl) rfl 11 (by decide) k_131 rfl rfl dX4_tellAccount_107 ?_
                      cases hF
                      exact hret _ _ _ _ _ _ hP hD hS rfl rfl dX4_tellAccount_110
def L_X4_cloudsAheadOf_4 : Nat → (Nat → Nat → Int32) → (Int32) → (Int32) → (Int32) → Option (Int32)
  | 0, _, _, _, _ => none
  | n4 + 1, o, p1, i3h4, i2h4 => if ((o 0) 1) ≤ i3h4 then (some i2h4) else ((D_X4_isCloudAhead o i3h4 p1).bind (fun r2 => if r2 = 0 then (L_X4_cloudsAheadOf_4 n4 o p1 (i3h4 + 1) i2h4) else (L_X4_cloudsAheadOf_4 n4 o p1 (i3h4 + 1) (i2h4 + 1))))
def D_X4_cloudsAheadOf (o : Nat → Nat → Int32) (p1 : Int32) : Option (Int32) := L_X4_cloudsAheadOf_4 200 o p1 0 0
abbrev rm_X4_cloudsAheadOf : Room := { frames := 3, cells := 0, slots := 0, locals := 64 }
set_option maxHeartbeats 4000000 in
set_option maxRecDepth 100000 in
theorem met_X4_cloudsAheadOf (l : Launch) (D : va_G) (cy : Nat → ClassId) (sz : Nat) (ad : Nat → Nat → Nat) (en : Nat → Nat) (x : Mem) (k : Nat) (hk : k < 12) (o : Nat → Nat → Int32) (p1 : Int32)  (r : Int32) (hF : D_X4_cloudsAheadOf o p1 = some r) : MI l yX4_cloudsAheadOf cX4_cloudsAheadOf 4 (some .int) rm_X4_cloudsAheadOf D cy (cW cy ad en (va_up x k o)) sz (fun _ => True) [.ref (ad k 0), .int p1] r (cW cy ad en (va_up x k o)) := by
  refine MI.of (by decide +kernel) (Nat.le_of_ble_eq_true rfl) ?_
  intro p e s m args below meth c A ls Q hAt _ hP hD hA hS hl hret
  obtain ⟨hx, hb, hr, hml, hown, hw, hlk, hK, hN⟩ := hAt
  have hown : s.vm.findClass "CloudDeeds$Office" = some m.cls := hown
  have hl : lv_has ls 4 [(0, .ref (ad k 0)), (1, .int p1)] := hl
  refine lv_iconst (v := 0) hx hb dX4_cloudsAheadOf_0 (by decide) ?_
  refine lv_istore_n (lv' := [(2, .int 0), (0, .ref (ad k 0)), (1, .int p1)]) hx hb dX4_cloudsAheadOf_1 rfl hl (by decide) rfl (fun ls hl => ?_)
  refine lv_iconst (v := 0) hx hb dX4_cloudsAheadOf_2 (by decide) ?_
  refine lv_istore_n (lv' := [(3, .int 0), (2, .int 0), (0, .ref (ad k 0)), (1, .int p1)]) hx hb dX4_cloudsAheadOf_3 rfl hl (by decide) rfl (fun ls hl => ?_)
  have loop4 : ∀ (n : Nat) (i3h4 : Int32) (i2h4 : Int32) (H : Heap) (locs : List Loc) (ls : Array Slot), L_X4_cloudsAheadOf_4 n o p1 i3h4 i2h4 = some r → va_P D vwCl (cW cy ad en (va_up x k o)) H → va_D A (cW cy ad en (va_up x k o)) → va_S A s.heap H locs → lv_has ls 4 [(3, .int i3h4), (2, .int i2h4), (0, .ref (ad k 0)), (1, .int p1)] → W p l e rm_X4_cloudsAheadOf s m args below meth c H locs 0 0 Q (F0 m 4 ls []) := by
    intro n
    induction n with
    | zero => intro i3h4 i2h4 H locs ls hF _ _ _ _; exact absurd hF (by simp [L_X4_cloudsAheadOf_4])
    | succ n4 ih4 =>
      intro i3h4 i2h4 H locs ls hF hP hD hS hl
      refine lv_iload_n hx hb dX4_cloudsAheadOf_4 rfl (lv_at hl 0 rfl) ?_
      refine lv_aload_n hx hb dX4_cloudsAheadOf_5 rfl (lv_at hl 2 rfl) ?_
      refine get' (ci := 6) (fs := oF (ad k) (o 0)) (v := .int ((o 0) 1)) hx hb hw inWX4 hown hK hP (gO (x := x) (r := 0) (o := o) (f := (o 0)) hk (by decide) rfl) rfl 1 (by decide) k_119 rfl rfl dX4_cloudsAheadOf_6 ?_
      refine lv_icmp_ge (tgt := 30) hx hb dX4_cloudsAheadOf_9 (by decide) (fun h1 => ?_) (fun h1 => ?_)
      · replace hF := (if_pos h1).symm.trans hF
        refine lv_iload_n hx hb dX4_cloudsAheadOf_30 rfl (lv_at hl 1 rfl) ?_
        cases hF
        exact hret _ _ _ _ _ _ hP hD hS rfl rfl dX4_cloudsAheadOf_31
      · replace hF := (if_neg h1).symm.trans hF
        refine lv_aload_n hx hb dX4_cloudsAheadOf_12 rfl (lv_at hl 2 rfl) ?_
        refine lv_iload_n hx hb dX4_cloudsAheadOf_13 rfl (lv_at hl 0 rfl) ?_
        refine lv_iload_n hx hb dX4_cloudsAheadOf_14 rfl (lv_at hl 3 rfl) ?_
        obtain ⟨r2, hc4, hF⟩ := bind_some hF
        try dsimp only at hF
        refine cV_i (As := [.int i3h4, .int p1]) (rest := []) hx hb hml hown hw hK hN hA hl.1 hP hD hS k_649 k_651 k_11 k_22 k_652 (met_X4_isCloudAhead l D cy _ ad en x k hk o i3h4 p1 r2 hc4) (fun _ _ _ => trivial) Xok_T (gO (x := x) (r := 0) (o := o) (f := (o 0)) hk (by decide) rfl) rfl ⟨rfl, rfl⟩ (n := 2) (by decide +kernel) rfl ⟨Nat.le_of_ble_eq_true rfl, Nat.le_of_ble_eq_true rfl⟩ ⟨Nat.le_of_ble_eq_true rfl, Nat.le_of_ble_eq_true rfl⟩ (Nat.le_of_ble_eq_true rfl) rfl dX4_cloudsAheadOf_15 (fun H locs hP hD hS => ?_)
        refine lv_if_eq (tgt := 24) hx hb dX4_cloudsAheadOf_18 (by decide) (fun h5 => ?_) (fun h5 => ?_)
        · replace hF := (if_pos h5).symm.trans hF
          refine lv_iinc (v := (i3h4 + 1)) (lv' := [(3, .int (i3h4 + 1)), (2, .int i2h4), (0, .ref (ad k 0)), (1, .int p1)]) hx hb dX4_cloudsAheadOf_24 hl (k := 0) rfl rfl (by decide) rfl (fun ls hl => ?_)
          refine lv_goto (tgt := 4) hx hb dX4_cloudsAheadOf_27 (by decide) ?_
          exact ih4 (i3h4 + 1) i2h4  _ _ _ hF hP hD hS (lv_sub hl [0, 1, 2, 3] rfl)
        · replace hF := (if_neg h5).symm.trans hF
          refine lv_iinc (v := (i2h4 + 1)) (lv' := [(2, .int (i2h4 + 1)), (3, .int i3h4), (0, .ref (ad k 0)), (1, .int p1)]) hx hb dX4_cloudsAheadOf_21 hl (k := 1) rfl rfl (by decide) rfl (fun ls hl => ?_)
          refine lv_iinc (v := (i3h4 + 1)) (lv' := [(3, .int (i3h4 + 1)), (2, .int (i2h4 + 1)), (0, .ref (ad k 0)), (1, .int p1)]) hx hb dX4_cloudsAheadOf_24 hl (k := 1) rfl rfl (by decide) rfl (fun ls hl => ?_)
          refine lv_goto (tgt := 4) hx hb dX4_cloudsAheadOf_27 (by decide) ?_
          exact ih4 (i3h4 + 1) (i2h4 + 1)  _ _ _ hF hP hD hS (lv_sub hl [0, 1, 2, 3] rfl)
  exact loop4 200 0 0  _ _ _ hF hP hD hS (lv_sub hl [0, 1, 2, 3] rfl)
def L_X4_ownersAheadOf_4 : Nat → (Nat → Nat → Int32) → (Int32) → (Int32) → (Int32) → Option (Int32)
  | 0, _, _, _, _ => none
  | n4 + 1, o, p1, i3h4, i2h4 => if 4 ≤ i3h4 then (some i2h4) else ((D_X4_isOwnerAhead o i3h4 p1).bind (fun r2 => if r2 = 0 then (L_X4_ownersAheadOf_4 n4 o p1 (i3h4 + 1) i2h4) else (L_X4_ownersAheadOf_4 n4 o p1 (i3h4 + 1) (i2h4 + 1))))
def D_X4_ownersAheadOf (o : Nat → Nat → Int32) (p1 : Int32) : Option (Int32) := L_X4_ownersAheadOf_4 200 o p1 0 0
abbrev rm_X4_ownersAheadOf : Room := { frames := 3, cells := 0, slots := 0, locals := 64 }
set_option maxHeartbeats 4000000 in
set_option maxRecDepth 100000 in
theorem met_X4_ownersAheadOf (l : Launch) (D : va_G) (cy : Nat → ClassId) (sz : Nat) (ad : Nat → Nat → Nat) (en : Nat → Nat) (x : Mem) (k : Nat) (hk : k < 12) (o : Nat → Nat → Int32) (p1 : Int32)  (r : Int32) (hF : D_X4_ownersAheadOf o p1 = some r) : MI l yX4_ownersAheadOf cX4_ownersAheadOf 4 (some .int) rm_X4_ownersAheadOf D cy (cW cy ad en (va_up x k o)) sz (fun _ => True) [.ref (ad k 0), .int p1] r (cW cy ad en (va_up x k o)) := by
  refine MI.of (by decide +kernel) (Nat.le_of_ble_eq_true rfl) ?_
  intro p e s m args below meth c A ls Q hAt _ hP hD hA hS hl hret
  obtain ⟨hx, hb, hr, hml, hown, hw, hlk, hK, hN⟩ := hAt
  have hown : s.vm.findClass "CloudDeeds$Office" = some m.cls := hown
  have hl : lv_has ls 4 [(0, .ref (ad k 0)), (1, .int p1)] := hl
  refine lv_iconst (v := 0) hx hb dX4_ownersAheadOf_0 (by decide) ?_
  refine lv_istore_n (lv' := [(2, .int 0), (0, .ref (ad k 0)), (1, .int p1)]) hx hb dX4_ownersAheadOf_1 rfl hl (by decide) rfl (fun ls hl => ?_)
  refine lv_iconst (v := 0) hx hb dX4_ownersAheadOf_2 (by decide) ?_
  refine lv_istore_n (lv' := [(3, .int 0), (2, .int 0), (0, .ref (ad k 0)), (1, .int p1)]) hx hb dX4_ownersAheadOf_3 rfl hl (by decide) rfl (fun ls hl => ?_)
  have loop4 : ∀ (n : Nat) (i3h4 : Int32) (i2h4 : Int32) (H : Heap) (locs : List Loc) (ls : Array Slot), L_X4_ownersAheadOf_4 n o p1 i3h4 i2h4 = some r → va_P D vwCl (cW cy ad en (va_up x k o)) H → va_D A (cW cy ad en (va_up x k o)) → va_S A s.heap H locs → lv_has ls 4 [(3, .int i3h4), (2, .int i2h4), (0, .ref (ad k 0)), (1, .int p1)] → W p l e rm_X4_ownersAheadOf s m args below meth c H locs 0 0 Q (F0 m 4 ls []) := by
    intro n
    induction n with
    | zero => intro i3h4 i2h4 H locs ls hF _ _ _ _; exact absurd hF (by simp [L_X4_ownersAheadOf_4])
    | succ n4 ih4 =>
      intro i3h4 i2h4 H locs ls hF hP hD hS hl
      refine lv_iload_n hx hb dX4_ownersAheadOf_4 rfl (lv_at hl 0 rfl) ?_
      refine lv_iconst (v := 4) hx hb dX4_ownersAheadOf_5 (by decide) ?_
      refine lv_icmp_ge (tgt := 27) hx hb dX4_ownersAheadOf_6 (by decide) (fun h1 => ?_) (fun h1 => ?_)
      · replace hF := (if_pos h1).symm.trans hF
        refine lv_iload_n hx hb dX4_ownersAheadOf_27 rfl (lv_at hl 1 rfl) ?_
        cases hF
        exact hret _ _ _ _ _ _ hP hD hS rfl rfl dX4_ownersAheadOf_28
      · replace hF := (if_neg h1).symm.trans hF
        refine lv_aload_n hx hb dX4_ownersAheadOf_9 rfl (lv_at hl 2 rfl) ?_
        refine lv_iload_n hx hb dX4_ownersAheadOf_10 rfl (lv_at hl 0 rfl) ?_
        refine lv_iload_n hx hb dX4_ownersAheadOf_11 rfl (lv_at hl 3 rfl) ?_
        obtain ⟨r2, hc4, hF⟩ := bind_some hF
        try dsimp only at hF
        refine cV_i (As := [.int i3h4, .int p1]) (rest := []) hx hb hml hown hw hK hN hA hl.1 hP hD hS k_670 k_672 k_13 k_22 k_673 (met_X4_isOwnerAhead l D cy _ ad en x k hk o i3h4 p1 r2 hc4) (fun _ _ _ => trivial) Xok_T (gO (x := x) (r := 0) (o := o) (f := (o 0)) hk (by decide) rfl) rfl ⟨rfl, rfl⟩ (n := 2) (by decide +kernel) rfl ⟨Nat.le_of_ble_eq_true rfl, Nat.le_of_ble_eq_true rfl⟩ ⟨Nat.le_of_ble_eq_true rfl, Nat.le_of_ble_eq_true rfl⟩ (Nat.le_of_ble_eq_true rfl) rfl dX4_ownersAheadOf_12 (fun H locs hP hD hS => ?_)
        refine lv_if_eq (tgt := 21) hx hb dX4_ownersAheadOf_15 (by decide) (fun h5 => ?_) (fun h5 => ?_)
        · replace hF := (if_pos h5).symm.trans hF
          refine lv_iinc (v := (i3h4 + 1)) (lv' := [(3, .int (i3h4 + 1)), (2, .int i2h4), (0, .ref (ad k 0)), (1, .int p1)]) hx hb dX4_ownersAheadOf_21 hl (k := 0) rfl rfl (by decide) rfl (fun ls hl => ?_)
          refine lv_goto (tgt := 4) hx hb dX4_ownersAheadOf_24 (by decide) ?_
          exact ih4 (i3h4 + 1) i2h4  _ _ _ hF hP hD hS (lv_sub hl [0, 1, 2, 3] rfl)
        · replace hF := (if_neg h5).symm.trans hF
          refine lv_iinc (v := (i2h4 + 1)) (lv' := [(2, .int (i2h4 + 1)), (3, .int i3h4), (0, .ref (ad k 0)), (1, .int p1)]) hx hb dX4_ownersAheadOf_18 hl (k := 1) rfl rfl (by decide) rfl (fun ls hl => ?_)
          refine lv_iinc (v := (i3h4 + 1)) (lv' := [(3, .int (i3h4 + 1)), (2, .int (i2h4 + 1)), (0, .ref (ad k 0)), (1, .int p1)]) hx hb dX4_ownersAheadOf_21 hl (k := 1) rfl rfl (by decide) rfl (fun ls hl => ?_)
          refine lv_goto (tgt := 4) hx hb dX4_ownersAheadOf_24 (by decide) ?_
          exact ih4 (i3h4 + 1) (i2h4 + 1)  _ _ _ hF hP hD hS (lv_sub hl [0, 1, 2, 3] rfl)
  exact loop4 200 0 0  _ _ _ hF hP hD hS (lv_sub hl [0, 1, 2, 3] rfl)
def D_X7_ownerAt (o : Nat → Nat → Int32) (p1 : Int32) (p2 : Int32) : Option (Int32) := (D_X7_cloudsAt o p1).bind (fun r1 => if (D_X9_isWithin p2 r1) = 0 then (some (-1)) else (if inb ((p1 * 6) + p2) 30 then (some ((o 5) ((p1 * 6) + p2).toNatClampNeg)) else none))
abbrev rm_X7_ownerAt : Room := { frames := 3, cells := 0, slots := 0, locals := 63 }
set_option maxHeartbeats 4000000 in
set_option maxRecDepth 100000 in
theorem met_X7_ownerAt (l : Launch) (D : va_G) (cy : Nat → ClassId) (sz : Nat) (ad : Nat → Nat → Nat) (en : Nat → Nat) (x : Mem) (k : Nat) (hk : k < 12) (o : Nat → Nat → Int32) (p1 : Int32) (p2 : Int32)  (r : Int32) (hF : D_X7_ownerAt o p1 p2 = some r) : MI l yX7_ownerAt cX7_ownerAt 3 (some .int) rm_X7_ownerAt D cy (cW cy ad en (va_up x k o)) sz (fun _ => True) [.ref (ad k 4), .int p1, .int p2] r (cW cy ad en (va_up x k o)) := by
  refine MI.of (by decide +kernel) (Nat.le_of_ble_eq_true rfl) ?_
  intro p e s m args below meth c A ls Q hAt _ hP hD hA hS hl hret
  obtain ⟨hx, hb, hr, hml, hown, hw, hlk, hK, hN⟩ := hAt
  have hown : s.vm.findClass "CloudDeeds$Records" = some m.cls := hown
  have hl : lv_has ls 3 [(0, .ref (ad k 4)), (1, .int p1), (2, .int p2)] := hl
  refine lv_iload_n hx hb dX7_ownerAt_0 rfl (lv_at hl 2 rfl) ?_
  refine lv_aload_n hx hb dX7_ownerAt_1 rfl (lv_at hl 0 rfl) ?_
  refine lv_iload_n hx hb dX7_ownerAt_2 rfl (lv_at hl 1 rfl) ?_
  obtain ⟨r1, hc3, hF⟩ := bind_some hF
  try dsimp only at hF
  refine cV_i (As := [.int p1]) (rest := [.int p2]) hx hb hml hown hw hK hN hA hl.1 hP hD hS k_941 k_932 k_933 k_23 k_934 (met_X7_cloudsAt l D cy _ ad en x k hk o p1 r1 hc3) (fun _ _ _ => trivial) Xok_T (gO (x := x) (r := 4) (o := o) (f := (o 4)) hk (by decide) rfl) rfl ⟨rfl, rfl⟩ (n := 1) (by decide +kernel) rfl ⟨Nat.le_of_ble_eq_true rfl, Nat.le_of_ble_eq_true rfl⟩ ⟨Nat.le_of_ble_eq_true rfl, Nat.le_of_ble_eq_true rfl⟩ (Nat.le_of_ble_eq_true rfl) rfl dX7_ownerAt_3 (fun H locs hP hD hS => ?_)
  refine cSN_i (As := [.int p2, .int r1]) (rest := []) hx hb hml hown hw hK hN hA hl.1 hP hD hS n_930 k_324 k_21 k_325 (met_X9_isWithin l D cy _ (cW cy ad en (va_up x k o)) p2 r1 (D_X9_isWithin p2 r1) rfl) (fun _ _ _ => trivial) Xok_T ⟨rfl, rfl⟩ (n := 2) (by decide +kernel) rfl ⟨Nat.le_of_ble_eq_true rfl, Nat.le_of_ble_eq_true rfl⟩ ⟨Nat.le_of_ble_eq_true rfl, Nat.le_of_ble_eq_true rfl⟩ (Nat.le_of_ble_eq_true rfl) rfl dX7_ownerAt_6 (fun H locs hP hD hS => ?_)
  refine lv_if_eq (tgt := 26) hx hb dX7_ownerAt_9 (by decide) (fun h7 => ?_) (fun h7 => ?_)
  · replace hF := (if_pos h7).symm.trans hF
    refine lv_iconst (v := (-1)) hx hb dX7_ownerAt_26 (by decide) ?_
    cases hF
    exact hret _ _ _ _ _ _ hP hD hS rfl rfl dX7_ownerAt_27
  · replace hF := (if_neg h7).symm.trans hF
    refine lv_aload_n hx hb dX7_ownerAt_12 rfl (lv_at hl 0 rfl) ?_
    refine get' (ci := 9) (fs := rF (ad k) (o 4)) (v := .ref (ad k 5)) hx hb hw inWX7 hown hK hP (gO (x := x) (r := 4) (o := o) (f := (o 4)) hk (by decide) rfl) rfl 0 (by decide) k_74 rfl rfl dX7_ownerAt_13 ?_
    refine lv_iload_n hx hb dX7_ownerAt_16 rfl (lv_at hl 1 rfl) ?_
    refine lv_bipush (v := 6) hx hb dX7_ownerAt_17 (by decide) ?_
    refine lv_imul hx hb dX7_ownerAt_19 ?_
    refine lv_iload_n hx hb dX7_ownerAt_20 rfl (lv_at hl 2 rfl) ?_
    refine lv_iadd hx hb dX7_ownerAt_21 ?_
    obtain ⟨h8, hF⟩ := ite_some hF
    refine va_iald (n := 30) (f := (o 5)) hx hb hK hP _ 0 (gO (x := x) (r := 5) (o := o) (f := (o 5)) hk (by decide) rfl) rfl (vp_inb h8) dX7_ownerAt_22 ?_
    refine lv_goto (tgt := 27) hx hb dX7_ownerAt_23 (by decide) ?_
    cases hF
    exact hret _ _ _ _ _ _ hP hD hS rfl rfl dX7_ownerAt_27
def L_X4_cloudAtPlace_2 : Nat → (Nat → Nat → Int32) → (Int32) → (Int32) → Option (Int32)
  | 0, _, _, _ => none
  | n2 + 1, o, p1, i2h2 => if ((o 0) 1) ≤ i2h2 then (some (-1)) else ((D_X4_cloudsAheadOf o i2h2).bind (fun r2 => if r2 = p1 then (some i2h2) else (L_X4_cloudAtPlace_2 n2 o p1 (i2h2 + 1))))
def D_X4_cloudAtPlace (o : Nat → Nat → Int32) (p1 : Int32) : Option (Int32) := L_X4_cloudAtPlace_2 200 o p1 0
abbrev rm_X4_cloudAtPlace : Room := { frames := 4, cells := 0, slots := 0, locals := 87 }
set_option maxHeartbeats 4000000 in
set_option maxRecDepth 100000 in
theorem met_X4_cloudAtPlace (l : Launch) (D : va_G) (cy : Nat → ClassId) (sz : Nat) (ad : Nat → Nat → Nat) (en : Nat → Nat) (x : Mem) (k : Nat) (hk : k < 12) (o : Nat → Nat → Int32) (p1 : Int32)  (r : Int32) (hF : D_X4_cloudAtPlace o p1 = some r) : MI l yX4_cloudAtPlace cX4_cloudAtPlace 3 (some .int) rm_X4_cloudAtPlace D cy (cW cy ad en (va_up x k o)) sz (fun _ => True) [.ref (ad k 0), .int p1] r (cW cy ad en (va_up x k o)) := by
  refine MI.of (by decide +kernel) (Nat.le_of_ble_eq_true rfl) ?_
  intro p e s m args below meth c A ls Q hAt _ hP hD hA hS hl hret
  obtain ⟨hx, hb, hr, hml, hown, hw, hlk, hK, hN⟩ := hAt
  have hown : s.vm.findClass "CloudDeeds$Office" = some m.cls := hown
  have hl : lv_has ls 3 [(0, .ref (ad k 0)), (1, .int p1)] := hl
  refine lv_iconst (v := 0) hx hb dX4_cloudAtPlace_0 (by decide) ?_
  refine lv_istore_n (lv' := [(2, .int 0), (0, .ref (ad k 0)), (1, .int p1)]) hx hb dX4_cloudAtPlace_1 rfl hl (by decide) rfl (fun ls hl => ?_)
  have loop2 : ∀ (n : Nat) (i2h2 : Int32) (H : Heap) (locs : List Loc) (ls : Array Slot), L_X4_cloudAtPlace_2 n o p1 i2h2 = some r → va_P D vwCl (cW cy ad en (va_up x k o)) H → va_D A (cW cy ad en (va_up x k o)) → va_S A s.heap H locs → lv_has ls 3 [(2, .int i2h2), (0, .ref (ad k 0)), (1, .int p1)] → W p l e rm_X4_cloudAtPlace s m args below meth c H locs 0 0 Q (F0 m 2 ls []) := by
    intro n
    induction n with
    | zero => intro i2h2 H locs ls hF _ _ _ _; exact absurd hF (by simp [L_X4_cloudAtPlace_2])
    | succ n2 ih2 =>
      intro i2h2 H locs ls hF hP hD hS hl
      refine lv_iload_n hx hb dX4_cloudAtPlace_2 rfl (lv_at hl 0 rfl) ?_
      refine lv_aload_n hx hb dX4_cloudAtPlace_3 rfl (lv_at hl 1 rfl) ?_
      refine get' (ci := 6) (fs := oF (ad k) (o 0)) (v := .int ((o 0) 1)) hx hb hw inWX4 hown hK hP (gO (x := x) (r := 0) (o := o) (f := (o 0)) hk (by decide) rfl) rfl 1 (by decide) k_119 rfl rfl dX4_cloudAtPlace_4 ?_
      refine lv_icmp_ge (tgt := 27) hx hb dX4_cloudAtPlace_7 (by decide) (fun h1 => ?_) (fun h1 => ?_)
      · replace hF := (if_pos h1).symm.trans hF
        refine lv_iconst (v := (-1)) hx hb dX4_cloudAtPlace_27 (by decide) ?_
        cases hF
        exact hret _ _ _ _ _ _ hP hD hS rfl rfl dX4_cloudAtPlace_28
      · replace hF := (if_neg h1).symm.trans hF
        refine lv_aload_n hx hb dX4_cloudAtPlace_10 rfl (lv_at hl 1 rfl) ?_
        refine lv_iload_n hx hb dX4_cloudAtPlace_11 rfl (lv_at hl 0 rfl) ?_
        obtain ⟨r2, hc4, hF⟩ := bind_some hF
        try dsimp only at hF
        refine cV_i (As := [.int i2h2]) (rest := []) hx hb hml hown hw hK hN hA hl.1 hP hD hS k_645 k_647 k_10 k_22 k_648 (met_X4_cloudsAheadOf l D cy _ ad en x k hk o i2h2 r2 hc4) (fun _ _ _ => trivial) Xok_T (gO (x := x) (r := 0) (o := o) (f := (o 0)) hk (by decide) rfl) rfl ⟨rfl, rfl⟩ (n := 1) (by decide +kernel) rfl ⟨Nat.le_of_ble_eq_true rfl, Nat.le_of_ble_eq_true rfl⟩ ⟨Nat.le_of_ble_eq_true rfl, Nat.le_of_ble_eq_true rfl⟩ (Nat.le_of_ble_eq_true rfl) rfl dX4_cloudAtPlace_12 (fun H locs hP hD hS => ?_)
        refine lv_iload_n hx hb dX4_cloudAtPlace_15 rfl (lv_at hl 2 rfl) ?_
        refine lv_icmp_ne (tgt := 21) hx hb dX4_cloudAtPlace_16 (by decide) (fun h5 => ?_) (fun h5 => ?_)
        · replace hF := (if_neg h5).symm.trans hF
          refine lv_iinc (v := (i2h2 + 1)) (lv' := [(2, .int (i2h2 + 1)), (0, .ref (ad k 0)), (1, .int p1)]) hx hb dX4_cloudAtPlace_21 hl (k := 0) rfl rfl (by decide) rfl (fun ls hl => ?_)
          refine lv_goto (tgt := 2) hx hb dX4_cloudAtPlace_24 (by decide) ?_
          exact ih2 (i2h2 + 1)  _ _ _ hF hP hD hS (lv_sub hl [0, 1, 2] rfl)
        · replace hF := (if_pos h5).symm.trans hF
          refine lv_iload_n hx hb dX4_cloudAtPlace_19 rfl (lv_at hl 0 rfl) ?_
          cases hF
          exact hret _ _ _ _ _ _ hP hD hS rfl rfl dX4_cloudAtPlace_20
  exact loop2 200 0  _ _ _ hF hP hD hS (lv_sub hl [0, 1, 2] rfl)
def L_X4_ownerAtPlace_2 : Nat → (Nat → Nat → Int32) → (Int32) → (Int32) → Option (Int32)
  | 0, _, _, _ => none
  | n2 + 1, o, p1, i2h2 => if 4 ≤ i2h2 then (some (-1)) else ((D_X4_ownersAheadOf o i2h2).bind (fun r2 => if r2 = p1 then (some i2h2) else (L_X4_ownerAtPlace_2 n2 o p1 (i2h2 + 1))))
def D_X4_ownerAtPlace (o : Nat → Nat → Int32) (p1 : Int32) : Option (Int32) := L_X4_ownerAtPlace_2 200 o p1 0
abbrev rm_X4_ownerAtPlace : Room := { frames := 4, cells := 0, slots := 0, locals := 87 }
set_option maxHeartbeats 4000000 in
set_option maxRecDepth 100000 in
theorem met_X4_ownerAtPlace (l : Launch) (D : va_G) (cy : Nat → ClassId) (sz : Nat) (ad : Nat → Nat → Nat) (en : Nat → Nat) (x : Mem) (k : Nat) (hk : k < 12) (o : Nat → Nat → Int32) (p1 : Int32)  (r : Int32) (hF : D_X4_ownerAtPlace o p1 = some r) : MI l yX4_ownerAtPlace cX4_ownerAtPlace 3 (some .int) rm_X4_ownerAtPlace D cy (cW cy ad en (va_up x k o)) sz (fun _ => True) [.ref (ad k 0), .int p1] r (cW cy ad en (va_up x k o)) := by
  refine MI.of (by decide +kernel) (Nat.le_of_ble_eq_true rfl) ?_
  intro p e s m args below meth c A ls Q hAt _ hP hD hA hS hl hret
  obtain ⟨hx, hb, hr, hml, hown, hw, hlk, hK, hN⟩ := hAt
  have hown : s.vm.findClass "CloudDeeds$Office" = some m.cls := hown
  have hl : lv_has ls 3 [(0, .ref (ad k 0)), (1, .int p1)] := hl
  refine lv_iconst (v := 0) hx hb dX4_ownerAtPlace_0 (by decide) ?_
  refine lv_istore_n (lv' := [(2, .int 0), (0, .ref (ad k 0)), (1, .int p1)]) hx hb dX4_ownerAtPlace_1 rfl hl (by decide) rfl (fun ls hl => ?_)
  have loop2 : ∀ (n : Nat) (i2h2 : Int32) (H : Heap) (locs : List Loc) (ls : Array Slot), L_X4_ownerAtPlace_2 n o p1 i2h2 = some r → va_P D vwCl (cW cy ad en (va_up x k o)) H → va_D A (cW cy ad en (va_up x k o)) → va_S A s.heap H locs → lv_has ls 3 [(2, .int i2h2), (0, .ref (ad k 0)), (1, .int p1)] → W p l e rm_X4_ownerAtPlace s m args below meth c H locs 0 0 Q (F0 m 2 ls []) := by
    intro n
    induction n with
    | zero => intro i2h2 H locs ls hF _ _ _ _; exact absurd hF (by simp [L_X4_ownerAtPlace_2])
    | succ n2 ih2 =>
      intro i2h2 H locs ls hF hP hD hS hl
      refine lv_iload_n hx hb dX4_ownerAtPlace_2 rfl (lv_at hl 0 rfl) ?_
      refine lv_iconst (v := 4) hx hb dX4_ownerAtPlace_3 (by decide) ?_
      refine lv_icmp_ge (tgt := 24) hx hb dX4_ownerAtPlace_4 (by decide) (fun h1 => ?_) (fun h1 => ?_)
      · replace hF := (if_pos h1).symm.trans hF
        refine lv_iconst (v := (-1)) hx hb dX4_ownerAtPlace_24 (by decide) ?_
        cases hF
        exact hret _ _ _ _ _ _ hP hD hS rfl rfl dX4_ownerAtPlace_25
      · replace hF := (if_neg h1).symm.trans hF
        refine lv_aload_n hx hb dX4_ownerAtPlace_7 rfl (lv_at hl 1 rfl) ?_
        refine lv_iload_n hx hb dX4_ownerAtPlace_8 rfl (lv_at hl 0 rfl) ?_
        obtain ⟨r2, hc4, hF⟩ := bind_some hF
        try dsimp only at hF
        refine cV_i (As := [.int i2h2]) (rest := []) hx hb hml hown hw hK hN hA hl.1 hP hD hS k_666 k_668 k_12 k_22 k_669 (met_X4_ownersAheadOf l D cy _ ad en x k hk o i2h2 r2 hc4) (fun _ _ _ => trivial) Xok_T (gO (x := x) (r := 0) (o := o) (f := (o 0)) hk (by decide) rfl) rfl ⟨rfl, rfl⟩ (n := 1) (by decide +kernel) rfl ⟨Nat.le_of_ble_eq_true rfl, Nat.le_of_ble_eq_true rfl⟩ ⟨Nat.le_of_ble_eq_true rfl, Nat.le_of_ble_eq_true rfl⟩ (Nat.le_of_ble_eq_true rfl) rfl dX4_ownerAtPlace_9 (fun H locs hP hD hS => ?_)
        refine lv_iload_n hx hb dX4_ownerAtPlace_12 rfl (lv_at hl 2 rfl) ?_
        refine lv_icmp_ne (tgt := 18) hx hb dX4_ownerAtPlace_13 (by decide) (fun h5 => ?_) (fun h5 => ?_)
        · replace hF := (if_neg h5).symm.trans hF
          refine lv_iinc (v := (i2h2 + 1)) (lv' := [(2, .int (i2h2 + 1)), (0, .ref (ad k 0)), (1, .int p1)]) hx hb dX4_ownerAtPlace_18 hl (k := 0) rfl rfl (by decide) rfl (fun ls hl => ?_)
          refine lv_goto (tgt := 2) hx hb dX4_ownerAtPlace_21 (by decide) ?_
          exact ih2 (i2h2 + 1)  _ _ _ hF hP hD hS (lv_sub hl [0, 1, 2] rfl)
        · replace hF := (if_pos h5).symm.trans hF
          refine lv_iload_n hx hb dX4_ownerAtPlace_16 rfl (lv_at hl 0 rfl) ?_
          cases hF
          exact hret _ _ _ _ _ _ hP hD hS rfl rfl dX4_ownerAtPlace_17
  exact loop2 200 0  _ _ _ hF hP hD hS (lv_sub hl [0, 1, 2] rfl)
