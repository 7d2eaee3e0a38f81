theorem at_296 : ∀ w ∈ vx_atS "CloudDeeds" 296 "java/lang/ArithmeticException" exN, (w ∈ WA ∨ w ∈ nwL) ∧ vx_ot w = true := at_of (by decide +kernel) (by decide +kernel) (by decide +kernel)
def D_X9_meanSize (x : Mem) : Option (Int32 × UInt64) := if (((x 0) 0) 1) = 0 then (some (1, 0)) else ((D_X4_sizes (x 0)).bind (fun r2 => if n64b (FP.ddiv (FP.i2d r2) (FP.i2d (((x 0) 0) 1))) then (some (0, (FP.ddiv (FP.i2d r2) (FP.i2d (((x 0) 0) 1))))) else none))
abbrev rm_X9_meanSize : Room := { frames := 6, cells := 2, slots := 12, locals := 90 }
def exn_X9_meanSize : Int32 → String := fun _ => "java/lang/ArithmeticException"
set_option maxHeartbeats 4000000 in
set_option maxRecDepth 100000 in
theorem met_X9_meanSize (l : Launch) (hst0 : l.stackTraces = false) (D : va_G) (cy : Nat → ClassId) (sz : Nat) (ad : Nat → Nat → Nat) (en g : Nat → Nat) (x : Mem)  (code : Int32) (r : UInt64) (hF : D_X9_meanSize x = some (code, r)) : MTD l yX9_meanSize cX9_meanSize 1 rm_X9_meanSize D cy en g (cW cy ad en x) sz [.ref (ad 12 0)] exn_X9_meanSize code r (cW cy ad en x) := by
  refine MTD.of (by decide +kernel) (Nat.le_of_ble_eq_true rfl) ?_
  intro p e s m args below meth c A ls Q hAt htb hST hP hD hA hS hl hQ
  obtain ⟨hx, hb, hr, hml, hown, hw, hlk, hK, hN⟩ := hAt
  have hown : s.vm.findClass "CloudDeeds" = some m.cls := hown
  have hl : lv_has ls 1 [(0, .ref (ad 12 0))] := hl
  refine lv_aload_n hx hb dX9_meanSize_0 rfl (lv_at hl 0 rfl) ?_
  refine get' (ci := 11) (fs := [.ref (ad 0 0), .ref (ad 1 0), .ref (ad 2 0), .ref (ad 3 0), .int (((x 12) 0) 4), .ref (ad 12 1), .ref (ad 12 3), .ref (ad 12 4), .int (((x 12) 0) 8), .ref (ad 12 31)]) (v := .ref (ad 0 0)) hx hb hw inWX9 hown hK hP (gY (x := x) (r := 0) (f := ((x 12) 0)) (by decide) ((congrFun rfl _).trans rfl)) rfl 0 (by decide) k_345 rfl rfl dX9_meanSize_1 ?_
  refine getN' (ci := 6) (fs := oF (ad 0) ((x 0) 0)) (v := .int (((x 0) 0) 1)) hx hb hw hN inWX4 hown hK hP (gX (x := x) (k := 0) (r := 0) (f := ((x 0) 0)) (by decide) (by decide) ((congrFun rfl _).trans rfl)) rfl 1 (by decide) n_179 rfl rfl dX9_meanSize_4 ?_
  refine lv_if_ne (tgt := 21) hx hb dX9_meanSize_7 (by decide) (fun h1 => ?_) (fun h1 => ?_)
  · replace hF := (if_neg h1).symm.trans hF
    refine lv_aload_n hx hb dX9_meanSize_21 rfl (lv_at hl 0 rfl) ?_
    refine get' (ci := 11) (fs := [.ref (ad 0 0), .ref (ad 1 0), .ref (ad 2 0), .ref (ad 3 0), .int (((x 12) 0) 4), .ref (ad 12 1), .ref (ad 12 3), .ref (ad 12 4), .int (((x 12) 0) 8), .ref (ad 12 31)]) (v := .ref (ad 0 0)) hx hb hw inWX9 hown hK hP (gY (x := x) (r := 0) (f := ((x 12) 0)) (by decide) ((congrFun rfl _).trans rfl)) rfl 0 (by decide) k_345 rfl rfl dX9_meanSize_22 ?_
    have hP := cvP hP ((congrArg (cW cy ad en) (up_self x 0)).symm.trans (congrArg (fun z => cW cy ad en (va_up x 0 z)) rfl))
    have hD := cvD hD ((congrArg (cW cy ad en) (up_self x 0)).symm.trans (congrArg (fun z => cW cy ad en (va_up x 0 z)) rfl))
    obtain ⟨r2, hc4, hF⟩ := bind_some hF
    try dsimp only at hF
    refine cV_i (As := []) (rest := []) hx hb hml hown hw hK hN hA hl.1 hP hD hS k_1508 k_1509 k_1510 k_77 k_1511 (met_X4_sizes l D cy _ ad en x 0 (by decide) (x 0) r2 hc4) (fun _ _ _ => trivial) Xok_T (gX (x := (va_up x 0 (x 0))) (k := 0) (r := 0) (f := ((x 0) 0)) (by decide) (by decide) ((congrFun (va_up_self _ _ _) _).trans rfl)) rfl ⟨rfl, rfl⟩ (n := 0) (by decide +kernel) rfl ⟨Nat.le_of_ble_eq_true rfl, Nat.le_of_ble_eq_true rfl⟩ ⟨Nat.le_of_ble_eq_true rfl, Nat.le_of_ble_eq_true rfl⟩ (Nat.le_of_ble_eq_true rfl) rfl dX9_meanSize_25 (fun H locs hP hD hS => ?_)
    have hP : va_P D vwCl (cW cy ad en x) H := cvP hP ((congrArg (cW cy ad en) (up_self x 0)).symm.trans (congrArg (fun z => cW cy ad en (va_up x 0 z)) rfl)).symm
    have hD : va_D A (cW cy ad en x) := cvD hD ((congrArg (cW cy ad en) (up_self x 0)).symm.trans (congrArg (fun z => cW cy ad en (va_up x 0 z)) rfl)).symm
    refine lv_i2d hx hb dX9_meanSize_28 ?_
    refine lv_aload_n hx hb dX9_meanSize_29 rfl (lv_at hl 0 rfl) ?_
    refine get' (ci := 11) (fs := [.ref (ad 0 0), .ref (ad 1 0), .ref (ad 2 0), .ref (ad 3 0), .int (((x 12) 0) 4), .ref (ad 12 1), .ref (ad 12 3), .ref (ad 12 4), .int (((x 12) 0) 8), .ref (ad 12 31)]) (v := .ref (ad 0 0)) hx hb hw inWX9 hown hK hP (gY (x := x) (r := 0) (f := ((x 12) 0)) (by decide) ((congrFun rfl _).trans rfl)) rfl 0 (by decide) k_345 rfl rfl dX9_meanSize_30 ?_
    refine getN' (ci := 6) (fs := oF (ad 0) ((x 0) 0)) (v := .int (((x 0) 0) 1)) hx hb hw hN inWX4 hown hK hP (gX (x := x) (k := 0) (r := 0) (f := ((x 0) 0)) (by decide) (by decide) ((congrFun rfl _).trans rfl)) rfl 1 (by decide) n_179 rfl rfl dX9_meanSize_33 ?_
    refine lv_i2d hx hb dX9_meanSize_36 ?_
    obtain ⟨hn5, hF⟩ := ite_some hF
    refine lv_ddiv hx hb dX9_meanSize_37 (n64_iff.mp hn5) ?_
    cases hF
    rw [hQ]
    exact retx_d hx hb hr hlk (Nat.le_of_ble_eq_true rfl) (Nat.le_of_ble_eq_true rfl) hS hP hD rfl rfl rfl dX9_meanSize_38
  · replace hF := (if_pos h1).symm.trans hF
    cases hF
    rw [hQ]
    exact thrSW (g := g) (en := en) hx hb hst0 hml hown hw hN hlk htb hST hS hP hD hl.1 (text := "there are no clouds") 18 rfl (by decide) k_1505 k_110 at_296 (by decide) rfl rfl dX9_meanSize_10 dX9_meanSize_13 dX9_meanSize_14 dX9_meanSize_17 dX9_meanSize_20 ⟨Nat.le_of_ble_eq_true rfl, Nat.le_of_ble_eq_true rfl, Nat.le_of_ble_eq_true rfl, Nat.le_of_ble_eq_true rfl⟩ (Nat.le_of_ble_eq_true rfl) ⟨Nat.le_of_ble_eq_true rfl, Nat.le_of_ble_eq_true rfl⟩
def D_X9_titledShare (x : Mem) : Option (Int32 × UInt32) := if (((x 0) 0) 1) = 0 then (some (1, 0)) else ((D_X4_titledClouds (x 0)).bind (fun r2 => if n32b (FP.fdiv (FP.i2f r2) (FP.i2f (((x 0) 0) 1))) then (some (0, (FP.fdiv (FP.i2f r2) (FP.i2f (((x 0) 0) 1))))) else none))
abbrev rm_X9_titledShare : Room := { frames := 6, cells := 2, slots := 12, locals := 90 }
def exn_X9_titledShare : Int32 → String := fun _ => "java/lang/ArithmeticException"
set_option maxHeartbeats 4000000 in
set_option maxRecDepth 100000 in
theorem met_X9_titledShare (l : Launch) (hst0 : l.stackTraces = false) (D : va_G) (cy : Nat → ClassId) (sz : Nat) (ad : Nat → Nat → Nat) (en g : Nat → Nat) (x : Mem)  (code : Int32) (r : UInt32) (hF : D_X9_titledShare x = some (code, r)) : MTF l yX9_titledShare cX9_titledShare 1 rm_X9_titledShare D cy en g (cW cy ad en x) sz [.ref (ad 12 0)] exn_X9_titledShare code r (cW cy ad en x) := by
  refine MTF.of (by decide +kernel) (Nat.le_of_ble_eq_true rfl) ?_
  intro p e s m args below meth c A ls Q hAt htb hST hP hD hA hS hl hQ
  obtain ⟨hx, hb, hr, hml, hown, hw, hlk, hK, hN⟩ := hAt
  have hown : s.vm.findClass "CloudDeeds" = some m.cls := hown
  have hl : lv_has ls 1 [(0, .ref (ad 12 0))] := hl
  refine lv_aload_n hx hb dX9_titledShare_0 rfl (lv_at hl 0 rfl) ?_
  refine get' (ci := 11) (fs := [.ref (ad 0 0), .ref (ad 1 0), .ref (ad 2 0), .ref (ad 3 0), .int (((x 12) 0) 4), .ref (ad 12 1), .ref (ad 12 3), .ref (ad 12 4), .int (((x 12) 0) 8), .ref (ad 12 31)]) (v := .ref (ad 0 0)) hx hb hw inWX9 hown hK hP (gY (x := x) (r := 0) (f := ((x 12) 0)) (by decide) ((congrFun rfl _).trans rfl)) rfl 0 (by decide) k_345 rfl rfl dX9_titledShare_1 ?_
  refine getN' (ci := 6) (fs := oF (ad 0) ((x 0) 0)) (v := .int (((x 0) 0) 1)) hx hb hw hN inWX4 hown hK hP (gX (x := x) (k := 0) (r := 0) (f := ((x 0) 0)) (by decide) (by decide) ((congrFun rfl _).trans rfl)) rfl 1 (by decide) n_179 rfl rfl dX9_titledShare_4 ?_
  refine lv_if_ne (tgt := 21) hx hb dX9_titledShare_7 (by decide) (fun h1 => ?_) (fun h1 => ?_)
  · replace hF := (if_neg h1).symm.trans hF
    refine lv_aload_n hx hb dX9_titledShare_21 rfl (lv_at hl 0 rfl) ?_
    refine get' (ci := 11) (fs := [.ref (ad 0 0), .ref (ad 1 0), .ref (ad 2 0), .ref (ad 3 0), .int (((x 12) 0) 4), .ref (ad 12 1), .ref (ad 12 3), .ref (ad 12 4), .int (((x 12) 0) 8), .ref (ad 12 31)]) (v := .ref (ad 0 0)) hx hb hw inWX9 hown hK hP (gY (x := x) (r := 0) (f := ((x 12) 0)) (by decide) ((congrFun rfl _).trans rfl)) rfl 0 (by decide) k_345 rfl rfl dX9_titledShare_22 ?_
    have hP := cvP hP ((congrArg (cW cy ad en) (up_self x 0)).symm.trans (congrArg (fun z => cW cy ad en (va_up x 0 z)) rfl))
    have hD := cvD hD ((congrArg (cW cy ad en) (up_self x 0)).symm.trans (congrArg (fun z => cW cy ad en (va_up x 0 z)) rfl))
    obtain ⟨r2, hc4, hF⟩ := bind_some hF
    try dsimp only at hF
    refine cV_i (As := []) (rest := []) hx hb hml hown hw hK hN hA hl.1 hP hD hS k_1519 k_1520 k_1521 k_77 k_1522 (met_X4_titledClouds l D cy _ ad en x 0 (by decide) (x 0) r2 hc4) (fun _ _ _ => trivial) Xok_T (gX (x := (va_up x 0 (x 0))) (k := 0) (r := 0) (f := ((x 0) 0)) (by decide) (by decide) ((congrFun (va_up_self _ _ _) _).trans rfl)) rfl ⟨rfl, rfl⟩ (n := 0) (by decide +kernel) rfl ⟨Nat.le_of_ble_eq_true rfl, Nat.le_of_ble_eq_true rfl⟩ ⟨Nat.le_of_ble_eq_true rfl, Nat.le_of_ble_eq_true rfl⟩ (Nat.le_of_ble_eq_true rfl) rfl dX9_titledShare_25 (fun H locs hP hD hS => ?_)
    have hP : va_P D vwCl (cW cy ad en x) H := cvP hP ((congrArg (cW cy ad en) (up_self x 0)).symm.trans (congrArg (fun z => cW cy ad en (va_up x 0 z)) rfl)).symm
    have hD : va_D A (cW cy ad en x) := cvD hD ((congrArg (cW cy ad en) (up_self x 0)).symm.trans (congrArg (fun z => cW cy ad en (va_up x 0 z)) rfl)).symm
    refine lv_i2f hx hb dX9_titledShare_28 ?_
    refine lv_aload_n hx hb dX9_titledShare_29 rfl (lv_at hl 0 rfl) ?_
    refine get' (ci := 11) (fs := [.ref (ad 0 0), .ref (ad 1 0), .ref (ad 2 0), .ref (ad 3 0), .int (((x 12) 0) 4), .ref (ad 12 1), .ref (ad 12 3), .ref (ad 12 4), .int (((x 12) 0) 8), .ref (ad 12 31)]) (v := .ref (ad 0 0)) hx hb hw inWX9 hown hK hP (gY (x := x) (r := 0) (f := ((x 12) 0)) (by decide) ((congrFun rfl _).trans rfl)) rfl 0 (by decide) k_345 rfl rfl dX9_titledShare_30 ?_
    refine getN' (ci := 6) (fs := oF (ad 0) ((x 0) 0)) (v := .int (((x 0) 0) 1)) hx hb hw hN inWX4 hown hK hP (gX (x := x) (k := 0) (r := 0) (f := ((x 0) 0)) (by decide) (by decide) ((congrFun rfl _).trans rfl)) rfl 1 (by decide) n_179 rfl rfl dX9_titledShare_33 ?_
    refine lv_i2f hx hb dX9_titledShare_36 ?_
    obtain ⟨hn5, hF⟩ := ite_some hF
    refine lv_fdiv hx hb dX9_titledShare_37 (n32_iff.mp hn5) ?_
    cases hF
    rw [hQ]
    exact retx_f hx hb hr hlk (Nat.le_of_ble_eq_true rfl) (Nat.le_of_ble_eq_true rfl) hS hP hD rfl rfl rfl dX9_titledShare_38
  · replace hF := (if_pos h1).symm.trans hF
    cases hF
    rw [hQ]
    exact thrSW (g := g) (en := en) hx hb hst0 hml hown hw hN hlk htb hST hS hP hD hl.1 (text := "there are no clouds") 18 rfl (by decide) k_1505 k_110 at_296 (by decide) rfl rfl dX9_titledShare_10 dX9_titledShare_13 dX9_titledShare_14 dX9_titledShare_17 dX9_titledShare_20 ⟨Nat.le_of_ble_eq_true rfl, Nat.le_of_ble_eq_true rfl, Nat.le_of_ble_eq_true rfl, Nat.le_of_ble_eq_true rfl⟩ (Nat.le_of_ble_eq_true rfl) ⟨Nat.le_of_ble_eq_true rfl, Nat.le_of_ble_eq_true rfl⟩
def D_X10_meanSize (m0 : Nat → Nat → Int32) : Option (UInt64 × (Nat → Nat → Int32)) := if inb 0 1152 then (if ((m0 1) (0 : Int32).toNatClampNeg) ≤ 0 then (some (FP.dconst0, (D_X10_isThere m0 0).2)) else ((D_X10_ofClouds (D_X10_isThere m0 1).2 0).bind (fun r11 => if n64b (FP.ddiv (FP.i2d r11) (FP.i2d ((m0 1) (0 : Int32).toNatClampNeg))) then (some ((FP.ddiv (FP.i2d r11) (FP.i2d ((m0 1) (0 : Int32).toNatClampNeg))), (D_X10_isThere m0 1).2)) else none))) else none
abbrev rm_X10_meanSize : Room := { frames := 3, cells := 0, slots := 0, locals := 66 }
set_option maxHeartbeats 4000000 in
set_option maxRecDepth 100000 in
theorem met_X10_meanSize (l : Launch) (D : va_G) (cy : Nat → ClassId) (sz : Nat) (am : Nat → Nat) (m0 : Nat → Nat → Int32)  (r : UInt64) (t' : Nat → Nat → Int32) (hF : D_X10_meanSize m0 = some (r, t')) : MD l yX10_meanSize cX10_meanSize 2 rm_X10_meanSize D cy (mW cy am m0) sz (fun _ => True) [.ref (am 0)] r (mW cy am t') := by
  refine MD.of (by decide +kernel) (Nat.le_of_ble_eq_true rfl) ?_
  intro p e s m args below meth c A ls Q hAt _ hP hD hA hS hl hret
  obtain ⟨hx, hb, hr, hml, hown, hw, hlk, hK, hN⟩ := hAt
  have hown : s.vm.findClass "CloudDeedsModel" = some m.cls := hown
  have hl : lv_has ls 2 [(0, .ref (am 0))] := hl
  refine lv_aload_n hx hb dX10_meanSize_0 rfl (lv_at hl 0 rfl) ?_
  refine get' (ci := 12) (fs := mF am (m0 0)) (v := .ref (am 1)) hx hb hw inWX10 hown hK hP (gM (am := am) (r := 0) (m := m0) (f := (m0 0)) (by decide) rfl) rfl 1 (by decide) k_1571 rfl rfl dX10_meanSize_1 ?_
  refine lv_iconst (v := 0) hx hb dX10_meanSize_4 (by decide) ?_
  obtain ⟨h1, hF⟩ := ite_some hF
  refine va_iald (n := 1152) (f := (m0 1)) hx hb hK hP _ 0 (gM (am := am) (r := 1) (m := m0) (f := (m0 1)) (by decide) rfl) rfl (vp_inb h1) dX10_meanSize_5 ?_
  refine lv_istore_n (lv' := [(1, .int ((m0 1) (0 : Int32).toNatClampNeg)), (0, .ref (am 0))]) hx hb dX10_meanSize_6 rfl hl (by decide) rfl (fun ls hl => ?_)
  refine lv_aload_n hx hb dX10_meanSize_7 rfl (lv_at hl 1 rfl) ?_
  refine lv_iload_n hx hb dX10_meanSize_8 rfl (lv_at hl 0 rfl) ?_
  refine lv_if_le (tgt := 16) hx hb dX10_meanSize_9 (by decide) (fun h2 => ?_) (fun h2 => ?_)
  · replace hF := (if_pos h2).symm.trans hF
    refine lv_iconst (v := 0) hx hb dX10_meanSize_16 (by decide) ?_
    refine cV_i (As := [.int 0]) (rest := []) hx hb hml hown hw hK hN hA hl.1 hP hD hS k_1633 k_1635 k_28 k_90 k_1636 (met_X10_isThere l D cy _ am m0 0 (Or.inl rfl) 0 (D_X10_isThere m0 0).2 (rs_X10_isThere ..)) (fun _ _ _ => trivial) Xok_T (gM (am := am) (r := 0) (m := m0) (f := (m0 0)) (by decide) rfl) rfl ⟨rfl, rfl⟩ (n := 1) (by decide +kernel) rfl ⟨Nat.le_of_ble_eq_true rfl, Nat.le_of_ble_eq_true rfl⟩ ⟨Nat.le_of_ble_eq_true rfl, Nat.le_of_ble_eq_true rfl⟩ (Nat.le_of_ble_eq_true rfl) rfl dX10_meanSize_17 (fun H locs hP hD hS => ?_)
    refine lv_if_eq (tgt := 35) hx hb dX10_meanSize_20 (by decide) (fun _ => ?_) (fun h => absurd h (by decide))
    refine lv_dconst0 hx hb dX10_meanSize_35 ?_
    cases hF
    exact hret _ _ _ _ _ _ hP hD hS rfl rfl dX10_meanSize_36
  · replace hF := (if_neg h2).symm.trans hF
    refine lv_iconst (v := 1) hx hb dX10_meanSize_12 (by decide) ?_
    refine lv_goto (tgt := 17) hx hb dX10_meanSize_13 (by decide) ?_
    refine cV_i (As := [.int 1]) (rest := []) hx hb hml hown hw hK hN hA hl.1 hP hD hS k_1633 k_1635 k_28 k_90 k_1636 (met_X10_isThere l D cy _ am m0 1 (Or.inr rfl) 1 (D_X10_isThere m0 1).2 (rs_X10_isThere ..)) (fun _ _ _ => trivial) Xok_T (gM (am := am) (r := 0) (m := m0) (f := (m0 0)) (by decide) rfl) rfl ⟨rfl, rfl⟩ (n := 1) (by decide +kernel) rfl ⟨Nat.le_of_ble_eq_true rfl, Nat.le_of_ble_eq_true rfl⟩ ⟨Nat.le_of_ble_eq_true rfl, Nat.le_of_ble_eq_true rfl⟩ (Nat.le_of_ble_eq_true rfl) rfl dX10_meanSize_17 (fun H locs hP hD hS => ?_)
    refine lv_if_eq (tgt := 35) hx hb dX10_meanSize_20 (by decide) (fun h => absurd h (by decide)) (fun _ => ?_)
    refine lv_aload_n hx hb dX10_meanSize_23 rfl (lv_at hl 1 rfl) ?_
    refine lv_iconst (v := 0) hx hb dX10_meanSize_24 (by decide) ?_
    obtain ⟨r11, hc13, hF⟩ := bind_some hF
    try dsimp only at hF
    refine cV_i (As := [.int 0]) (rest := []) hx hb hml hown hw hK hN hA hl.1 hP hD hS k_1952 k_1954 k_74 k_90 k_1955 (met_X10_ofClouds l D cy _ am (D_X10_isThere m0 1).2 0 r11 hc13) (fun _ _ _ => trivial) Xok_T (gM (am := am) (r := 0) (m := (D_X10_isThere m0 1).2) (f := ((D_X10_isThere m0 1).2 0)) (by decide) rfl) rfl ⟨rfl, rfl⟩ (n := 1) (by decide +kernel) rfl ⟨Nat.le_of_ble_eq_true rfl, Nat.le_of_ble_eq_true rfl⟩ ⟨Nat.le_of_ble_eq_true rfl, Nat.le_of_ble_eq_true rfl⟩ (Nat.le_of_ble_eq_true rfl) rfl dX10_meanSize_25 (fun H locs hP hD hS => ?_)
    refine lv_i2d hx hb dX10_meanSize_28 ?_
    refine lv_iload_n hx hb dX10_meanSize_29 rfl (lv_at hl 0 rfl) ?_
    refine lv_i2d hx hb dX10_meanSize_30 ?_
    obtain ⟨hn14, hF⟩ := ite_some hF
    refine lv_ddiv hx hb dX10_meanSize_31 (n64_iff.mp hn14) ?_
    refine lv_goto (tgt := 36) hx hb dX10_meanSize_32 (by decide) ?_
    cases hF
    exact hret _ _ _ _ _ _ hP hD hS rfl rfl dX10_meanSize_36
def D_X10_titledShare (m0 : Nat → Nat → Int32) : Option (UInt32 × (Nat → Nat → Int32)) := if inb 0 1152 then (if ((m0 1) (0 : Int32).toNatClampNeg) ≤ 0 then (some (FP.fconst0, (D_X10_isThere m0 0).2)) else ((D_X10_ofClouds (D_X10_isThere m0 1).2 1).bind (fun r11 => if n32b (FP.fdiv (FP.i2f r11) (FP.i2f ((m0 1) (0 : Int32).toNatClampNeg))) then (some ((FP.fdiv (FP.i2f r11) (FP.i2f ((m0 1) (0 : Int32).toNatClampNeg))), (D_X10_isThere m0 1).2)) else none))) else none
abbrev rm_X10_titledShare : Room := { frames := 3, cells := 0, slots := 0, locals := 66 }
set_option maxHeartbeats 4000000 in
set_option maxRecDepth 100000 in
theorem met_X10_titledShare (l : Launch) (D : va_G) (cy : Nat → ClassId) (sz : Nat) (am : Nat → Nat) (m0 : Nat → Nat → Int32)  (r : UInt32) (t' : Nat → Nat → Int32) (hF : D_X10_titledShare m0 = some (r, t')) : MF l yX10_titledShare cX10_titledShare 2 rm_X10_titledShare D cy (mW cy am m0) sz (fun _ => True) [.ref (am 0)] r (mW cy am t') := by
  refine MF.of (by decide +kernel) (Nat.le_of_ble_eq_true rfl) ?_
  intro p e s m args below meth c A ls Q hAt _ hP hD hA hS hl hret
  obtain ⟨hx, hb, hr, hml, hown, hw, hlk, hK, hN⟩ := hAt
  have hown : s.vm.findClass "CloudDeedsModel" = some m.cls := hown
  have hl : lv_has ls 2 [(0, .ref (am 0))] := hl
  refine lv_aload_n hx hb dX10_titledShare_0 rfl (lv_at hl 0 rfl) ?_
  refine get' (ci := 12) (fs := mF am (m0 0)) (v := .ref (am 1)) hx hb hw inWX10 hown hK hP (gM (am := am) (r := 0) (m := m0) (f := (m0 0)) (by decide) rfl) rfl 1 (by decide) k_1571 rfl rfl dX10_titledShare_1 ?_
  refine lv_iconst (v := 0) hx hb dX10_titledShare_4 (by decide) ?_
  obtain ⟨h1, hF⟩ := ite_some hF
  refine va_iald (n := 1152) (f := (m0 1)) hx hb hK hP _ 0 (gM (am := am) (r := 1) (m := m0) (f := (m0 1)) (by decide) rfl) rfl (vp_inb h1) dX10_titledShare_5 ?_
  refine lv_istore_n (lv' := [(1, .int ((m0 1) (0 : Int32).toNatClampNeg)), (0, .ref (am 0))]) hx hb dX10_titledShare_6 rfl hl (by decide) rfl (fun ls hl => ?_)
  refine lv_aload_n hx hb dX10_titledShare_7 rfl (lv_at hl 1 rfl) ?_
  refine lv_iload_n hx hb dX10_titledShare_8 rfl (lv_at hl 0 rfl) ?_
  refine lv_if_le (tgt := 16) hx hb dX10_titledShare_9 (by decide) (fun h2 => ?_) (fun h2 => ?_)
  · replace hF := (if_pos h2).symm.trans hF
    refine lv_iconst (v := 0) hx hb dX10_titledShare_16 (by decide) ?_
    refine cV_i (As := [.int 0]) (rest := []) hx hb hml hown hw hK hN hA hl.1 hP hD hS k_1633 k_1635 k_28 k_90 k_1636 (met_X10_isThere l D cy _ am m0 0 (Or.inl rfl) 0 (D_X10_isThere m0 0).2 (rs_X10_isThere ..)) (fun _ _ _ => trivial) Xok_T (gM (am := am) (r := 0) (m := m0) (f := (m0 0)) (by decide) rfl) rfl ⟨rfl, rfl⟩ (n := 1) (by decide +kernel) rfl ⟨Nat.le_of_ble_eq_true rfl, Nat.le_of_ble_eq_true rfl⟩ ⟨Nat.le_of_ble_eq_true rfl, Nat.le_of_ble_eq_true rfl⟩ (Nat.le_of_ble_eq_true rfl) rfl dX10_titledShare_17 (fun H locs hP hD hS => ?_)
    refine lv_if_eq (tgt := 35) hx hb dX10_titledShare_20 (by decide) (fun _ => ?_) (fun h => absurd h (by decide))
    refine lv_fconst0 hx hb dX10_titledShare_35 ?_
    cases hF
    exact hret _ _ _ _ _ _ hP hD hS rfl rfl dX10_titledShare_36
  · replace hF := (if_neg h2).symm.trans hF
    refine lv_iconst (v := 1) hx hb dX10_titledShare_12 (by decide) ?_
    refine lv_goto (tgt := 17) hx hb dX10_titledShare_13 (by decide) ?_
    refine cV_i (As := [.int 1]) (rest := []) hx hb hml hown hw hK hN hA hl.1 hP hD hS k_1633 k_1635 k_28 k_90 k_1636 (met_X10_isThere l D cy _ am m0 1 (Or.inr rfl) 1 (D_X10_isThere m0 1).2 (rs_X10_isThere ..)) (fun _ _ _ => trivial) Xok_T (gM (am := am) (r := 0) (m := m0) (f := (m0 0)) (by decide) rfl) rfl ⟨rfl, rfl⟩ (n := 1) (by decide +kernel) rfl ⟨Nat.le_of_ble_eq_true rfl, Nat.le_of_ble_eq_true rfl⟩ ⟨Nat.le_of_ble_eq_true rfl, Nat.le_of_ble_eq_true rfl⟩ (Nat.le_of_ble_eq_true rfl) rfl dX10_titledShare_17 (fun H locs hP hD hS => ?_)
    refine lv_if_eq (tgt := 35) hx hb dX10_titledShare_20 (by decide) (fun h => absurd h (by decide)) (fun _ => ?_)
    refine lv_aload_n hx hb dX10_titledShare_23 rfl (lv_at hl 1 rfl) ?_
    refine lv_iconst (v := 1) hx hb dX10_titledShare_24 (by decide) ?_
    obtain ⟨r11, hc13, hF⟩ := bind_some hF
    try dsimp only at hF
    refine cV_i (As := [.int 1]) (rest := []) hx hb hml hown hw hK hN hA hl.1 hP hD hS k_1952 k_1954 k_74 k_90 k_1955 (met_X10_ofClouds l D cy _ am (D_X10_isThere m0 1).2 1 r11 hc13) (fun _ _ _ => trivial) Xok_T (gM (am := am) (r := 0) (m := (D_X10_isThere m0 1).2) (f := ((D_X10_isThere m0 1).2 0)) (by decide) rfl) rfl ⟨rfl, rfl⟩ (n := 1) (by decide +kernel) rfl ⟨Nat.le_of_ble_eq_true rfl, Nat.le_of_ble_eq_true rfl⟩ ⟨Nat.le_of_ble_eq_true rfl, Nat.le_of_ble_eq_true rfl⟩ (Nat.le_of_ble_eq_true rfl) rfl dX10_titledShare_25 (fun H locs hP hD hS => ?_)
    refine lv_i2f hx hb dX10_titledShare_28 ?_
    refine lv_iload_n hx hb dX10_titledShare_29 rfl (lv_at hl 0 rfl) ?_
    refine lv_i2f hx hb dX10_titledShare_30 ?_
    obtain ⟨hn14, hF⟩ := ite_some hF
    refine lv_fdiv hx hb dX10_titledShare_31 (n32_iff.mp hn14) ?_
    refine lv_goto (tgt := 36) hx hb dX10_titledShare_32 (by decide) ?_
    cases hF
    exact hret _ _ _ _ _ _ hP hD hS rfl rfl dX10_titledShare_36
