theorem at_296 : ∀ w ∈ vx_atS "CloudDeeds" 296 "java/lang/ArithmeticException" exN, (w ∈ WA ∨ w ∈ nwL) ∧ vx_ot w = true := at_of (by decide +kernel) (by decide +kernel) (by decide +kernel)
def D_X9_meanSize (x : Mem) : Option (Int32 × UInt64) := if (((x 0) 0) 1) = 0 then (some (1, 0)) else ((D_X4_sizes (x 0)).bind (fun r2 => if n64b (FP.ddiv (FP.i2d r2) (FP.i2d (((x 0) 0) 1))) then (some (0, (FP.ddiv (FP.i2d r2) (FP.i2d (((x 0) 0) 1))))) else none))
abbrev rm_X9_meanSize : Room := { frames := 6, cells := 2, slots := 12, locals := 90 }
def exn_X9_meanSize : Int32 → String := fun _ => "java/lang/ArithmeticException"
set_option maxHeartbeats 4000000 in
set_option maxRecDepth 100000 in
theorem met_X9_meanSize (l : Launch) (hst0 : l.stackTraces = false) (D : va_G) (cy : Nat → ClassId) (sz : Nat) (ad : Nat → Nat → Nat) (en g : Nat → Nat) (x : Mem)  (code : Int32) (r : UInt64) (hF : D_X9_meanSize x = some (code, r)) : MTD l yX9_meanSize cX9_meanSize 1 rm_X9_meanSize D cy en g (cW cy ad en x) sz [.ref (ad 12 0)] exn_X9_meanSize code r (cW cy ad en x) := by
  refine MTD.of (by decide +kernel) (Nat.le_of_ble_eq_true rfl) ?_
  intro p e s m args below meth c A ls Q hAt htb hST hP hD hA hS hl hQ
  obtain ⟨hx, hb, hr, hml, hown, hw, hlk, hK, hN⟩ := hAt
  have hown : s.vm.findClass "CloudDeeds" = some m.cls := hown
  have hl : lv_has ls 1 [(0, .ref (ad 12 0))] := hl
  refine lv_aload_n hx hb dX9_meanSize_0 rfl (lv_at hl 0 rfl) ?_
  refine get' (ci := 11) (fs := [.ref (ad 0 0), .ref (ad 1 0), .ref (ad 2 0), .ref (ad 3 0), .int (((x 12) 0) 4), .ref (ad 12 1), .ref (ad 12 3), .ref (ad 12 4), .int (((x 12) 0) 8), .ref (ad 12 31)]) (v := .ref (ad 0 0)) hx hb hw inWX9 hown hK hP (gY (x := x) (r := 0) (f := ((x 12) 0)) (by decide) ((congrFun rfl _).trans rfl)) rfl 0 (by decide) k_284 rfl rfl dX9_meanSize_1 ?_
  refine getN' (ci := 6) (fs := oF (ad 0) ((x 0) 0)) (v := .int (((x 0) 0) 1)) hx hb hw hN inWX4 hown hK hP (gX (x := x) (k := 0) (r := 0) (f := ((x 0) 0)) (by decide) (by decide) ((congrFun rfl _).trans rfl)) rfl 1 (by decide) n_120 rfl rfl dX9_meanSize_4 ?_
  refine lv_if_ne (tgt := 21) hx hb dX9_meanSize_7 (by decide) (fun h1 => ?_) (fun h1 => ?_)
  · replace hF := (if_neg h1).symm.trans hF
    refine lv_aload_n hx hb dX9_meanSize_21 rfl (lv_at hl 0 rfl) ?_
    refine get' (ci := 11) (fs := [.ref (ad 0 0), .ref (ad 1 0), .ref (ad 2 0), .ref (ad 3 0), .int (((x 12) 0) 4), .ref (ad 12 1), .ref (ad 12 3), .ref (ad 12 4), .int (((x 12) 0) 8), .ref (ad 12 31)]) (v := .ref (ad 0 0)) hx hb hw inWX9 hown hK hP (gY (x := x) (r := 0) (f := ((x 12) 0)) (by decide) ((congrFun rfl _).trans rfl)) rfl 0 (by decide) k_284 rfl rfl dX9_meanSize_22 ?_
    have hP := cvP hP ((congrArg (cW cy ad en) (up_self x 0)).symm.trans (congrArg (fun z => cW cy ad en (va_up x 0 z)) rfl))
    have hD := cvD hD ((congrArg (cW cy ad en) (up_self x 0)).symm.trans (congrArg (fun z => cW cy ad en (va_up x 0 z)) rfl))
    obtain ⟨r2, hc4, hF⟩ := bind_some hF
    try dsimp only at hF
    refine cV_i (As := []) (rest := []) hx hb hml hown hw hK hN hA hl.1 hP hD hS k_873 k_874 k_875 k_22 k_876 (met_X4_sizes l D cy _ ad en x 0 (by decide) (x 0) r2 hc4) (fun _ _ _ => trivial) Xok_T (gX (x := (va_up x 0 (x 0))) (k := 0) (r := 0) (f := ((x 0) 0)) (by decide) (by decide) ((congrFun (va_up_self _ _ _) _).trans rfl)) rfl ⟨rfl, rfl⟩ (n := 0) (by decide +kernel) rfl ⟨Nat.le_of_ble_eq_true rfl, Nat.le_of_ble_eq_true rfl⟩ ⟨Nat.le_of_ble_eq_true rfl, Nat.le_of_ble_eq_true rfl⟩ (Nat.le_of_ble_eq_true rfl) rfl dX9_meanSize_25 (fun H locs hP hD hS => ?_)
    have hP : va_P D vwCl (cW cy ad en x) H := cvP hP ((congrArg (cW cy ad en) (up_self x 0)).symm.trans (congrArg (fun z => cW cy ad en (va_up x 0 z)) rfl)).symm
    have hD : va_D A (cW cy ad en x) := cvD hD ((congrArg (cW cy ad en) (up_self x 0)).symm.trans (congrArg (fun z => cW cy ad en (va_up x 0 z)) rfl)).symm
    refine lv_i2d hx hb dX9_meanSize_28 ?_
    refine lv_aload_n hx hb dX9_meanSize_29 rfl (lv_at hl 0 rfl) ?_
    refine get' (ci := 11) (fs := [.ref (ad 0 0), .ref (ad 1 0), .ref (ad 2 0), .ref (ad 3 0), .int (((x 12) 0) 4), .ref (ad 12 1), .ref (ad 12 3), .ref (ad 12 4), .int (((x 12) 0) 8), .ref (ad 12 31)]) (v := .ref (ad 0 0)) hx hb hw inWX9 hown hK hP (gY (x := x) (r := 0) (f := ((x 12) 0)) (by decide) ((congrFun rfl _).trans rfl)) rfl 0 (by decide) k_284 rfl rfl dX9_meanSize_30 ?_
    refine getN' (ci := 6) (fs := oF (ad 0) ((x 0) 0)) (v := .int (((x 0) 0) 1)) hx hb hw hN inWX4 hown hK hP (gX (x := x) (k := 0) (r := 0) (f := ((x 0) 0)) (by decide) (by decide) ((congrFun rfl _).trans rfl)) rfl 1 (by decide) n_120 rfl rfl dX9_meanSize_33 ?_
    refine lv_i2d hx hb dX9_meanSize_36 ?_
    obtain ⟨hn5, hF⟩ := ite_some hF
    refine lv_ddiv hx hb dX9_meanSize_37 (n64_iff.mp hn5) ?_
    cases hF
    rw [hQ]
    exact retx_d hx hb hr hlk (Nat.le_of_ble_eq_true rfl) (Nat.le_of_ble_eq_true rfl) hS hP hD rfl rfl rfl dX9_meanSize_38
  · replace hF := (if_pos h1).symm.trans hF
    cases hF
    rw [hQ]
    exact thrSW (g := g) (en := en) hx hb hst0 hml hown hw hN hlk htb hST hS hP hD hl.1 (text := "there are no clouds") 18 rfl (by decide) k_857 k_51 at_296 (by decide) rfl rfl dX9_meanSize_10 dX9_meanSize_13 dX9_meanSize_14 dX9_meanSize_17 dX9_meanSize_20 ⟨Nat.le_of_ble_eq_true rfl, Nat.le_of_ble_eq_true rfl, Nat.le_of_ble_eq_true rfl, Nat.le_of_ble_eq_true rfl⟩ (Nat.le_of_ble_eq_true rfl) ⟨Nat.le_of_ble_eq_true rfl, Nat.le_of_ble_eq_true rfl⟩
def D_X9_titledShare (x : Mem) : Option (Int32 × UInt32) := if (((x 0) 0) 1) = 0 then (some (1, 0)) else ((D_X4_titledClouds (x 0)).bind (fun r2 => if n32b (FP.fdiv (FP.i2f r2) (FP.i2f (((x 0) 0) 1))) then (some (0, (FP.fdiv (FP.i2f r2) (FP.i2f (((x 0) 0) 1))))) else none))
abbrev rm_X9_titledShare : Room := { frames := 6, cells := 2, slots := 12, locals := 90 }
def exn_X9_titledShare : Int32 → String := fun _ => "java/lang/ArithmeticException"
set_option maxHeartbeats 4000000 in
set_option maxRecDepth 100000 in
theorem met_X9_titledShare (l : Launch) (hst0 : l.stackTraces = false) (D : va_G) (cy : Nat → ClassId) (sz : Nat) (ad : Nat → Nat → Nat) (en g : Nat → Nat) (x : Mem)  (code : Int32) (r : UInt32) (hF : D_X9_titledShare x = some (code, r)) : MTF l yX9_titledShare cX9_titledShare 1 rm_X9_titledShare D cy en g (cW cy ad en x) sz [.ref (ad 12 0)] exn_X9_titledShare code r (cW cy ad en x) := by
  refine MTF.of (by decide +kernel) (Nat.le_of_ble_eq_true rfl) ?_
  intro p e s m args below meth c A ls Q hAt htb hST hP hD hA hS hl hQ
  obtain ⟨hx, hb, hr, hml, hown, hw, hlk, hK, hN⟩ := hAt
  have hown : s.vm.findClass "CloudDeeds" = some m.cls := hown
  have hl : lv_has ls 1 [(0, .ref (ad 12 0))] := hl
  refine lv_aload_n hx hb dX9_titledShare_0 rfl (lv_at hl 0 rfl) ?_
  refine get' (ci := 11) (fs := [.ref (ad 0 0), .ref (ad 1 0), .ref (ad 2 0), .ref (ad 3 0), .int (((x 12) 0) 4), .ref (ad 12 1), .ref (ad 12 3), .ref (ad 12 4), .int (((x 12) 0) 8), .ref (ad 12 31)]) (v := .ref (ad 0 0)) hx hb hw inWX9 hown hK hP (gY (x := x) (r := 0) (f := ((x 12) 0)) (by decide) ((congrFun rfl _).trans rfl)) rfl 0 (by decide) k_284 rfl rfl dX9_titledShare_1 ?_
  refine getN' (ci := 6) (fs := oF (ad 0) ((x 0) 0)) (v := .int (((x 0) 0) 1)) hx hb hw hN inWX4 hown hK hP (gX (x := x) (k := 0) (r := 0) (f := ((x 0) 0)) (by decide) (by decide) ((congrFun rfl _).trans rfl)) rfl 1 (by decide) n_120 rfl rfl dX9_titledShare_4 ?_
  refine lv_if_ne (tgt := 21) hx hb dX9_titledShare_7 (by decide) (fun h1 => ?_) (fun h1 => ?_)
  · replace hF := (if_neg h1).symm.trans hF
    refine lv_aload_n hx hb dX9_titledShare_21 rfl (lv_at hl 0 rfl) ?_
    refine get' (ci := 11) (fs := [.ref (ad 0 0), .ref (ad 1 0), .ref (ad 2 0), .ref (ad 3 0), .int (((x 12) 0) 4), .ref (ad 12 1), .ref (ad 12 3), .ref (ad 12 4), .int (((x 12) 0) 8), .ref (ad 12 31)]) (v := .ref (ad 0 0)) hx hb hw inWX9 hown hK hP (gY (x := x) (r := 0) (f := ((x 12) 0)) (by decide) ((congrFun rfl _).trans rfl)) rfl 0 (by decide) k_284 rfl rfl dX9_titledShare_22 ?_
    have hP := cvP hP ((congrArg (cW cy ad en) (up_self x 0)).symm.trans (congrArg (fun z => cW cy ad en (va_up x 0 z)) rfl))
    have hD := cvD hD ((congrArg (cW cy ad en) (up_self x 0)).symm.trans (congrArg (fun z => cW cy ad en (va_up x 0 z)) rfl))
    obtain ⟨r2, hc4, hF⟩ := bind_some hF
    try dsimp only at hF
    refine cV_i (As := []) (rest := []) hx hb hml hown hw hK hN hA hl.1 hP hD hS k_881 k_882 k_883 k_22 k_884 (met_X4_titledClouds l D cy _ ad en x 0 (by decide) (x 0) r2 hc4) (fun _ _ _ => trivial) Xok_T (gX (x := (va_up x 0 (x 0))) (k := 0) (r := 0) (f := ((x 0) 0)) (by decide) (by decide) ((congrFun (va_up_self _ _ _) _).trans rfl)) rfl ⟨rfl, rfl⟩ (n := 0) (by decide +kernel) rfl ⟨Nat.le_of_ble_eq_true rfl, Nat.le_of_ble_eq_true rfl⟩ ⟨Nat.le_of_ble_eq_true rfl, Nat.le_of_ble_eq_true rfl⟩ (Nat.le_of_ble_eq_true rfl) rfl dX9_titledShare_25 (fun H locs hP hD hS => ?_)
    have hP : va_P D vwCl (cW cy ad en x) H := cvP hP ((congrArg (cW cy ad en) (up_self x 0)).symm.trans (congrArg (fun z => cW cy ad en (va_up x 0 z)) rfl)).symm
    have hD : va_D A (cW cy ad en x) := cvD hD ((congrArg (cW cy ad en) (up_self x 0)).symm.trans (congrArg (fun z => cW cy ad en (va_up x 0 z)) rfl)).symm
    refine lv_i2f hx hb dX9_titledShare_28 ?_
    refine lv_aload_n hx hb dX9_titledShare_29 rfl (lv_at hl 0 rfl) ?_
    refine get' (ci := 11) (fs := [.ref (ad 0 0), .ref (ad 1 0), .ref (ad 2 0), .ref (ad 3 0), .int (((x 12) 0) 4), .ref (ad 12 1), .ref (ad 12 3), .ref (ad 12 4), .int (((x 12) 0) 8), .ref (ad 12 31)]) (v := .ref (ad 0 0)) hx hb hw inWX9 hown hK hP (gY (x := x) (r := 0) (f := ((x 12) 0)) (by decide) ((congrFun rfl _).trans rfl)) rfl 0 (by decide) k_284 rfl rfl dX9_titledShare_30 ?_
    refine getN' (ci := 6) (fs := oF (ad 0) ((x 0) 0)) (v := .int (((x 0) 0) 1)) hx hb hw hN inWX4 hown hK hP (gX (x := x) (k := 0) (r := 0) (f := ((x 0) 0)) (by decide) (by decide) ((congrFun rfl _).trans rfl)) rfl 1 (by decide) n_120 rfl rfl dX9_titledShare_33 ?_
    refine lv_i2f hx hb dX9_titledShare_36 ?_
    obtain ⟨hn5, hF⟩ := ite_some hF
    refine lv_fdiv hx hb dX9_titledShare_37 (n32_iff.mp hn5) ?_
    cases hF
    rw [hQ]
    exact retx_f hx hb hr hlk (Nat.le_of_ble_eq_true rfl) (Nat.le_of_ble_eq_true rfl) hS hP hD rfl rfl rfl dX9_titledShare_38
  · replace hF := (if_pos h1).symm.trans hF
    cases hF
    rw [hQ]
    exact thrSW (g := g) (en := en) hx hb hst0 hml hown hw hN hlk htb hST hS hP hD hl.1 (text := "there are no clouds") 18 rfl (by decide) k_857 k_51 at_296 (by decide) rfl rfl dX9_titledShare_10 dX9_titledShare_13 dX9_titledShare_14 dX9_titledShare_17 dX9_titledShare_20 ⟨Nat.le_of_ble_eq_true rfl, Nat.le_of_ble_eq_true rfl, Nat.le_of_ble_eq_true rfl, Nat.le_of_ble_eq_true rfl⟩ (Nat.le_of_ble_eq_true rfl) ⟨Nat.le_of_ble_eq_true rfl, Nat.le_of_ble_eq_true rfl⟩
abbrev rm_X10_meanSize : Room := { frames := 3, cells := 0, slots := 0, locals := 66 }
abbrev rm_X10_titledShare : Room := { frames := 3, cells := 0, slots := 0, locals := 66 }
