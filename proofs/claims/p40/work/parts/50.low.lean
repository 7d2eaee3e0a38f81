/-! the law's small methods -/
theorem lp {G : Nat → Prop} {n : Nat} (h0 : G n) (hs : ∀ k, k < n → G (k + 1) → G k) : ∀ k, k ≤ n → G k := by
  have h : ∀ d k, k + d = n → G k := by
    intro d
    induction d with
    | zero => intro k hk; have e : k = n := (by omega); rw [e]; exact h0
    | succ d ih => intro k hk; exact hs k (by omega) (ih (k + 1) (by omega))
  exact fun k hk => h (n - k) k (by omega)
theorem ush3 (x : Int32) : ∃ z : Nat, z < 2 ^ 29 ∧ (x.toUInt32 >>> ((3 : Int32).toUInt32 &&& Int32.toUInt32 31)).toInt32 = nI z := by
  refine ⟨x.toBitVec.toNat / 2 ^ 3, ?_, ?_⟩
  · have := x.toBitVec.isLt
    omega
  · apply Int32.toBitVec_inj.mp
    apply BitVec.eq_of_toNat_eq
    have hlt : x.toBitVec.toNat / 2 ^ 3 < 2 ^ 32 := by
      have := x.toBitVec.isLt
      omega
    rw [pk_ushr x 3 3 (by decide), pk_tn hlt]
theorem ds_abs (x w : Int32) : ((x + (if 0 ≤ w then w else 0 - w)) - (x + (if 0 ≤ w then w else 0 - w)) / 6 * 6) = ds x w := by
  unfold ds
  by_cases h : 0 ≤ w
  · rw [if_pos h, if_pos h]
  · rw [if_neg h, if_neg h, Int32.zero_sub]
theorem ow3_n {o : Nat → Nat → Int32} {w : Int32} {a : Nat} (h : o (a + 7) 3 = -1) : ow3 o w a = o 2 (dv (o (a + 7) 0) w).toNatClampNeg := by unfold ow3; rw [if_pos h]
theorem ow3_o {o : Nat → Nat → Int32} {w : Int32} {a : Nat} (h : ¬ o (a + 7) 3 = -1) (h4 : ¬ o (a + 7) 4 = ds (o (a + 7) 1) w) : ow3 o w a = o 2 (dv (o (a + 7) 0) w).toNatClampNeg := by unfold ow3; rw [if_neg h, if_neg h4]
theorem ow3_t {o : Nat → Nat → Int32} {w : Int32} {a : Nat} (h : ¬ o (a + 7) 3 = -1) (h4 : o (a + 7) 4 = ds (o (a + 7) 1) w) : ow3 o w a = o (a + 7) 3 := by unfold ow3; rw [if_neg h, if_pos h4]
theorem f_vy0 (x : Mem) {v : Int32} (h : rng v 0 5) : D_X9_vineyardOf x v 0 = some (0, x 0 2 v.toNatClampNeg) := by
  obtain ⟨a, ha, e⟩ := rng_nI (b := 5) h (by decide)
  rw [e, f_vineyardOf0 x (by omega), nI_clamp (by omega)]
section CO
variable {k n d : Nat} {x : Mem}
theorem f_co0 (h : IV k x n d) {a : Nat} (ha : a < n) : D_X9_cloudOf x (nI a) 0 = some (0, x 0 (a + 7) 0) := (f_cloudOf h ha (by decide)).trans rfl
theorem f_co1 (h : IV k x n d) {a : Nat} (ha : a < n) : D_X9_cloudOf x (nI a) 1 = some (0, x 0 (a + 7) 1) := (f_cloudOf h ha (by decide)).trans rfl
theorem f_co2 (h : IV k x n d) {a : Nat} (ha : a < n) : D_X9_cloudOf x (nI a) 2 = some (0, x 0 (a + 7) 2) := (f_cloudOf h ha (by decide)).trans rfl
theorem f_co3 (h : IV k x n d) {a : Nat} (ha : a < n) : D_X9_cloudOf x (nI a) 3 = some (0, x 0 (a + 7) 3) := (f_cloudOf h ha (by decide)).trans rfl
theorem f_co4 (h : IV k x n d) {a : Nat} (ha : a < n) : D_X9_cloudOf x (nI a) 4 = some (0, x 0 (a + 7) 4) := (f_cloudOf h ha (by decide)).trans rfl
theorem f_co5 (h : IV k x n d) {a : Nat} (ha : a < n) : D_X9_cloudOf x (nI a) 5 = some (0, x 0 (a + 7) 5) := (f_cloudOf h ha (by decide)).trans rfl
theorem f_co6 (h : IV k x n d) {a : Nat} (ha : a < n) : D_X9_cloudOf x (nI a) 6 = some (0, D_X1_redemption (x 0 (a + 7))) := (f_cloudOf h ha (by decide)).trans rfl
end CO
section CALLH
variable {p : Program} {l : Launch} {e : Env} {R : Room} {s : State} {m : MethodId} {args : Array Value} {below : List Frame} {meth : Method} {c : Code} {H : Heap} {locs : List Loc} {cells slots mc ms : Nat} {Q : State → Prop} {D : va_G} {cy : Nat → ClassId} {ws : va_W} {A : Nat → Prop} {cc : ByteArray} {pc : Nat} {ls : Array Slot}
  {own : String} {y : MethodName} {cY : ByteArray} {nY nL index : Nat} {rm : Room} {X : State → Prop} {As rest st : List Value} {Post : Int32 → va_W → Prop}
theorem uSh {hh : List (Nat × Nat × Nat × Nat)} {n : Nat} (hx : p.tables.exec = Jvm.exec) (hb : c.code = cc) (hml : c.maxLocals = nL) (hown : s.vm.findClass own = some m.cls) (hw : ∀ w ∈ WA, w.before args s = true) (hK : va_K D vwCl (tyL cy) s) (hN : NW s) (hA : ∀ q : Nat, s.heap.size ≤ q → A q) (hsz : ls.size = nL)
    (hP : va_P D vwCl ws H) (hD : va_D A ws) (hS : va_S A s.heap H locs)
    (k1 : Cond.methodLink own index y ∈ WA) (k2 : Cond.static y ∈ WA) (k4 : Cond.initialized y.cls ∈ WA) (k5 : Cond.codeWith y cY nY (some .int) hh ∈ WA)
    (hM : MH l y cY nY hh rm D cy ws H.size X As mc ms Post) (hX : ∀ U : State, U.heap = H → s.WarmedH U.vm → X U) (hXk : Xok X) (hrm : rm.cells = mc ∧ rm.slots = ms)
    (hd : y.cls ≠ "java/lang/invoke/MethodHandle" ∧ y.cls ≠ "java/lang/invoke/VarHandle" ∧ (parseMethodDescriptor y.desc).map (fun d => d.parameters.length) = some n) (hn : As.length = n) (hR : rm.frames + 1 ≤ R.frames ∧ 8 + (nY + 11) + rm.locals ≤ R.locals)
    (hcs : cells + mc ≤ R.cells ∧ slots + ms ≤ R.slots) (hst : (rest.map fun v => v.category).sum ≤ 8) (hstk : st = As.reverse ++ rest) (hdg : decode cc pc = .ok (.invokestatic index, 3))
    (kk : ∀ (r : Int32) (w : va_W) (H1 : Heap) (locs1 : List Loc), Post r w → va_P D vwCl w H1 → va_D A w → va_S A s.heap H1 locs1 → W p l e R s m args below meth c H1 locs1 (cells + mc) (slots + ms) Q (F0 m (pc + 3) ls (.int r :: rest))) :
    W p l e R s m args below meth c H locs cells slots Q (F0 m pc ls st) := by
  have hG : GoodIn WA (Cond.codeWith y cY nY (some .int) hh :: WA) := fun w h => by
    rcases List.mem_cons.mp h with rfl | h
    · exact ⟨k5, good_of_word (wa_good _ k5)⟩
    · exact ⟨h, good_of_word (wa_good _ h)⟩
  have cw : vx_CSW R s args own index y cY nY (some .int) hh (Cond.codeWith y cY nY (some .int) hh :: WA) rm mc ms n :=
    ⟨⟨hrm.1, hrm.2, hR.1, hR.2, pay_in hw hG, List.mem_cons_self⟩, hw _ k5, hw _ k4, ⟨hd.1, hd.2.1⟩, fun sig h => by
      have h2 := hd.2.2
      rw [h] at h2
      exact (Option.some.inj h2).symm, hw _ k1, hw _ k2⟩
  exact goJ hS hD hA (vx_runSW (As := As) (rest := rest) ⟨hx, hb, hml, hown, hw⟩ hM cw ⟨pW_blind hXk, pW_call hP hK hD hN hX⟩ rfl hn hsz hstk (lv_room hst) hdg hcs) kk
end CALLH
abbrev rm_L_cell : Room := { frames := 0, cells := 0, slots := 0, locals := 0 }
set_option maxHeartbeats 4000000 in
theorem met_L_cell (l : Launch) (D : va_G) (cy : Nat → ClassId) (sz : Nat) (ws : va_W) (en g : Nat → Nat) (b L : Nat) (xs : Nat → Int32) (k : Nat) (hL : L ≤ 260) (hk : k < 2 ^ 30) : MJ l yL_cell cL_cell 2 (some .int) rm_L_cell D cy ws sz (XL en g b L xs ws sz) [.ref b, .int (nI k)] 0 0 (fun _ w => w = ws) := by
  refine MJ.of (by decide +kernel) (Nat.le_of_ble_eq_true rfl) ?_
  intro p e s m args below meth c A ls Q hAt hX hsz hAe hP hD hA hS hl hret
  have hST : ST en g A s s.heap := by rw [hAe]; exact hX.1
  have hSC : SC b L xs A s s.heap := by rw [hAe]; exact hX.2
  obtain ⟨hx, hb, hr, hml, hown, hw, hlk, hK, hN⟩ := hAt
  have hown : s.vm.findClass "CloudDeedsLaw" = some m.cls := hown
  have hl : lv_has ls 2 [(0, .ref b), (1, .int (nI k))] := hl
  refine lv_iload_n hx hb dL_cell_0 rfl (lv_at hl 1 rfl) ?_
  refine lv_aload_n hx hb dL_cell_1 rfl (lv_at hl 0 rfl) ?_
  refine va_slen hx hb hSC.1 hSC.2.1 hSC.2.2 hS dL_cell_2 ?_
  refine lv_icmp_ge (tgt := 12) hx hb dL_cell_3 (by decide) (fun h1 => ?_) (fun h2 => ?_)
  · refine lv_sipush (v := 7919) hx hb dL_cell_12 (by decide) ?_
    refine lv_iload_n hx hb dL_cell_15 rfl (lv_at hl 1 rfl) ?_
    refine lv_imul hx hb dL_cell_16 ?_
    refine lv_bipush (v := 12) hx hb dL_cell_17 (by decide) ?_
    refine lv_iadd hx hb dL_cell_19 ?_
    exact hret _ _ _ _ _ _ _ _ hP hD hS rfl rfl (Nat.le_of_ble_eq_true rfl) (Nat.le_of_ble_eq_true rfl) dL_cell_20
  · refine lv_aload_n hx hb dL_cell_6 rfl (lv_at hl 0 rfl) ?_
    refine lv_iload_n hx hb dL_cell_7 rfl (lv_at hl 1 rfl) ?_
    have h3 : vp_in (nI k) L := vp_in_iff.mpr ⟨by rw [nI_toInt (by omega)]; omega, by rw [nI_toInt (by omega)]; rw [Int32.le_iff_toInt_le, show (Int32.ofNat L).toInt = (L : Int) from nI_toInt (by omega), nI_toInt (by omega)] at h2; omega⟩
    refine va_sld hx hb hSC.1 hSC.2.1 hSC.2.2 hS h3 dL_cell_8 ?_
    refine lv_goto (tgt := 20) hx hb dL_cell_9 (by decide) ?_
    exact hret _ _ _ _ _ _ _ _ hP hD hS rfl rfl (Nat.le_of_ble_eq_true rfl) (Nat.le_of_ble_eq_true rfl) dL_cell_20
abbrev rm_L_some : Room := { frames := 1, cells := 0, slots := 0, locals := 21 }
set_option maxHeartbeats 4000000 in
theorem met_L_some (l : Launch) (D : va_G) (cy : Nat → ClassId) (sz : Nat) (ws : va_W) (en g : Nat → Nat) (b L : Nat) (xs : Nat → Int32) (k N : Nat) (hL : L ≤ 260) (hk : k < 2 ^ 30) (hN0 : 0 < N ∧ N < 2 ^ 30) : MJ l yL_some cL_some 3 (some .int) rm_L_some D cy ws sz (XL en g b L xs ws sz) [.ref b, .int (nI k), .int (nI N)] 0 0 (fun r w => w = ws ∧ ∃ j : Nat, j < N ∧ r = nI j) := by
  refine MJ.of (by decide +kernel) (Nat.le_of_ble_eq_true rfl) ?_
  intro p e s m args below meth c A ls Q hAt hX hsz hAe hP hD hA hS hl hret
  have hST : ST en g A s s.heap := by rw [hAe]; exact hX.1
  have hSC : SC b L xs A s s.heap := by rw [hAe]; exact hX.2
  obtain ⟨hx, hb, hr, hml, hown, hw, hlk, hK, hN⟩ := hAt
  have hown : s.vm.findClass "CloudDeedsLaw" = some m.cls := hown
  have hl : lv_has ls 3 [(0, .ref b), (1, .int (nI k)), (2, .int (nI N))] := hl
  refine lv_aload_n hx hb dL_some_0 rfl (lv_at hl 0 rfl) ?_
  refine lv_iload_n hx hb dL_some_1 rfl (lv_at hl 1 rfl) ?_
  refine uSj (As := [.ref b, .int (nI k)]) (rest := []) hx hb hml hown hw hK hN hA hl.1 hP hD hS k_969 k_970 k_20 k_971 (met_L_cell l D cy _ ws en g b L xs k hL hk) (XL_call hST hSC hS (free_all hD hS hA)) Xok_L ⟨rfl, rfl⟩ (n := 2) (by decide +kernel) rfl ⟨Nat.le_of_ble_eq_true rfl, Nat.le_of_ble_eq_true rfl⟩ ⟨Nat.le_of_ble_eq_true rfl, Nat.le_of_ble_eq_true rfl⟩ (Nat.le_of_ble_eq_true rfl) rfl dL_some_2 (fun r9 w9 H locs h9 hP hD hS => ?_)
  subst w9
  refine lv_iconst (v := 3) hx hb dL_some_5 (by decide) ?_
  obtain ⟨z, hz, ez⟩ := ush3 r9
  refine lv_iushr (v := nI z) hx hb dL_some_6 ez ?_
  refine lv_iload_n hx hb dL_some_7 rfl (lv_at hl 2 rfl) ?_
  refine lv_irem hx hb dL_some_8 (nI_neZ (by omega) (by omega)) ?_
  rw [pk_rem (show z < 2 ^ 31 by omega) (show 0 < N by omega) (show N < 2 ^ 31 by omega)]
  exact hret _ _ _ _ _ _ _ _ hP hD hS ⟨rfl, z % N, Nat.mod_lt _ hN0.1, rfl⟩ rfl (Nat.le_of_ble_eq_true rfl) (Nat.le_of_ble_eq_true rfl) dL_some_9
abbrev rm_L_ownerBy : Room := { frames := 7, cells := 10, slots := 60, locals := 112 }
set_option maxHeartbeats 4000000 in
theorem met_L_ownerBy (l : Launch) (hst0 : l.stackTraces = false) (D : va_G) (cy : Nat → ClassId) (sz : Nat) (ad : Nat → Nat → Nat) (en g : Nat → Nat) (x : Mem) {k n d : Nat} (hI : IV k x n d) (a : Nat) (ha : a < n) (w : Int32) (hw3 : rng w (-3) 3) : MJ l yL_ownerBy cL_ownerBy 5 (some .int) rm_L_ownerBy D cy (cW cy ad en x) sz (XS en g (cW cy ad en x) sz) [.ref (ad 12 0), .int (nI a), .int w] 10 60 (fun r w9 => r = ow3 (x 0) w a ∧ w9 = cW cy ad en x) := by
  refine MJ.of (by decide +kernel) (Nat.le_of_ble_eq_true rfl) ?_
  intro p e s m args below meth c A ls Q hAt hX hsz hAe hP hD hA hS hl hret
  have hST : ST en g A s s.heap := by rw [hAe]; exact hX
  obtain ⟨hx, hb, hr, hml, hown, hw, hlk, hK, hN⟩ := hAt
  have hown : s.vm.findClass "CloudDeedsLaw" = some m.cls := hown
  have hl : lv_has ls 5 [(0, .ref (ad 12 0)), (1, .int (nI a)), (2, .int w)] := hl
  have hC := hI.1.2.2.1 a ha
  refine lv_aload_n hx hb dL_ownerBy_0 rfl (lv_at hl 0 rfl) ?_
  refine lv_iload_n hx hb dL_ownerBy_1 rfl (lv_at hl 1 rfl) ?_
  refine lv_iconst (v := 1) hx hb dL_ownerBy_2 (by decide) ?_
  refine xV_i (As := [.int (nI a), .int 1]) (rest := []) hx hb hml hown hw hK hN hA hl.1 hP hD hS hST k_315 k_316 k_317 k_21 k_318 (met_X9_cloudOf l hst0 D cy _ ad en g x (nI a) 1 0 (x 0 (a + 7) 1) (f_co1 hI ha)) (gY (x := x) (r := 0) (f := x 12 0) (by decide) rfl) rfl ⟨rfl, rfl⟩ (n := 2) (by decide +kernel) rfl ⟨Nat.le_of_ble_eq_true rfl, Nat.le_of_ble_eq_true rfl⟩ ⟨Nat.le_of_ble_eq_true rfl, Nat.le_of_ble_eq_true rfl⟩ (Nat.le_of_ble_eq_true rfl) rfl dL_ownerBy_3 (fun H locs q9 ce9 hne hP hD hS hce hcv hcl => absurd rfl hne) (fun H locs h0 hP hD hS => ?_)
  refine lv_iload_n hx hb dL_ownerBy_6 rfl (lv_at hl 2 rfl) ?_
  refine va_mabs hx hb (hml.trans hl.1.symm) hown (hw _ k_1164) (hw _ k_549) (hw _ k_35) (hw _ k_550) (Nat.le_of_ble_eq_true rfl) (Nat.le_of_ble_eq_true rfl) (Nat.le_of_ble_eq_true rfl) (Nat.le_of_ble_eq_true rfl) dL_ownerBy_7 ?_
  refine lv_iadd hx hb dL_ownerBy_10 ?_
  refine lv_bipush (v := 6) hx hb dL_ownerBy_11 (by decide) ?_
  refine lv_irem hx hb dL_ownerBy_13 (by decide) ?_
  rw [show (((x 0 (a + 7) 1) + (if 0 ≤ w then w else 0 - w)) - ((x 0 (a + 7) 1) + (if 0 ≤ w then w else 0 - w)) / 6 * 6) = ds (x 0 (a + 7) 1) w from ds_abs _ _]
  refine lv_istore_n (lv' := [(3, .int (ds (x 0 (a + 7) 1) w)), (0, .ref (ad 12 0)), (1, .int (nI a)), (2, .int w)]) hx hb dL_ownerBy_14 rfl hl (by decide) rfl (fun ls hl => ?_)
  refine lv_aload_n hx hb dL_ownerBy_15 rfl (lv_at hl 1 rfl) ?_
  refine lv_iload_n hx hb dL_ownerBy_16 rfl (lv_at hl 2 rfl) ?_
  refine lv_iconst (v := 0) hx hb dL_ownerBy_17 (by decide) ?_
  refine xV_i (As := [.int (nI a), .int 0]) (rest := []) hx hb hml hown hw hK hN hA hl.1 hP hD hS hST k_315 k_316 k_317 k_21 k_318 (met_X9_cloudOf l hst0 D cy _ ad en g x (nI a) 0 0 (x 0 (a + 7) 0) (f_co0 hI ha)) (gY (x := x) (r := 0) (f := x 12 0) (by decide) rfl) rfl ⟨rfl, rfl⟩ (n := 2) (by decide +kernel) rfl ⟨Nat.le_of_ble_eq_true rfl, Nat.le_of_ble_eq_true rfl⟩ ⟨Nat.le_of_ble_eq_true rfl, Nat.le_of_ble_eq_true rfl⟩ (Nat.le_of_ble_eq_true rfl) rfl dL_ownerBy_18 (fun H locs q9 ce9 hne hP hD hS hce hcv hcl => absurd rfl hne) (fun H locs h0 hP hD hS => ?_)
  refine lv_iload_n hx hb dL_ownerBy_21 rfl (lv_at hl 3 rfl) ?_
  refine lv_iadd hx hb dL_ownerBy_22 ?_
  refine lv_bipush (v := 6) hx hb dL_ownerBy_23 (by decide) ?_
  refine lv_iadd hx hb dL_ownerBy_25 ?_
  refine lv_bipush (v := 6) hx hb dL_ownerBy_26 (by decide) ?_
  refine lv_irem hx hb dL_ownerBy_28 (by decide) ?_
  rw [show ((((x 0 (a + 7) 0) + w) + 6) - (((x 0 (a + 7) 0) + w) + 6) / 6 * 6) = dv (x 0 (a + 7) 0) w from rfl]
  refine lv_istore (lv' := [(4, .int (dv (x 0 (a + 7) 0) w)), (3, .int (ds (x 0 (a + 7) 1) w)), (0, .ref (ad 12 0)), (1, .int (nI a)), (2, .int w)]) hx hb dL_ownerBy_29 hl (by decide) rfl (fun ls hl => ?_)
  refine lv_aload_n hx hb dL_ownerBy_31 rfl (lv_at hl 2 rfl) ?_
  refine lv_iload_n hx hb dL_ownerBy_32 rfl (lv_at hl 3 rfl) ?_
  refine lv_iconst (v := 3) hx hb dL_ownerBy_33 (by decide) ?_
  refine xV_i (As := [.int (nI a), .int 3]) (rest := []) hx hb hml hown hw hK hN hA hl.1 hP hD hS hST k_315 k_316 k_317 k_21 k_318 (met_X9_cloudOf l hst0 D cy _ ad en g x (nI a) 3 0 (x 0 (a + 7) 3) (f_co3 hI ha)) (gY (x := x) (r := 0) (f := x 12 0) (by decide) rfl) rfl ⟨rfl, rfl⟩ (n := 2) (by decide +kernel) rfl ⟨Nat.le_of_ble_eq_true rfl, Nat.le_of_ble_eq_true rfl⟩ ⟨Nat.le_of_ble_eq_true rfl, Nat.le_of_ble_eq_true rfl⟩ (Nat.le_of_ble_eq_true rfl) rfl dL_ownerBy_34 (fun H locs q9 ce9 hne hP hD hS hce hcv hcl => absurd rfl hne) (fun H locs h0 hP hD hS => ?_)
  refine lv_if_lt (tgt := 59) hx hb dL_ownerBy_37 (by decide) (fun h1 => ?_) (fun h2 => ?_)
  · refine lv_aload_n hx hb dL_ownerBy_59 rfl (lv_at hl 2 rfl) ?_
    refine lv_iload hx hb dL_ownerBy_60 (lv_at hl 0 rfl) ?_
    refine lv_iconst (v := 0) hx hb dL_ownerBy_62 (by decide) ?_
    refine xV_i (As := [.int (dv (x 0 (a + 7) 0) w), .int 0]) (rest := []) hx hb hml hown hw hK hN hA hl.1 hP hD hS hST k_450 k_451 k_452 k_21 k_453 (met_X9_vineyardOf l hst0 D cy _ ad en g x (dv (x 0 (a + 7) 0) w) 0 0 (x 0 2 (dv (x 0 (a + 7) 0) w).toNatClampNeg) (f_vy0 x (dv_ok hC.1.1 hw3).2.1)) (gY (x := x) (r := 0) (f := x 12 0) (by decide) rfl) rfl ⟨rfl, rfl⟩ (n := 2) (by decide +kernel) rfl ⟨Nat.le_of_ble_eq_true rfl, Nat.le_of_ble_eq_true rfl⟩ ⟨Nat.le_of_ble_eq_true rfl, Nat.le_of_ble_eq_true rfl⟩ (Nat.le_of_ble_eq_true rfl) rfl dL_ownerBy_63 (fun H locs q9 ce9 hne hP hD hS hce hcv hcl => absurd rfl hne) (fun H locs h0 hP hD hS => ?_)
    exact hret _ _ _ _ _ _ _ _ hP hD hS ⟨(ow3_n (neg_m1 hC.1.2.2.2.1 |>.mp h1)).symm, rfl⟩ rfl (Nat.le_of_ble_eq_true rfl) (Nat.le_of_ble_eq_true rfl) dL_ownerBy_66
  · have h3 : ¬ x 0 (a + 7) 3 = -1 := fun z => h2 ((neg_m1 hC.1.2.2.2.1).mpr z)
    refine lv_aload_n hx hb dL_ownerBy_40 rfl (lv_at hl 2 rfl) ?_
    refine lv_iload_n hx hb dL_ownerBy_41 rfl (lv_at hl 3 rfl) ?_
    refine lv_iconst (v := 4) hx hb dL_ownerBy_42 (by decide) ?_
    refine xV_i (As := [.int (nI a), .int 4]) (rest := []) hx hb hml hown hw hK hN hA hl.1 hP hD hS hST k_315 k_316 k_317 k_21 k_318 (met_X9_cloudOf l hst0 D cy _ ad en g x (nI a) 4 0 (x 0 (a + 7) 4) (f_co4 hI ha)) (gY (x := x) (r := 0) (f := x 12 0) (by decide) rfl) rfl ⟨rfl, rfl⟩ (n := 2) (by decide +kernel) rfl ⟨Nat.le_of_ble_eq_true rfl, Nat.le_of_ble_eq_true rfl⟩ ⟨Nat.le_of_ble_eq_true rfl, Nat.le_of_ble_eq_true rfl⟩ (Nat.le_of_ble_eq_true rfl) rfl dL_ownerBy_43 (fun H locs q9 ce9 hne hP hD hS hce hcv hcl => absurd rfl hne) (fun H locs h0 hP hD hS => ?_)
    refine lv_iload_n hx hb dL_ownerBy_46 rfl (lv_at hl 1 rfl) ?_
    refine lv_icmp_ne (tgt := 59) hx hb dL_ownerBy_47 (by decide) (fun h4 => ?_) (fun h5 => ?_)
    · refine lv_aload_n hx hb dL_ownerBy_59 rfl (lv_at hl 2 rfl) ?_
      refine lv_iload hx hb dL_ownerBy_60 (lv_at hl 0 rfl) ?_
      refine lv_iconst (v := 0) hx hb dL_ownerBy_62 (by decide) ?_
      refine xV_i (As := [.int (dv (x 0 (a + 7) 0) w), .int 0]) (rest := []) hx hb hml hown hw hK hN hA hl.1 hP hD hS hST k_450 k_451 k_452 k_21 k_453 (met_X9_vineyardOf l hst0 D cy _ ad en g x (dv (x 0 (a + 7) 0) w) 0 0 (x 0 2 (dv (x 0 (a + 7) 0) w).toNatClampNeg) (f_vy0 x (dv_ok hC.1.1 hw3).2.1)) (gY (x := x) (r := 0) (f := x 12 0) (by decide) rfl) rfl ⟨rfl, rfl⟩ (n := 2) (by decide +kernel) rfl ⟨Nat.le_of_ble_eq_true rfl, Nat.le_of_ble_eq_true rfl⟩ ⟨Nat.le_of_ble_eq_true rfl, Nat.le_of_ble_eq_true rfl⟩ (Nat.le_of_ble_eq_true rfl) rfl dL_ownerBy_63 (fun H locs q9 ce9 hne hP hD hS hce hcv hcl => absurd rfl hne) (fun H locs h0 hP hD hS => ?_)
      exact hret _ _ _ _ _ _ _ _ hP hD hS ⟨(ow3_o h3 h4).symm, rfl⟩ rfl (Nat.le_of_ble_eq_true rfl) (Nat.le_of_ble_eq_true rfl) dL_ownerBy_66
    · refine lv_aload_n hx hb dL_ownerBy_50 rfl (lv_at hl 2 rfl) ?_
      refine lv_iload_n hx hb dL_ownerBy_51 rfl (lv_at hl 3 rfl) ?_
      refine lv_iconst (v := 3) hx hb dL_ownerBy_52 (by decide) ?_
      refine xV_i (As := [.int (nI a), .int 3]) (rest := []) hx hb hml hown hw hK hN hA hl.1 hP hD hS hST k_315 k_316 k_317 k_21 k_318 (met_X9_cloudOf l hst0 D cy _ ad en g x (nI a) 3 0 (x 0 (a + 7) 3) (f_co3 hI ha)) (gY (x := x) (r := 0) (f := x 12 0) (by decide) rfl) rfl ⟨rfl, rfl⟩ (n := 2) (by decide +kernel) rfl ⟨Nat.le_of_ble_eq_true rfl, Nat.le_of_ble_eq_true rfl⟩ ⟨Nat.le_of_ble_eq_true rfl, Nat.le_of_ble_eq_true rfl⟩ (Nat.le_of_ble_eq_true rfl) rfl dL_ownerBy_53 (fun H locs q9 ce9 hne hP hD hS hce hcv hcl => absurd rfl hne) (fun H locs h0 hP hD hS => ?_)
      refine lv_goto (tgt := 66) hx hb dL_ownerBy_56 (by decide) ?_
      exact hret _ _ _ _ _ _ _ _ hP hD hS ⟨(ow3_t h3 h5).symm, rfl⟩ rfl (Nat.le_of_ble_eq_true rfl) (Nat.le_of_ble_eq_true rfl) dL_ownerBy_66
abbrev rm_L_isLine : Room := { frames := 7, cells := 34, slots := 204, locals := 139 }
set_option maxHeartbeats 4000000 in
theorem met_L_isLine (l : Launch) (hst0 : l.stackTraces = false) (D : va_G) (cy : Nat → ClassId) (sz : Nat) (ad : Nat → Nat → Nat) (en g : Nat → Nat) (x : Mem) (T : List Nat) (hT : TX x T) (q v n : Nat) (h : Nat → Int32) (hn : n = T.length) (hh : ∀ j u, T[j]? = some u → h j = nI u) : MJ l yL_isLine cL_isLine 4 (some .boolean) rm_L_isLine D cy (cW cy ad en x) sz (XK en g q v n h (cW cy ad en x) sz) [.ref (ad 12 0), .int (nI T.length), .ref q] 34 204 (fun r w => r = 1 ∧ w = cW cy ad en x) := by
  refine MJ.of (by decide +kernel) (Nat.le_of_ble_eq_true rfl) ?_
  intro p e s m args below meth c A ls Q hAt hX hsz hAe hP hD hA hS hl hret
  have hST : ST en g A s s.heap := by rw [hAe]; exact hX.1
  have hKS : KS q v n h A s s.heap := by rw [hAe]; exact hX.2
  obtain ⟨hx, hb, hr, hml, hown, hw, hlk, hK, hN⟩ := hAt
  have hown : s.vm.findClass "CloudDeedsLaw" = some m.cls := hown
  have hl : lv_has ls 4 [(0, .ref (ad 12 0)), (1, .int (nI T.length)), (2, .ref q)] := hl
  have hT16 := hT.2.2.1
  have hn16 : n ≤ 16 := by omega
  have hc9 : ∀ j, j < n → (((h j) &&& 255).toUInt32 % 65536).toInt32 = h j ∧ narrow .char (.int (h j)) = .int (h j) := fun j hj => by
    obtain ⟨u, hu⟩ : ∃ u, T[j]? = some u := ⟨_, List.getElem?_eq_getElem (by omega)⟩
    have hv := (hT.2.2.2 j u hu).2
    have hf := fin_ch ⟨u, hv⟩
    simp only at hf
    rw [hh j u hu]
    exact ⟨hf.2.2.2.2.1, isCh_iff.mp hf.2.2.2.2.2.1⟩
  refine lv_iload_n hx hb dL_isLine_0 rfl (lv_at hl 1 rfl) ?_
  refine lv_aload_n hx hb dL_isLine_1 rfl (lv_at hl 2 rfl) ?_
  refine uRj (As := []) (rest := [.int (nI T.length)]) hx hb hml hown hw hK hN hA hl.1 hP hD hS k_1168 k_1169 k_1170 k_33 k_1171 (met_J0_length_8abf5K l D cy _ (cW cy ad en x) en g q v n h hn16) (XK_call hST hKS hS (free_all hD hS hA)) Xok_K (KS_recv hKS hS) ⟨rfl, rfl⟩ (n := 0) (by decide +kernel) rfl ⟨Nat.le_of_ble_eq_true rfl, Nat.le_of_ble_eq_true rfl⟩ ⟨Nat.le_of_ble_eq_true rfl, Nat.le_of_ble_eq_true rfl⟩ (Nat.le_of_ble_eq_true rfl) rfl dL_isLine_2 (fun r9 w9 H locs h9 hP hD hS => ?_)
  obtain ⟨hr9, hw9⟩ := h9
  subst r9 w9
  refine lv_icmp_eq (tgt := 10) hx hb dL_isLine_5 (by decide) (fun _ => ?_) (fun h => absurd (by rw [hn]) h)
  refine lv_iconst (v := 0) hx hb dL_isLine_10 (by decide) ?_
  refine lv_istore_n (lv' := [(3, .int 0), (0, .ref (ad 12 0)), (1, .int (nI T.length)), (2, .ref q)]) hx hb dL_isLine_11 rfl hl (by decide) rfl (fun ls hl => ?_)
  have loop : ∀ j, j ≤ T.length → (∀ (H : Heap) (locs : List Loc) (ls : Array Slot) (cells slots : Nat), cells ≤ 2 + 2 * j → slots ≤ 12 + 12 * j → va_P D vwCl (cW cy ad en x) H → va_D A (cW cy ad en x) → va_S A s.heap H locs → lv_has ls 4 [(3, .int (nI j)), (0, .ref (ad 12 0)), (1, .int (nI T.length)), (2, .ref q)] → W p l e rm_L_isLine s m args below meth c H locs cells slots Q (F0 m 12 ls [])) := by
    refine lp ?_ ?_
    · intro H locs ls cells slots hc hs hP hD hS hl
      refine lv_iload_n hx hb dL_isLine_12 rfl (lv_at hl 0 rfl) ?_
      refine lv_iload_n hx hb dL_isLine_13 rfl (lv_at hl 2 rfl) ?_
      refine lv_icmp_ge (tgt := 38) hx hb dL_isLine_14 (by decide) (fun _ => ?_) (fun h => absurd (nI_le (Nat.le_refl _) (show T.length < 2 ^ 31 by omega)) h)
      refine lv_iconst (v := 1) hx hb dL_isLine_38 (by decide) ?_
      exact hret _ _ _ _ _ _ _ _ hP hD hS ⟨rfl, rfl⟩ rfl (show cells ≤ 34 by omega) (show slots ≤ 204 by omega) dL_isLine_39
    · intro j hj ih H locs ls cells slots hc hs hP hD hS hl
      obtain ⟨u, hu⟩ : ∃ u, T[j]? = some u := ⟨_, List.getElem?_eq_getElem hj⟩
      refine lv_iload_n hx hb dL_isLine_12 rfl (lv_at hl 0 rfl) ?_
      refine lv_iload_n hx hb dL_isLine_13 rfl (lv_at hl 2 rfl) ?_
      refine lv_icmp_ge (tgt := 38) hx hb dL_isLine_14 (by decide) (fun h => absurd h (nI_ge hj (show T.length < 2 ^ 31 by omega))) (fun _ => ?_)
      refine lv_aload_n hx hb dL_isLine_17 rfl (lv_at hl 1 rfl) ?_
      refine lv_iload_n hx hb dL_isLine_18 rfl (lv_at hl 0 rfl) ?_
      refine xV_i (As := [.int (nI j)]) (rest := []) hx hb hml hown hw hK hN hA hl.1 hP hD hS hST k_836 k_837 k_838 k_21 k_839 (met_X9_character l hst0 D cy _ ad en g x (nI j) 0 (nI u) (f_char hT hu)) (gY (x := x) (r := 0) (f := x 12 0) (by decide) rfl) rfl ⟨rfl, rfl⟩ (n := 1) (by decide +kernel) rfl ⟨Nat.le_of_ble_eq_true rfl, Nat.le_of_ble_eq_true rfl⟩ ⟨show cells + 2 ≤ 34 by omega, show slots + 12 ≤ 204 by omega⟩ (Nat.le_of_ble_eq_true rfl) rfl dL_isLine_19 (fun H locs q9 ce9 hne hP hD hS hce hcv hcl => absurd rfl hne) (fun H locs h0 hP hD hS => ?_)
      refine lv_aload_n hx hb dL_isLine_22 rfl (lv_at hl 3 rfl) ?_
      refine lv_iload_n hx hb dL_isLine_23 rfl (lv_at hl 0 rfl) ?_
      refine uRj (As := [.int (nI j)]) (rest := [.int (nI u)]) hx hb hml hown hw hK hN hA hl.1 hP hD hS k_1177 k_1178 k_1179 k_33 k_1180 (met_J0_charAt_5068eK l D cy _ (cW cy ad en x) en g q v n h j hn16 (by omega) hc9) (XK_call hST hKS hS (free_all hD hS hA)) Xok_K (KS_recv hKS hS) ⟨rfl, rfl⟩ (n := 1) (by decide +kernel) rfl ⟨Nat.le_of_ble_eq_true rfl, Nat.le_of_ble_eq_true rfl⟩ ⟨show cells + 2 + 0 ≤ 34 by omega, show slots + 12 + 0 ≤ 204 by omega⟩ (Nat.le_of_ble_eq_true rfl) rfl dL_isLine_24 (fun r9 w9 H locs h9 hP hD hS => ?_)
      obtain ⟨hr9, hw9⟩ := h9
      subst r9 w9
      refine lv_icmp_eq (tgt := 32) hx hb dL_isLine_27 (by decide) (fun _ => ?_) (fun h => absurd (hh j u hu).symm h)
      refine lv_iinc (v := nI (j + 1)) (lv' := [(3, .int (nI (j + 1))), (0, .ref (ad 12 0)), (1, .int (nI T.length)), (2, .ref q)]) hx hb dL_isLine_32 hl (k := 0) rfl (by rw [nI_succ]; rfl) (by decide) rfl (fun ls hl => ?_)
      refine lv_goto (tgt := 12) hx hb dL_isLine_35 (by decide) ?_
      exact ih _ _ _ _ _ (by omega) (by omega) hP hD hS hl
  exact loop 0 (Nat.zero_le _) _ _ _ _ _ (Nat.le_of_ble_eq_true rfl) (Nat.le_of_ble_eq_true rfl) hP hD hS hl
