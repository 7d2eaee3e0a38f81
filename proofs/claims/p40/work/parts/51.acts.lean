/-! one act of the law, and its beginning -/
abbrev rm_L_acts : Room := { frames := 9, cells := 8, slots := 48, locals := 217 }
set_option maxHeartbeats 4000000 in
theorem met_L_acts (l : Launch) (hst0 : l.stackTraces = false) (D : va_G) (cy : Nat → ClassId) (sz : Nat) (ad : Nat → Nat → Nat) (en g : Nat → Nat) (b L : Nat) (xs : Nat → Int32) (x : Mem) {k : Nat} (hk : k ≤ 400) (hINV : INV k x) (j : Nat) (hj : j < 2 ^ 20) (hL : L ≤ 260) : MK l yL_acts cL_acts 8 rm_L_acts D cy (cW cy ad en x) sz (XL en g b L xs (cW cy ad en x) sz) [.ref (ad 12 0), .ref b, .int (nI j)] 8 48 (fun w => ∃ x' : Mem, INV (k + 1) x' ∧ w = cW cy ad en x') := by
  refine MK.of (by decide +kernel) (Nat.le_of_ble_eq_true rfl) ?_
  intro p e s m args below meth c A ls Q hAt hi hX hsz hAe hP hD hA hS hl hret
  have hST : ST en g A s s.heap := by rw [hAe]; exact hX.1
  have hSC : SC b L xs A s s.heap := by rw [hAe]; exact hX.2
  obtain ⟨hx, hb, hr, hml, hown, hw, hlk, hK, hN⟩ := hAt
  have hown : s.vm.findClass "CloudDeedsLaw" = some m.cls := hown
  have hl : lv_has ls 8 [(0, .ref (ad 12 0)), (1, .ref b), (2, .int (nI j))] := hl
  obtain ⟨n, d, hI⟩ := hINV
  have h6 := hI.1.1
  refine lv_aload_n hx hb dL_acts_0 rfl (lv_at hl 0 rfl) ?_
  refine lv_iconst (v := 0) hx hb dL_acts_1 (by decide) ?_
  refine xV_i (As := [.int 0]) (rest := []) hx hb hml hown hw hK hN hA hl.1 hP hD hS hST k_885 k_886 k_887 k_21 k_888 (met_X9_account l hst0 D cy _ ad en g x 0 0 (nI n) (f_n hI)) (gY (x := x) (r := 0) (f := x 12 0) (by decide) rfl) rfl ⟨rfl, rfl⟩ (n := 1) (by decide +kernel) rfl ⟨Nat.le_of_ble_eq_true rfl, Nat.le_of_ble_eq_true rfl⟩ ⟨Nat.le_of_ble_eq_true rfl, Nat.le_of_ble_eq_true rfl⟩ (Nat.le_of_ble_eq_true rfl) rfl dL_acts_2 (fun H locs q9 ce9 hne hP hD hS hce hcv hcl => absurd rfl hne) (fun H locs h0 hP hD hS => ?_)
  refine lv_istore_n (lv' := [(3, .int (nI n)), (0, .ref (ad 12 0)), (1, .ref b), (2, .int (nI j))]) hx hb dL_acts_5 rfl hl (by decide) rfl (fun ls hl => ?_)
  refine lv_aload_n hx hb dL_acts_6 rfl (lv_at hl 2 rfl) ?_
  refine lv_iload_n hx hb dL_acts_7 rfl (lv_at hl 3 rfl) ?_
  refine lv_iconst (v := 3) hx hb dL_acts_8 (by decide) ?_
  refine lv_iadd hx hb dL_acts_9 ?_
  rw [show ((nI j) + 3) = nI (j + 3) from nI_add j 3]
  refine lv_bipush (v := 60) hx hb dL_acts_10 (by decide) ?_
  refine uSj (As := [.ref b, .int (nI (j + 3)), .int (nI 60)]) (rest := []) hx hb hml hown hw hK hN hA hl.1 hP hD hS k_966 k_967 k_20 k_968 (met_L_some l D cy _ _ en g b L xs (j + 3) 60 hL (by omega) (by decide)) (XL_call hST hSC hS (free_all hD hS hA)) Xok_L ⟨rfl, rfl⟩ (n := 3) (by decide +kernel) rfl ⟨Nat.le_of_ble_eq_true rfl, Nat.le_of_ble_eq_true rfl⟩ ⟨Nat.le_of_ble_eq_true rfl, Nat.le_of_ble_eq_true rfl⟩ (Nat.le_of_ble_eq_true rfl) rfl dL_acts_12 (fun r9 w9 H locs h9 hP hD hS => ?_)
  obtain ⟨hw9, v, hv, hr9⟩ := h9
  subst w9 r9
  refine lv_istore (lv' := [(4, .int (nI v)), (3, .int (nI n)), (0, .ref (ad 12 0)), (1, .ref b), (2, .int (nI j))]) hx hb dL_acts_15 hl (by decide) rfl (fun ls hl => ?_)
  refine lv_aload_n hx hb dL_acts_17 rfl (lv_at hl 3 rfl) ?_
  refine lv_iload_n hx hb dL_acts_18 rfl (lv_at hl 4 rfl) ?_
  refine lv_iconst (v := 2) hx hb dL_acts_19 (by decide) ?_
  refine lv_iadd hx hb dL_acts_20 ?_
  rw [show ((nI j) + 2) = nI (j + 2) from nI_add j 2]
  refine lv_iconst (v := 4) hx hb dL_acts_21 (by decide) ?_
  refine uSj (As := [.ref b, .int (nI (j + 2)), .int (nI 4)]) (rest := []) hx hb hml hown hw hK hN hA hl.1 hP hD hS k_966 k_967 k_20 k_968 (met_L_some l D cy _ _ en g b L xs (j + 2) 4 hL (by omega) (by decide)) (XL_call hST hSC hS (free_all hD hS hA)) Xok_L ⟨rfl, rfl⟩ (n := 3) (by decide +kernel) rfl ⟨Nat.le_of_ble_eq_true rfl, Nat.le_of_ble_eq_true rfl⟩ ⟨Nat.le_of_ble_eq_true rfl, Nat.le_of_ble_eq_true rfl⟩ (Nat.le_of_ble_eq_true rfl) rfl dL_acts_22 (fun r9 w9 H locs h9 hP hD hS => ?_)
  obtain ⟨hw9, q, hq, hr9⟩ := h9
  subst w9 r9
  refine lv_istore (lv' := [(5, .int (nI q)), (4, .int (nI v)), (3, .int (nI n)), (0, .ref (ad 12 0)), (1, .ref b), (2, .int (nI j))]) hx hb dL_acts_25 hl (by decide) rfl (fun ls hl => ?_)
  refine lv_iload_n hx hb dL_acts_27 rfl (lv_at hl 2 rfl) ?_
  have rest : ∀ (a : Nat) (H : Heap) (locs : List Loc) (ls : Array Slot), (0 < n → a < n) → va_P D vwCl (cW cy ad en x) H → va_D A (cW cy ad en x) → va_S A s.heap H locs → lv_has ls 8 [(5, .int (nI q)), (4, .int (nI v)), (3, .int (nI n)), (0, .ref (ad 12 0)), (1, .ref b), (2, .int (nI j))] → W p l e rm_L_acts s m args below meth c H locs (0 + 2 + 0 + 0) (0 + 12 + 0 + 0) Q (F0 m 43 ls [.int (nI a)]) := by
    intro a H locs ls ha hP hD hS hl
    refine lv_istore (lv' := [(6, .int (nI a)), (5, .int (nI q)), (4, .int (nI v)), (3, .int (nI n)), (0, .ref (ad 12 0)), (1, .ref b), (2, .int (nI j))]) hx hb dL_acts_43 hl (by decide) rfl (fun ls hl => ?_)
    refine lv_aload_n hx hb dL_acts_45 rfl (lv_at hl 5 rfl) ?_
    refine lv_iload_n hx hb dL_acts_46 rfl (lv_at hl 6 rfl) ?_
    refine lv_bipush (v := 15) hx hb dL_acts_47 (by decide) ?_
    refine uSj (As := [.ref b, .int (nI j), .int (nI 15)]) (rest := []) hx hb hml hown hw hK hN hA hl.1 hP hD hS k_966 k_967 k_20 k_968 (met_L_some l D cy _ _ en g b L xs j 15 hL (by omega) (by decide)) (XL_call hST hSC hS (free_all hD hS hA)) Xok_L ⟨rfl, rfl⟩ (n := 3) (by decide +kernel) rfl ⟨Nat.le_of_ble_eq_true rfl, Nat.le_of_ble_eq_true rfl⟩ ⟨Nat.le_of_ble_eq_true rfl, Nat.le_of_ble_eq_true rfl⟩ (Nat.le_of_ble_eq_true rfl) rfl dL_acts_49 (fun r9 w9 H locs h9 hP hD hS => ?_)
    obtain ⟨hw9, t, ht, hr9⟩ := h9
    subst w9 r9
    have t116 : W p l e rm_L_acts s m args below meth c H locs (0 + 2 + 0 + 0 + 0) (0 + 12 + 0 + 0 + 0) Q (F0 m 116 ls []) := by
      refine lv_iload_n hx hb dL_acts_116 rfl (lv_at hl 3 rfl) ?_
      refine lv_bipush (v := 6) hx hb dL_acts_117 (by decide) ?_
      refine lv_icmp_ge (tgt := 145) hx hb dL_acts_119 (by decide) (fun g1 => ?_) (fun g2 => ?_)
      · refine lv_iconst (v := 0) hx hb dL_acts_145 (by decide) ?_
        refine lv_istore (lv' := [(7, .int 0), (6, .int (nI a)), (5, .int (nI q)), (4, .int (nI v)), (3, .int (nI n)), (0, .ref (ad 12 0)), (1, .ref b), (2, .int (nI j))]) hx hb dL_acts_146 hl (by decide) rfl (fun ls hl => ?_)
        refine lv_goto (tgt := 315) hx hb dL_acts_148 (by decide) ?_
        refine W.widen (k := 8) (n := 48) (Nat.le_of_ble_eq_true rfl) (Nat.le_of_ble_eq_true rfl) ?_
        exact hret _ _ _ _ _ hP hD hS ⟨x, ⟨n, d, hI.mono (Nat.le_succ k)⟩, rfl⟩ dL_acts_315
      · refine lv_aload_n hx hb dL_acts_122 rfl (lv_at hl 4 rfl) ?_
        refine lv_iload hx hb dL_acts_123 (lv_at hl 2 rfl) ?_
        refine lv_bipush (v := 6) hx hb dL_acts_125 (by decide) ?_
        refine lv_irem hx hb dL_acts_127 (by decide) ?_
        refine lv_iload hx hb dL_acts_128 (lv_at hl 2 rfl) ?_
        refine lv_iconst (v := 5) hx hb dL_acts_130 (by decide) ?_
        refine lv_irem hx hb dL_acts_131 (by decide) ?_
        refine lv_iconst (v := 1) hx hb dL_acts_132 (by decide) ?_
        refine lv_iload hx hb dL_acts_133 (lv_at hl 2 rfl) ?_
        refine lv_bipush (v := 9) hx hb dL_acts_135 (by decide) ?_
        refine lv_irem hx hb dL_acts_137 (by decide) ?_
        refine lv_iadd hx hb dL_acts_138 ?_
        obtain ⟨code, r, x', hcd, hF, hre, hJ⟩ := f_cloud hI ((nI v) - (nI v) / 6 * 6) ((nI v) - (nI v) / 5 * 5) (1 + ((nI v) - (nI v) / 9 * 9))
        refine uSh (As := [.ref (ad 12 0), .int ((nI v) - (nI v) / 6 * 6), .int ((nI v) - (nI v) / 5 * 5), .int (1 + ((nI v) - (nI v) / 9 * 9))]) (rest := []) hx hb hml hown hw hK hN hA hl.1 hP hD hS k_972 k_973 k_20 k_974 (met_L_cloud l hst0 D cy _ ad en g x ((nI v) - (nI v) / 6 * 6) ((nI v) - (nI v) / 5 * 5) (1 + ((nI v) - (nI v) / 9 * 9)) code r x' hcd hF hre) (ST_call hST hS (free_all hD hS hA)) Xok_S ⟨rfl, rfl⟩ (n := 4) (by decide +kernel) rfl ⟨Nat.le_of_ble_eq_true rfl, Nat.le_of_ble_eq_true rfl⟩ ⟨Nat.le_of_ble_eq_true rfl, Nat.le_of_ble_eq_true rfl⟩ (Nat.le_of_ble_eq_true rfl) rfl dL_acts_139 (fun r9 w9 H locs h9 hP hD hS => ?_)
        subst w9
        refine lv_goto (tgt := 146) hx hb dL_acts_142 (by decide) ?_
        refine lv_istore (lv' := [(7, .int r9), (6, .int (nI a)), (5, .int (nI q)), (4, .int (nI v)), (3, .int (nI n)), (0, .ref (ad 12 0)), (1, .ref b), (2, .int (nI j))]) hx hb dL_acts_146 hl (by decide) rfl (fun ls hl => ?_)
        refine lv_goto (tgt := 315) hx hb dL_acts_148 (by decide) ?_
        refine W.widen (k := 8) (n := 48) (Nat.le_of_ble_eq_true rfl) (Nat.le_of_ble_eq_true rfl) ?_
        exact hret _ _ _ _ _ hP hD hS ⟨x', hJ, rfl⟩ dL_acts_315
    have t151 : W p l e rm_L_acts s m args below meth c H locs (0 + 2 + 0 + 0 + 0) (0 + 12 + 0 + 0 + 0) Q (F0 m 151 ls []) := by
      refine lv_aload_n hx hb dL_acts_151 rfl (lv_at hl 4 rfl) ?_
      refine lv_iload hx hb dL_acts_152 (lv_at hl 2 rfl) ?_
      refine lv_bipush (v := 6) hx hb dL_acts_154 (by decide) ?_
      refine lv_irem hx hb dL_acts_156 (by decide) ?_
      refine lv_iload hx hb dL_acts_157 (lv_at hl 2 rfl) ?_
      refine lv_iconst (v := 5) hx hb dL_acts_159 (by decide) ?_
      refine lv_irem hx hb dL_acts_160 (by decide) ?_
      refine lv_iconst (v := 1) hx hb dL_acts_161 (by decide) ?_
      refine lv_isub hx hb dL_acts_162 ?_
      obtain ⟨code, r, x', hcd, hF, hre, hJ⟩ := f_vine hI ((nI v) - (nI v) / 6 * 6) (((nI v) - (nI v) / 5 * 5) - 1)
      refine uSh (As := [.ref (ad 12 0), .int ((nI v) - (nI v) / 6 * 6), .int (((nI v) - (nI v) / 5 * 5) - 1)]) (rest := []) hx hb hml hown hw hK hN hA hl.1 hP hD hS k_1091 k_1092 k_20 k_1093 (met_L_vine l hst0 D cy _ ad en g x ((nI v) - (nI v) / 6 * 6) (((nI v) - (nI v) / 5 * 5) - 1) code r x' hcd hF hre) (ST_call hST hS (free_all hD hS hA)) Xok_S ⟨rfl, rfl⟩ (n := 3) (by decide +kernel) rfl ⟨Nat.le_of_ble_eq_true rfl, Nat.le_of_ble_eq_true rfl⟩ ⟨Nat.le_of_ble_eq_true rfl, Nat.le_of_ble_eq_true rfl⟩ (Nat.le_of_ble_eq_true rfl) rfl dL_acts_163 (fun r9 w9 H locs h9 hP hD hS => ?_)
      subst w9
      refine lv_istore (lv' := [(7, .int r9), (6, .int (nI a)), (5, .int (nI q)), (4, .int (nI v)), (3, .int (nI n)), (0, .ref (ad 12 0)), (1, .ref b), (2, .int (nI j))]) hx hb dL_acts_166 hl (by decide) rfl (fun ls hl => ?_)
      refine lv_goto (tgt := 315) hx hb dL_acts_168 (by decide) ?_
      refine W.widen (k := 8) (n := 48) (Nat.le_of_ble_eq_true rfl) (Nat.le_of_ble_eq_true rfl) ?_
      exact hret _ _ _ _ _ hP hD hS ⟨x', hJ, rfl⟩ dL_acts_315
    have t171 : W p l e rm_L_acts s m args below meth c H locs (0 + 2 + 0 + 0 + 0) (0 + 12 + 0 + 0 + 0) Q (F0 m 171 ls []) := by
      refine lv_iload_n hx hb dL_acts_171 rfl (lv_at hl 3 rfl) ?_
      refine lv_if_le (tgt := 186) hx hb dL_acts_172 (by decide) (fun g1 => ?_) (fun g2 => ?_)
      · refine lv_iconst (v := 0) hx hb dL_acts_186 (by decide) ?_
        refine lv_istore (lv' := [(7, .int 0), (6, .int (nI a)), (5, .int (nI q)), (4, .int (nI v)), (3, .int (nI n)), (0, .ref (ad 12 0)), (1, .ref b), (2, .int (nI j))]) hx hb dL_acts_187 hl (by decide) rfl (fun ls hl => ?_)
        refine lv_goto (tgt := 315) hx hb dL_acts_189 (by decide) ?_
        refine W.widen (k := 8) (n := 48) (Nat.le_of_ble_eq_true rfl) (Nat.le_of_ble_eq_true rfl) ?_
        exact hret _ _ _ _ _ hP hD hS ⟨x, ⟨n, d, hI.mono (Nat.le_succ k)⟩, rfl⟩ dL_acts_315
      · refine lv_aload_n hx hb dL_acts_175 rfl (lv_at hl 4 rfl) ?_
        refine lv_iload hx hb dL_acts_176 (lv_at hl 0 rfl) ?_
        refine lv_iload hx hb dL_acts_178 (lv_at hl 1 rfl) ?_
        obtain ⟨code, r, x', hcd, hF, hre, hJ⟩ := f_title (by omega) hI (nI a) (nI q)
        refine uSh (As := [.ref (ad 12 0), .int (nI a), .int (nI q)]) (rest := []) hx hb hml hown hw hK hN hA hl.1 hP hD hS k_1103 k_1104 k_20 k_1105 (met_L_title l hst0 D cy _ ad en g x (nI a) (nI q) code r x' hcd hF hre) (ST_call hST hS (free_all hD hS hA)) Xok_S ⟨rfl, rfl⟩ (n := 3) (by decide +kernel) rfl ⟨Nat.le_of_ble_eq_true rfl, Nat.le_of_ble_eq_true rfl⟩ ⟨Nat.le_of_ble_eq_true rfl, Nat.le_of_ble_eq_true rfl⟩ (Nat.le_of_ble_eq_true rfl) rfl dL_acts_180 (fun r9 w9 H locs h9 hP hD hS => ?_)
        subst w9
        refine lv_goto (tgt := 187) hx hb dL_acts_183 (by decide) ?_
        refine lv_istore (lv' := [(7, .int r9), (6, .int (nI a)), (5, .int (nI q)), (4, .int (nI v)), (3, .int (nI n)), (0, .ref (ad 12 0)), (1, .ref b), (2, .int (nI j))]) hx hb dL_acts_187 hl (by decide) rfl (fun ls hl => ?_)
        refine lv_goto (tgt := 315) hx hb dL_acts_189 (by decide) ?_
        refine W.widen (k := 8) (n := 48) (Nat.le_of_ble_eq_true rfl) (Nat.le_of_ble_eq_true rfl) ?_
        exact hret _ _ _ _ _ hP hD hS ⟨x', hJ, rfl⟩ dL_acts_315
    have t192 : W p l e rm_L_acts s m args below meth c H locs (0 + 2 + 0 + 0 + 0) (0 + 12 + 0 + 0 + 0) Q (F0 m 192 ls []) := by
      refine lv_iload_n hx hb dL_acts_192 rfl (lv_at hl 3 rfl) ?_
      refine lv_if_le (tgt := 212) hx hb dL_acts_193 (by decide) (fun g1 => ?_) (fun g2 => ?_)
      · refine lv_iconst (v := 0) hx hb dL_acts_212 (by decide) ?_
        refine lv_istore (lv' := [(7, .int 0), (6, .int (nI a)), (5, .int (nI q)), (4, .int (nI v)), (3, .int (nI n)), (0, .ref (ad 12 0)), (1, .ref b), (2, .int (nI j))]) hx hb dL_acts_213 hl (by decide) rfl (fun ls hl => ?_)
        refine lv_goto (tgt := 315) hx hb dL_acts_215 (by decide) ?_
        refine W.widen (k := 8) (n := 48) (Nat.le_of_ble_eq_true rfl) (Nat.le_of_ble_eq_true rfl) ?_
        exact hret _ _ _ _ _ hP hD hS ⟨x, ⟨n, d, hI.mono (Nat.le_succ k)⟩, rfl⟩ dL_acts_315
      · refine lv_aload_n hx hb dL_acts_196 rfl (lv_at hl 4 rfl) ?_
        refine lv_iload hx hb dL_acts_197 (lv_at hl 0 rfl) ?_
        refine lv_iload hx hb dL_acts_199 (lv_at hl 1 rfl) ?_
        refine lv_iload hx hb dL_acts_201 (lv_at hl 2 rfl) ?_
        refine lv_bipush (v := 15) hx hb dL_acts_203 (by decide) ?_
        refine lv_irem hx hb dL_acts_205 (by decide) ?_
        obtain ⟨code, r, x', hcd, hF, hre, hJ⟩ := f_sell (by omega) hI (nI a) (nI q) ((nI v) - (nI v) / 15 * 15)
        refine uSh (As := [.ref (ad 12 0), .int (nI a), .int (nI q), .int ((nI v) - (nI v) / 15 * 15)]) (rest := []) hx hb hml hown hw hK hN hA hl.1 hP hD hS k_1112 k_1113 k_20 k_1114 (met_L_sell l hst0 D cy _ ad en g x (nI a) (nI q) ((nI v) - (nI v) / 15 * 15) code r x' hcd hF hre) (ST_call hST hS (free_all hD hS hA)) Xok_S ⟨rfl, rfl⟩ (n := 4) (by decide +kernel) rfl ⟨Nat.le_of_ble_eq_true rfl, Nat.le_of_ble_eq_true rfl⟩ ⟨Nat.le_of_ble_eq_true rfl, Nat.le_of_ble_eq_true rfl⟩ (Nat.le_of_ble_eq_true rfl) rfl dL_acts_206 (fun r9 w9 H locs h9 hP hD hS => ?_)
        subst w9
        refine lv_goto (tgt := 213) hx hb dL_acts_209 (by decide) ?_
        refine lv_istore (lv' := [(7, .int r9), (6, .int (nI a)), (5, .int (nI q)), (4, .int (nI v)), (3, .int (nI n)), (0, .ref (ad 12 0)), (1, .ref b), (2, .int (nI j))]) hx hb dL_acts_213 hl (by decide) rfl (fun ls hl => ?_)
        refine lv_goto (tgt := 315) hx hb dL_acts_215 (by decide) ?_
        refine W.widen (k := 8) (n := 48) (Nat.le_of_ble_eq_true rfl) (Nat.le_of_ble_eq_true rfl) ?_
        exact hret _ _ _ _ _ hP hD hS ⟨x', hJ, rfl⟩ dL_acts_315
    have t218 : W p l e rm_L_acts s m args below meth c H locs (0 + 2 + 0 + 0 + 0) (0 + 12 + 0 + 0 + 0) Q (F0 m 218 ls []) := by
      refine lv_iload_n hx hb dL_acts_218 rfl (lv_at hl 3 rfl) ?_
      refine lv_if_le (tgt := 233) hx hb dL_acts_219 (by decide) (fun g1 => ?_) (fun g2 => ?_)
      · refine lv_iconst (v := 0) hx hb dL_acts_233 (by decide) ?_
        refine lv_istore (lv' := [(7, .int 0), (6, .int (nI a)), (5, .int (nI q)), (4, .int (nI v)), (3, .int (nI n)), (0, .ref (ad 12 0)), (1, .ref b), (2, .int (nI j))]) hx hb dL_acts_234 hl (by decide) rfl (fun ls hl => ?_)
        refine lv_goto (tgt := 315) hx hb dL_acts_236 (by decide) ?_
        refine W.widen (k := 8) (n := 48) (Nat.le_of_ble_eq_true rfl) (Nat.le_of_ble_eq_true rfl) ?_
        exact hret _ _ _ _ _ hP hD hS ⟨x, ⟨n, d, hI.mono (Nat.le_succ k)⟩, rfl⟩ dL_acts_315
      · refine lv_aload_n hx hb dL_acts_222 rfl (lv_at hl 4 rfl) ?_
        refine lv_iload hx hb dL_acts_223 (lv_at hl 0 rfl) ?_
        refine lv_iload hx hb dL_acts_225 (lv_at hl 1 rfl) ?_
        obtain ⟨code, r, x', hcd, hF, hre, hJ⟩ := f_pledge (by omega) hI (nI a) (nI q)
        refine uSh (As := [.ref (ad 12 0), .int (nI a), .int (nI q)]) (rest := []) hx hb hml hown hw hK hN hA hl.1 hP hD hS k_1121 k_1122 k_20 k_1123 (met_L_pledge l hst0 D cy _ ad en g x (nI a) (nI q) code r x' hcd hF hre) (ST_call hST hS (free_all hD hS hA)) Xok_S ⟨rfl, rfl⟩ (n := 3) (by decide +kernel) rfl ⟨Nat.le_of_ble_eq_true rfl, Nat.le_of_ble_eq_true rfl⟩ ⟨Nat.le_of_ble_eq_true rfl, Nat.le_of_ble_eq_true rfl⟩ (Nat.le_of_ble_eq_true rfl) rfl dL_acts_227 (fun r9 w9 H locs h9 hP hD hS => ?_)
        subst w9
        refine lv_goto (tgt := 234) hx hb dL_acts_230 (by decide) ?_
        refine lv_istore (lv' := [(7, .int r9), (6, .int (nI a)), (5, .int (nI q)), (4, .int (nI v)), (3, .int (nI n)), (0, .ref (ad 12 0)), (1, .ref b), (2, .int (nI j))]) hx hb dL_acts_234 hl (by decide) rfl (fun ls hl => ?_)
        refine lv_goto (tgt := 315) hx hb dL_acts_236 (by decide) ?_
        refine W.widen (k := 8) (n := 48) (Nat.le_of_ble_eq_true rfl) (Nat.le_of_ble_eq_true rfl) ?_
        exact hret _ _ _ _ _ hP hD hS ⟨x', hJ, rfl⟩ dL_acts_315
    have t239 : W p l e rm_L_acts s m args below meth c H locs (0 + 2 + 0 + 0 + 0) (0 + 12 + 0 + 0 + 0) Q (F0 m 239 ls []) := by
      refine lv_iload_n hx hb dL_acts_239 rfl (lv_at hl 3 rfl) ?_
      refine lv_if_le (tgt := 252) hx hb dL_acts_240 (by decide) (fun g1 => ?_) (fun g2 => ?_)
      · refine lv_iconst (v := 0) hx hb dL_acts_252 (by decide) ?_
        refine lv_istore (lv' := [(7, .int 0), (6, .int (nI a)), (5, .int (nI q)), (4, .int (nI v)), (3, .int (nI n)), (0, .ref (ad 12 0)), (1, .ref b), (2, .int (nI j))]) hx hb dL_acts_253 hl (by decide) rfl (fun ls hl => ?_)
        refine lv_goto (tgt := 315) hx hb dL_acts_255 (by decide) ?_
        refine W.widen (k := 8) (n := 48) (Nat.le_of_ble_eq_true rfl) (Nat.le_of_ble_eq_true rfl) ?_
        exact hret _ _ _ _ _ hP hD hS ⟨x, ⟨n, d, hI.mono (Nat.le_succ k)⟩, rfl⟩ dL_acts_315
      · refine lv_aload_n hx hb dL_acts_243 rfl (lv_at hl 4 rfl) ?_
        refine lv_iload hx hb dL_acts_244 (lv_at hl 0 rfl) ?_
        obtain ⟨code, r, x', hcd, hF, hre, hJ⟩ := f_redeem (by omega) hI (nI a)
        refine uSh (As := [.ref (ad 12 0), .int (nI a)]) (rest := []) hx hb hml hown hw hK hN hA hl.1 hP hD hS k_1130 k_1131 k_20 k_1132 (met_L_redeem l hst0 D cy _ ad en g x (nI a) code r x' hcd hF hre) (ST_call hST hS (free_all hD hS hA)) Xok_S ⟨rfl, rfl⟩ (n := 2) (by decide +kernel) rfl ⟨Nat.le_of_ble_eq_true rfl, Nat.le_of_ble_eq_true rfl⟩ ⟨Nat.le_of_ble_eq_true rfl, Nat.le_of_ble_eq_true rfl⟩ (Nat.le_of_ble_eq_true rfl) rfl dL_acts_246 (fun r9 w9 H locs h9 hP hD hS => ?_)
        subst w9
        refine lv_goto (tgt := 253) hx hb dL_acts_249 (by decide) ?_
        refine lv_istore (lv' := [(7, .int r9), (6, .int (nI a)), (5, .int (nI q)), (4, .int (nI v)), (3, .int (nI n)), (0, .ref (ad 12 0)), (1, .ref b), (2, .int (nI j))]) hx hb dL_acts_253 hl (by decide) rfl (fun ls hl => ?_)
        refine lv_goto (tgt := 315) hx hb dL_acts_255 (by decide) ?_
        refine W.widen (k := 8) (n := 48) (Nat.le_of_ble_eq_true rfl) (Nat.le_of_ble_eq_true rfl) ?_
        exact hret _ _ _ _ _ hP hD hS ⟨x', hJ, rfl⟩ dL_acts_315
    have t258 : W p l e rm_L_acts s m args below meth c H locs (0 + 2 + 0 + 0 + 0) (0 + 12 + 0 + 0 + 0) Q (F0 m 258 ls []) := by
      refine lv_aload_n hx hb dL_acts_258 rfl (lv_at hl 4 rfl) ?_
      refine lv_iload hx hb dL_acts_259 (lv_at hl 2 rfl) ?_
      refine lv_bipush (v := 7) hx hb dL_acts_261 (by decide) ?_
      refine lv_irem hx hb dL_acts_263 (by decide) ?_
      refine lv_iconst (v := 3) hx hb dL_acts_264 (by decide) ?_
      refine lv_isub hx hb dL_acts_265 ?_
      obtain ⟨code, r, x', hcd, hF, hre, hJ⟩ := f_wind hI (((nI v) - (nI v) / 7 * 7) - 3)
      refine uSh (As := [.ref (ad 12 0), .int (((nI v) - (nI v) / 7 * 7) - 3)]) (rest := []) hx hb hml hown hw hK hN hA hl.1 hP hD hS k_1139 k_1140 k_20 k_1141 (met_L_wind l hst0 D cy _ ad en g x (((nI v) - (nI v) / 7 * 7) - 3) code r x' hcd hF hre) (ST_call hST hS (free_all hD hS hA)) Xok_S ⟨rfl, rfl⟩ (n := 2) (by decide +kernel) rfl ⟨Nat.le_of_ble_eq_true rfl, Nat.le_of_ble_eq_true rfl⟩ ⟨Nat.le_of_ble_eq_true rfl, Nat.le_of_ble_eq_true rfl⟩ (Nat.le_of_ble_eq_true rfl) rfl dL_acts_266 (fun r9 w9 H locs h9 hP hD hS => ?_)
      subst w9
      refine lv_istore (lv' := [(7, .int r9), (6, .int (nI a)), (5, .int (nI q)), (4, .int (nI v)), (3, .int (nI n)), (0, .ref (ad 12 0)), (1, .ref b), (2, .int (nI j))]) hx hb dL_acts_269 hl (by decide) rfl (fun ls hl => ?_)
      refine lv_goto (tgt := 315) hx hb dL_acts_271 (by decide) ?_
      refine W.widen (k := 8) (n := 48) (Nat.le_of_ble_eq_true rfl) (Nat.le_of_ble_eq_true rfl) ?_
      exact hret _ _ _ _ _ hP hD hS ⟨x', hJ, rfl⟩ dL_acts_315
    have t274 : W p l e rm_L_acts s m args below meth c H locs (0 + 2 + 0 + 0 + 0) (0 + 12 + 0 + 0 + 0) Q (F0 m 274 ls []) := by
      refine lv_aload_n hx hb dL_acts_274 rfl (lv_at hl 4 rfl) ?_
      refine lv_iload_n hx hb dL_acts_275 rfl (lv_at hl 3 rfl) ?_
      refine lv_if_le (tgt := 296) hx hb dL_acts_276 (by decide) (fun g1 => ?_) (fun g2 => ?_)
      · refine lv_iload hx hb dL_acts_296 (lv_at hl 2 rfl) ?_
        refine lv_bipush (v := 6) hx hb dL_acts_298 (by decide) ?_
        refine lv_irem hx hb dL_acts_300 (by decide) ?_
        obtain ⟨code, r, x', hcd, hF, hre, hJ⟩ := f_hail hI ((nI v) - (nI v) / 6 * 6)
        refine uSh (As := [.ref (ad 12 0), .int ((nI v) - (nI v) / 6 * 6)]) (rest := []) hx hb hml hown hw hK hN hA hl.1 hP hD hS k_1148 k_1149 k_20 k_1150 (met_L_hail l hst0 D cy _ ad en g x ((nI v) - (nI v) / 6 * 6) code r x' hcd hF hre) (ST_call hST hS (free_all hD hS hA)) Xok_S ⟨rfl, rfl⟩ (n := 2) (by decide +kernel) rfl ⟨Nat.le_of_ble_eq_true rfl, Nat.le_of_ble_eq_true rfl⟩ ⟨Nat.le_of_ble_eq_true rfl, Nat.le_of_ble_eq_true rfl⟩ (Nat.le_of_ble_eq_true rfl) rfl dL_acts_301 (fun r9 w9 H locs h9 hP hD hS => ?_)
        subst w9
        refine lv_istore (lv' := [(7, .int r9), (6, .int (nI a)), (5, .int (nI q)), (4, .int (nI v)), (3, .int (nI n)), (0, .ref (ad 12 0)), (1, .ref b), (2, .int (nI j))]) hx hb dL_acts_304 hl (by decide) rfl (fun ls hl => ?_)
        refine lv_goto (tgt := 315) hx hb dL_acts_306 (by decide) ?_
        refine W.widen (k := 8) (n := 48) (Nat.le_of_ble_eq_true rfl) (Nat.le_of_ble_eq_true rfl) ?_
        exact hret _ _ _ _ _ hP hD hS ⟨x', hJ, rfl⟩ dL_acts_315
      · refine lv_iload hx hb dL_acts_279 (lv_at hl 2 rfl) ?_
        refine lv_iconst (v := 3) hx hb dL_acts_281 (by decide) ?_
        refine lv_irem hx hb dL_acts_282 (by decide) ?_
        refine lv_if_le (tgt := 296) hx hb dL_acts_283 (by decide) (fun g3 => ?_) (fun g4 => ?_)
        · refine lv_iload hx hb dL_acts_296 (lv_at hl 2 rfl) ?_
          refine lv_bipush (v := 6) hx hb dL_acts_298 (by decide) ?_
          refine lv_irem hx hb dL_acts_300 (by decide) ?_
          obtain ⟨code, r, x', hcd, hF, hre, hJ⟩ := f_hail hI ((nI v) - (nI v) / 6 * 6)
          refine uSh (As := [.ref (ad 12 0), .int ((nI v) - (nI v) / 6 * 6)]) (rest := []) hx hb hml hown hw hK hN hA hl.1 hP hD hS k_1148 k_1149 k_20 k_1150 (met_L_hail l hst0 D cy _ ad en g x ((nI v) - (nI v) / 6 * 6) code r x' hcd hF hre) (ST_call hST hS (free_all hD hS hA)) Xok_S ⟨rfl, rfl⟩ (n := 2) (by decide +kernel) rfl ⟨Nat.le_of_ble_eq_true rfl, Nat.le_of_ble_eq_true rfl⟩ ⟨Nat.le_of_ble_eq_true rfl, Nat.le_of_ble_eq_true rfl⟩ (Nat.le_of_ble_eq_true rfl) rfl dL_acts_301 (fun r9 w9 H locs h9 hP hD hS => ?_)
          subst w9
          refine lv_istore (lv' := [(7, .int r9), (6, .int (nI a)), (5, .int (nI q)), (4, .int (nI v)), (3, .int (nI n)), (0, .ref (ad 12 0)), (1, .ref b), (2, .int (nI j))]) hx hb dL_acts_304 hl (by decide) rfl (fun ls hl => ?_)
          refine lv_goto (tgt := 315) hx hb dL_acts_306 (by decide) ?_
          refine W.widen (k := 8) (n := 48) (Nat.le_of_ble_eq_true rfl) (Nat.le_of_ble_eq_true rfl) ?_
          exact hret _ _ _ _ _ hP hD hS ⟨x', hJ, rfl⟩ dL_acts_315
        · have hn0 : 0 < n := Nat.pos_of_ne_zero fun z => g2 (by rw [z]; decide)
          refine lv_aload_n hx hb dL_acts_286 rfl (lv_at hl 4 rfl) ?_
          refine lv_iload hx hb dL_acts_287 (lv_at hl 0 rfl) ?_
          refine lv_iconst (v := 0) hx hb dL_acts_289 (by decide) ?_
          refine xV_i (As := [.int (nI a), .int 0]) (rest := [.ref (ad 12 0)]) hx hb hml hown hw hK hN hA hl.1 hP hD hS hST k_315 k_316 k_317 k_21 k_318 (met_X9_cloudOf l hst0 D cy _ ad en g x (nI a) 0 0 (x 0 (a + 7) 0) (f_co0 hI (ha hn0))) (gY (x := x) (r := 0) (f := x 12 0) (by decide) rfl) rfl ⟨rfl, rfl⟩ (n := 2) (by decide +kernel) rfl ⟨Nat.le_of_ble_eq_true rfl, Nat.le_of_ble_eq_true rfl⟩ ⟨Nat.le_of_ble_eq_true rfl, Nat.le_of_ble_eq_true rfl⟩ (Nat.le_of_ble_eq_true rfl) rfl dL_acts_290 (fun H locs q9 ce9 hne hP hD hS hce hcv hcl => absurd rfl hne) (fun H locs h0 hP hD hS => ?_)
          refine lv_goto (tgt := 301) hx hb dL_acts_293 (by decide) ?_
          obtain ⟨code, r, x', hcd, hF, hre, hJ⟩ := f_hail hI (x 0 (a + 7) 0)
          refine uSh (As := [.ref (ad 12 0), .int (x 0 (a + 7) 0)]) (rest := []) hx hb hml hown hw hK hN hA hl.1 hP hD hS k_1148 k_1149 k_20 k_1150 (met_L_hail l hst0 D cy _ ad en g x (x 0 (a + 7) 0) code r x' hcd hF hre) (ST_call hST hS (free_all hD hS hA)) Xok_S ⟨rfl, rfl⟩ (n := 2) (by decide +kernel) rfl ⟨Nat.le_of_ble_eq_true rfl, Nat.le_of_ble_eq_true rfl⟩ ⟨Nat.le_of_ble_eq_true rfl, Nat.le_of_ble_eq_true rfl⟩ (Nat.le_of_ble_eq_true rfl) rfl dL_acts_301 (fun r9 w9 H locs h9 hP hD hS => ?_)
          subst w9
          refine lv_istore (lv' := [(7, .int r9), (6, .int (nI a)), (5, .int (nI q)), (4, .int (nI v)), (3, .int (nI n)), (0, .ref (ad 12 0)), (1, .ref b), (2, .int (nI j))]) hx hb dL_acts_304 hl (by decide) rfl (fun ls hl => ?_)
          refine lv_goto (tgt := 315) hx hb dL_acts_306 (by decide) ?_
          refine W.widen (k := 8) (n := 48) (Nat.le_of_ble_eq_true rfl) (Nat.le_of_ble_eq_true rfl) ?_
          exact hret _ _ _ _ _ hP hD hS ⟨x', hJ, rfl⟩ dL_acts_315
    have t309 : W p l e rm_L_acts s m args below meth c H locs (0 + 2 + 0 + 0 + 0) (0 + 12 + 0 + 0 + 0) Q (F0 m 309 ls []) := by
      refine lv_aload_n hx hb dL_acts_309 rfl (lv_at hl 4 rfl) ?_
      obtain ⟨r, x', hF, hJ⟩ := f_dawn (by omega) hI
      refine cV_i (As := []) (rest := []) hx hb hml hown hw hK hN hA hl.1 hP hD hS k_1157 k_1158 k_1159 k_21 k_1160 (met_X9_dawn l D cy _ ad en g x r x' hF) (fun _ _ _ => trivial) Xok_T (gY (x := x) (r := 0) (f := x 12 0) (by decide) rfl) rfl ⟨rfl, rfl⟩ (n := 0) (by decide +kernel) rfl ⟨Nat.le_of_ble_eq_true rfl, Nat.le_of_ble_eq_true rfl⟩ ⟨Nat.le_of_ble_eq_true rfl, Nat.le_of_ble_eq_true rfl⟩ (Nat.le_of_ble_eq_true rfl) rfl dL_acts_310 (fun H locs hP hD hS => ?_)
      refine lv_istore (lv' := [(7, .int r), (6, .int (nI a)), (5, .int (nI q)), (4, .int (nI v)), (3, .int (nI n)), (0, .ref (ad 12 0)), (1, .ref b), (2, .int (nI j))]) hx hb dL_acts_313 hl (by decide) rfl (fun ls hl => ?_)
      refine W.widen (k := 8) (n := 48) (Nat.le_of_ble_eq_true rfl) (Nat.le_of_ble_eq_true rfl) ?_
      exact hret _ _ _ _ _ hP hD hS ⟨x', hJ, rfl⟩ dL_acts_315
    rcases (show t = 0 ∨ t = 1 ∨ t = 2 ∨ t = 3 ∨ t = 4 ∨ t = 5 ∨ t = 6 ∨ t = 7 ∨ t = 8 ∨ t = 9 ∨ t = 10 ∨ t = 11 ∨ t = 12 ∨ t = 13 ∨ t = 14 by omega) with rfl | rfl | rfl | rfl | rfl | rfl | rfl | rfl | rfl | rfl | rfl | rfl | rfl | rfl | rfl
    · exact lv_tableIn (tgt := 116) (off := 64) hx hb dL_acts_52 (by decide) (by decide) (by decide) (by decide) t116
    · exact lv_tableIn (tgt := 151) (off := 99) hx hb dL_acts_52 (by decide) (by decide) (by decide) (by decide) t151
    · exact lv_tableIn (tgt := 171) (off := 119) hx hb dL_acts_52 (by decide) (by decide) (by decide) (by decide) t171
    · exact lv_tableIn (tgt := 171) (off := 119) hx hb dL_acts_52 (by decide) (by decide) (by decide) (by decide) t171
    · exact lv_tableIn (tgt := 171) (off := 119) hx hb dL_acts_52 (by decide) (by decide) (by decide) (by decide) t171
    · exact lv_tableIn (tgt := 192) (off := 140) hx hb dL_acts_52 (by decide) (by decide) (by decide) (by decide) t192
    · exact lv_tableIn (tgt := 218) (off := 166) hx hb dL_acts_52 (by decide) (by decide) (by decide) (by decide) t218
    · exact lv_tableIn (tgt := 218) (off := 166) hx hb dL_acts_52 (by decide) (by decide) (by decide) (by decide) t218
    · exact lv_tableIn (tgt := 218) (off := 166) hx hb dL_acts_52 (by decide) (by decide) (by decide) (by decide) t218
    · exact lv_tableIn (tgt := 239) (off := 187) hx hb dL_acts_52 (by decide) (by decide) (by decide) (by decide) t239
    · exact lv_tableIn (tgt := 258) (off := 206) hx hb dL_acts_52 (by decide) (by decide) (by decide) (by decide) t258
    · exact lv_tableIn (tgt := 274) (off := 222) hx hb dL_acts_52 (by decide) (by decide) (by decide) (by decide) t274
    · exact lv_tableOut (tgt := 309) hx hb dL_acts_52 (by decide) (by decide) t309
    · exact lv_tableOut (tgt := 309) hx hb dL_acts_52 (by decide) (by decide) t309
    · exact lv_tableOut (tgt := 309) hx hb dL_acts_52 (by decide) (by decide) t309
  refine lv_if_le (tgt := 42) hx hb dL_acts_28 (by decide) (fun g1 => ?_) (fun g2 => ?_)
  · refine lv_iconst (v := 0) hx hb dL_acts_42 (by decide) ?_
    exact rest 0 _ _ _ (fun z => z) hP hD hS hl
  · have hn0 : 0 < n := Nat.pos_of_ne_zero fun z => g2 (by rw [z]; decide)
    refine lv_aload_n hx hb dL_acts_31 rfl (lv_at hl 4 rfl) ?_
    refine lv_iload_n hx hb dL_acts_32 rfl (lv_at hl 5 rfl) ?_
    refine lv_iconst (v := 1) hx hb dL_acts_33 (by decide) ?_
    refine lv_iadd hx hb dL_acts_34 ?_
    rw [show ((nI j) + 1) = nI (j + 1) from nI_add j 1]
    refine lv_iload_n hx hb dL_acts_35 rfl (lv_at hl 2 rfl) ?_
    refine uSj (As := [.ref b, .int (nI (j + 1)), .int (nI n)]) (rest := []) hx hb hml hown hw hK hN hA hl.1 hP hD hS k_966 k_967 k_20 k_968 (met_L_some l D cy _ _ en g b L xs (j + 1) n hL (by omega) ⟨hn0, by omega⟩) (XL_call hST hSC hS (free_all hD hS hA)) Xok_L ⟨rfl, rfl⟩ (n := 3) (by decide +kernel) rfl ⟨Nat.le_of_ble_eq_true rfl, Nat.le_of_ble_eq_true rfl⟩ ⟨Nat.le_of_ble_eq_true rfl, Nat.le_of_ble_eq_true rfl⟩ (Nat.le_of_ble_eq_true rfl) rfl dL_acts_36 (fun r9 w9 H locs h9 hP hD hS => ?_)
    obtain ⟨hw9, a, ha, hr9⟩ := h9
    subst w9 r9
    refine lv_goto (tgt := 43) hx hb dL_acts_39 (by decide) ?_
    exact rest a _ _ _ (fun _ => ha) hP hD hS hl
abbrev rm_L_build : Room := { frames := 10, cells := 150, slots := 900, locals := 244 }
set_option maxHeartbeats 4000000 in
theorem met_L_build (l : Launch) (hst0 : l.stackTraces = false) (D : va_G) (cy : Nat → ClassId) (sz : Nat) (ad : Nat → Nat → Nat) (en g : Nat → Nat) (b L : Nat) (xs : Nat → Int32) (x : Mem) (hINV : INV 0 x) (hL : L ≤ 260) : MK l yL_build cL_build 5 rm_L_build D cy (cW cy ad en x) sz (XL en g b L xs (cW cy ad en x) sz) [.ref (ad 12 0), .ref b] 150 900 (fun w => ∃ x' : Mem, INV 23 x' ∧ w = cW cy ad en x') := by
  refine MK.of (by decide +kernel) (Nat.le_of_ble_eq_true rfl) ?_
  intro p e s m args below meth c A ls Q hAt hi hX hsz hAe hP hD hA hS hl hret
  have hST : ST en g A s s.heap := by rw [hAe]; exact hX.1
  have hSC : SC b L xs A s s.heap := by rw [hAe]; exact hX.2
  obtain ⟨hx, hb, hr, hml, hown, hw, hlk, hK, hN⟩ := hAt
  have hown : s.vm.findClass "CloudDeedsLaw" = some m.cls := hown
  have hl : lv_has ls 5 [(0, .ref (ad 12 0)), (1, .ref b)] := hl
  refine lv_iconst (v := 2) hx hb dL_build_0 (by decide) ?_
  refine lv_aload_n hx hb dL_build_1 rfl (lv_at hl 1 rfl) ?_
  refine lv_iconst (v := 0) hx hb dL_build_2 (by decide) ?_
  refine lv_iconst (v := 4) hx hb dL_build_3 (by decide) ?_
  refine uSj (As := [.ref b, .int (nI 0), .int (nI 4)]) (rest := [.int 2]) hx hb hml hown hw hK hN hA hl.1 hP hD hS k_966 k_967 k_20 k_968 (met_L_some l D cy _ _ en g b L xs 0 4 hL (by decide) (by decide)) (XL_call hST hSC hS (free_all hD hS hA)) Xok_L ⟨rfl, rfl⟩ (n := 3) (by decide +kernel) rfl ⟨Nat.le_of_ble_eq_true rfl, Nat.le_of_ble_eq_true rfl⟩ ⟨Nat.le_of_ble_eq_true rfl, Nat.le_of_ble_eq_true rfl⟩ (Nat.le_of_ble_eq_true rfl) rfl dL_build_4 (fun r9 w9 H locs h9 hP hD hS => ?_)
  obtain ⟨hw9, z, hz, hr9⟩ := h9
  subst w9 r9
  refine lv_iadd hx hb dL_build_7 ?_
  rw [show (2 + nI z) = nI (2 + z) from nI_add 2 z]
  refine lv_istore_n (lv' := [(3, .int (nI (2 + z))), (0, .ref (ad 12 0)), (1, .ref b)]) hx hb dL_build_8 rfl hl (by decide) rfl (fun ls hl => ?_)
  refine lv_iconst (v := 0) hx hb dL_build_9 (by decide) ?_
  refine lv_istore (lv' := [(4, .int 0), (3, .int (nI (2 + z))), (0, .ref (ad 12 0)), (1, .ref b)]) hx hb dL_build_10 hl (by decide) rfl (fun ls hl => ?_)
  have loop107 : ∀ i, i ≤ 14 → (∀ (x : Mem) (H : Heap) (locs : List Loc) (ls : Array Slot) (cells slots : Nat), cells ≤ 36 + 8 * i → slots ≤ 216 + 48 * i → INV (9 + i) x → va_P D vwCl (cW cy ad en x) H → va_D A (cW cy ad en x) → va_S A s.heap H locs → lv_has ls 5 [(4, .int (nI i)), (3, .int (nI (2 + z))), (0, .ref (ad 12 0)), (1, .ref b)] → W p l e rm_L_build s m args below meth c H locs cells slots Q (F0 m 107 ls [])) := by
    refine lp ?_ ?_
    · intro x H locs ls cells slots hc hs hINV hP hD hS hl
      refine lv_iload hx hb dL_build_107 (lv_at hl 0 rfl) ?_
      refine lv_bipush (v := 14) hx hb dL_build_109 (by decide) ?_
      refine lv_icmp_ge (tgt := 132) hx hb dL_build_111 (by decide) (fun _ => ?_) (fun h => absurd (show (14 : Int32) ≤ nI 14 by decide) h)
      refine W.widen (k := 150) (n := 900) (by omega) (by omega) ?_
      exact hret _ _ _ _ _ hP hD hS ⟨x, hINV.mono (by omega), rfl⟩ dL_build_132
    · intro i hi ih x H locs ls cells slots hc hs hINV hP hD hS hl
      obtain ⟨n, d, hI⟩ := hINV
      refine lv_iload hx hb dL_build_107 (lv_at hl 0 rfl) ?_
      refine lv_bipush (v := 14) hx hb dL_build_109 (by decide) ?_
      refine lv_icmp_ge (tgt := 132) hx hb dL_build_111 (by decide) (fun h => absurd h (show ¬ (14 : Int32) ≤ nI i from nI_ge hi (by decide))) (fun _ => ?_)
      refine lv_aload_n hx hb dL_build_114 rfl (lv_at hl 2 rfl) ?_
      refine lv_aload_n hx hb dL_build_115 rfl (lv_at hl 3 rfl) ?_
      refine lv_bipush (v := 32) hx hb dL_build_116 (by decide) ?_
      refine lv_iconst (v := 4) hx hb dL_build_118 (by decide) ?_
      refine lv_iload hx hb dL_build_119 (lv_at hl 0 rfl) ?_
      refine lv_imul hx hb dL_build_121 ?_
      rw [show (4 : Int32) * nI i = nI (4 * i) from pk_mul 4 i]
      refine lv_iadd hx hb dL_build_122 ?_
      rw [show (32 + nI (4 * i)) = nI (32 + 4 * i) from nI_add 32 (4 * i)]
      refine uSk (As := [.ref (ad 12 0), .ref b, .int (nI (32 + 4 * i))]) (rest := []) hx hb hml hown hw hK hN hA hl.1 hP hD hS k_1100 k_1101 k_20 k_1102 (met_L_acts l hst0 D cy _ ad en g b L xs x (k := 9 + z + i - z) (by omega) ⟨n, d, hI.mono (by omega)⟩ (32 + 4 * i) (by omega) hL) (XL_call hST hSC hS (free_all hD hS hA)) Xok_L ⟨rfl, rfl⟩ (n := 3) (by decide +kernel) rfl ⟨Nat.le_of_ble_eq_true rfl, Nat.le_of_ble_eq_true rfl⟩ ⟨show cells + 8 ≤ 150 by omega, show slots + 48 ≤ 900 by omega⟩ (Nat.le_of_ble_eq_true rfl) rfl dL_build_123 (fun w9 H locs h9 hP hD hS => ?_)
      obtain ⟨x', hJ, hw9⟩ := h9
      subst w9
      refine lv_iinc (v := nI (i + 1)) (lv' := [(4, .int (nI (i + 1))), (3, .int (nI (2 + z))), (0, .ref (ad 12 0)), (1, .ref b)]) hx hb dL_build_126 hl (k := 0) rfl (by rw [nI_succ]; rfl) (by decide) rfl (fun ls hl => ?_)
      refine lv_goto (tgt := 107) hx hb dL_build_129 (by decide) ?_
      exact ih x' _ _ _ _ _ (by omega) (by omega) (hJ.mono (by omega)) hP hD hS (lv_sub hl [0, 1, 2, 3] rfl)
  have loop66 : ∀ i, i ≤ 4 → (∀ (x : Mem) (H : Heap) (locs : List Loc) (ls : Array Slot) (cells slots : Nat), cells ≤ 20 + 4 * i → slots ≤ 120 + 24 * i → INV (5 + i) x → va_P D vwCl (cW cy ad en x) H → va_D A (cW cy ad en x) → va_S A s.heap H locs → lv_has ls 5 [(4, .int (nI i)), (3, .int (nI (2 + z))), (0, .ref (ad 12 0)), (1, .ref b)] → W p l e rm_L_build s m args below meth c H locs cells slots Q (F0 m 66 ls [])) := by
    refine lp ?_ ?_
    · intro x H locs ls cells slots hc hs hINV hP hD hS hl
      refine lv_iload hx hb dL_build_66 (lv_at hl 0 rfl) ?_
      refine lv_iconst (v := 4) hx hb dL_build_68 (by decide) ?_
      refine lv_icmp_ge (tgt := 104) hx hb dL_build_69 (by decide) (fun _ => ?_) (fun h => absurd (show (4 : Int32) ≤ nI 4 by decide) h)
      refine lv_iconst (v := 0) hx hb dL_build_104 (by decide) ?_
      refine lv_istore (lv' := [(4, .int 0), (3, .int (nI (2 + z))), (0, .ref (ad 12 0)), (1, .ref b)]) hx hb dL_build_105 hl (by decide) rfl (fun ls hl => ?_)
      exact loop107 0 (Nat.zero_le _) x _ _ _ _ _ (by omega) (by omega) (hINV.mono (by omega)) hP hD hS (lv_sub hl [0, 1, 2, 3] rfl)
    · intro i hi ih x H locs ls cells slots hc hs hINV hP hD hS hl
      obtain ⟨n, d, hI⟩ := hINV
      refine lv_iload hx hb dL_build_66 (lv_at hl 0 rfl) ?_
      refine lv_iconst (v := 4) hx hb dL_build_68 (by decide) ?_
      refine lv_icmp_ge (tgt := 104) hx hb dL_build_69 (by decide) (fun h => absurd h (show ¬ (4 : Int32) ≤ nI i from nI_ge hi (by decide))) (fun _ => ?_)
      refine lv_aload_n hx hb dL_build_72 rfl (lv_at hl 2 rfl) ?_
      refine lv_aload_n hx hb dL_build_73 rfl (lv_at hl 3 rfl) ?_
      refine lv_bipush (v := 22) hx hb dL_build_74 (by decide) ?_
      refine lv_iload hx hb dL_build_76 (lv_at hl 0 rfl) ?_
      refine lv_iadd hx hb dL_build_78 ?_
      rw [show (22 + (nI i)) = nI (22 + i) from nI_add 22 i]
      refine lv_bipush (v := 6) hx hb dL_build_79 (by decide) ?_
      refine uSj (As := [.ref b, .int (nI (22 + i)), .int (nI 6)]) (rest := [.ref (ad 12 0)]) hx hb hml hown hw hK hN hA hl.1 hP hD hS k_966 k_967 k_20 k_968 (met_L_some l D cy _ _ en g b L xs (22 + i) 6 hL (by omega) (by decide)) (XL_call hST hSC hS (free_all hD hS hA)) Xok_L ⟨rfl, rfl⟩ (n := 3) (by decide +kernel) rfl ⟨Nat.le_of_ble_eq_true rfl, Nat.le_of_ble_eq_true rfl⟩ ⟨show cells + 0 ≤ 150 by omega, show slots + 0 ≤ 900 by omega⟩ (Nat.le_of_ble_eq_true rfl) rfl dL_build_81 (fun r9 w9 H locs h9 hP hD hS => ?_)
      obtain ⟨hw9, v, hv, hr9⟩ := h9
      subst w9 r9
      refine lv_aload_n hx hb dL_build_84 rfl (lv_at hl 3 rfl) ?_
      refine lv_bipush (v := 27) hx hb dL_build_85 (by decide) ?_
      refine lv_iload hx hb dL_build_87 (lv_at hl 0 rfl) ?_
      refine lv_iadd hx hb dL_build_89 ?_
      rw [show (27 + (nI i)) = nI (27 + i) from nI_add 27 i]
      refine lv_iconst (v := 4) hx hb dL_build_90 (by decide) ?_
      refine uSj (As := [.ref b, .int (nI (27 + i)), .int (nI 4)]) (rest := [.int (nI v), .ref (ad 12 0)]) hx hb hml hown hw hK hN hA hl.1 hP hD hS k_966 k_967 k_20 k_968 (met_L_some l D cy _ _ en g b L xs (27 + i) 4 hL (by omega) (by decide)) (XL_call hST hSC hS (free_all hD hS hA)) Xok_L ⟨rfl, rfl⟩ (n := 3) (by decide +kernel) rfl ⟨Nat.le_of_ble_eq_true rfl, Nat.le_of_ble_eq_true rfl⟩ ⟨show cells + 0 + 0 ≤ 150 by omega, show slots + 0 + 0 ≤ 900 by omega⟩ (Nat.le_of_ble_eq_true rfl) rfl dL_build_91 (fun r9 w9 H locs h9 hP hD hS => ?_)
      obtain ⟨hw9, q, hq, hr9⟩ := h9
      subst w9 r9
      obtain ⟨code, r, x', hcd, hF, hre, hJ⟩ := f_vine hI (nI v) (nI q)
      refine uSh (As := [.ref (ad 12 0), .int (nI v), .int (nI q)]) (rest := []) hx hb hml hown hw hK hN hA hl.1 hP hD hS k_1091 k_1092 k_20 k_1093 (met_L_vine l hst0 D cy _ ad en g x (nI v) (nI q) code r x' hcd hF hre) (ST_call hST hS (free_all hD hS hA)) Xok_S ⟨rfl, rfl⟩ (n := 3) (by decide +kernel) rfl ⟨Nat.le_of_ble_eq_true rfl, Nat.le_of_ble_eq_true rfl⟩ ⟨show cells + 0 + 0 + 4 ≤ 150 by omega, show slots + 0 + 0 + 24 ≤ 900 by omega⟩ (Nat.le_of_ble_eq_true rfl) rfl dL_build_94 (fun r9 w9 H locs h9 hP hD hS => ?_)
      subst w9
      refine lv_istore_n (lv' := [(2, .int r9), (4, .int (nI i)), (3, .int (nI (2 + z))), (0, .ref (ad 12 0)), (1, .ref b)]) hx hb dL_build_97 rfl hl (by decide) rfl (fun ls hl => ?_)
      refine lv_iinc (v := nI (i + 1)) (lv' := [(4, .int (nI (i + 1))), (2, .int r9), (3, .int (nI (2 + z))), (0, .ref (ad 12 0)), (1, .ref b)]) hx hb dL_build_98 hl (k := 1) rfl (by rw [nI_succ]; rfl) (by decide) rfl (fun ls hl => ?_)
      refine lv_goto (tgt := 66) hx hb dL_build_101 (by decide) ?_
      exact ih x' _ _ _ _ _ (by omega) (by omega) (hJ.mono (by omega)) hP hD hS (lv_sub hl [0, 2, 3, 4] rfl)
  have loop12 : ∀ i, i ≤ 2 + z → (∀ (x : Mem) (H : Heap) (locs : List Loc) (ls : Array Slot) (cells slots : Nat), cells ≤ 0 + 4 * i → slots ≤ 0 + 24 * i → INV (0 + i) x → va_P D vwCl (cW cy ad en x) H → va_D A (cW cy ad en x) → va_S A s.heap H locs → lv_has ls 5 [(4, .int (nI i)), (3, .int (nI (2 + z))), (0, .ref (ad 12 0)), (1, .ref b)] → W p l e rm_L_build s m args below meth c H locs cells slots Q (F0 m 12 ls [])) := by
    refine lp ?_ ?_
    · intro x H locs ls cells slots hc hs hINV hP hD hS hl
      refine lv_iload hx hb dL_build_12 (lv_at hl 0 rfl) ?_
      refine lv_iload_n hx hb dL_build_14 rfl (lv_at hl 1 rfl) ?_
      refine lv_icmp_ge (tgt := 63) hx hb dL_build_15 (by decide) (fun _ => ?_) (fun h => absurd (nI_le (Nat.le_refl _) (show 2 + z < 2 ^ 31 by omega)) h)
      refine lv_iconst (v := 0) hx hb dL_build_63 (by decide) ?_
      refine lv_istore (lv' := [(4, .int 0), (3, .int (nI (2 + z))), (0, .ref (ad 12 0)), (1, .ref b)]) hx hb dL_build_64 hl (by decide) rfl (fun ls hl => ?_)
      exact loop66 0 (Nat.zero_le _) x _ _ _ _ _ (by omega) (by omega) (hINV.mono (by omega)) hP hD hS (lv_sub hl [0, 1, 2, 3] rfl)
    · intro i hi ih x H locs ls cells slots hc hs hINV hP hD hS hl
      obtain ⟨n, d, hI⟩ := hINV
      refine lv_iload hx hb dL_build_12 (lv_at hl 0 rfl) ?_
      refine lv_iload_n hx hb dL_build_14 rfl (lv_at hl 1 rfl) ?_
      refine lv_icmp_ge (tgt := 63) hx hb dL_build_15 (by decide) (fun h => absurd h (nI_ge hi (show 2 + z < 2 ^ 31 by omega))) (fun _ => ?_)
      refine lv_aload_n hx hb dL_build_18 rfl (lv_at hl 2 rfl) ?_
      refine lv_aload_n hx hb dL_build_19 rfl (lv_at hl 3 rfl) ?_
      refine lv_iconst (v := 1) hx hb dL_build_20 (by decide) ?_
      refine lv_iload hx hb dL_build_21 (lv_at hl 0 rfl) ?_
      refine lv_iadd hx hb dL_build_23 ?_
      rw [show (1 + (nI i)) = nI (1 + i) from nI_add 1 i]
      refine lv_bipush (v := 6) hx hb dL_build_24 (by decide) ?_
      refine uSj (As := [.ref b, .int (nI (1 + i)), .int (nI 6)]) (rest := [.ref (ad 12 0)]) hx hb hml hown hw hK hN hA hl.1 hP hD hS k_966 k_967 k_20 k_968 (met_L_some l D cy _ _ en g b L xs (1 + i) 6 hL (by omega) (by decide)) (XL_call hST hSC hS (free_all hD hS hA)) Xok_L ⟨rfl, rfl⟩ (n := 3) (by decide +kernel) rfl ⟨Nat.le_of_ble_eq_true rfl, Nat.le_of_ble_eq_true rfl⟩ ⟨show cells + 0 ≤ 150 by omega, show slots + 0 ≤ 900 by omega⟩ (Nat.le_of_ble_eq_true rfl) rfl dL_build_26 (fun r9 w9 H locs h9 hP hD hS => ?_)
      obtain ⟨hw9, v, hv, hr9⟩ := h9
      subst w9 r9
      refine lv_aload_n hx hb dL_build_29 rfl (lv_at hl 3 rfl) ?_
      refine lv_bipush (v := 8) hx hb dL_build_30 (by decide) ?_
      refine lv_iload hx hb dL_build_32 (lv_at hl 0 rfl) ?_
      refine lv_iadd hx hb dL_build_34 ?_
      rw [show (8 + (nI i)) = nI (8 + i) from nI_add 8 i]
      refine lv_bipush (v := 6) hx hb dL_build_35 (by decide) ?_
      refine uSj (As := [.ref b, .int (nI (8 + i)), .int (nI 6)]) (rest := [.int (nI v), .ref (ad 12 0)]) hx hb hml hown hw hK hN hA hl.1 hP hD hS k_966 k_967 k_20 k_968 (met_L_some l D cy _ _ en g b L xs (8 + i) 6 hL (by omega) (by decide)) (XL_call hST hSC hS (free_all hD hS hA)) Xok_L ⟨rfl, rfl⟩ (n := 3) (by decide +kernel) rfl ⟨Nat.le_of_ble_eq_true rfl, Nat.le_of_ble_eq_true rfl⟩ ⟨show cells + 0 + 0 ≤ 150 by omega, show slots + 0 + 0 ≤ 900 by omega⟩ (Nat.le_of_ble_eq_true rfl) rfl dL_build_37 (fun r9 w9 H locs h9 hP hD hS => ?_)
      obtain ⟨hw9, q, hq, hr9⟩ := h9
      subst w9 r9
      refine lv_iconst (v := 1) hx hb dL_build_40 (by decide) ?_
      refine lv_aload_n hx hb dL_build_41 rfl (lv_at hl 3 rfl) ?_
      refine lv_bipush (v := 15) hx hb dL_build_42 (by decide) ?_
      refine lv_iload hx hb dL_build_44 (lv_at hl 0 rfl) ?_
      refine lv_iadd hx hb dL_build_46 ?_
      rw [show (15 + (nI i)) = nI (15 + i) from nI_add 15 i]
      refine lv_bipush (v := 9) hx hb dL_build_47 (by decide) ?_
      refine uSj (As := [.ref b, .int (nI (15 + i)), .int (nI 9)]) (rest := [.int 1, .int (nI q), .int (nI v), .ref (ad 12 0)]) hx hb hml hown hw hK hN hA hl.1 hP hD hS k_966 k_967 k_20 k_968 (met_L_some l D cy _ _ en g b L xs (15 + i) 9 hL (by omega) (by decide)) (XL_call hST hSC hS (free_all hD hS hA)) Xok_L ⟨rfl, rfl⟩ (n := 3) (by decide +kernel) rfl ⟨Nat.le_of_ble_eq_true rfl, Nat.le_of_ble_eq_true rfl⟩ ⟨show cells + 0 + 0 + 0 ≤ 150 by omega, show slots + 0 + 0 + 0 ≤ 900 by omega⟩ (Nat.le_of_ble_eq_true rfl) rfl dL_build_49 (fun r9 w9 H locs h9 hP hD hS => ?_)
      obtain ⟨hw9, t, ht, hr9⟩ := h9
      subst w9 r9
      refine lv_iadd hx hb dL_build_52 ?_
      obtain ⟨code, r, x', hcd, hF, hre, hJ⟩ := f_cloud hI (nI v) (nI q) (1 + (nI t))
      refine uSh (As := [.ref (ad 12 0), .int (nI v), .int (nI q), .int (1 + (nI t))]) (rest := []) hx hb hml hown hw hK hN hA hl.1 hP hD hS k_972 k_973 k_20 k_974 (met_L_cloud l hst0 D cy _ ad en g x (nI v) (nI q) (1 + (nI t)) code r x' hcd hF hre) (ST_call hST hS (free_all hD hS hA)) Xok_S ⟨rfl, rfl⟩ (n := 4) (by decide +kernel) rfl ⟨Nat.le_of_ble_eq_true rfl, Nat.le_of_ble_eq_true rfl⟩ ⟨show cells + 0 + 0 + 0 + 4 ≤ 150 by omega, show slots + 0 + 0 + 0 + 24 ≤ 900 by omega⟩ (Nat.le_of_ble_eq_true rfl) rfl dL_build_53 (fun r9 w9 H locs h9 hP hD hS => ?_)
      subst w9
      refine lv_istore_n (lv' := [(2, .int r9), (4, .int (nI i)), (3, .int (nI (2 + z))), (0, .ref (ad 12 0)), (1, .ref b)]) hx hb dL_build_56 rfl hl (by decide) rfl (fun ls hl => ?_)
      refine lv_iinc (v := nI (i + 1)) (lv' := [(4, .int (nI (i + 1))), (2, .int r9), (3, .int (nI (2 + z))), (0, .ref (ad 12 0)), (1, .ref b)]) hx hb dL_build_57 hl (k := 1) rfl (by rw [nI_succ]; rfl) (by decide) rfl (fun ls hl => ?_)
      refine lv_goto (tgt := 12) hx hb dL_build_60 (by decide) ?_
      exact ih x' _ _ _ _ _ (by omega) (by omega) (hJ.mono (by omega)) hP hD hS (lv_sub hl [0, 2, 3, 4] rfl)
  exact loop12 0 (Nat.zero_le _) x _ _ _ _ _ (Nat.le_of_ble_eq_true rfl) (Nat.le_of_ble_eq_true rfl) (hINV.mono (by omega)) hP hD hS (lv_sub hl [0, 1, 2, 3] rfl)
