/-! the law: the dawns, the sums, the ranks -/
section LAWD
variable {p : Program} {l : Launch} {e : Env} {s : State} {m : MethodId} {args : Array Value} {below : List Frame} {meth : Method} {c : Code} {b L : Nat} {xs : Nat → Int32} {A : Nat → Prop} {D : va_G} {cy : Nat → ClassId} {en g : Nat → Nat} {Q : State → Prop} {H : Heap} {locs : List Loc} {ls : Array Slot} {cells slots : Nat} {ad : Nat → Nat → Nat} {x : Mem} {oo : Nat → Nat → Int32} {k n d o : Nat} {aa : Nat → Nat} {f : Nat → Nat → Int32} {kc ks : Nat} {u4 u5 u6 u7 u8 : Int32}
theorem g_dl {de : Nat} (h : IV k x n d) (hxo : x 0 = oo) (hd : de < d) : ∃ x' : Mem, D_X9_dawnLine x (nI de) = some (0, nI (dwQ oo de), x') ∧ TX x' (dwL oo de (dwQ oo de)) ∧ IV k x' n d ∧ x' 0 = oo := by
  rw [← hxo]
  obtain ⟨x', e, t, fx⟩ := f_dawnLine h hd
  exact ⟨x', e, t, h.fx fx t, fx.1 0 (by omega)⟩
theorem g_rec {de i : Nat} (h : IV k x n d) (hxo : x 0 = oo) (hd : de < d) (hi : i < dwQ oo de) : D_X9_recorded x (nI de) (nI i) = some (0, oo 5 (6 * de + i)) := by rw [← hxo] at hi ⊢; exact f_recorded h hd hi
theorem g_recQ {de : Nat} (h : IV k x n d) (hxo : x 0 = oo) (hd : de < d) : D_X9_recorded x (nI de) (nI (dwQ oo de)) = some (1, 0) := by rw [← hxo]; exact f_recordedQ h hd
theorem g_dw {de : Nat} (h : IV k x n d) (hxo : x 0 = oo) (hd : de < d) : dwQ oo de ≤ 6 ∧ ∀ i, i < dwQ oo de → rng (oo 5 (6 * de + i)) (-1) 3 := by rw [← hxo]; exact ⟨(dw_q h hd).1, (dw_q h hd).2.2⟩
theorem g_a4 (hxo : x 0 = oo) : D_X9_account x 4 = some (0, oo 0 5) := by rw [← hxo]; exact f_acc (p := 4) (Or.inl rfl)
theorem min_d (h : IV k x n d) (hxo : x 0 = oo) (hk : k ≤ 500) : (if oo 0 5 < 5 then oo 0 5 else 5) = nI d := by
  obtain ⟨t, ht, et, ed⟩ := h.1.2.2.2.2.2.2.2.2.1
  rw [hxo] at et
  rw [et, ed]
  by_cases g : t < 5
  · rw [if_pos g, if_pos (show nI t < (5 : Int32) from (nI_ltJ (b := 5) (by omega) (by omega)).mpr g)]
  · rw [if_neg g, if_neg (show ¬ nI t < (5 : Int32) from fun z => g ((nI_ltJ (b := 5) (by omega) (by omega)).mp z))]
    rfl
theorem dw_neg {w : Int32} (hr : rng w (-1) 3) (h : ¬ 0 ≤ w) : nI (dwS w) = 45 := by
  have e : w = -1 := by
    rcases rng_m (b := 3) hr (by decide) with e | ⟨v, hv, e⟩
    · exact e
    · exact absurd (by rw [e]; exact nI_pos' (by omega)) h
  rw [e]
  decide
theorem fin_dw : ∀ v : Fin 4, nI (dwS (nI v.val)) = ((48 + nI v.val).toUInt32 % 65536).toInt32 := by decide +kernel
theorem dw_pos {w : Int32} (hr : rng w (-1) 3) (h : 0 ≤ w) : nI (dwS w) = ((48 + w).toUInt32 % 65536).toInt32 := by
  rcases rng_m (b := 3) hr (by decide) with e | ⟨v, hv, e⟩
  · rw [e] at h
    exact absurd h (by decide)
  · rw [e]
    exact fin_dw ⟨v, by omega⟩
theorem q_ne {q : Nat} (h : q ≤ 6) : ¬ nI q = -30000 := fun z => by
  have := congrArg Int32.toInt z
  rw [nI_toInt (by omega), show (-30000 : Int32).toInt = -30000 by decide] at this
  omega
set_option maxHeartbeats 4000000 in
theorem seg_d (hC : LX p s m c args b L xs A D cy en g) (hst0 : l.stackTraces = false) {de : Nat} (hde : de < d) (hI : IV k x n d) (hxo : x 0 = oo) (hkc : kc ≤ 600000) (hks : ks ≤ 5000000) (hT : TX x (dwL oo de (dwQ oo de)))
    (kk : ∀ (H : Heap) (locs : List Loc) (ls : Array Slot) (cells slots : Nat), cells ≤ kc + 36 → slots ≤ ks + 216 → va_P D vwCl (cW cy ad en x ++ lW cy aa f) H → va_D A (cW cy ad en x ++ lW cy aa f) → va_S A s.heap H locs → lv_has ls 27 [(17, .int (nI (dwQ oo de))), (16, .int (nI de)), (0, .ref b), (1, .ref (ad 12 0)), (2, .int (nI o)), (3, .int (nI n)), (4, .int u4), (5, .int u5), (6, .int u6), (7, .int u7), (8, .int u8), (9, .ref (aa 0)), (10, .ref (aa 1)), (11, .ref (aa 2)), (12, .ref (aa 3)), (13, .ref (aa 4)), (14, .ref (aa 5)), (15, .ref (aa 6))] → W p l e room_1 s m args below meth c H locs cells slots Q (F0 m 1073 ls [])) :
    ∀ i, i ≤ dwQ oo de → ∀ (H : Heap) (locs : List Loc) (ls : Array Slot) (cells slots : Nat), cells ≤ kc + 6 * i → slots ≤ ks + 36 * i → va_P D vwCl (cW cy ad en x ++ lW cy aa f) H → va_D A (cW cy ad en x ++ lW cy aa f) → va_S A s.heap H locs → lv_has ls 27 [(18, .int (nI i)), (17, .int (nI (dwQ oo de))), (16, .int (nI de)), (0, .ref b), (1, .ref (ad 12 0)), (2, .int (nI o)), (3, .int (nI n)), (4, .int u4), (5, .int u5), (6, .int u6), (7, .int u7), (8, .int u8), (9, .ref (aa 0)), (10, .ref (aa 1)), (11, .ref (aa 2)), (12, .ref (aa 3)), (13, .ref (aa 4)), (14, .ref (aa 5)), (15, .ref (aa 6))] → W p l e room_1 s m args below meth c H locs cells slots Q (F0 m 1023 ls []) := by
  obtain ⟨hx, hb, hml, hown, hw, hK, hN, hST, hSC, hA⟩ := id hC
  obtain ⟨hq6, hqr⟩ := g_dw hI hxo hde
  refine lp ?_ ?_
  · intro H locs ls cells slots hc hs hP hD hS hl
    refine lv_iload hx hb dL_law_1023 (lv_at hl 0 rfl) ?_
    refine lv_iload hx hb dL_law_1025 (lv_at hl 1 rfl) ?_
    refine lv_icmp_ge (tgt := 1073) hx hb dL_law_1027 (by decide) (fun _ => ?_) (fun h => absurd (nI_le (Nat.le_refl _) (show dwQ oo de < 2 ^ 31 by omega)) h)
    exact kk H locs ls cells slots (by omega) (by omega) hP hD hS (lv_sub hl [1, 2, 3, 4, 5, 6, 7, 8, 9, 10, 11, 12, 13, 14, 15, 16, 17, 18] rfl)
  · intro i hi ih H locs ls cells slots hc hs hP hD hS hl
    refine lv_iload hx hb dL_law_1023 (lv_at hl 0 rfl) ?_
    refine lv_iload hx hb dL_law_1025 (lv_at hl 1 rfl) ?_
    refine lv_icmp_ge (tgt := 1073) hx hb dL_law_1027 (by decide) (fun h => absurd h (nI_ge hi (show dwQ oo de < 2 ^ 31 by omega))) (fun _ => ?_)
    refine lv_aload_n hx hb dL_law_1030 rfl (lv_at hl 4 rfl) ?_
    refine lv_iload hx hb dL_law_1031 (lv_at hl 2 rfl) ?_
    refine lv_iload hx hb dL_law_1033 (lv_at hl 0 rfl) ?_
    refine fSh (w1 := cW cy ad en x) (w2 := lW cy aa f) (As := [.ref (ad 12 0), .int (nI de), .int (nI i)]) (rest := []) hx hb hml hown hw hK hN hA hl.1 hP hD hS k_918 k_919 k_20 k_920 (met_L_recorded l hst0 D cy _ ad en g x (nI de) (nI i) 0 (oo 5 (6 * de + i)) (Or.inl rfl) (g_rec hI hxo hde hi)) (ST_call hST hS (fr_F hS hD hA)) Xok_S ⟨rfl, rfl⟩ (n := 3) (by decide +kernel) rfl ⟨Nat.le_of_ble_eq_true rfl, Nat.le_of_ble_eq_true rfl⟩ ⟨show _ ≤ 975572 by omega, show _ ≤ 6174753 by omega⟩ (Nat.le_of_ble_eq_true rfl) rfl dL_law_1035 (fun r9 w9 H locs h9 hP hD hS => ?_)
    obtain ⟨hr9, hw9⟩ := h9
    subst w9
    rw [if_pos rfl] at hr9
    subst r9
    refine lv_istore (lv' := [(19, .int (oo 5 (6 * de + i))), (18, .int (nI i)), (17, .int (nI (dwQ oo de))), (16, .int (nI de)), (0, .ref b), (1, .ref (ad 12 0)), (2, .int (nI o)), (3, .int (nI n)), (4, .int u4), (5, .int u5), (6, .int u6), (7, .int u7), (8, .int u8), (9, .ref (aa 0)), (10, .ref (aa 1)), (11, .ref (aa 2)), (12, .ref (aa 3)), (13, .ref (aa 4)), (14, .ref (aa 5)), (15, .ref (aa 6))]) hx hb dL_law_1038 hl (by decide) rfl (fun ls hl => ?_)
    refine lv_aload_n hx hb dL_law_1040 rfl (lv_at hl 5 rfl) ?_
    refine lv_iload hx hb dL_law_1041 (lv_at hl 1 rfl) ?_
    refine xfT (w1 := cW cy ad en x) (w2 := lW cy aa f) (As := [.int (nI i)]) (rest := []) hx hb hml hown hw hK hN hA hl.1 hP hD hS hST k_836 k_837 k_838 k_21 k_839 (met_X9_character l hst0 D cy _ ad en g x (nI i) 0 (nI (dwS (oo 5 (6 * de + i)))) (f_char hT (dwL_at oo de _ hi))) (gY (x := x) (r := 0) (f := x 12 0) (by decide) rfl) rfl ⟨rfl, rfl⟩ (n := 1) (by decide +kernel) rfl ⟨Nat.le_of_ble_eq_true rfl, Nat.le_of_ble_eq_true rfl⟩ ⟨show _ ≤ 975572 by omega, show _ ≤ 6174753 by omega⟩ (Nat.le_of_ble_eq_true rfl) rfl dL_law_1043 (fun H locs q9 ce9 hne hP hD hS hce hcv hcl => absurd rfl hne) (fun H locs h0 hP hD hS => ?_)
    refine lv_iload hx hb dL_law_1046 (lv_at hl 0 rfl) ?_
    refine lv_if_ge (tgt := 1056) hx hb dL_law_1048 (by decide) (fun h1 => ?_) (fun h2 => ?_)
    · refine lv_bipush (v := 48) hx hb dL_law_1056 (by decide) ?_
      refine lv_iload hx hb dL_law_1058 (lv_at hl 0 rfl) ?_
      refine lv_iadd hx hb dL_law_1060 ?_
      refine lv_i2c (v := (((48 + (oo 5 (6 * de + i))).toUInt32 % 65536).toInt32)) hx hb dL_law_1061 rfl ?_
      refine lv_icmp_eq (tgt := 1067) hx hb dL_law_1062 (by decide) (fun _ => ?_) (fun h => absurd (dw_pos (hqr i hi) h1) h)
      refine lv_iinc (v := nI (i + 1)) (lv' := [(18, .int (nI (i + 1))), (19, .int (oo 5 (6 * de + i))), (17, .int (nI (dwQ oo de))), (16, .int (nI de)), (0, .ref b), (1, .ref (ad 12 0)), (2, .int (nI o)), (3, .int (nI n)), (4, .int u4), (5, .int u5), (6, .int u6), (7, .int u7), (8, .int u8), (9, .ref (aa 0)), (10, .ref (aa 1)), (11, .ref (aa 2)), (12, .ref (aa 3)), (13, .ref (aa 4)), (14, .ref (aa 5)), (15, .ref (aa 6))]) hx hb dL_law_1067 hl (k := 1) rfl (by rw [nI_succ]; rfl) (by decide) rfl (fun ls hl => ?_)
      refine lv_goto (tgt := 1023) hx hb dL_law_1070 (by decide) ?_
      exact ih H locs _ _ _ (by omega) (by omega) hP hD hS (lv_sub hl [0, 2, 3, 4, 5, 6, 7, 8, 9, 10, 11, 12, 13, 14, 15, 16, 17, 18, 19] rfl)
    · refine lv_bipush (v := 45) hx hb dL_law_1051 (by decide) ?_
      refine lv_goto (tgt := 1062) hx hb dL_law_1053 (by decide) ?_
      refine lv_icmp_eq (tgt := 1067) hx hb dL_law_1062 (by decide) (fun _ => ?_) (fun h => absurd (dw_neg (hqr i hi) h2) h)
      refine lv_iinc (v := nI (i + 1)) (lv' := [(18, .int (nI (i + 1))), (19, .int (oo 5 (6 * de + i))), (17, .int (nI (dwQ oo de))), (16, .int (nI de)), (0, .ref b), (1, .ref (ad 12 0)), (2, .int (nI o)), (3, .int (nI n)), (4, .int u4), (5, .int u5), (6, .int u6), (7, .int u7), (8, .int u8), (9, .ref (aa 0)), (10, .ref (aa 1)), (11, .ref (aa 2)), (12, .ref (aa 3)), (13, .ref (aa 4)), (14, .ref (aa 5)), (15, .ref (aa 6))]) hx hb dL_law_1067 hl (k := 1) rfl (by rw [nI_succ]; rfl) (by decide) rfl (fun ls hl => ?_)
      refine lv_goto (tgt := 1023) hx hb dL_law_1070 (by decide) ?_
      exact ih H locs _ _ _ (by omega) (by omega) hP hD hS (lv_sub hl [0, 2, 3, 4, 5, 6, 7, 8, 9, 10, 11, 12, 13, 14, 15, 16, 17, 18, 19] rfl)
theorem nI_z {q : Nat} (hq : q < 2 ^ 31) (h : ¬ (0 : Int32) < nI q) : nI q = 0 := by
  rw [lt_toInt, toInt_0, nI_toInt hq] at h
  obtain rfl : q = 0 := by omega
  rfl
set_option maxHeartbeats 8000000 in
theorem seg_S6 (hC : LX p s m c args b L xs A D cy en g) (hst0 : l.stackTraces = false) (hk : k ≤ 500) (hkc : kc ≤ 400000) (hks : ks ≤ 3000000)
    (kk : ∀ (x : Mem) (H : Heap) (locs : List Loc) (ls : Array Slot) (cells slots : Nat), IV k x n d → x 0 = oo → cells ≤ kc + 300 → slots ≤ ks + 1800 → va_P D vwCl (cW cy ad en x ++ lW cy aa f) H → va_D A (cW cy ad en x ++ lW cy aa f) → va_S A s.heap H locs → lv_has ls 27 [(0, .ref b), (1, .ref (ad 12 0)), (2, .int (nI o)), (3, .int (nI n)), (4, .int u4), (5, .int u5), (6, .int u6), (7, .int u7), (8, .int u8), (9, .ref (aa 0)), (10, .ref (aa 1)), (11, .ref (aa 2)), (12, .ref (aa 3)), (13, .ref (aa 4)), (14, .ref (aa 5)), (15, .ref (aa 6))] → W p l e room_1 s m args below meth c H locs cells slots Q (F0 m 1099 ls [])) :
    ∀ de, de ≤ 6 → ∀ (x : Mem) (H : Heap) (locs : List Loc) (ls : Array Slot) (cells slots : Nat), IV k x n d → x 0 = oo → cells ≤ kc + 50 * de → slots ≤ ks + 300 * de → va_P D vwCl (cW cy ad en x ++ lW cy aa f) H → va_D A (cW cy ad en x ++ lW cy aa f) → va_S A s.heap H locs → lv_has ls 27 [(16, .int (nI de)), (0, .ref b), (1, .ref (ad 12 0)), (2, .int (nI o)), (3, .int (nI n)), (4, .int u4), (5, .int u5), (6, .int u6), (7, .int u7), (8, .int u8), (9, .ref (aa 0)), (10, .ref (aa 1)), (11, .ref (aa 2)), (12, .ref (aa 3)), (13, .ref (aa 4)), (14, .ref (aa 5)), (15, .ref (aa 6))] → W p l e room_1 s m args below meth c H locs cells slots Q (F0 m 968 ls []) := by
  obtain ⟨hx, hb, hml, hown, hw, hK, hN, hST, hSC, hA⟩ := id hC
  refine lp ?_ ?_
  · intro x H locs ls cells slots hI hxo hc hs hP hD hS hl
    refine lv_iload hx hb dL_law_968 (lv_at hl 0 rfl) ?_
    refine lv_bipush (v := 6) hx hb dL_law_970 (by decide) ?_
    refine lv_icmp_ge (tgt := 1099) hx hb dL_law_972 (by decide) (fun _ => ?_) (fun h => absurd (show (6 : Int32) ≤ nI 6 by decide) h)
    exact kk x H locs ls cells slots hI hxo hc hs hP hD hS (lv_sub hl [1, 2, 3, 4, 5, 6, 7, 8, 9, 10, 11, 12, 13, 14, 15, 16] rfl)
  · intro de hde6 ih x H locs ls cells slots hI hxo hc hs hP hD hS hl
    have hd5 := hI.1.2.2.2.2.2.2.1
    refine lv_iload hx hb dL_law_968 (lv_at hl 0 rfl) ?_
    refine lv_bipush (v := 6) hx hb dL_law_970 (by decide) ?_
    refine lv_icmp_ge (tgt := 1099) hx hb dL_law_972 (by decide) (fun h => absurd h (show ¬ (6 : Int32) ≤ nI de from nI_ge hde6 (by decide))) (fun _ => ?_)
    refine lv_aload_n hx hb dL_law_975 rfl (lv_at hl 2 rfl) ?_
    refine lv_iload hx hb dL_law_976 (lv_at hl 0 rfl) ?_
    by_cases hde : de < d
    · obtain ⟨x', eL, tL, hI', hxo'⟩ := g_dl hI hxo hde
      obtain ⟨hq6, hqr⟩ := g_dw hI hxo hde
      refine fSh (w1 := cW cy ad en x) (w2 := lW cy aa f) (As := [.ref (ad 12 0), .int (nI de)]) (rest := []) hx hb hml hown hw hK hN hA hl.1 hP hD hS k_942 k_943 k_20 k_944 (met_L_dawnLine l hst0 D cy _ ad en g x (nI de) 0 (nI (dwQ oo de)) x' (Or.inl rfl) eL) (ST_call hST hS (fr_F hS hD hA)) Xok_S ⟨rfl, rfl⟩ (n := 2) (by decide +kernel) rfl ⟨Nat.le_of_ble_eq_true rfl, Nat.le_of_ble_eq_true rfl⟩ ⟨show _ ≤ 975572 by omega, show _ ≤ 6174753 by omega⟩ (Nat.le_of_ble_eq_true rfl) rfl dL_law_978 (fun r9 w9 H locs h9 hP hD hS => ?_)
      obtain ⟨hr9, hw9⟩ := h9
      subst w9
      rw [if_pos rfl] at hr9
      subst r9
      refine lv_istore (lv' := [(17, .int (nI (dwQ oo de))), (16, .int (nI de)), (0, .ref b), (1, .ref (ad 12 0)), (2, .int (nI o)), (3, .int (nI n)), (4, .int u4), (5, .int u5), (6, .int u6), (7, .int u7), (8, .int u8), (9, .ref (aa 0)), (10, .ref (aa 1)), (11, .ref (aa 2)), (12, .ref (aa 3)), (13, .ref (aa 4)), (14, .ref (aa 5)), (15, .ref (aa 6))]) hx hb dL_law_981 hl (by decide) rfl (fun ls hl => ?_)
      refine lv_iload hx hb dL_law_983 (lv_at hl 0 rfl) ?_
      refine lv_sipush (v := (-30000)) hx hb dL_law_985 (by decide) ?_
      refine lv_icmp_ne (tgt := 995) hx hb dL_law_988 (by decide) (fun _ => ?_) (fun h => absurd h (q_ne hq6))
      refine lv_iconst (v := 0) hx hb dL_law_995 (by decide) ?_
      refine lv_iload hx hb dL_law_996 (lv_at hl 1 rfl) ?_
      refine lv_iconst (v := 5) hx hb dL_law_998 (by decide) ?_
      refine lv_aload_n hx hb dL_law_999 rfl (lv_at hl 3 rfl) ?_
      refine lv_iconst (v := 4) hx hb dL_law_1000 (by decide) ?_
      refine xfT (w1 := cW cy ad en x') (w2 := lW cy aa f) (As := [.int 4]) (rest := [.int 5, .int (nI de), .int 0]) hx hb hml hown hw hK hN hA hl.1 hP hD hS hST k_885 k_886 k_887 k_21 k_888 (met_X9_account l hst0 D cy _ ad en g x' 4 0 (oo 0 5) (g_a4 hxo')) (gY (x := x') (r := 0) (f := x' 12 0) (by decide) rfl) rfl ⟨rfl, rfl⟩ (n := 1) (by decide +kernel) rfl ⟨Nat.le_of_ble_eq_true rfl, Nat.le_of_ble_eq_true rfl⟩ ⟨show _ ≤ 975572 by omega, show _ ≤ 6174753 by omega⟩ (Nat.le_of_ble_eq_true rfl) rfl dL_law_1001 (fun H locs q9 ce9 hne hP hD hS hce hcv hcl => absurd rfl hne) (fun H locs h0 hP hD hS => ?_)
      refine va_mmin hx hb (hml.trans hl.1.symm) hown (hw _ k_1194) (hw _ k_526) (hw _ k_35) (hw _ k_527) (Nat.le_of_ble_eq_true rfl) (Nat.le_of_ble_eq_true rfl) (show _ ≤ 975572 by omega) (show _ ≤ 6174753 by omega) dL_law_1004 ?_
      rw [show (if (oo 0 5) < 5 then (oo 0 5) else 5) = nI d from min_d hI' hxo' hk]
      refine lv_icmp_lt (tgt := 1014) hx hb dL_law_1007 (by decide) (fun _ => ?_) (fun h => absurd ((nI_ltJ (by omega) (by omega)).mpr hde) h)
      refine lv_iconst (v := 0) hx hb dL_law_1014 (by decide) ?_
      refine lv_icmp_eq (tgt := 1020) hx hb dL_law_1015 (by decide) (fun _ => ?_) (fun h => absurd rfl h)
      refine lv_iconst (v := 0) hx hb dL_law_1020 (by decide) ?_
      rw [show 0 = nI 0 from by decide]
      refine lv_istore (lv' := [(18, .int (nI 0)), (17, .int (nI (dwQ oo de))), (16, .int (nI de)), (0, .ref b), (1, .ref (ad 12 0)), (2, .int (nI o)), (3, .int (nI n)), (4, .int u4), (5, .int u5), (6, .int u6), (7, .int u7), (8, .int u8), (9, .ref (aa 0)), (10, .ref (aa 1)), (11, .ref (aa 2)), (12, .ref (aa 3)), (13, .ref (aa 4)), (14, .ref (aa 5)), (15, .ref (aa 6))]) hx hb dL_law_1021 hl (by decide) rfl (fun ls hl => ?_)
      refine seg_d (kc := kc + 50 * de + 6) (ks := ks + 300 * de + 36) hC hst0 hde hI' hxo' (by omega) (by omega) tL (fun H locs ls cells slots hc hs hP hD hS hl => ?_) 0 (Nat.zero_le _) H locs ls _ _ (by omega) (by omega) hP hD hS (lv_sub hl [0, 1, 2, 3, 4, 5, 6, 7, 8, 9, 10, 11, 12, 13, 14, 15, 16, 17, 18] rfl)
      refine lv_aload_n hx hb dL_law_1073 rfl (lv_at hl 3 rfl) ?_
      refine lv_iload hx hb dL_law_1074 (lv_at hl 1 rfl) ?_
      refine lv_iconst (v := 0) hx hb dL_law_1076 (by decide) ?_
      refine lv_iload hx hb dL_law_1077 (lv_at hl 0 rfl) ?_
      refine va_mmax hx hb (hml.trans hl.1.symm) hown (hw _ k_1193) (hw _ k_697) (hw _ k_35) (hw _ k_698) (Nat.le_of_ble_eq_true rfl) (Nat.le_of_ble_eq_true rfl) (show _ ≤ 975572 by omega) (show _ ≤ 6174753 by omega) dL_law_1079 ?_
      rw [show (if 0 < (nI (dwQ oo de)) then (nI (dwQ oo de)) else 0) = nI (dwQ oo de) from by
        by_cases g : (0 : Int32) < nI (dwQ oo de)
        · rw [if_pos g]
        · rw [if_neg g]; exact (nI_z (show dwQ oo de < 2 ^ 31 by omega) g).symm]
      refine fSh (w1 := cW cy ad en x') (w2 := lW cy aa f) (As := [.ref (ad 12 0), .int (nI de), .int (nI (dwQ oo de))]) (rest := []) hx hb hml hown hw hK hN hA hl.1 hP hD hS k_918 k_919 k_20 k_920 (met_L_recorded l hst0 D cy _ ad en g x' (nI de) (nI (dwQ oo de)) 1 0 (Or.inr rfl) (g_recQ hI' hxo' hde)) (ST_call hST hS (fr_F hS hD hA)) Xok_S ⟨rfl, rfl⟩ (n := 3) (by decide +kernel) rfl ⟨Nat.le_of_ble_eq_true rfl, Nat.le_of_ble_eq_true rfl⟩ ⟨show _ ≤ 975572 by omega, show _ ≤ 6174753 by omega⟩ (Nat.le_of_ble_eq_true rfl) rfl dL_law_1082 (fun r9 w9 H locs h9 hP hD hS => ?_)
      obtain ⟨hr9, hw9⟩ := h9
      subst w9
      rw [if_neg (by decide)] at hr9
      subst r9
      refine lv_sipush (v := (-30000)) hx hb dL_law_1085 (by decide) ?_
      refine lv_icmp_eq (tgt := 1093) hx hb dL_law_1088 (by decide) (fun _ => ?_) (fun h => absurd rfl h)
      refine lv_iinc (v := nI (de + 1)) (lv' := [(16, .int (nI (de + 1))), (17, .int (nI (dwQ oo de))), (0, .ref b), (1, .ref (ad 12 0)), (2, .int (nI o)), (3, .int (nI n)), (4, .int u4), (5, .int u5), (6, .int u6), (7, .int u7), (8, .int u8), (9, .ref (aa 0)), (10, .ref (aa 1)), (11, .ref (aa 2)), (12, .ref (aa 3)), (13, .ref (aa 4)), (14, .ref (aa 5)), (15, .ref (aa 6))]) hx hb dL_law_1093 hl (k := 1) rfl (by rw [nI_succ]; rfl) (by decide) rfl (fun ls hl => ?_)
      refine lv_goto (tgt := 968) hx hb dL_law_1096 (by decide) ?_
      exact ih x' H locs _ _ _ hI' hxo' (bmul (by omega)) (bmul (by omega)) hP hD hS (lv_sub hl [0, 2, 3, 4, 5, 6, 7, 8, 9, 10, 11, 12, 13, 14, 15, 16, 17] rfl)
    · refine fSh (w1 := cW cy ad en x) (w2 := lW cy aa f) (As := [.ref (ad 12 0), .int (nI de)]) (rest := []) hx hb hml hown hw hK hN hA hl.1 hP hD hS k_942 k_943 k_20 k_944 (met_L_dawnLine l hst0 D cy _ ad en g x (nI de) 1 0 x (Or.inr rfl) (f_dawnLine0 hI (by omega) (by omega))) (ST_call hST hS (fr_F hS hD hA)) Xok_S ⟨rfl, rfl⟩ (n := 2) (by decide +kernel) rfl ⟨Nat.le_of_ble_eq_true rfl, Nat.le_of_ble_eq_true rfl⟩ ⟨show _ ≤ 975572 by omega, show _ ≤ 6174753 by omega⟩ (Nat.le_of_ble_eq_true rfl) rfl dL_law_978 (fun r9 w9 H locs h9 hP hD hS => ?_)
      obtain ⟨hr9, hw9⟩ := h9
      subst w9
      rw [if_neg (by decide)] at hr9
      subst r9
      refine lv_istore (lv' := [(17, .int (-30000)), (16, .int (nI de)), (0, .ref b), (1, .ref (ad 12 0)), (2, .int (nI o)), (3, .int (nI n)), (4, .int u4), (5, .int u5), (6, .int u6), (7, .int u7), (8, .int u8), (9, .ref (aa 0)), (10, .ref (aa 1)), (11, .ref (aa 2)), (12, .ref (aa 3)), (13, .ref (aa 4)), (14, .ref (aa 5)), (15, .ref (aa 6))]) hx hb dL_law_981 hl (by decide) rfl (fun ls hl => ?_)
      refine lv_iload hx hb dL_law_983 (lv_at hl 0 rfl) ?_
      refine lv_sipush (v := (-30000)) hx hb dL_law_985 (by decide) ?_
      refine lv_icmp_ne (tgt := 995) hx hb dL_law_988 (by decide) (fun h => absurd rfl h) (fun _ => ?_)
      refine lv_iconst (v := 1) hx hb dL_law_991 (by decide) ?_
      refine lv_goto (tgt := 996) hx hb dL_law_992 (by decide) ?_
      refine lv_iload hx hb dL_law_996 (lv_at hl 1 rfl) ?_
      refine lv_iconst (v := 5) hx hb dL_law_998 (by decide) ?_
      refine lv_aload_n hx hb dL_law_999 rfl (lv_at hl 3 rfl) ?_
      refine lv_iconst (v := 4) hx hb dL_law_1000 (by decide) ?_
      refine xfT (w1 := cW cy ad en x) (w2 := lW cy aa f) (As := [.int 4]) (rest := [.int 5, .int (nI de), .int 1]) hx hb hml hown hw hK hN hA hl.1 hP hD hS hST k_885 k_886 k_887 k_21 k_888 (met_X9_account l hst0 D cy _ ad en g x 4 0 (oo 0 5) (g_a4 hxo)) (gY (x := x) (r := 0) (f := x 12 0) (by decide) rfl) rfl ⟨rfl, rfl⟩ (n := 1) (by decide +kernel) rfl ⟨Nat.le_of_ble_eq_true rfl, Nat.le_of_ble_eq_true rfl⟩ ⟨show _ ≤ 975572 by omega, show _ ≤ 6174753 by omega⟩ (Nat.le_of_ble_eq_true rfl) rfl dL_law_1001 (fun H locs q9 ce9 hne hP hD hS hce hcv hcl => absurd rfl hne) (fun H locs h0 hP hD hS => ?_)
      refine va_mmin hx hb (hml.trans hl.1.symm) hown (hw _ k_1194) (hw _ k_526) (hw _ k_35) (hw _ k_527) (Nat.le_of_ble_eq_true rfl) (Nat.le_of_ble_eq_true rfl) (show _ ≤ 975572 by omega) (show _ ≤ 6174753 by omega) dL_law_1004 ?_
      rw [show (if (oo 0 5) < 5 then (oo 0 5) else 5) = nI d from min_d hI hxo hk]
      refine lv_icmp_lt (tgt := 1014) hx hb dL_law_1007 (by decide) (fun h => absurd h (fun z => hde ((nI_ltJ (by omega) (by omega)).mp z))) (fun _ => ?_)
      refine lv_iconst (v := 1) hx hb dL_law_1010 (by decide) ?_
      refine lv_goto (tgt := 1015) hx hb dL_law_1011 (by decide) ?_
      refine lv_icmp_eq (tgt := 1020) hx hb dL_law_1015 (by decide) (fun _ => ?_) (fun h => absurd rfl h)
      refine lv_iconst (v := 0) hx hb dL_law_1020 (by decide) ?_
      refine lv_istore (lv' := [(18, .int 0), (17, .int (-30000)), (16, .int (nI de)), (0, .ref b), (1, .ref (ad 12 0)), (2, .int (nI o)), (3, .int (nI n)), (4, .int u4), (5, .int u5), (6, .int u6), (7, .int u7), (8, .int u8), (9, .ref (aa 0)), (10, .ref (aa 1)), (11, .ref (aa 2)), (12, .ref (aa 3)), (13, .ref (aa 4)), (14, .ref (aa 5)), (15, .ref (aa 6))]) hx hb dL_law_1021 hl (by decide) rfl (fun ls hl => ?_)
      refine lv_iload hx hb dL_law_1023 (lv_at hl 0 rfl) ?_
      refine lv_iload hx hb dL_law_1025 (lv_at hl 1 rfl) ?_
      refine lv_icmp_ge (tgt := 1073) hx hb dL_law_1027 (by decide) (fun _ => ?_) (fun h => absurd (by decide) h)
      refine lv_aload_n hx hb dL_law_1073 rfl (lv_at hl 4 rfl) ?_
      refine lv_iload hx hb dL_law_1074 (lv_at hl 2 rfl) ?_
      refine lv_iconst (v := 0) hx hb dL_law_1076 (by decide) ?_
      refine lv_iload hx hb dL_law_1077 (lv_at hl 1 rfl) ?_
      refine va_mmax hx hb (hml.trans hl.1.symm) hown (hw _ k_1193) (hw _ k_697) (hw _ k_35) (hw _ k_698) (Nat.le_of_ble_eq_true rfl) (Nat.le_of_ble_eq_true rfl) (show _ ≤ 975572 by omega) (show _ ≤ 6174753 by omega) dL_law_1079 ?_
      rw [show (if (0 : Int32) < (-30000) then (-30000 : Int32) else 0) = 0 from by decide]
      refine fSh (w1 := cW cy ad en x) (w2 := lW cy aa f) (As := [.ref (ad 12 0), .int (nI de), .int 0]) (rest := []) hx hb hml hown hw hK hN hA hl.1 hP hD hS k_918 k_919 k_20 k_920 (met_L_recorded l hst0 D cy _ ad en g x (nI de) 0 1 0 (Or.inr rfl) (f_recorded0 hI (by omega) (by omega) 0)) (ST_call hST hS (fr_F hS hD hA)) Xok_S ⟨rfl, rfl⟩ (n := 3) (by decide +kernel) rfl ⟨Nat.le_of_ble_eq_true rfl, Nat.le_of_ble_eq_true rfl⟩ ⟨show _ ≤ 975572 by omega, show _ ≤ 6174753 by omega⟩ (Nat.le_of_ble_eq_true rfl) rfl dL_law_1082 (fun r9 w9 H locs h9 hP hD hS => ?_)
      obtain ⟨hr9, hw9⟩ := h9
      subst w9
      rw [if_neg (by decide)] at hr9
      subst r9
      refine lv_sipush (v := (-30000)) hx hb dL_law_1085 (by decide) ?_
      refine lv_icmp_eq (tgt := 1093) hx hb dL_law_1088 (by decide) (fun _ => ?_) (fun h => absurd rfl h)
      refine lv_iinc (v := nI (de + 1)) (lv' := [(16, .int (nI (de + 1))), (18, .int 0), (17, .int (-30000)), (0, .ref b), (1, .ref (ad 12 0)), (2, .int (nI o)), (3, .int (nI n)), (4, .int u4), (5, .int u5), (6, .int u6), (7, .int u7), (8, .int u8), (9, .ref (aa 0)), (10, .ref (aa 1)), (11, .ref (aa 2)), (12, .ref (aa 3)), (13, .ref (aa 4)), (14, .ref (aa 5)), (15, .ref (aa 6))]) hx hb dL_law_1093 hl (k := 2) rfl (by rw [nI_succ]; rfl) (by decide) rfl (fun ls hl => ?_)
      refine lv_goto (tgt := 968) hx hb dL_law_1096 (by decide) ?_
      exact ih x H locs _ _ _ hI hxo (bmul (by omega)) (bmul (by omega)) hP hD hS (lv_sub hl [0, 3, 4, 5, 6, 7, 8, 9, 10, 11, 12, 13, 14, 15, 16, 17, 18] rfl)
theorem g_ca (h : IV k x n d) (hxo : x 0 = oo) : sumTo (q3 oo) 4 = 80 + oo 0 11 - oo 0 10 := by
  have h6 := h.1.2.2.2.2.2.1
  rw [hxo] at h6
  unfold RBa at h6
  rw [← h6]
  exact sum4z (oo 3)
theorem g_co (hxo : x 0 = oo) : D_X9_coins x = some (sumTo (q3 oo) 4) := by rw [← hxo]; exact f_coins x
theorem g_caA (h : IV k x n d) (hxo : x 0 = oo) : D_X9_coinsAgain x = sumTo (q3 oo) 4 := by
  rw [g_ca h hxo, ← hxo]
  rfl
theorem g_a10 (hxo : x 0 = oo) : D_X9_account x 10 = some (0, oo 0 11) := by rw [← hxo]; exact f_acc (p := 10) (Or.inr (Or.inr rfl))
theorem g_a9 (hxo : x 0 = oo) : D_X9_account x 9 = some (0, oo 0 10) := by rw [← hxo]; exact f_acc (p := 9) (Or.inr (Or.inl rfl))
theorem g_a1 (h : IV k x n d) (hxo : x 0 = oo) : D_X9_account x 1 = some (0, sumTo (qT oo) n) := by rw [← hxo]; exact f_acc1 h
theorem g_a2 (h : IV k x n d) (hxo : x 0 = oo) : D_X9_account x 2 = some (0, sumTo (qP oo) n) := by
  rw [f_acc2 h, hxo]
  congr 2
  refine sumTo_cg (fun j hj => ?_)
  unfold qP
  by_cases e : oo (j + 7) 5 = -1
  · rw [if_pos e, if_pos ((hPl _).mpr e)]
  · rw [if_neg e, if_neg (fun z => e ((hPl _).mp z))]
theorem g_a3 (hxo : x 0 = oo) : D_X9_account x 3 = some (0, sumTo (q2 oo) 6) := by
  rw [f_acc3 x, hxo]
  have h := sumTo_two (f := q2 oo) (g := fun j => if oo 2 j = -1 then 1 else 0) (n := 6) (fun j hj => by unfold q2; split <;> rfl)
  rw [show (6 : Int32) = nI 6 from rfl, ← h, Int32.add_sub_cancel]
theorem fin_sh2 : ∀ (i : Fin 7) (j : Fin 6), n32b (FP.fdiv (FP.i2f (nI i.val)) (FP.i2f (nI (j.val + 1)))) = true ∧ Op.cmpValue (FP.fcmp (FP.fdiv (FP.i2f (nI i.val)) (FP.i2f (nI (j.val + 1)))) (FP.fdiv (FP.i2f (nI i.val)) (FP.i2f (nI (j.val + 1))))) .l = 0 := by decide +kernel
theorem g_mean (h : IV k x n d) (hxo : x 0 = oo) (hn : 0 < n) : D_X9_meanSize x = some (0, FP.ddiv (FP.i2d (sumTo (qS oo) n)) (FP.i2d (nI n))) ∧ n64b (FP.ddiv (FP.i2d (sumTo (qS oo) n)) (FP.i2d (nI n))) = true ∧ Op.cmpValue (FP.dcmp (FP.ddiv (FP.i2d (sumTo (qS oo) n)) (FP.i2d (nI n))) (FP.ddiv (FP.i2d (sumTo (qS oo) n)) (FP.i2d (nI n)))) .l = 0 := by
  have h1 := h.1.1
  obtain ⟨⟨z, hz, ez⟩, e⟩ := f_mean h hn
  rw [hxo] at ez e
  have ez : sumTo (qS oo) n = nI z := ez
  have hf := fin_mean ⟨z, by omega⟩ ⟨n - 1, by omega⟩
  rw [show n - 1 + 1 = n by omega, ← ez] at hf
  exact ⟨e, hf⟩
theorem g_share (h : IV k x n d) (hxo : x 0 = oo) (hn : 0 < n) : D_X9_titledShare x = some (0, FP.fdiv (FP.i2f (sumTo (qT oo) n)) (FP.i2f (nI n))) ∧ n32b (FP.fdiv (FP.i2f (sumTo (qT oo) n)) (FP.i2f (nI n))) = true ∧ Op.cmpValue (FP.fcmp (FP.fdiv (FP.i2f (sumTo (qT oo) n)) (FP.i2f (nI n))) (FP.fdiv (FP.i2f (sumTo (qT oo) n)) (FP.i2f (nI n)))) .l = 0 := by
  have h1 := h.1.1
  obtain ⟨⟨z, hz, ez⟩, e⟩ := f_share h hn
  rw [hxo] at ez e
  have ez : sumTo (qT oo) n = nI z := ez
  have hf := fin_sh2 ⟨z, by omega⟩ ⟨n - 1, by omega⟩
  rw [show n - 1 + 1 = n by omega, ← ez] at hf
  exact ⟨e, hf⟩
set_option maxHeartbeats 8000000 in
theorem seg_1207 (hC : LX p s m c args b L xs A D cy en g) (hst0 : l.stackTraces = false) (hI : IV k x n d) (hxo : x 0 = oo) (hkc : kc ≤ 400000) (hks : ks ≤ 3000000) (hl : lv_has ls 27 [(0, .ref b), (1, .ref (ad 12 0)), (2, .int (nI o)), (3, .int (nI n)), (4, .int (sumTo (qT oo) n)), (5, .int (sumTo (qP oo) n)), (6, .int (sumTo (qS oo) n)), (7, .int (sumTo (q2 oo) 6)), (8, .int (sumTo (q3 oo) 4)), (9, .ref (aa 0)), (10, .ref (aa 1)), (11, .ref (aa 2)), (12, .ref (aa 3)), (13, .ref (aa 4)), (14, .ref (aa 5)), (15, .ref (aa 6))]) (hc : cells ≤ kc + 30) (hs : slots ≤ ks + 180) (hP : va_P D vwCl (cW cy ad en x ++ lW cy aa f) H) (hD : va_D A (cW cy ad en x ++ lW cy aa f)) (hS : va_S A s.heap H locs)
    (kk : ∀ (H : Heap) (locs : List Loc) (cells slots : Nat), cells ≤ kc + 38 → slots ≤ ks + 228 → va_P D vwCl (cW cy ad en x ++ lW cy aa f) H → va_D A (cW cy ad en x ++ lW cy aa f) → va_S A s.heap H locs → W p l e room_1 s m args below meth c H locs cells slots Q (F0 m 1231 ls [])) : W p l e room_1 s m args below meth c H locs cells slots Q (F0 m 1207 ls []) := by
  obtain ⟨hx, hb, hml, hown, hw, hK, hN, hST, hSC, hA⟩ := id hC
  refine lv_aload_n hx hb dL_law_1207 rfl (lv_at hl 1 rfl) ?_
  refine lv_iload_n hx hb dL_law_1208 rfl (lv_at hl 3 rfl) ?_
  refine fSh (w1 := cW cy ad en x) (w2 := lW cy aa f) (As := [.ref (ad 12 0), .int (nI n)]) (rest := []) hx hb hml hown hw hK hN hA hl.1 hP hD hS k_957 k_958 k_20 k_959 (met_L_greatest l hst0 D cy _ ad en g x (nI n) 1 0 (Or.inr rfl) (f_greatestN hI)) (ST_call hST hS (fr_F hS hD hA)) Xok_S ⟨rfl, rfl⟩ (n := 2) (by decide +kernel) rfl ⟨Nat.le_of_ble_eq_true rfl, Nat.le_of_ble_eq_true rfl⟩ ⟨show _ ≤ 975572 by omega, show _ ≤ 6174753 by omega⟩ (Nat.le_of_ble_eq_true rfl) rfl dL_law_1209 (fun r9 w9 H locs h9 hP hD hS => ?_)
  obtain ⟨hr9, hw9⟩ := h9
  subst w9
  rw [if_neg (by decide)] at hr9
  subst r9
  refine lv_sipush (v := (-30000)) hx hb dL_law_1212 (by decide) ?_
  refine lv_icmp_ne (tgt := 1229) hx hb dL_law_1215 (by decide) (fun h => absurd rfl h) (fun _ => ?_)
  refine lv_aload_n hx hb dL_law_1218 rfl (lv_at hl 1 rfl) ?_
  refine lv_iconst (v := 4) hx hb dL_law_1219 (by decide) ?_
  refine fSh (w1 := cW cy ad en x) (w2 := lW cy aa f) (As := [.ref (ad 12 0), .int 4]) (rest := []) hx hb hml hown hw hK hN hA hl.1 hP hD hS k_960 k_961 k_20 k_962 (met_L_ranked l hst0 D cy _ ad en g x 4 1 0 (Or.inr rfl) (f_ranked4 x)) (ST_call hST hS (fr_F hS hD hA)) Xok_S ⟨rfl, rfl⟩ (n := 2) (by decide +kernel) rfl ⟨Nat.le_of_ble_eq_true rfl, Nat.le_of_ble_eq_true rfl⟩ ⟨show _ ≤ 975572 by omega, show _ ≤ 6174753 by omega⟩ (Nat.le_of_ble_eq_true rfl) rfl dL_law_1220 (fun r9 w9 H locs h9 hP hD hS => ?_)
  obtain ⟨hr9, hw9⟩ := h9
  subst w9
  rw [if_neg (by decide)] at hr9
  subst r9
  refine lv_sipush (v := (-30000)) hx hb dL_law_1223 (by decide) ?_
  refine lv_icmp_eq (tgt := 1231) hx hb dL_law_1226 (by decide) (fun _ => ?_) (fun h => absurd rfl h)
  exact kk H locs _ _ (by omega) (by omega) hP hD hS
set_option maxHeartbeats 8000000 in
theorem seg_S7 (hC : LX p s m c args b L xs A D cy en g) (hst0 : l.stackTraces = false) (hI : IV k x n d) (hxo : x 0 = oo) (hkc : kc ≤ 400000) (hks : ks ≤ 3000000) (hl : lv_has ls 27 [(0, .ref b), (1, .ref (ad 12 0)), (2, .int (nI o)), (3, .int (nI n)), (4, .int (sumTo (qT oo) n)), (5, .int (sumTo (qP oo) n)), (6, .int (sumTo (qS oo) n)), (7, .int (sumTo (q2 oo) 6)), (8, .int (sumTo (q3 oo) 4)), (9, .ref (aa 0)), (10, .ref (aa 1)), (11, .ref (aa 2)), (12, .ref (aa 3)), (13, .ref (aa 4)), (14, .ref (aa 5)), (15, .ref (aa 6))]) (hc : cells ≤ kc) (hs : slots ≤ ks) (hP : va_P D vwCl (cW cy ad en x ++ lW cy aa f) H) (hD : va_D A (cW cy ad en x ++ lW cy aa f)) (hS : va_S A s.heap H locs)
    (kk : ∀ (H : Heap) (locs : List Loc) (cells slots : Nat), cells ≤ kc + 38 → slots ≤ ks + 228 → va_P D vwCl (cW cy ad en x ++ lW cy aa f) H → va_D A (cW cy ad en x ++ lW cy aa f) → va_S A s.heap H locs → W p l e room_1 s m args below meth c H locs cells slots Q (F0 m 1231 ls [])) : W p l e room_1 s m args below meth c H locs cells slots Q (F0 m 1099 ls []) := by
  obtain ⟨hx, hb, hml, hown, hw, hK, hN, hST, hSC, hA⟩ := id hC
  have hn6 := hI.1.1
  refine lv_aload_n hx hb dL_law_1099 rfl (lv_at hl 1 rfl) ?_
  refine fVi (w1 := cW cy ad en x) (w2 := lW cy aa f) (As := []) (rest := []) hx hb hml hown hw hK hN hA hl.1 hP hD hS k_605 k_606 k_607 k_21 k_608 (met_X9_coins l D cy _ ad en g x (sumTo (q3 oo) 4) (g_co hxo)) (fun _ _ _ => trivial) Xok_T (gY (x := x) (r := 0) (f := x 12 0) (by decide) rfl) rfl ⟨rfl, rfl⟩ (n := 0) (by decide +kernel) rfl ⟨Nat.le_of_ble_eq_true rfl, Nat.le_of_ble_eq_true rfl⟩ ⟨show _ ≤ 975572 by omega, show _ ≤ 6174753 by omega⟩ (Nat.le_of_ble_eq_true rfl) rfl dL_law_1100 (fun H locs hP hD hS => ?_)
  refine lv_iload hx hb dL_law_1103 (lv_at hl 8 rfl) ?_
  refine lv_icmp_ne (tgt := 1229) hx hb dL_law_1105 (by decide) (fun h => absurd rfl h) (fun _ => ?_)
  refine lv_aload_n hx hb dL_law_1108 rfl (lv_at hl 1 rfl) ?_
  refine fVi (w1 := cW cy ad en x) (w2 := lW cy aa f) (As := []) (rest := []) hx hb hml hown hw hK hN hA hl.1 hP hD hS k_613 k_614 k_615 k_21 k_616 (met_X9_coinsAgain l D cy _ ad en g x (sumTo (q3 oo) 4) (g_caA hI hxo)) (fun _ _ _ => trivial) Xok_T (gY (x := x) (r := 0) (f := x 12 0) (by decide) rfl) rfl ⟨rfl, rfl⟩ (n := 0) (by decide +kernel) rfl ⟨Nat.le_of_ble_eq_true rfl, Nat.le_of_ble_eq_true rfl⟩ ⟨show _ ≤ 975572 by omega, show _ ≤ 6174753 by omega⟩ (Nat.le_of_ble_eq_true rfl) rfl dL_law_1109 (fun H locs hP hD hS => ?_)
  refine lv_iload hx hb dL_law_1112 (lv_at hl 8 rfl) ?_
  refine lv_icmp_ne (tgt := 1229) hx hb dL_law_1114 (by decide) (fun h => absurd rfl h) (fun _ => ?_)
  refine lv_iload hx hb dL_law_1117 (lv_at hl 8 rfl) ?_
  refine lv_bipush (v := 80) hx hb dL_law_1119 (by decide) ?_
  refine lv_aload_n hx hb dL_law_1121 rfl (lv_at hl 1 rfl) ?_
  refine lv_bipush (v := 10) hx hb dL_law_1122 (by decide) ?_
  refine xfT (w1 := cW cy ad en x) (w2 := lW cy aa f) (As := [.int 10]) (rest := [.int 80, .int (sumTo (q3 oo) 4)]) hx hb hml hown hw hK hN hA hl.1 hP hD hS hST k_885 k_886 k_887 k_21 k_888 (met_X9_account l hst0 D cy _ ad en g x 10 0 (oo 0 11) (g_a10 hxo)) (gY (x := x) (r := 0) (f := x 12 0) (by decide) rfl) rfl ⟨rfl, rfl⟩ (n := 1) (by decide +kernel) rfl ⟨Nat.le_of_ble_eq_true rfl, Nat.le_of_ble_eq_true rfl⟩ ⟨show _ ≤ 975572 by omega, show _ ≤ 6174753 by omega⟩ (Nat.le_of_ble_eq_true rfl) rfl dL_law_1124 (fun H locs q9 ce9 hne hP hD hS hce hcv hcl => absurd rfl hne) (fun H locs h0 hP hD hS => ?_)
  refine lv_iadd hx hb dL_law_1127 ?_
  refine lv_aload_n hx hb dL_law_1128 rfl (lv_at hl 1 rfl) ?_
  refine lv_bipush (v := 9) hx hb dL_law_1129 (by decide) ?_
  refine xfT (w1 := cW cy ad en x) (w2 := lW cy aa f) (As := [.int 9]) (rest := [.int (80 + (oo 0 11)), .int (sumTo (q3 oo) 4)]) hx hb hml hown hw hK hN hA hl.1 hP hD hS hST k_885 k_886 k_887 k_21 k_888 (met_X9_account l hst0 D cy _ ad en g x 9 0 (oo 0 10) (g_a9 hxo)) (gY (x := x) (r := 0) (f := x 12 0) (by decide) rfl) rfl ⟨rfl, rfl⟩ (n := 1) (by decide +kernel) rfl ⟨Nat.le_of_ble_eq_true rfl, Nat.le_of_ble_eq_true rfl⟩ ⟨show _ ≤ 975572 by omega, show _ ≤ 6174753 by omega⟩ (Nat.le_of_ble_eq_true rfl) rfl dL_law_1131 (fun H locs q9 ce9 hne hP hD hS hce hcv hcl => absurd rfl hne) (fun H locs h0 hP hD hS => ?_)
  refine lv_isub hx hb dL_law_1134 ?_
  refine lv_icmp_ne (tgt := 1229) hx hb dL_law_1135 (by decide) (fun h => absurd (g_ca hI hxo) h) (fun _ => ?_)
  refine lv_aload_n hx hb dL_law_1138 rfl (lv_at hl 1 rfl) ?_
  refine fVi (w1 := cW cy ad en x) (w2 := lW cy aa f) (As := []) (rest := []) hx hb hml hown hw hK hN hA hl.1 hP hD hS k_903 k_904 k_905 k_21 k_906 (met_X9_isBalanced l D cy _ ad en g x 1 (f_bal hI)) (fun _ _ _ => trivial) Xok_T (gY (x := x) (r := 0) (f := x 12 0) (by decide) rfl) rfl ⟨rfl, rfl⟩ (n := 0) (by decide +kernel) rfl ⟨Nat.le_of_ble_eq_true rfl, Nat.le_of_ble_eq_true rfl⟩ ⟨show _ ≤ 975572 by omega, show _ ≤ 6174753 by omega⟩ (Nat.le_of_ble_eq_true rfl) rfl dL_law_1139 (fun H locs hP hD hS => ?_)
  refine lv_if_eq (tgt := 1229) hx hb dL_law_1142 (by decide) (fun h => absurd h (by decide)) (fun _ => ?_)
  refine lv_aload_n hx hb dL_law_1145 rfl (lv_at hl 1 rfl) ?_
  refine lv_iconst (v := 1) hx hb dL_law_1146 (by decide) ?_
  refine xfT (w1 := cW cy ad en x) (w2 := lW cy aa f) (As := [.int 1]) (rest := []) hx hb hml hown hw hK hN hA hl.1 hP hD hS hST k_885 k_886 k_887 k_21 k_888 (met_X9_account l hst0 D cy _ ad en g x 1 0 (sumTo (qT oo) n) (g_a1 hI hxo)) (gY (x := x) (r := 0) (f := x 12 0) (by decide) rfl) rfl ⟨rfl, rfl⟩ (n := 1) (by decide +kernel) rfl ⟨Nat.le_of_ble_eq_true rfl, Nat.le_of_ble_eq_true rfl⟩ ⟨show _ ≤ 975572 by omega, show _ ≤ 6174753 by omega⟩ (Nat.le_of_ble_eq_true rfl) rfl dL_law_1147 (fun H locs q9 ce9 hne hP hD hS hce hcv hcl => absurd rfl hne) (fun H locs h0 hP hD hS => ?_)
  refine lv_iload hx hb dL_law_1150 (lv_at hl 4 rfl) ?_
  refine lv_icmp_ne (tgt := 1229) hx hb dL_law_1152 (by decide) (fun h => absurd rfl h) (fun _ => ?_)
  refine lv_aload_n hx hb dL_law_1155 rfl (lv_at hl 1 rfl) ?_
  refine lv_iconst (v := 2) hx hb dL_law_1156 (by decide) ?_
  refine xfT (w1 := cW cy ad en x) (w2 := lW cy aa f) (As := [.int 2]) (rest := []) hx hb hml hown hw hK hN hA hl.1 hP hD hS hST k_885 k_886 k_887 k_21 k_888 (met_X9_account l hst0 D cy _ ad en g x 2 0 (sumTo (qP oo) n) (g_a2 hI hxo)) (gY (x := x) (r := 0) (f := x 12 0) (by decide) rfl) rfl ⟨rfl, rfl⟩ (n := 1) (by decide +kernel) rfl ⟨Nat.le_of_ble_eq_true rfl, Nat.le_of_ble_eq_true rfl⟩ ⟨show _ ≤ 975572 by omega, show _ ≤ 6174753 by omega⟩ (Nat.le_of_ble_eq_true rfl) rfl dL_law_1157 (fun H locs q9 ce9 hne hP hD hS hce hcv hcl => absurd rfl hne) (fun H locs h0 hP hD hS => ?_)
  refine lv_iload hx hb dL_law_1160 (lv_at hl 5 rfl) ?_
  refine lv_icmp_ne (tgt := 1229) hx hb dL_law_1162 (by decide) (fun h => absurd rfl h) (fun _ => ?_)
  refine lv_aload_n hx hb dL_law_1165 rfl (lv_at hl 1 rfl) ?_
  refine lv_iconst (v := 3) hx hb dL_law_1166 (by decide) ?_
  refine xfT (w1 := cW cy ad en x) (w2 := lW cy aa f) (As := [.int 3]) (rest := []) hx hb hml hown hw hK hN hA hl.1 hP hD hS hST k_885 k_886 k_887 k_21 k_888 (met_X9_account l hst0 D cy _ ad en g x 3 0 (sumTo (q2 oo) 6) (g_a3 hxo)) (gY (x := x) (r := 0) (f := x 12 0) (by decide) rfl) rfl ⟨rfl, rfl⟩ (n := 1) (by decide +kernel) rfl ⟨Nat.le_of_ble_eq_true rfl, Nat.le_of_ble_eq_true rfl⟩ ⟨show _ ≤ 975572 by omega, show _ ≤ 6174753 by omega⟩ (Nat.le_of_ble_eq_true rfl) rfl dL_law_1167 (fun H locs q9 ce9 hne hP hD hS hce hcv hcl => absurd rfl hne) (fun H locs h0 hP hD hS => ?_)
  refine lv_iload hx hb dL_law_1170 (lv_at hl 7 rfl) ?_
  refine lv_icmp_ne (tgt := 1229) hx hb dL_law_1172 (by decide) (fun h => absurd rfl h) (fun _ => ?_)
  refine lv_iload_n hx hb dL_law_1175 rfl (lv_at hl 3 rfl) ?_
  refine lv_if_le (tgt := 1207) hx hb dL_law_1176 (by decide) (fun h1 => ?_) (fun h2 => ?_)
  · exact seg_1207 hC hst0 hI hxo hkc hks hl (by omega) (by omega) hP hD hS kk
  · have hn0 : 0 < n := Nat.pos_of_ne_zero fun z => h2 (by rw [z]; decide)
    obtain ⟨m1, m2, m3⟩ := g_mean hI hxo hn0
    obtain ⟨t1, t2, t3⟩ := g_share hI hxo hn0
    refine lv_aload_n hx hb dL_law_1179 rfl (lv_at hl 1 rfl) ?_
    refine xfTD (w1 := cW cy ad en x) (w2 := lW cy aa f) (As := []) (rest := []) hx hb hml hown hw hK hN hA hl.1 hP hD hS hST k_853 k_854 k_855 k_21 k_856 (met_X9_meanSize l hst0 D cy _ ad en g x 0 (FP.ddiv (FP.i2d (sumTo (qS oo) n)) (FP.i2d (nI n))) m1) (gY (x := x) (r := 0) (f := x 12 0) (by decide) rfl) rfl ⟨rfl, rfl⟩ (n := 0) (by decide +kernel) rfl ⟨Nat.le_of_ble_eq_true rfl, Nat.le_of_ble_eq_true rfl⟩ ⟨show _ ≤ 975572 by omega, show _ ≤ 6174753 by omega⟩ (Nat.le_of_ble_eq_true rfl) rfl dL_law_1180 (fun H locs q9 ce9 hne hP hD hS hce hcv hcl => absurd rfl hne) (fun H locs h0 hP hD hS => ?_)
    refine lv_iload hx hb dL_law_1183 (lv_at hl 6 rfl) ?_
    refine lv_i2d hx hb dL_law_1185 ?_
    refine lv_iload_n hx hb dL_law_1186 rfl (lv_at hl 3 rfl) ?_
    refine lv_i2d hx hb dL_law_1187 ?_
    refine lv_ddiv hx hb dL_law_1188 (n64_iff.mp m2) ?_
    refine lv_dcmp hx hb dL_law_1189 ?_
    rw [m3]
    refine lv_if_ne (tgt := 1229) hx hb dL_law_1190 (by decide) (fun h => absurd rfl h) (fun _ => ?_)
    refine lv_aload_n hx hb dL_law_1193 rfl (lv_at hl 1 rfl) ?_
    refine xfTF (w1 := cW cy ad en x) (w2 := lW cy aa f) (As := []) (rest := []) hx hb hml hown hw hK hN hA hl.1 hP hD hS hST k_877 k_878 k_879 k_21 k_880 (met_X9_titledShare l hst0 D cy _ ad en g x 0 (FP.fdiv (FP.i2f (sumTo (qT oo) n)) (FP.i2f (nI n))) t1) (gY (x := x) (r := 0) (f := x 12 0) (by decide) rfl) rfl ⟨rfl, rfl⟩ (n := 0) (by decide +kernel) rfl ⟨Nat.le_of_ble_eq_true rfl, Nat.le_of_ble_eq_true rfl⟩ ⟨show _ ≤ 975572 by omega, show _ ≤ 6174753 by omega⟩ (Nat.le_of_ble_eq_true rfl) rfl dL_law_1194 (fun H locs q9 ce9 hne hP hD hS hce hcv hcl => absurd rfl hne) (fun H locs h0 hP hD hS => ?_)
    refine lv_iload hx hb dL_law_1197 (lv_at hl 4 rfl) ?_
    refine lv_i2f hx hb dL_law_1199 ?_
    refine lv_iload_n hx hb dL_law_1200 rfl (lv_at hl 3 rfl) ?_
    refine lv_i2f hx hb dL_law_1201 ?_
    refine lv_fdiv hx hb dL_law_1202 (n32_iff.mp t2) ?_
    refine lv_fcmp hx hb dL_law_1203 ?_
    rw [t3]
    refine lv_if_ne (tgt := 1229) hx hb dL_law_1204 (by decide) (fun h => absurd rfl h) (fun _ => ?_)
    exact seg_1207 hC hst0 hI hxo hkc hks hl (by omega) (by omega) hP hD hS kk
end LAWD
