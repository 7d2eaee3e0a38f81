/-! the law: the ranks, the turns -/
section LAWE
variable {p : Program} {l : Launch} {e : Env} {s : State} {m : MethodId} {args : Array Value} {below : List Frame} {meth : Method} {c : Code} {b L : Nat} {xs : Nat → Int32} {A : Nat → Prop} {D : va_G} {cy : Nat → ClassId} {en g : Nat → Nat} {Q : State → Prop} {H : Heap} {locs : List Loc} {ls : Array Slot} {cells slots : Nat} {ad : Nat → Nat → Nat} {x : Mem} {oo : Nat → Nat → Int32} {k n d o : Nat} {aa : Nat → Nat} {f : Nat → Nat → Int32} {kc ks : Nat} {u4 u5 u6 u7 u8 : Int32} {G : Nat → Nat}
theorem g_gr (h : IV k x n d) (hxo : x 0 = oo) : ∃ G : Nat → Nat, (∀ p, p < n → G p < n ∧ D_X9_greatest x (nI p) = some (0, nI (G p))) ∧ ∀ p, p + 1 < n → okC (oo (G p + 7)) (oo (G (p + 1) + 7)) (G p) (G (p + 1)) := by rw [← hxo]; exact f_greatest h
theorem g_rk (hk : k ≤ 500) (h : IV k x n d) (hxo : x 0 = oo) : ∃ G : Nat → Nat, (∀ p, p < 4 → G p < 4 ∧ D_X9_ranked x (nI p) = some (0, nI (G p))) ∧ ∀ p, p + 1 < 4 → okR oo n (G p) (G (p + 1)) := by rw [← hxo]; exact f_ranked hk h
set_option maxHeartbeats 8000000 in
theorem seg_8l (hC : LX p s m c args b L xs A D cy en g) (hst0 : l.stackTraces = false) (hI : IV k x n d) (hxo : x 0 = oo) (hkc : kc ≤ 400000) (hks : ks ≤ 3000000) (hG : ∀ p, p < n → G p < n ∧ D_X9_greatest x (nI p) = some (0, nI (G p))) (hok : ∀ p, p + 1 < n → okC (oo (G p + 7)) (oo (G (p + 1) + 7)) (G p) (G (p + 1)))
    (kk : ∀ (H : Heap) (locs : List Loc) (ls : Array Slot) (cells slots : Nat), cells ≤ kc + 72 → slots ≤ ks + 432 → va_P D vwCl (cW cy ad en x ++ lW cy aa f) H → va_D A (cW cy ad en x ++ lW cy aa f) → va_S A s.heap H locs → lv_has ls 27 [(0, .ref b), (1, .ref (ad 12 0)), (2, .int (nI o)), (3, .int (nI n)), (4, .int u4), (5, .int u5), (6, .int u6), (7, .int u7), (8, .int u8), (9, .ref (aa 0)), (10, .ref (aa 1)), (11, .ref (aa 2)), (12, .ref (aa 3)), (13, .ref (aa 4)), (14, .ref (aa 5)), (15, .ref (aa 6))] → W p l e room_1 s m args below meth c H locs cells slots Q (F0 m 1343 ls [])) :
    n ≤ 6 → ∀ j, j ≤ n → 0 < j → ∀ (H : Heap) (locs : List Loc) (ls : Array Slot) (cells slots : Nat), cells ≤ kc + 12 * j → slots ≤ ks + 72 * j → va_P D vwCl (cW cy ad en x ++ lW cy aa f) H → va_D A (cW cy ad en x ++ lW cy aa f) → va_S A s.heap H locs → lv_has ls 27 [(16, .int (nI j)), (0, .ref b), (1, .ref (ad 12 0)), (2, .int (nI o)), (3, .int (nI n)), (4, .int u4), (5, .int u5), (6, .int u6), (7, .int u7), (8, .int u8), (9, .ref (aa 0)), (10, .ref (aa 1)), (11, .ref (aa 2)), (12, .ref (aa 3)), (13, .ref (aa 4)), (14, .ref (aa 5)), (15, .ref (aa 6))] → W p l e room_1 s m args below meth c H locs cells slots Q (F0 m 1234 ls []) := by
  obtain ⟨hx, hb, hml, hown, hw, hK, hN, hST, hSC, hA⟩ := id hC
  intro hn6
  refine lp ?_ ?_
  · intro h0j H locs ls cells slots hc hs hP hD hS hl
    refine lv_iload hx hb dL_law_1234 (lv_at hl 0 rfl) ?_
    refine lv_iload_n hx hb dL_law_1236 rfl (lv_at hl 4 rfl) ?_
    refine lv_icmp_ge (tgt := 1343) hx hb dL_law_1237 (by decide) (fun _ => ?_) (fun h => absurd (nI_le (Nat.le_refl _) (show n < 2 ^ 31 by omega)) h)
    exact kk H locs ls cells slots (by omega) (by omega) hP hD hS (lv_sub hl [1, 2, 3, 4, 5, 6, 7, 8, 9, 10, 11, 12, 13, 14, 15, 16] rfl)
  · intro j hj ih h0j H locs ls cells slots hc hs hP hD hS hl
    obtain ⟨i, rfl⟩ : ∃ i, j = i + 1 := ⟨j - 1, by omega⟩
    obtain ⟨a1, a2⟩ := hG i (by omega)
    obtain ⟨c1, c2⟩ := hG (i + 1) hj
    obtain ⟨o1, o2⟩ := hok i hj
    refine lv_iload hx hb dL_law_1234 (lv_at hl 0 rfl) ?_
    refine lv_iload_n hx hb dL_law_1236 rfl (lv_at hl 4 rfl) ?_
    refine lv_icmp_ge (tgt := 1343) hx hb dL_law_1237 (by decide) (fun h => absurd h (nI_ge hj (show n < 2 ^ 31 by omega))) (fun _ => ?_)
    refine lv_aload_n hx hb dL_law_1240 rfl (lv_at hl 2 rfl) ?_
    refine lv_iload hx hb dL_law_1241 (lv_at hl 0 rfl) ?_
    refine lv_iconst (v := 1) hx hb dL_law_1243 (by decide) ?_
    refine lv_isub hx hb dL_law_1244 ?_
    rw [show ((nI (i + 1)) - 1) = nI i from nI_m1x i]
    refine xfT (w1 := cW cy ad en x) (w2 := lW cy aa f) (As := [.int (nI i)]) (rest := []) hx hb hml hown hw hK hN hA hl.1 hP hD hS hST k_621 k_622 k_623 k_21 k_624 (met_X9_greatest l hst0 D cy _ ad en g x (nI i) 0 (nI (G i)) a2) (gY (x := x) (r := 0) (f := x 12 0) (by decide) rfl) rfl ⟨rfl, rfl⟩ (n := 1) (by decide +kernel) rfl ⟨Nat.le_of_ble_eq_true rfl, Nat.le_of_ble_eq_true rfl⟩ ⟨show _ ≤ 975572 by omega, show _ ≤ 6174753 by omega⟩ (Nat.le_of_ble_eq_true rfl) rfl dL_law_1245 (fun H locs q9 ce9 hne hP hD hS hce hcv hcl => absurd rfl hne) (fun H locs h0 hP hD hS => ?_)
    refine lv_istore (lv' := [(17, .int (nI (G i))), (16, .int (nI (i + 1))), (0, .ref b), (1, .ref (ad 12 0)), (2, .int (nI o)), (3, .int (nI n)), (4, .int u4), (5, .int u5), (6, .int u6), (7, .int u7), (8, .int u8), (9, .ref (aa 0)), (10, .ref (aa 1)), (11, .ref (aa 2)), (12, .ref (aa 3)), (13, .ref (aa 4)), (14, .ref (aa 5)), (15, .ref (aa 6))]) hx hb dL_law_1248 hl (by decide) rfl (fun ls hl => ?_)
    refine lv_aload_n hx hb dL_law_1250 rfl (lv_at hl 3 rfl) ?_
    refine lv_iload hx hb dL_law_1251 (lv_at hl 1 rfl) ?_
    refine xfT (w1 := cW cy ad en x) (w2 := lW cy aa f) (As := [.int (nI (i + 1))]) (rest := []) hx hb hml hown hw hK hN hA hl.1 hP hD hS hST k_621 k_622 k_623 k_21 k_624 (met_X9_greatest l hst0 D cy _ ad en g x (nI (i + 1)) 0 (nI (G (i + 1))) c2) (gY (x := x) (r := 0) (f := x 12 0) (by decide) rfl) rfl ⟨rfl, rfl⟩ (n := 1) (by decide +kernel) rfl ⟨Nat.le_of_ble_eq_true rfl, Nat.le_of_ble_eq_true rfl⟩ ⟨show _ ≤ 975572 by omega, show _ ≤ 6174753 by omega⟩ (Nat.le_of_ble_eq_true rfl) rfl dL_law_1253 (fun H locs q9 ce9 hne hP hD hS hce hcv hcl => absurd rfl hne) (fun H locs h0 hP hD hS => ?_)
    refine lv_istore (lv' := [(18, .int (nI (G (i + 1)))), (17, .int (nI (G i))), (16, .int (nI (i + 1))), (0, .ref b), (1, .ref (ad 12 0)), (2, .int (nI o)), (3, .int (nI n)), (4, .int u4), (5, .int u5), (6, .int u6), (7, .int u7), (8, .int u8), (9, .ref (aa 0)), (10, .ref (aa 1)), (11, .ref (aa 2)), (12, .ref (aa 3)), (13, .ref (aa 4)), (14, .ref (aa 5)), (15, .ref (aa 6))]) hx hb dL_law_1256 hl (by decide) rfl (fun ls hl => ?_)
    refine lv_aload_n hx hb dL_law_1258 rfl (lv_at hl 4 rfl) ?_
    refine lv_iload hx hb dL_law_1259 (lv_at hl 1 rfl) ?_
    refine lv_iconst (v := 2) hx hb dL_law_1261 (by decide) ?_
    refine xfT (w1 := cW cy ad en x) (w2 := lW cy aa f) (As := [.int (nI (G i)), .int 2]) (rest := []) hx hb hml hown hw hK hN hA hl.1 hP hD hS hST k_315 k_316 k_317 k_21 k_318 (met_X9_cloudOf l hst0 D cy _ ad en g x (nI (G i)) 2 0 (oo (G i + 7) 2) (g_co2 hI hxo a1)) (gY (x := x) (r := 0) (f := x 12 0) (by decide) rfl) rfl ⟨rfl, rfl⟩ (n := 2) (by decide +kernel) rfl ⟨Nat.le_of_ble_eq_true rfl, Nat.le_of_ble_eq_true rfl⟩ ⟨show _ ≤ 975572 by omega, show _ ≤ 6174753 by omega⟩ (Nat.le_of_ble_eq_true rfl) rfl dL_law_1262 (fun H locs q9 ce9 hne hP hD hS hce hcv hcl => absurd rfl hne) (fun H locs h0 hP hD hS => ?_)
    refine lv_aload_n hx hb dL_law_1265 rfl (lv_at hl 4 rfl) ?_
    refine lv_iload hx hb dL_law_1266 (lv_at hl 0 rfl) ?_
    refine lv_iconst (v := 2) hx hb dL_law_1268 (by decide) ?_
    refine xfT (w1 := cW cy ad en x) (w2 := lW cy aa f) (As := [.int (nI (G (i + 1))), .int 2]) (rest := [.int (oo (G i + 7) 2)]) hx hb hml hown hw hK hN hA hl.1 hP hD hS hST k_315 k_316 k_317 k_21 k_318 (met_X9_cloudOf l hst0 D cy _ ad en g x (nI (G (i + 1))) 2 0 (oo (G (i + 1) + 7) 2) (g_co2 hI hxo c1)) (gY (x := x) (r := 0) (f := x 12 0) (by decide) rfl) rfl ⟨rfl, rfl⟩ (n := 2) (by decide +kernel) rfl ⟨Nat.le_of_ble_eq_true rfl, Nat.le_of_ble_eq_true rfl⟩ ⟨show _ ≤ 975572 by omega, show _ ≤ 6174753 by omega⟩ (Nat.le_of_ble_eq_true rfl) rfl dL_law_1269 (fun H locs q9 ce9 hne hP hD hS hce hcv hcl => absurd rfl hne) (fun H locs h0 hP hD hS => ?_)
    refine lv_isub hx hb dL_law_1272 ?_
    refine lv_istore (lv' := [(19, .int ((oo (G i + 7) 2) - (oo (G (i + 1) + 7) 2))), (18, .int (nI (G (i + 1)))), (17, .int (nI (G i))), (16, .int (nI (i + 1))), (0, .ref b), (1, .ref (ad 12 0)), (2, .int (nI o)), (3, .int (nI n)), (4, .int u4), (5, .int u5), (6, .int u6), (7, .int u7), (8, .int u8), (9, .ref (aa 0)), (10, .ref (aa 1)), (11, .ref (aa 2)), (12, .ref (aa 3)), (13, .ref (aa 4)), (14, .ref (aa 5)), (15, .ref (aa 6))]) hx hb dL_law_1273 hl (by decide) rfl (fun ls hl => ?_)
    refine lv_aload_n hx hb dL_law_1275 rfl (lv_at hl 5 rfl) ?_
    refine lv_iload hx hb dL_law_1276 (lv_at hl 2 rfl) ?_
    refine lv_iconst (v := 3) hx hb dL_law_1278 (by decide) ?_
    refine xfT (w1 := cW cy ad en x) (w2 := lW cy aa f) (As := [.int (nI (G i)), .int 3]) (rest := []) hx hb hml hown hw hK hN hA hl.1 hP hD hS hST k_315 k_316 k_317 k_21 k_318 (met_X9_cloudOf l hst0 D cy _ ad en g x (nI (G i)) 3 0 (oo (G i + 7) 3) (g_co3 hI hxo a1)) (gY (x := x) (r := 0) (f := x 12 0) (by decide) rfl) rfl ⟨rfl, rfl⟩ (n := 2) (by decide +kernel) rfl ⟨Nat.le_of_ble_eq_true rfl, Nat.le_of_ble_eq_true rfl⟩ ⟨show _ ≤ 975572 by omega, show _ ≤ 6174753 by omega⟩ (Nat.le_of_ble_eq_true rfl) rfl dL_law_1279 (fun H locs q9 ce9 hne hP hD hS hce hcv hcl => absurd rfl hne) (fun H locs h0 hP hD hS => ?_)
    have j1290 : W p l e room_1 s m args below meth c H locs (cells + 2 + 2 + 2 + 2 + 2) (slots + 12 + 12 + 12 + 12 + 12) Q (F0 m 1290 ls [.int (ti (oo (G i + 7)))]) := by
      refine lv_aload_n hx hb dL_law_1290 rfl (lv_at hl 5 rfl) ?_
      refine lv_iload hx hb dL_law_1291 (lv_at hl 1 rfl) ?_
      refine lv_iconst (v := 3) hx hb dL_law_1293 (by decide) ?_
      refine xfT (w1 := cW cy ad en x) (w2 := lW cy aa f) (As := [.int (nI (G (i + 1))), .int 3]) (rest := [.int (ti (oo (G i + 7)))]) hx hb hml hown hw hK hN hA hl.1 hP hD hS hST k_315 k_316 k_317 k_21 k_318 (met_X9_cloudOf l hst0 D cy _ ad en g x (nI (G (i + 1))) 3 0 (oo (G (i + 1) + 7) 3) (g_co3 hI hxo c1)) (gY (x := x) (r := 0) (f := x 12 0) (by decide) rfl) rfl ⟨rfl, rfl⟩ (n := 2) (by decide +kernel) rfl ⟨Nat.le_of_ble_eq_true rfl, Nat.le_of_ble_eq_true rfl⟩ ⟨show _ ≤ 975572 by omega, show _ ≤ 6174753 by omega⟩ (Nat.le_of_ble_eq_true rfl) rfl dL_law_1294 (fun H locs q9 ce9 hne hP hD hS hce hcv hcl => absurd rfl hne) (fun H locs h0 hP hD hS => ?_)
      have j1305 : W p l e room_1 s m args below meth c H locs (cells + 2 + 2 + 2 + 2 + 2 + 2) (slots + 12 + 12 + 12 + 12 + 12 + 12) Q (F0 m 1305 ls [.int (ti (oo (G (i + 1) + 7))), .int (ti (oo (G i + 7)))]) := by
        refine lv_isub hx hb dL_law_1305 ?_
        refine lv_istore (lv' := [(20, .int ((ti (oo (G i + 7))) - (ti (oo (G (i + 1) + 7))))), (19, .int ((oo (G i + 7) 2) - (oo (G (i + 1) + 7) 2))), (18, .int (nI (G (i + 1)))), (17, .int (nI (G i))), (16, .int (nI (i + 1))), (0, .ref b), (1, .ref (ad 12 0)), (2, .int (nI o)), (3, .int (nI n)), (4, .int u4), (5, .int u5), (6, .int u6), (7, .int u7), (8, .int u8), (9, .ref (aa 0)), (10, .ref (aa 1)), (11, .ref (aa 2)), (12, .ref (aa 3)), (13, .ref (aa 4)), (14, .ref (aa 5)), (15, .ref (aa 6))]) hx hb dL_law_1306 hl (by decide) rfl (fun ls hl => ?_)
        refine lv_iload hx hb dL_law_1308 (lv_at hl 1 rfl) ?_
        refine lv_if_lt (tgt := 1335) hx hb dL_law_1310 (by decide) (fun h => absurd h o1) (fun _ => ?_)
        refine lv_iload hx hb dL_law_1313 (lv_at hl 1 rfl) ?_
        refine lv_if_ne (tgt := 1337) hx hb dL_law_1315 (by decide) (fun h1 => ?_) (fun h2 => ?_)
        · refine lv_iinc (v := nI (i + 1 + 1)) (lv' := [(16, .int (nI (i + 1 + 1))), (20, .int ((ti (oo (G i + 7))) - (ti (oo (G (i + 1) + 7))))), (19, .int ((oo (G i + 7) 2) - (oo (G (i + 1) + 7) 2))), (18, .int (nI (G (i + 1)))), (17, .int (nI (G i))), (0, .ref b), (1, .ref (ad 12 0)), (2, .int (nI o)), (3, .int (nI n)), (4, .int u4), (5, .int u5), (6, .int u6), (7, .int u7), (8, .int u8), (9, .ref (aa 0)), (10, .ref (aa 1)), (11, .ref (aa 2)), (12, .ref (aa 3)), (13, .ref (aa 4)), (14, .ref (aa 5)), (15, .ref (aa 6))]) hx hb dL_law_1337 hl (k := 4) rfl (by rw [nI_succ (i + 1)]; rfl) (by decide) rfl (fun ls hl => ?_)
          refine lv_goto (tgt := 1234) hx hb dL_law_1340 (by decide) ?_
          exact ih (by omega) H locs _ _ _ (by omega) (by omega) hP hD hS (lv_sub hl [0, 5, 6, 7, 8, 9, 10, 11, 12, 13, 14, 15, 16, 17, 18, 19, 20] rfl)
        · obtain ⟨o3, o4⟩ := o2 h2
          refine lv_iload hx hb dL_law_1318 (lv_at hl 0 rfl) ?_
          refine lv_if_lt (tgt := 1335) hx hb dL_law_1320 (by decide) (fun h => absurd h o3) (fun _ => ?_)
          refine lv_iload hx hb dL_law_1323 (lv_at hl 0 rfl) ?_
          refine lv_if_ne (tgt := 1337) hx hb dL_law_1325 (by decide) (fun h3 => ?_) (fun h4 => ?_)
          · refine lv_iinc (v := nI (i + 1 + 1)) (lv' := [(16, .int (nI (i + 1 + 1))), (20, .int ((ti (oo (G i + 7))) - (ti (oo (G (i + 1) + 7))))), (19, .int ((oo (G i + 7) 2) - (oo (G (i + 1) + 7) 2))), (18, .int (nI (G (i + 1)))), (17, .int (nI (G i))), (0, .ref b), (1, .ref (ad 12 0)), (2, .int (nI o)), (3, .int (nI n)), (4, .int u4), (5, .int u5), (6, .int u6), (7, .int u7), (8, .int u8), (9, .ref (aa 0)), (10, .ref (aa 1)), (11, .ref (aa 2)), (12, .ref (aa 3)), (13, .ref (aa 4)), (14, .ref (aa 5)), (15, .ref (aa 6))]) hx hb dL_law_1337 hl (k := 4) rfl (by rw [nI_succ (i + 1)]; rfl) (by decide) rfl (fun ls hl => ?_)
            refine lv_goto (tgt := 1234) hx hb dL_law_1340 (by decide) ?_
            exact ih (by omega) H locs _ _ _ (by omega) (by omega) hP hD hS (lv_sub hl [0, 5, 6, 7, 8, 9, 10, 11, 12, 13, 14, 15, 16, 17, 18, 19, 20] rfl)
          · refine lv_iload hx hb dL_law_1328 (lv_at hl 3 rfl) ?_
            refine lv_iload hx hb dL_law_1330 (lv_at hl 2 rfl) ?_
            refine lv_icmp_le (tgt := 1337) hx hb dL_law_1332 (by decide) (fun _ => ?_) (fun h => absurd (o4 h4) h)
            refine lv_iinc (v := nI (i + 1 + 1)) (lv' := [(16, .int (nI (i + 1 + 1))), (20, .int ((ti (oo (G i + 7))) - (ti (oo (G (i + 1) + 7))))), (19, .int ((oo (G i + 7) 2) - (oo (G (i + 1) + 7) 2))), (18, .int (nI (G (i + 1)))), (17, .int (nI (G i))), (0, .ref b), (1, .ref (ad 12 0)), (2, .int (nI o)), (3, .int (nI n)), (4, .int u4), (5, .int u5), (6, .int u6), (7, .int u7), (8, .int u8), (9, .ref (aa 0)), (10, .ref (aa 1)), (11, .ref (aa 2)), (12, .ref (aa 3)), (13, .ref (aa 4)), (14, .ref (aa 5)), (15, .ref (aa 6))]) hx hb dL_law_1337 hl (k := 4) rfl (by rw [nI_succ (i + 1)]; rfl) (by decide) rfl (fun ls hl => ?_)
            refine lv_goto (tgt := 1234) hx hb dL_law_1340 (by decide) ?_
            exact ih (by omega) H locs _ _ _ (by omega) (by omega) hP hD hS (lv_sub hl [0, 5, 6, 7, 8, 9, 10, 11, 12, 13, 14, 15, 16, 17, 18, 19, 20] rfl)
      refine lv_if_ge (tgt := 1304) hx hb dL_law_1297 (by decide) (fun h1 => ?_) (fun h2 => ?_)
      · refine lv_iconst (v := 1) hx hb dL_law_1304 (by decide) ?_
        rw [show 1 = ti (oo (G (i + 1) + 7)) from by unfold ti; rw [if_pos h1]]
        exact j1305
      · refine lv_iconst (v := 0) hx hb dL_law_1300 (by decide) ?_
        refine lv_goto (tgt := 1305) hx hb dL_law_1301 (by decide) ?_
        rw [show 0 = ti (oo (G (i + 1) + 7)) from by unfold ti; rw [if_neg h2]]
        exact j1305
    refine lv_if_ge (tgt := 1289) hx hb dL_law_1282 (by decide) (fun h1 => ?_) (fun h2 => ?_)
    · refine lv_iconst (v := 1) hx hb dL_law_1289 (by decide) ?_
      rw [show 1 = ti (oo (G i + 7)) from by unfold ti; rw [if_pos h1]]
      exact j1290
    · refine lv_iconst (v := 0) hx hb dL_law_1285 (by decide) ?_
      refine lv_goto (tgt := 1290) hx hb dL_law_1286 (by decide) ?_
      rw [show 0 = ti (oo (G i + 7)) from by unfold ti; rw [if_neg h2]]
      exact j1290
set_option maxHeartbeats 8000000 in
theorem seg_9l (hC : LX p s m c args b L xs A D cy en g) (hst0 : l.stackTraces = false) (hI : IV k x n d) (hxo : x 0 = oo) (hkc : kc ≤ 400000) (hks : ks ≤ 3000000) (hAC : AC oo n f) (hG : ∀ p, p < 4 → G p < 4 ∧ D_X9_ranked x (nI p) = some (0, nI (G p))) (hok : ∀ p, p + 1 < 4 → okR oo n (G p) (G (p + 1)))
    (kk : ∀ (H : Heap) (locs : List Loc) (ls : Array Slot) (cells slots : Nat), cells ≤ kc + 32 → slots ≤ ks + 192 → va_P D vwCl (cW cy ad en x ++ lW cy aa f) H → va_D A (cW cy ad en x ++ lW cy aa f) → va_S A s.heap H locs → lv_has ls 27 [(0, .ref b), (1, .ref (ad 12 0)), (2, .int (nI o)), (3, .int (nI n)), (4, .int u4), (5, .int u5), (6, .int u6), (7, .int u7), (8, .int u8), (9, .ref (aa 0)), (10, .ref (aa 1)), (11, .ref (aa 2)), (12, .ref (aa 3)), (13, .ref (aa 4)), (14, .ref (aa 5)), (15, .ref (aa 6))] → W p l e room_1 s m args below meth c H locs cells slots Q (F0 m 1435 ls [])) :
    ∀ j, j ≤ 4 → 0 < j → ∀ (H : Heap) (locs : List Loc) (ls : Array Slot) (cells slots : Nat), cells ≤ kc + 8 * j → slots ≤ ks + 48 * j → va_P D vwCl (cW cy ad en x ++ lW cy aa f) H → va_D A (cW cy ad en x ++ lW cy aa f) → va_S A s.heap H locs → lv_has ls 27 [(16, .int (nI j)), (0, .ref b), (1, .ref (ad 12 0)), (2, .int (nI o)), (3, .int (nI n)), (4, .int u4), (5, .int u5), (6, .int u6), (7, .int u7), (8, .int u8), (9, .ref (aa 0)), (10, .ref (aa 1)), (11, .ref (aa 2)), (12, .ref (aa 3)), (13, .ref (aa 4)), (14, .ref (aa 5)), (15, .ref (aa 6))] → W p l e room_1 s m args below meth c H locs cells slots Q (F0 m 1346 ls []) := by
  obtain ⟨hx, hb, hml, hown, hw, hK, hN, hST, hSC, hA⟩ := id hC
  refine lp ?_ ?_
  · intro h0j H locs ls cells slots hc hs hP hD hS hl
    refine lv_iload hx hb dL_law_1346 (lv_at hl 0 rfl) ?_
    refine lv_iconst (v := 4) hx hb dL_law_1348 (by decide) ?_
    refine lv_icmp_ge (tgt := 1435) hx hb dL_law_1349 (by decide) (fun _ => ?_) (fun h => absurd (show (4 : Int32) ≤ nI 4 by decide) h)
    exact kk H locs ls cells slots (by omega) (by omega) hP hD hS (lv_sub hl [1, 2, 3, 4, 5, 6, 7, 8, 9, 10, 11, 12, 13, 14, 15, 16] rfl)
  · intro j hj ih h0j H locs ls cells slots hc hs hP hD hS hl
    obtain ⟨i, rfl⟩ : ∃ i, j = i + 1 := ⟨j - 1, by omega⟩
    obtain ⟨a1, a2⟩ := hG i (by omega)
    obtain ⟨c1, c2⟩ := hG (i + 1) hj
    obtain ⟨o1, o2⟩ := hok i hj
    have f1 : f 0 (G i) = cO oo n (G i) := hAC.1 _ a1
    have f2 : f 0 (G (i + 1)) = cO oo n (G (i + 1)) := hAC.1 _ c1
    refine lv_iload hx hb dL_law_1346 (lv_at hl 0 rfl) ?_
    refine lv_iconst (v := 4) hx hb dL_law_1348 (by decide) ?_
    refine lv_icmp_ge (tgt := 1435) hx hb dL_law_1349 (by decide) (fun h => absurd h (show ¬ (4 : Int32) ≤ nI (i + 1) from nI_ge hj (by decide))) (fun _ => ?_)
    refine lv_aload_n hx hb dL_law_1352 rfl (lv_at hl 2 rfl) ?_
    refine lv_iload hx hb dL_law_1353 (lv_at hl 0 rfl) ?_
    refine lv_iconst (v := 1) hx hb dL_law_1355 (by decide) ?_
    refine lv_isub hx hb dL_law_1356 ?_
    rw [show ((nI (i + 1)) - 1) = nI i from nI_m1x i]
    refine xfT (w1 := cW cy ad en x) (w2 := lW cy aa f) (As := [.int (nI i)]) (rest := []) hx hb hml hown hw hK hN hA hl.1 hP hD hS hST k_658 k_659 k_660 k_21 k_661 (met_X9_ranked l hst0 D cy _ ad en g x (nI i) 0 (nI (G i)) a2) (gY (x := x) (r := 0) (f := x 12 0) (by decide) rfl) rfl ⟨rfl, rfl⟩ (n := 1) (by decide +kernel) rfl ⟨Nat.le_of_ble_eq_true rfl, Nat.le_of_ble_eq_true rfl⟩ ⟨show _ ≤ 975572 by omega, show _ ≤ 6174753 by omega⟩ (Nat.le_of_ble_eq_true rfl) rfl dL_law_1357 (fun H locs q9 ce9 hne hP hD hS hce hcv hcl => absurd rfl hne) (fun H locs h0 hP hD hS => ?_)
    refine lv_istore (lv' := [(17, .int (nI (G i))), (16, .int (nI (i + 1))), (0, .ref b), (1, .ref (ad 12 0)), (2, .int (nI o)), (3, .int (nI n)), (4, .int u4), (5, .int u5), (6, .int u6), (7, .int u7), (8, .int u8), (9, .ref (aa 0)), (10, .ref (aa 1)), (11, .ref (aa 2)), (12, .ref (aa 3)), (13, .ref (aa 4)), (14, .ref (aa 5)), (15, .ref (aa 6))]) hx hb dL_law_1360 hl (by decide) rfl (fun ls hl => ?_)
    refine lv_aload_n hx hb dL_law_1362 rfl (lv_at hl 3 rfl) ?_
    refine lv_iload hx hb dL_law_1363 (lv_at hl 1 rfl) ?_
    refine xfT (w1 := cW cy ad en x) (w2 := lW cy aa f) (As := [.int (nI (i + 1))]) (rest := []) hx hb hml hown hw hK hN hA hl.1 hP hD hS hST k_658 k_659 k_660 k_21 k_661 (met_X9_ranked l hst0 D cy _ ad en g x (nI (i + 1)) 0 (nI (G (i + 1))) c2) (gY (x := x) (r := 0) (f := x 12 0) (by decide) rfl) rfl ⟨rfl, rfl⟩ (n := 1) (by decide +kernel) rfl ⟨Nat.le_of_ble_eq_true rfl, Nat.le_of_ble_eq_true rfl⟩ ⟨show _ ≤ 975572 by omega, show _ ≤ 6174753 by omega⟩ (Nat.le_of_ble_eq_true rfl) rfl dL_law_1365 (fun H locs q9 ce9 hne hP hD hS hce hcv hcl => absurd rfl hne) (fun H locs h0 hP hD hS => ?_)
    refine lv_istore (lv' := [(18, .int (nI (G (i + 1)))), (17, .int (nI (G i))), (16, .int (nI (i + 1))), (0, .ref b), (1, .ref (ad 12 0)), (2, .int (nI o)), (3, .int (nI n)), (4, .int u4), (5, .int u5), (6, .int u6), (7, .int u7), (8, .int u8), (9, .ref (aa 0)), (10, .ref (aa 1)), (11, .ref (aa 2)), (12, .ref (aa 3)), (13, .ref (aa 4)), (14, .ref (aa 5)), (15, .ref (aa 6))]) hx hb dL_law_1368 hl (by decide) rfl (fun ls hl => ?_)
    refine lv_aload hx hb dL_law_1370 (lv_at hl 12 rfl) ?_
    refine lv_iload hx hb dL_law_1372 (lv_at hl 1 rfl) ?_
    refine ar_get hx hb hK hP (i := 0) (p9 := (G i)) rfl a1 (by decide) dL_law_1374 ?_
    refine lv_aload hx hb dL_law_1375 (lv_at hl 12 rfl) ?_
    refine lv_iload hx hb dL_law_1377 (lv_at hl 0 rfl) ?_
    refine ar_get hx hb hK hP (i := 0) (p9 := (G (i + 1))) rfl c1 (by decide) dL_law_1379 ?_
    rw [f1, f2]
    refine lv_isub hx hb dL_law_1380 ?_
    refine lv_istore (lv' := [(19, .int ((cO oo n (G i)) - (cO oo n (G (i + 1))))), (18, .int (nI (G (i + 1)))), (17, .int (nI (G i))), (16, .int (nI (i + 1))), (0, .ref b), (1, .ref (ad 12 0)), (2, .int (nI o)), (3, .int (nI n)), (4, .int u4), (5, .int u5), (6, .int u6), (7, .int u7), (8, .int u8), (9, .ref (aa 0)), (10, .ref (aa 1)), (11, .ref (aa 2)), (12, .ref (aa 3)), (13, .ref (aa 4)), (14, .ref (aa 5)), (15, .ref (aa 6))]) hx hb dL_law_1381 hl (by decide) rfl (fun ls hl => ?_)
    refine lv_aload_n hx hb dL_law_1383 rfl (lv_at hl 5 rfl) ?_
    refine lv_iload hx hb dL_law_1384 (lv_at hl 2 rfl) ?_
    refine lv_iconst (v := 0) hx hb dL_law_1386 (by decide) ?_
    refine xfT (w1 := cW cy ad en x) (w2 := lW cy aa f) (As := [.int (nI (G i)), .int 0]) (rest := []) hx hb hml hown hw hK hN hA hl.1 hP hD hS hST k_424 k_425 k_426 k_21 k_427 (met_X9_ownerOf l hst0 D cy _ ad en g x (nI (G i)) 0 0 (oo 3 (G i)) (g_ow0 hxo a1)) (gY (x := x) (r := 0) (f := x 12 0) (by decide) rfl) rfl ⟨rfl, rfl⟩ (n := 2) (by decide +kernel) rfl ⟨Nat.le_of_ble_eq_true rfl, Nat.le_of_ble_eq_true rfl⟩ ⟨show _ ≤ 975572 by omega, show _ ≤ 6174753 by omega⟩ (Nat.le_of_ble_eq_true rfl) rfl dL_law_1387 (fun H locs q9 ce9 hne hP hD hS hce hcv hcl => absurd rfl hne) (fun H locs h0 hP hD hS => ?_)
    refine lv_aload_n hx hb dL_law_1390 rfl (lv_at hl 5 rfl) ?_
    refine lv_iload hx hb dL_law_1391 (lv_at hl 1 rfl) ?_
    refine lv_iconst (v := 0) hx hb dL_law_1393 (by decide) ?_
    refine xfT (w1 := cW cy ad en x) (w2 := lW cy aa f) (As := [.int (nI (G (i + 1))), .int 0]) (rest := [.int (oo 3 (G i))]) hx hb hml hown hw hK hN hA hl.1 hP hD hS hST k_424 k_425 k_426 k_21 k_427 (met_X9_ownerOf l hst0 D cy _ ad en g x (nI (G (i + 1))) 0 0 (oo 3 (G (i + 1))) (g_ow0 hxo c1)) (gY (x := x) (r := 0) (f := x 12 0) (by decide) rfl) rfl ⟨rfl, rfl⟩ (n := 2) (by decide +kernel) rfl ⟨Nat.le_of_ble_eq_true rfl, Nat.le_of_ble_eq_true rfl⟩ ⟨show _ ≤ 975572 by omega, show _ ≤ 6174753 by omega⟩ (Nat.le_of_ble_eq_true rfl) rfl dL_law_1394 (fun H locs q9 ce9 hne hP hD hS hce hcv hcl => absurd rfl hne) (fun H locs h0 hP hD hS => ?_)
    refine lv_isub hx hb dL_law_1397 ?_
    refine lv_istore (lv' := [(20, .int ((oo 3 (G i)) - (oo 3 (G (i + 1))))), (19, .int ((cO oo n (G i)) - (cO oo n (G (i + 1))))), (18, .int (nI (G (i + 1)))), (17, .int (nI (G i))), (16, .int (nI (i + 1))), (0, .ref b), (1, .ref (ad 12 0)), (2, .int (nI o)), (3, .int (nI n)), (4, .int u4), (5, .int u5), (6, .int u6), (7, .int u7), (8, .int u8), (9, .ref (aa 0)), (10, .ref (aa 1)), (11, .ref (aa 2)), (12, .ref (aa 3)), (13, .ref (aa 4)), (14, .ref (aa 5)), (15, .ref (aa 6))]) hx hb dL_law_1398 hl (by decide) rfl (fun ls hl => ?_)
    refine lv_iload hx hb dL_law_1400 (lv_at hl 1 rfl) ?_
    refine lv_if_lt (tgt := 1427) hx hb dL_law_1402 (by decide) (fun h => absurd h o1) (fun _ => ?_)
    refine lv_iload hx hb dL_law_1405 (lv_at hl 1 rfl) ?_
    refine lv_if_ne (tgt := 1429) hx hb dL_law_1407 (by decide) (fun h1 => ?_) (fun h2 => ?_)
    · refine lv_iinc (v := nI (i + 1 + 1)) (lv' := [(16, .int (nI (i + 1 + 1))), (20, .int ((oo 3 (G i)) - (oo 3 (G (i + 1))))), (19, .int ((cO oo n (G i)) - (cO oo n (G (i + 1))))), (18, .int (nI (G (i + 1)))), (17, .int (nI (G i))), (0, .ref b), (1, .ref (ad 12 0)), (2, .int (nI o)), (3, .int (nI n)), (4, .int u4), (5, .int u5), (6, .int u6), (7, .int u7), (8, .int u8), (9, .ref (aa 0)), (10, .ref (aa 1)), (11, .ref (aa 2)), (12, .ref (aa 3)), (13, .ref (aa 4)), (14, .ref (aa 5)), (15, .ref (aa 6))]) hx hb dL_law_1429 hl (k := 4) rfl (by rw [nI_succ (i + 1)]; rfl) (by decide) rfl (fun ls hl => ?_)
      refine lv_goto (tgt := 1346) hx hb dL_law_1432 (by decide) ?_
      exact ih (by omega) H locs _ _ _ (by omega) (by omega) hP hD hS (lv_sub hl [0, 5, 6, 7, 8, 9, 10, 11, 12, 13, 14, 15, 16, 17, 18, 19, 20] rfl)
    · obtain ⟨o3, o4⟩ := o2 h2
      refine lv_iload hx hb dL_law_1410 (lv_at hl 0 rfl) ?_
      refine lv_if_lt (tgt := 1427) hx hb dL_law_1412 (by decide) (fun h => absurd h o3) (fun _ => ?_)
      refine lv_iload hx hb dL_law_1415 (lv_at hl 0 rfl) ?_
      refine lv_if_ne (tgt := 1429) hx hb dL_law_1417 (by decide) (fun h3 => ?_) (fun h4 => ?_)
      · refine lv_iinc (v := nI (i + 1 + 1)) (lv' := [(16, .int (nI (i + 1 + 1))), (20, .int ((oo 3 (G i)) - (oo 3 (G (i + 1))))), (19, .int ((cO oo n (G i)) - (cO oo n (G (i + 1))))), (18, .int (nI (G (i + 1)))), (17, .int (nI (G i))), (0, .ref b), (1, .ref (ad 12 0)), (2, .int (nI o)), (3, .int (nI n)), (4, .int u4), (5, .int u5), (6, .int u6), (7, .int u7), (8, .int u8), (9, .ref (aa 0)), (10, .ref (aa 1)), (11, .ref (aa 2)), (12, .ref (aa 3)), (13, .ref (aa 4)), (14, .ref (aa 5)), (15, .ref (aa 6))]) hx hb dL_law_1429 hl (k := 4) rfl (by rw [nI_succ (i + 1)]; rfl) (by decide) rfl (fun ls hl => ?_)
        refine lv_goto (tgt := 1346) hx hb dL_law_1432 (by decide) ?_
        exact ih (by omega) H locs _ _ _ (by omega) (by omega) hP hD hS (lv_sub hl [0, 5, 6, 7, 8, 9, 10, 11, 12, 13, 14, 15, 16, 17, 18, 19, 20] rfl)
      · refine lv_iload hx hb dL_law_1420 (lv_at hl 3 rfl) ?_
        refine lv_iload hx hb dL_law_1422 (lv_at hl 2 rfl) ?_
        refine lv_icmp_le (tgt := 1429) hx hb dL_law_1424 (by decide) (fun _ => ?_) (fun h => absurd (o4 h4) h)
        refine lv_iinc (v := nI (i + 1 + 1)) (lv' := [(16, .int (nI (i + 1 + 1))), (20, .int ((oo 3 (G i)) - (oo 3 (G (i + 1))))), (19, .int ((cO oo n (G i)) - (cO oo n (G (i + 1))))), (18, .int (nI (G (i + 1)))), (17, .int (nI (G i))), (0, .ref b), (1, .ref (ad 12 0)), (2, .int (nI o)), (3, .int (nI n)), (4, .int u4), (5, .int u5), (6, .int u6), (7, .int u7), (8, .int u8), (9, .ref (aa 0)), (10, .ref (aa 1)), (11, .ref (aa 2)), (12, .ref (aa 3)), (13, .ref (aa 4)), (14, .ref (aa 5)), (15, .ref (aa 6))]) hx hb dL_law_1429 hl (k := 4) rfl (by rw [nI_succ (i + 1)]; rfl) (by decide) rfl (fun ls hl => ?_)
        refine lv_goto (tgt := 1346) hx hb dL_law_1432 (by decide) ?_
        exact ih (by omega) H locs _ _ _ (by omega) (by omega) hP hD hS (lv_sub hl [0, 5, 6, 7, 8, 9, 10, 11, 12, 13, 14, 15, 16, 17, 18, 19, 20] rfl)
set_option maxHeartbeats 8000000 in
set_option maxRecDepth 100000 in
theorem seg_turn (hC : LX p s m c args b L xs A D cy en g) (hst0 : l.stackTraces = false) (hk : k ≤ 500) (hI : IV k x n d) (hkc : kc ≤ 300000) (hks : ks ≤ 2000000) (hl : lv_has ls 27 [(0, .ref b), (1, .ref (ad 12 0)), (2, .int (nI o))]) (hc : cells ≤ kc) (hs : slots ≤ ks) (hP : va_P D vwCl (cW cy ad en x) H) (hD : va_D A (cW cy ad en x)) (hS : va_S A s.heap H locs)
    (kk : ∀ (x : Mem) (aa : Nat → Nat) (f : Nat → Nat → Int32) (H : Heap) (locs : List Loc) (ls : Array Slot) (cells slots : Nat), IV k x n d → cells ≤ kc + 3200 → slots ≤ ks + 20000 → va_P D vwCl (cW cy ad en x ++ lW cy aa f) H → va_D A (cW cy ad en x ++ lW cy aa f) → va_S A s.heap H locs → lv_has ls 27 [(0, .ref b), (1, .ref (ad 12 0)), (2, .int (nI o))] → W p l e room_1 s m args below meth c H locs cells slots Q (F0 m 1435 ls [])) : W p l e room_1 s m args below meth c H locs cells slots Q (F0 m 20 ls []) := by
  obtain ⟨hx, hb, hml, hown, hw, hK, hN, hST, hSC, hA⟩ := id hC
  have hn6 := hI.1.1
  refine seg_S1 hC hst0 hI (kc := kc) (ks := ks) (by omega) (by omega) hl hc hs hP hD hS (fun aa H locs ls cells slots hc hs hP hD hS hl => ?_)
  refine seg_S2 (kc := kc + 9) (ks := ks + 44) hC hst0 hI rfl (by omega) (by omega) (fun f H locs ls cells slots hz hF hc hs hP hD hS hl => ?_) 0 (Nat.zero_le _) (fun _ _ => 0) H locs ls cells slots (fun _ _ _ => rfl) (AS.zero fun _ => rfl) (by omega) (by omega) hP hD hS hl
  refine lv_iconst (v := 0) hx hb dL_law_132 (by decide) ?_
  refine lv_istore (lv' := [(16, .int 0), (0, .ref b), (1, .ref (ad 12 0)), (2, .int (nI o)), (3, .int (nI n)), (4, .int 0), (5, .int 0), (6, .int 0), (7, .int (sumTo (q2 (x 0)) 6)), (8, .int 0), (9, .ref (aa 0)), (10, .ref (aa 1)), (11, .ref (aa 2)), (12, .ref (aa 3)), (13, .ref (aa 4)), (14, .ref (aa 5)), (15, .ref (aa 6))]) hx hb dL_law_133 hl (by decide) rfl (fun ls hl => ?_)
  refine seg_S3 (kc := kc + 21) (ks := ks + 116) (oo := x 0) (n := n) (d := d) (k := k) hC hst0 (by omega) (by omega) (fun x1 f H locs ls cells slots hI1 hx1 hAC hc hs hP hD hS hl => ?_) hn6 0 (Nat.zero_le _) x f H locs ls cells slots hI rfl ⟨AS.zero (hz 0 (by omega)), AS.zero (hz 1 (by omega)), AS.zero (hz 2 (by omega)), AS.zero (hz 3 (by omega)), AS.zero (hz 4 (by omega)), AS.zero (hz 5 (by omega)), hF⟩ (by omega) (by omega) hP hD hS (lv_sub hl [0, 1, 2, 3, 4, 5, 6, 7, 8, 9, 10, 11, 12, 13, 14, 15, 16] rfl)
  refine lv_iconst (v := 0) hx hb dL_law_675 (by decide) ?_
  refine lv_istore (lv' := [(16, .int 0), (0, .ref b), (1, .ref (ad 12 0)), (2, .int (nI o)), (3, .int (nI n)), (4, .int (sumTo (qT (x 0)) n)), (5, .int (sumTo (qP (x 0)) n)), (6, .int (sumTo (qS (x 0)) n)), (7, .int (sumTo (q2 (x 0)) 6)), (8, .int 0), (9, .ref (aa 0)), (10, .ref (aa 1)), (11, .ref (aa 2)), (12, .ref (aa 3)), (13, .ref (aa 4)), (14, .ref (aa 5)), (15, .ref (aa 6))]) hx hb dL_law_676 hl (by decide) rfl (fun ls hl => ?_)
  refine seg_S4 (kc := kc + 21 + 600) (ks := ks + 116 + 4200) (oo := x 0) (n := n) (d := d) (k := k) hC hst0 hk (by omega) (by omega) hn6 hAC (fun x2 H locs ls cells slots hI2 hx2 hc hs hP hD hS hl => ?_) 0 (Nat.zero_le _) x1 H locs ls cells slots hI1 hx1 (by omega) (by omega) hP hD hS (lv_sub hl [0, 1, 2, 3, 4, 5, 6, 7, 8, 9, 10, 11, 12, 13, 14, 15, 16] rfl)
  refine lv_iconst (v := 0) hx hb dL_law_917 (by decide) ?_
  refine lv_istore (lv' := [(16, .int 0), (0, .ref b), (1, .ref (ad 12 0)), (2, .int (nI o)), (3, .int (nI n)), (4, .int (sumTo (qT (x 0)) n)), (5, .int (sumTo (qP (x 0)) n)), (6, .int (sumTo (qS (x 0)) n)), (7, .int (sumTo (q2 (x 0)) 6)), (8, .int (sumTo (q3 (x 0)) 4)), (9, .ref (aa 0)), (10, .ref (aa 1)), (11, .ref (aa 2)), (12, .ref (aa 3)), (13, .ref (aa 4)), (14, .ref (aa 5)), (15, .ref (aa 6))]) hx hb dL_law_918 hl (by decide) rfl (fun ls hl => ?_)
  refine seg_S5 (kc := kc + 21 + 600 + 2000) (ks := ks + 116 + 4200 + 12000) hC hst0 hI2 hx2 (by omega) (by omega) hAC (fun H locs ls cells slots hc hs hP hD hS hl => ?_) 0 (Nat.zero_le _) H locs ls cells slots (by omega) (by omega) hP hD hS (lv_sub hl [0, 1, 2, 3, 4, 5, 6, 7, 8, 9, 10, 11, 12, 13, 14, 15, 16] rfl)
  refine lv_iconst (v := 0) hx hb dL_law_965 (by decide) ?_
  refine lv_istore (lv' := [(16, .int 0), (0, .ref b), (1, .ref (ad 12 0)), (2, .int (nI o)), (3, .int (nI n)), (4, .int (sumTo (qT (x 0)) n)), (5, .int (sumTo (qP (x 0)) n)), (6, .int (sumTo (qS (x 0)) n)), (7, .int (sumTo (q2 (x 0)) 6)), (8, .int (sumTo (q3 (x 0)) 4)), (9, .ref (aa 0)), (10, .ref (aa 1)), (11, .ref (aa 2)), (12, .ref (aa 3)), (13, .ref (aa 4)), (14, .ref (aa 5)), (15, .ref (aa 6))]) hx hb dL_law_966 hl (by decide) rfl (fun ls hl => ?_)
  refine seg_S6 (kc := kc + 21 + 600 + 2000 + 24) (ks := ks + 116 + 4200 + 12000 + 144) (oo := x 0) (n := n) (d := d) (k := k) hC hst0 hk (by omega) (by omega) (fun x3 H locs ls cells slots hI3 hx3 hc hs hP hD hS hl => ?_) 0 (Nat.zero_le _) x2 H locs ls cells slots hI2 hx2 (by omega) (by omega) hP hD hS (lv_sub hl [0, 1, 2, 3, 4, 5, 6, 7, 8, 9, 10, 11, 12, 13, 14, 15, 16] rfl)
  refine seg_S7 (kc := kc + 2945) (ks := ks + 18260) hC hst0 hI3 hx3 (by omega) (by omega) hl (by omega) (by omega) hP hD hS (fun H locs cells slots hc hs hP hD hS => ?_)
  refine lv_iconst (v := 1) hx hb dL_law_1231 (by decide) ?_
  rw [show 1 = nI 1 from rfl]
  refine lv_istore (lv' := [(16, .int (nI 1)), (0, .ref b), (1, .ref (ad 12 0)), (2, .int (nI o)), (3, .int (nI n)), (4, .int (sumTo (qT (x 0)) n)), (5, .int (sumTo (qP (x 0)) n)), (6, .int (sumTo (qS (x 0)) n)), (7, .int (sumTo (q2 (x 0)) 6)), (8, .int (sumTo (q3 (x 0)) 4)), (9, .ref (aa 0)), (10, .ref (aa 1)), (11, .ref (aa 2)), (12, .ref (aa 3)), (13, .ref (aa 4)), (14, .ref (aa 5)), (15, .ref (aa 6))]) hx hb dL_law_1232 hl (by decide) rfl (fun ls hl => ?_)
  obtain ⟨G, hG, hok⟩ := g_gr hI3 hx3
  obtain ⟨G2, hG2, hok2⟩ := g_rk hk hI3 hx3
  have j1343 : ∀ (H : Heap) (locs : List Loc) (ls : Array Slot) (cells slots : Nat), cells ≤ kc + 3060 → slots ≤ ks + 18950 → va_P D vwCl (cW cy ad en x3 ++ lW cy aa f) H → va_D A (cW cy ad en x3 ++ lW cy aa f) → va_S A s.heap H locs → lv_has ls 27 [(0, .ref b), (1, .ref (ad 12 0)), (2, .int (nI o)), (3, .int (nI n)), (4, .int (sumTo (qT (x 0)) n)), (5, .int (sumTo (qP (x 0)) n)), (6, .int (sumTo (qS (x 0)) n)), (7, .int (sumTo (q2 (x 0)) 6)), (8, .int (sumTo (q3 (x 0)) 4)), (9, .ref (aa 0)), (10, .ref (aa 1)), (11, .ref (aa 2)), (12, .ref (aa 3)), (13, .ref (aa 4)), (14, .ref (aa 5)), (15, .ref (aa 6))] → W p l e room_1 s m args below meth c H locs cells slots Q (F0 m 1343 ls []) := by
    intro H locs ls cells slots hc hs hP hD hS hl
    refine lv_iconst (v := 1) hx hb dL_law_1343 (by decide) ?_
    rw [show 1 = nI 1 from rfl]
    refine lv_istore (lv' := [(16, .int (nI 1)), (0, .ref b), (1, .ref (ad 12 0)), (2, .int (nI o)), (3, .int (nI n)), (4, .int (sumTo (qT (x 0)) n)), (5, .int (sumTo (qP (x 0)) n)), (6, .int (sumTo (qS (x 0)) n)), (7, .int (sumTo (q2 (x 0)) 6)), (8, .int (sumTo (q3 (x 0)) 4)), (9, .ref (aa 0)), (10, .ref (aa 1)), (11, .ref (aa 2)), (12, .ref (aa 3)), (13, .ref (aa 4)), (14, .ref (aa 5)), (15, .ref (aa 6))]) hx hb dL_law_1344 hl (by decide) rfl (fun ls hl => ?_)
    refine seg_9l (kc := kc + 3060) (ks := ks + 18950) (j := 1) hC hst0 hI3 hx3 (by omega) (by omega) hAC hG2 hok2 (fun H locs ls cells slots hc hs hP hD hS hl => ?_) (by decide) (by decide) H locs _ _ _ (by omega) (by omega) hP hD hS (lv_sub hl [0, 1, 2, 3, 4, 5, 6, 7, 8, 9, 10, 11, 12, 13, 14, 15, 16] rfl)
    exact kk x3 aa f H locs ls cells slots hI3 (by omega) (by omega) hP hD hS (lv_sub hl [0, 1, 2] rfl)
  by_cases hn0 : n = 0
  · refine lv_iload hx hb dL_law_1234 (lv_at hl 0 rfl) ?_
    refine lv_iload_n hx hb dL_law_1236 rfl (lv_at hl 4 rfl) ?_
    refine lv_icmp_ge (tgt := 1343) hx hb dL_law_1237 (by decide) (fun _ => ?_) (fun h => absurd (by rw [hn0]; decide) h)
    exact j1343 H locs ls _ _ (by omega) (by omega) hP hD hS (lv_sub hl [1, 2, 3, 4, 5, 6, 7, 8, 9, 10, 11, 12, 13, 14, 15, 16] rfl)
  · refine seg_8l (kc := kc + 2945 + 38) (ks := ks + 18260 + 228) (j := 1) hC hst0 hI3 hx3 (by omega) (by omega) hG hok (fun H locs ls cells slots hc hs hP hD hS hl => j1343 H locs ls cells slots (by omega) (by omega) hP hD hS hl) hn6 (by omega) (by decide) H locs _ _ _ (by omega) (by omega) hP hD hS (lv_sub hl [0, 1, 2, 3, 4, 5, 6, 7, 8, 9, 10, 11, 12, 13, 14, 15, 16] rfl)
set_option maxHeartbeats 8000000 in
theorem seg_turns (hC : LX p s m c args b L xs A D cy en g) (hst0 : l.stackTraces = false) (hL : L ≤ 260)
    (kk : ∀ (H : Heap) (locs : List Loc) (ls : Array Slot) (cells slots : Nat), cells ≤ 20000 → slots ≤ 120000 → va_S A s.heap H locs → W p l e room_1 s m args below meth c H locs cells slots Q (F0 m 1453 ls [.int 1])) :
    ∀ o, o ≤ 4 → ∀ (x : Mem) (H : Heap) (locs : List Loc) (ls : Array Slot) (cells slots : Nat), INV (23 + o) x → cells ≤ 400 + 4000 * o → slots ≤ 3000 + 24000 * o → va_P D vwCl (cW cy ad en x) H → va_D A (cW cy ad en x) → va_S A s.heap H locs → lv_has ls 27 [(0, .ref b), (1, .ref (ad 12 0)), (2, .int (nI o))] → W p l e room_1 s m args below meth c H locs cells slots Q (F0 m 15 ls []) := by
  obtain ⟨hx, hb, hml, hown, hw, hK, hN, hST, hSC, hA⟩ := id hC
  refine lp ?_ ?_
  · intro x H locs ls cells slots hINV hc hs hP hD hS hl
    refine lv_iload_n hx hb dL_law_15 rfl (lv_at hl 2 rfl) ?_
    refine lv_iconst (v := 4) hx hb dL_law_16 (by decide) ?_
    refine lv_icmp_ge (tgt := 1452) hx hb dL_law_17 (by decide) (fun _ => ?_) (fun h => absurd (show (4 : Int32) ≤ nI 4 by decide) h)
    refine lv_iconst (v := 1) hx hb dL_law_1452 (by decide) ?_
    exact kk H locs ls cells slots (by omega) (by omega) hS
  · intro o ho ih x H locs ls cells slots hINV hc hs hP hD hS hl
    obtain ⟨n, d, hI⟩ := hINV
    refine lv_iload_n hx hb dL_law_15 rfl (lv_at hl 2 rfl) ?_
    refine lv_iconst (v := 4) hx hb dL_law_16 (by decide) ?_
    refine lv_icmp_ge (tgt := 1452) hx hb dL_law_17 (by decide) (fun h => absurd h (show ¬ (4 : Int32) ≤ nI o from nI_ge ho (by decide))) (fun _ => ?_)
    refine seg_turn (kc := 400 + 4000 * o) (ks := 3000 + 24000 * o) (o := o) hC hst0 (by omega) hI (by omega) (by omega) hl hc hs hP hD hS (fun x aa f H locs ls cells slots hI hc hs hP hD hS hl => ?_)
    refine lv_aload_n hx hb dL_law_1435 rfl (lv_at hl 1 rfl) ?_
    refine lv_aload_n hx hb dL_law_1436 rfl (lv_at hl 0 rfl) ?_
    refine lv_bipush (v := 90) hx hb dL_law_1437 (by decide) ?_
    refine lv_iconst (v := 4) hx hb dL_law_1439 (by decide) ?_
    refine lv_iload_n hx hb dL_law_1440 rfl (lv_at hl 2 rfl) ?_
    refine lv_imul hx hb dL_law_1441 ?_
    rw [show (4 : Int32) * nI o = nI (4 * o) from pk_mul 4 o]
    refine lv_iadd hx hb dL_law_1442 ?_
    rw [show (90 : Int32) + nI (4 * o) = nI (90 + 4 * o) from nI_add 90 (4 * o)]
    refine fSk (w1 := cW cy ad en x) (w2 := lW cy aa f) (As := [.ref (ad 12 0), .ref b, .int (nI (90 + 4 * o))]) (rest := []) hx hb hml hown hw hK hN hA hl.1 hP hD hS k_1100 k_1101 k_20 k_1102 (met_L_acts l hst0 D cy _ ad en g b L xs x (k := 23 + o) (by omega) ⟨n, d, hI⟩ (90 + 4 * o) (by omega) hL) (XL_call hST hSC hS (fr_F hS hD hA)) Xok_L ⟨rfl, rfl⟩ (n := 3) (by decide +kernel) rfl ⟨Nat.le_of_ble_eq_true rfl, Nat.le_of_ble_eq_true rfl⟩ ⟨show _ ≤ 975572 by omega, show _ ≤ 6174753 by omega⟩ (Nat.le_of_ble_eq_true rfl) rfl dL_law_1443 (fun w9 H locs h9 hP hD hS => ?_)
    obtain ⟨x', hJ, hw9⟩ := h9
    subst hw9
    refine lv_iinc (v := nI (o + 1)) (lv' := [(2, .int (nI (o + 1))), (0, .ref b), (1, .ref (ad 12 0))]) hx hb dL_law_1446 hl (k := 2) rfl (by rw [nI_succ]; rfl) (by decide) rfl (fun ls hl => ?_)
    refine lv_goto (tgt := 15) hx hb dL_law_1449 (by decide) ?_
    exact ih x' H locs _ _ _ hJ (bmul (by omega)) (bmul (by omega)) (fr_l hP) (fr_dl hD) hS (lv_sub hl [1, 2, 0] rfl)
end LAWE
