/-! the law: the players, the vineyards, the dawns -/
section LAWC
variable {p : Program} {l : Launch} {e : Env} {s : State} {m : MethodId} {args : Array Value} {below : List Frame} {meth : Method} {c : Code} {b L : Nat} {xs : Nat → Int32} {A : Nat → Prop} {D : va_G} {cy : Nat → ClassId} {en g : Nat → Nat} {Q : State → Prop} {H : Heap} {locs : List Loc} {ls : Array Slot} {cells slots : Nat} {ad : Nat → Nat → Nat} {x : Mem} {oo : Nat → Nat → Int32} {k n d o : Nat} {aa : Nat → Nat} {f : Nat → Nat → Int32} {kc ks : Nat} {u4 u5 u6 u7 u8 : Int32}
theorem bmul {c9 k9 m9 i9 : Nat} (h : c9 ≤ k9 + m9 * i9 + m9) : c9 ≤ k9 + m9 * (i9 + 1) := by rw [Nat.mul_succ, ← Nat.add_assoc]; exact h
def q3 (o : Nat → Nat → Int32) (j : Nat) : Int32 := o 3 j
theorem IV.to {x' : Mem} (h : IV k x n d) (hxo : x 0 = oo) (hx : ∀ q, q ≠ 2 → x' q = x q) : IV k x' n d ∧ x' 0 = oo := ⟨h.im hx, (hx 0 (by omega)).trans hxo⟩
theorem g_would {pl : Nat} {w : Int32} (hk : k ≤ 500) (h : IV k x n d) (hxo : x 0 = oo) (hp : pl < 4) (hw : rng w (-3) 3) : ∃ x' : Mem, D_X9_would x (nI pl) w = some (0, wval oo n (nI pl) w, x') ∧ IV k x' n d ∧ x' 0 = oo := by
  rw [← hxo]
  obtain ⟨x', e, hx⟩ := f_would hk h hp hw
  exact ⟨x', e, h.im hx, hx 0 (by omega)⟩
theorem g_best {pl : Nat} (hk : k ≤ 500) (h : IV k x n d) (hxo : x 0 = oo) (hp : pl < 4) : ∃ x' : Mem, D_X9_bestWind x (nI pl) = some (0, bestN (wval oo n (nI pl)) 6, x') ∧ IV k x' n d ∧ x' 0 = oo := by
  rw [← hxo]
  obtain ⟨x', e, hx⟩ := f_best hk h hp
  exact ⟨x', e, h.im hx, hx 0 (by omega)⟩
theorem g_ow0 {pl : Nat} (hxo : x 0 = oo) (hp : pl < 4) : D_X9_ownerOf x (nI pl) 0 = some (0, oo 3 pl) := by rw [← hxo]; exact f_ownerOf0 x hp
theorem g_ow1 {pl : Nat} (hxo : x 0 = oo) (hp : pl < 4) : D_X9_ownerOf x (nI pl) 1 = some (0, sumTo (fun j => if oo 2 j = nI pl then 1 else 0) 6) := by rw [← hxo]; exact f_ownerOf1 x hp
theorem g_ow2 {pl : Nat} (h : IV k x n d) (hxo : x 0 = oo) (hp : pl < 4) : D_X9_ownerOf x (nI pl) 2 = some (0, sumTo (fun j => if oo (j + 7) 5 = nI pl then 1 else 0) n) := by rw [← hxo]; exact f_ownerOf2 h hp
theorem g_ow3 {pl : Nat} (h : IV k x n d) (hxo : x 0 = oo) (hp : pl < 4) : D_X9_ownerOf x (nI pl) 3 = some (0, sumTo (fun j => if oo (j + 7) 3 = nI pl then qP oo j else 0) n) := by
  rw [f_ownerOf3 h hp, hxo]
  congr 2
  refine sumTo_cg (fun j hj => ?_)
  unfold qP
  by_cases e : oo (j + 7) 5 = -1
  · rw [if_pos e, if_pos ((hPl _).mpr e)]
  · rw [if_neg e, if_neg (fun z => e ((hPl _).mp z))]
theorem g_ow4 {pl : Nat} (h : IV k x n d) (hxo : x 0 = oo) (hp : pl < 4) : D_X9_ownerOf x (nI pl) 4 = some (0, sumTo (fun j => if oo (j + 7) 3 = nI pl then qS oo j else 0) n) := by rw [← hxo]; exact f_ownerOf4 h hp
theorem g_cl {pl : Nat} (h : IV k x n d) (hxo : x 0 = oo) (hp : pl < 4) : D_X9_clouds x (nI pl) = some (0, sumTo (fun j => if oo (j + 7) 3 = nI pl then 1 else 0) n) ∧ D_X9_cloudsAgain x (nI pl) = some (0, sumTo (fun j => if oo (j + 7) 3 = nI pl then 1 else 0) n) := by rw [← hxo]; exact ⟨f_clouds h hp, f_cloudsAgain h hp⟩
theorem g_vy1 {v : Nat} (h : IV k x n d) (hxo : x 0 = oo) (hv : v < 6) : D_X9_vineyardOf x (nI v) 1 = some (0, sumTo (fun j => if oo (j + 7) 0 = nI v then 1 else 0) n) ∧ D_X9_vineyardOf x (nI v) 2 = some (0, sumTo (fun j => if oo (j + 7) 0 = nI v then qS oo j else 0) n) := by rw [← hxo]; exact ⟨f_vineyardOf1 h hv, f_vineyardOf2 h hv⟩
set_option maxHeartbeats 4000000 in
theorem seg_a (hC : LX p s m c args b L xs A D cy en g) (hst0 : l.stackTraces = false) {pl : Nat} {w m9 b9 : Int32} (hw3 : rng w (-3) 3) (hI : IV k x n d) (hxo : x 0 = oo) (hkc : kc ≤ 600000) (hks : ks ≤ 5000000) (hn6 : n ≤ 6)
    (kk : ∀ (H : Heap) (locs : List Loc) (ls : Array Slot) (cells slots : Nat), cells ≤ kc + 60 → slots ≤ ks + 360 → va_P D vwCl (cW cy ad en x ++ lW cy aa f) H → va_D A (cW cy ad en x ++ lW cy aa f) → va_S A s.heap H locs → lv_has ls 27 [(20, .int (wval oo n (nI pl) w)), (19, .int w), (18, .int m9), (17, .int b9), (16, .int (nI pl)), (0, .ref b), (1, .ref (ad 12 0)), (2, .int (nI o)), (3, .int (nI n)), (4, .int u4), (5, .int u5), (6, .int u6), (7, .int u7), (8, .int u8), (9, .ref (aa 0)), (10, .ref (aa 1)), (11, .ref (aa 2)), (12, .ref (aa 3)), (13, .ref (aa 4)), (14, .ref (aa 5)), (15, .ref (aa 6))] → W p l e room_1 s m args below meth c H locs cells slots Q (F0 m 754 ls [])) :
    ∀ a, a ≤ n → ∀ (H : Heap) (locs : List Loc) (ls : Array Slot) (cells slots : Nat), cells ≤ kc + 10 * a → slots ≤ ks + 60 * a → va_P D vwCl (cW cy ad en x ++ lW cy aa f) H → va_D A (cW cy ad en x ++ lW cy aa f) → va_S A s.heap H locs → lv_has ls 27 [(21, .int (nI a)), (20, .int (sumTo (fun j => if ow3 oo w j = nI pl then 1 else 0) a)), (19, .int w), (18, .int m9), (17, .int b9), (16, .int (nI pl)), (0, .ref b), (1, .ref (ad 12 0)), (2, .int (nI o)), (3, .int (nI n)), (4, .int u4), (5, .int u5), (6, .int u6), (7, .int u7), (8, .int u8), (9, .ref (aa 0)), (10, .ref (aa 1)), (11, .ref (aa 2)), (12, .ref (aa 3)), (13, .ref (aa 4)), (14, .ref (aa 5)), (15, .ref (aa 6))] → W p l e room_1 s m args below meth c H locs cells slots Q (F0 m 719 ls []) := by
  obtain ⟨hx, hb, hml, hown, hw, hK, hN, hST, hSC, hA⟩ := id hC
  refine lp ?_ ?_
  · intro H locs ls cells slots hc hs hP hD hS hl
    refine lv_iload hx hb dL_law_719 (lv_at hl 0 rfl) ?_
    refine lv_iload_n hx hb dL_law_721 rfl (lv_at hl 9 rfl) ?_
    refine lv_icmp_ge (tgt := 754) hx hb dL_law_722 (by decide) (fun _ => ?_) (fun h => absurd (nI_le (Nat.le_refl _) (show n < 2 ^ 31 by omega)) h)
    exact kk H locs ls cells slots (by omega) (by omega) hP hD hS (lv_sub hl [1, 2, 3, 4, 5, 6, 7, 8, 9, 10, 11, 12, 13, 14, 15, 16, 17, 18, 19, 20, 21] rfl)
  · intro a ha ih H locs ls cells slots hc hs hP hD hS hl
    refine lv_iload hx hb dL_law_719 (lv_at hl 0 rfl) ?_
    refine lv_iload_n hx hb dL_law_721 rfl (lv_at hl 9 rfl) ?_
    refine lv_icmp_ge (tgt := 754) hx hb dL_law_722 (by decide) (fun h => absurd h (nI_ge ha (show n < 2 ^ 31 by omega))) (fun _ => ?_)
    refine lv_iload hx hb dL_law_725 (lv_at hl 1 rfl) ?_
    refine lv_aload_n hx hb dL_law_727 rfl (lv_at hl 7 rfl) ?_
    refine lv_iload hx hb dL_law_728 (lv_at hl 0 rfl) ?_
    refine lv_iload hx hb dL_law_730 (lv_at hl 2 rfl) ?_
    refine fSj (w1 := cW cy ad en x) (w2 := lW cy aa f) (As := [.ref (ad 12 0), .int (nI a), .int w]) (rest := [.int (sumTo (fun j => if ow3 oo w j = nI pl then 1 else 0) a)]) hx hb hml hown hw hK hN hA hl.1 hP hD hS k_1161 k_1162 k_20 k_1163 (met_L_ownerBy l hst0 D cy _ ad en g x hI a ha w hw3) (ST_call hST hS (fr_F hS hD hA)) Xok_S ⟨rfl, rfl⟩ (n := 3) (by decide +kernel) rfl ⟨Nat.le_of_ble_eq_true rfl, Nat.le_of_ble_eq_true rfl⟩ ⟨show _ ≤ 975572 by omega, show _ ≤ 6174753 by omega⟩ (Nat.le_of_ble_eq_true rfl) rfl dL_law_732 (fun r9 w9 H locs h9 hP hD hS => ?_)
    obtain ⟨hr9, hw9⟩ := h9
    subst w9
    rw [hxo] at hr9
    subst r9
    refine lv_iload hx hb dL_law_735 (lv_at hl 5 rfl) ?_
    refine lv_icmp_ne (tgt := 744) hx hb dL_law_737 (by decide) (fun h1 => ?_) (fun h2 => ?_)
    · refine lv_iconst (v := 0) hx hb dL_law_744 (by decide) ?_
      refine lv_iadd hx hb dL_law_745 ?_
      rw [show ((sumTo (fun j => if ow3 oo w j = nI pl then 1 else 0) a) + 0) = sumTo (fun j => if ow3 oo w j = nI pl then 1 else 0) (a + 1) from by rw [sumTo_s, if_neg h1]]
      refine lv_istore (lv' := [(20, .int (sumTo (fun j => if ow3 oo w j = nI pl then 1 else 0) (a + 1))), (21, .int (nI a)), (19, .int w), (18, .int m9), (17, .int b9), (16, .int (nI pl)), (0, .ref b), (1, .ref (ad 12 0)), (2, .int (nI o)), (3, .int (nI n)), (4, .int u4), (5, .int u5), (6, .int u6), (7, .int u7), (8, .int u8), (9, .ref (aa 0)), (10, .ref (aa 1)), (11, .ref (aa 2)), (12, .ref (aa 3)), (13, .ref (aa 4)), (14, .ref (aa 5)), (15, .ref (aa 6))]) hx hb dL_law_746 hl (by decide) rfl (fun ls hl => ?_)
      refine lv_iinc (v := nI (a + 1)) (lv' := [(21, .int (nI (a + 1))), (20, .int (sumTo (fun j => if ow3 oo w j = nI pl then 1 else 0) (a + 1))), (19, .int w), (18, .int m9), (17, .int b9), (16, .int (nI pl)), (0, .ref b), (1, .ref (ad 12 0)), (2, .int (nI o)), (3, .int (nI n)), (4, .int u4), (5, .int u5), (6, .int u6), (7, .int u7), (8, .int u8), (9, .ref (aa 0)), (10, .ref (aa 1)), (11, .ref (aa 2)), (12, .ref (aa 3)), (13, .ref (aa 4)), (14, .ref (aa 5)), (15, .ref (aa 6))]) hx hb dL_law_748 hl (k := 1) rfl (by rw [nI_succ]; rfl) (by decide) rfl (fun ls hl => ?_)
      refine lv_goto (tgt := 719) hx hb dL_law_751 (by decide) ?_
      exact ih H locs _ _ _ (by omega) (by omega) hP hD hS (lv_sub hl [0, 1, 2, 3, 4, 5, 6, 7, 8, 9, 10, 11, 12, 13, 14, 15, 16, 17, 18, 19, 20, 21] rfl)
    · refine lv_iconst (v := 1) hx hb dL_law_740 (by decide) ?_
      refine lv_goto (tgt := 745) hx hb dL_law_741 (by decide) ?_
      refine lv_iadd hx hb dL_law_745 ?_
      rw [show ((sumTo (fun j => if ow3 oo w j = nI pl then 1 else 0) a) + 1) = sumTo (fun j => if ow3 oo w j = nI pl then 1 else 0) (a + 1) from by rw [sumTo_s, if_pos h2]]
      refine lv_istore (lv' := [(20, .int (sumTo (fun j => if ow3 oo w j = nI pl then 1 else 0) (a + 1))), (21, .int (nI a)), (19, .int w), (18, .int m9), (17, .int b9), (16, .int (nI pl)), (0, .ref b), (1, .ref (ad 12 0)), (2, .int (nI o)), (3, .int (nI n)), (4, .int u4), (5, .int u5), (6, .int u6), (7, .int u7), (8, .int u8), (9, .ref (aa 0)), (10, .ref (aa 1)), (11, .ref (aa 2)), (12, .ref (aa 3)), (13, .ref (aa 4)), (14, .ref (aa 5)), (15, .ref (aa 6))]) hx hb dL_law_746 hl (by decide) rfl (fun ls hl => ?_)
      refine lv_iinc (v := nI (a + 1)) (lv' := [(21, .int (nI (a + 1))), (20, .int (sumTo (fun j => if ow3 oo w j = nI pl then 1 else 0) (a + 1))), (19, .int w), (18, .int m9), (17, .int b9), (16, .int (nI pl)), (0, .ref b), (1, .ref (ad 12 0)), (2, .int (nI o)), (3, .int (nI n)), (4, .int u4), (5, .int u5), (6, .int u6), (7, .int u7), (8, .int u8), (9, .ref (aa 0)), (10, .ref (aa 1)), (11, .ref (aa 2)), (12, .ref (aa 3)), (13, .ref (aa 4)), (14, .ref (aa 5)), (15, .ref (aa 6))]) hx hb dL_law_748 hl (k := 1) rfl (by rw [nI_succ]; rfl) (by decide) rfl (fun ls hl => ?_)
      refine lv_goto (tgt := 719) hx hb dL_law_751 (by decide) ?_
      exact ih H locs _ _ _ (by omega) (by omega) hP hD hS (lv_sub hl [0, 1, 2, 3, 4, 5, 6, 7, 8, 9, 10, 11, 12, 13, 14, 15, 16, 17, 18, 19, 20, 21] rfl)
theorem w4 : ∀ t : Fin 7, ¬ (4 : Int32) ≤ nI t.val - 3 := by decide +kernel
set_option maxHeartbeats 4000000 in
theorem seg_w (hC : LX p s m c args b L xs A D cy en g) (hst0 : l.stackTraces = false) {pl : Nat} (hp : pl < 4) (hk : k ≤ 500) (hkc : kc ≤ 500000) (hks : ks ≤ 4000000) (hn6 : n ≤ 6)
    (kk : ∀ (x : Mem) (H : Heap) (locs : List Loc) (ls : Array Slot) (cells slots : Nat), IV k x n d → x 0 = oo → cells ≤ kc + 448 → slots ≤ ks + 2688 → va_P D vwCl (cW cy ad en x ++ lW cy aa f) H → va_D A (cW cy ad en x ++ lW cy aa f) → va_S A s.heap H locs → lv_has ls 27 [(17, .int (bestW (wval oo n (nI pl)) 7)), (16, .int (nI pl)), (0, .ref b), (1, .ref (ad 12 0)), (2, .int (nI o)), (3, .int (nI n)), (4, .int u4), (5, .int u5), (6, .int u6), (7, .int u7), (8, .int u8), (9, .ref (aa 0)), (10, .ref (aa 1)), (11, .ref (aa 2)), (12, .ref (aa 3)), (13, .ref (aa 4)), (14, .ref (aa 5)), (15, .ref (aa 6))] → W p l e room_1 s m args below meth c H locs cells slots Q (F0 m 800 ls [])) :
    ∀ t, t ≤ 7 → ∀ (x : Mem) (H : Heap) (locs : List Loc) (ls : Array Slot) (cells slots : Nat), IV k x n d → x 0 = oo → cells ≤ kc + 64 * t → slots ≤ ks + 384 * t → va_P D vwCl (cW cy ad en x ++ lW cy aa f) H → va_D A (cW cy ad en x ++ lW cy aa f) → va_S A s.heap H locs → lv_has ls 27 [(19, .int (nI t - 3)), (18, .int (mostW (wval oo n (nI pl)) t)), (17, .int (bestW (wval oo n (nI pl)) t)), (16, .int (nI pl)), (0, .ref b), (1, .ref (ad 12 0)), (2, .int (nI o)), (3, .int (nI n)), (4, .int u4), (5, .int u5), (6, .int u6), (7, .int u7), (8, .int u8), (9, .ref (aa 0)), (10, .ref (aa 1)), (11, .ref (aa 2)), (12, .ref (aa 3)), (13, .ref (aa 4)), (14, .ref (aa 5)), (15, .ref (aa 6))] → W p l e room_1 s m args below meth c H locs cells slots Q (F0 m 707 ls []) := by
  obtain ⟨hx, hb, hml, hown, hw, hK, hN, hST, hSC, hA⟩ := id hC
  refine lp ?_ ?_
  · intro x H locs ls cells slots hI hxo hc hs hP hD hS hl
    refine lv_iload hx hb dL_law_707 (lv_at hl 0 rfl) ?_
    refine lv_iconst (v := 4) hx hb dL_law_709 (by decide) ?_
    refine lv_icmp_ge (tgt := 800) hx hb dL_law_710 (by decide) (fun _ => ?_) (fun h => absurd (show (4 : Int32) ≤ nI 7 - 3 by decide) h)
    exact kk x H locs ls cells slots hI hxo (by omega) (by omega) hP hD hS (lv_sub hl [2, 3, 4, 5, 6, 7, 8, 9, 10, 11, 12, 13, 14, 15, 16, 17, 18, 19] rfl)
  · intro t ht ih x H locs ls cells slots hI hxo hc hs hP hD hS hl
    have hw3 : rng (nI t - 3) (-3) 3 := rng_t (by omega)
    refine lv_iload hx hb dL_law_707 (lv_at hl 0 rfl) ?_
    refine lv_iconst (v := 4) hx hb dL_law_709 (by decide) ?_
    refine lv_icmp_ge (tgt := 800) hx hb dL_law_710 (by decide) (fun h => absurd h (show ¬ (4 : Int32) ≤ nI t - 3 from w4 ⟨t, ht⟩)) (fun _ => ?_)
    refine lv_iconst (v := 0) hx hb dL_law_713 (by decide) ?_
    refine lv_istore (lv' := [(20, .int 0), (19, .int (nI t - 3)), (18, .int (mostW (wval oo n (nI pl)) t)), (17, .int (bestW (wval oo n (nI pl)) t)), (16, .int (nI pl)), (0, .ref b), (1, .ref (ad 12 0)), (2, .int (nI o)), (3, .int (nI n)), (4, .int u4), (5, .int u5), (6, .int u6), (7, .int u7), (8, .int u8), (9, .ref (aa 0)), (10, .ref (aa 1)), (11, .ref (aa 2)), (12, .ref (aa 3)), (13, .ref (aa 4)), (14, .ref (aa 5)), (15, .ref (aa 6))]) hx hb dL_law_714 hl (by decide) rfl (fun ls hl => ?_)
    refine lv_iconst (v := 0) hx hb dL_law_716 (by decide) ?_
    refine lv_istore (lv' := [(21, .int 0), (20, .int 0), (19, .int (nI t - 3)), (18, .int (mostW (wval oo n (nI pl)) t)), (17, .int (bestW (wval oo n (nI pl)) t)), (16, .int (nI pl)), (0, .ref b), (1, .ref (ad 12 0)), (2, .int (nI o)), (3, .int (nI n)), (4, .int u4), (5, .int u5), (6, .int u6), (7, .int u7), (8, .int u8), (9, .ref (aa 0)), (10, .ref (aa 1)), (11, .ref (aa 2)), (12, .ref (aa 3)), (13, .ref (aa 4)), (14, .ref (aa 5)), (15, .ref (aa 6))]) hx hb dL_law_717 hl (by decide) rfl (fun ls hl => ?_)
    refine seg_a (kc := kc + 64 * t) (ks := ks + 384 * t) (w := nI t - 3) hC hst0 hw3 hI hxo (by omega) (by omega) hn6 (fun H locs ls cells slots hc hs hP hD hS hl => ?_) 0 (Nat.zero_le _) H locs ls cells slots (by omega) (by omega) hP hD hS (lv_sub hl [0, 1, 2, 3, 4, 5, 6, 7, 8, 9, 10, 11, 12, 13, 14, 15, 16, 17, 18, 19, 20, 21] rfl)
    obtain ⟨x', e9, hI', hxo'⟩ := g_would hk hI hxo hp hw3
    refine lv_aload_n hx hb dL_law_754 rfl (lv_at hl 6 rfl) ?_
    refine lv_iload hx hb dL_law_755 (lv_at hl 4 rfl) ?_
    refine lv_iload hx hb dL_law_757 (lv_at hl 1 rfl) ?_
    refine xfT (w1 := cW cy ad en x) (w2 := lW cy aa f) (As := [.int (nI pl), .int (nI t - 3)]) (rest := []) hx hb hml hown hw hK hN hA hl.1 hP hD hS hST k_505 k_506 k_507 k_21 k_508 (met_X9_would l hst0 D cy _ ad en g x (nI pl) (nI t - 3) 0 (wval oo n (nI pl) (nI t - 3)) x' e9) (gY (x := x) (r := 0) (f := x 12 0) (by decide) rfl) rfl ⟨rfl, rfl⟩ (n := 2) (by decide +kernel) rfl ⟨Nat.le_of_ble_eq_true rfl, Nat.le_of_ble_eq_true rfl⟩ ⟨show _ ≤ 975572 by omega, show _ ≤ 6174753 by omega⟩ (Nat.le_of_ble_eq_true rfl) rfl dL_law_759 (fun H locs q9 ce9 hne hP hD hS hce hcv hcl => absurd rfl hne) (fun H locs h0 hP hD hS => ?_)
    refine lv_iload hx hb dL_law_762 (lv_at hl 0 rfl) ?_
    refine lv_icmp_eq (tgt := 769) hx hb dL_law_764 (by decide) (fun _ => ?_) (fun h => absurd rfl h)
    have hbw := bw_step (wval oo n (nI pl)) (fun w => by obtain ⟨q, hq, eq⟩ := wval_cnt oo n (nI pl) w; exact ⟨q, by omega, eq⟩) t
    have j783 : ∀ v : Int32, v = bestW (wval oo n (nI pl)) (t + 1) → W p l e room_1 s m args below meth c H locs (cells + 2) (slots + 12) Q (F0 m 783 ls [.int v]) := by
      intro v hv
      subst hv
      refine lv_istore (lv' := [(17, .int (bestW (wval oo n (nI pl)) (t + 1))), (20, .int (wval oo n (nI pl) (nI t - 3))), (19, .int (nI t - 3)), (18, .int (mostW (wval oo n (nI pl)) t)), (16, .int (nI pl)), (0, .ref b), (1, .ref (ad 12 0)), (2, .int (nI o)), (3, .int (nI n)), (4, .int u4), (5, .int u5), (6, .int u6), (7, .int u7), (8, .int u8), (9, .ref (aa 0)), (10, .ref (aa 1)), (11, .ref (aa 2)), (12, .ref (aa 3)), (13, .ref (aa 4)), (14, .ref (aa 5)), (15, .ref (aa 6))]) hx hb dL_law_783 hl (by decide) rfl (fun ls hl => ?_)
      refine lv_iload hx hb dL_law_785 (lv_at hl 3 rfl) ?_
      refine lv_iload hx hb dL_law_787 (lv_at hl 1 rfl) ?_
      refine va_mmax hx hb (hml.trans hl.1.symm) hown (hw _ k_1193) (hw _ k_697) (hw _ k_35) (hw _ k_698) (Nat.le_of_ble_eq_true rfl) (Nat.le_of_ble_eq_true rfl) (show _ ≤ 975572 by omega) (show _ ≤ 6174753 by omega) dL_law_789 ?_
      rw [show (if (mostW (wval oo n (nI pl)) t) < (wval oo n (nI pl) (nI t - 3)) then (wval oo n (nI pl) (nI t - 3)) else (mostW (wval oo n (nI pl)) t)) = mostW (wval oo n (nI pl)) (t + 1) from hbw.2]
      refine lv_istore (lv' := [(18, .int (mostW (wval oo n (nI pl)) (t + 1))), (17, .int (bestW (wval oo n (nI pl)) (t + 1))), (20, .int (wval oo n (nI pl) (nI t - 3))), (19, .int (nI t - 3)), (16, .int (nI pl)), (0, .ref b), (1, .ref (ad 12 0)), (2, .int (nI o)), (3, .int (nI n)), (4, .int u4), (5, .int u5), (6, .int u6), (7, .int u7), (8, .int u8), (9, .ref (aa 0)), (10, .ref (aa 1)), (11, .ref (aa 2)), (12, .ref (aa 3)), (13, .ref (aa 4)), (14, .ref (aa 5)), (15, .ref (aa 6))]) hx hb dL_law_792 hl (by decide) rfl (fun ls hl => ?_)
      refine lv_iinc (v := (nI (t + 1) - 3)) (lv' := [(19, .int (nI (t + 1) - 3)), (18, .int (mostW (wval oo n (nI pl)) (t + 1))), (17, .int (bestW (wval oo n (nI pl)) (t + 1))), (20, .int (wval oo n (nI pl) (nI t - 3))), (16, .int (nI pl)), (0, .ref b), (1, .ref (ad 12 0)), (2, .int (nI o)), (3, .int (nI n)), (4, .int u4), (5, .int u5), (6, .int u6), (7, .int u7), (8, .int u8), (9, .ref (aa 0)), (10, .ref (aa 1)), (11, .ref (aa 2)), (12, .ref (aa 3)), (13, .ref (aa 4)), (14, .ref (aa 5)), (15, .ref (aa 6))]) hx hb dL_law_794 hl (k := 3) rfl (nI_3s t) (by decide) rfl (fun ls hl => ?_)
      refine lv_goto (tgt := 707) hx hb dL_law_797 (by decide) ?_
      exact ih x' H locs _ _ _ hI' hxo' (by omega) (by omega) hP hD hS (lv_sub hl [0, 1, 2, 4, 5, 6, 7, 8, 9, 10, 11, 12, 13, 14, 15, 16, 17, 18, 19, 20] rfl)
    refine lv_iload hx hb dL_law_769 (lv_at hl 0 rfl) ?_
    refine lv_iload hx hb dL_law_771 (lv_at hl 2 rfl) ?_
    refine lv_icmp_le (tgt := 781) hx hb dL_law_773 (by decide) (fun h1 => ?_) (fun h2 => ?_)
    · refine lv_iload hx hb dL_law_781 (lv_at hl 3 rfl) ?_
      exact j783 _ (by rw [← hbw.1, if_neg (fun q => absurd h1 (by rw [le_toInt]; rw [lt_toInt] at q; omega))])
    · refine lv_iload hx hb dL_law_776 (lv_at hl 1 rfl) ?_
      refine lv_goto (tgt := 783) hx hb dL_law_778 (by decide) ?_
      exact j783 _ (by rw [← hbw.1, if_pos (by rw [lt_toInt]; rw [le_toInt] at h2; omega)])
set_option maxHeartbeats 8000000 in
theorem seg_S4 (hC : LX p s m c args b L xs A D cy en g) (hst0 : l.stackTraces = false) (hk : k ≤ 500) (hkc : kc ≤ 400000) (hks : ks ≤ 3000000) (hn6 : n ≤ 6) (hAC : AC oo n f)
    (kk : ∀ (x : Mem) (H : Heap) (locs : List Loc) (ls : Array Slot) (cells slots : Nat), IV k x n d → x 0 = oo → cells ≤ kc + 2000 → slots ≤ ks + 12000 → va_P D vwCl (cW cy ad en x ++ lW cy aa f) H → va_D A (cW cy ad en x ++ lW cy aa f) → va_S A s.heap H locs → lv_has ls 27 [(0, .ref b), (1, .ref (ad 12 0)), (2, .int (nI o)), (3, .int (nI n)), (4, .int u4), (5, .int u5), (6, .int u6), (7, .int u7), (8, .int (sumTo (q3 oo) 4)), (9, .ref (aa 0)), (10, .ref (aa 1)), (11, .ref (aa 2)), (12, .ref (aa 3)), (13, .ref (aa 4)), (14, .ref (aa 5)), (15, .ref (aa 6))] → W p l e room_1 s m args below meth c H locs cells slots Q (F0 m 917 ls [])) :
    ∀ pl, pl ≤ 4 → ∀ (x : Mem) (H : Heap) (locs : List Loc) (ls : Array Slot) (cells slots : Nat), IV k x n d → x 0 = oo → cells ≤ kc + 500 * pl → slots ≤ ks + 3000 * pl → va_P D vwCl (cW cy ad en x ++ lW cy aa f) H → va_D A (cW cy ad en x ++ lW cy aa f) → va_S A s.heap H locs → lv_has ls 27 [(16, .int (nI pl)), (0, .ref b), (1, .ref (ad 12 0)), (2, .int (nI o)), (3, .int (nI n)), (4, .int u4), (5, .int u5), (6, .int u6), (7, .int u7), (8, .int (sumTo (q3 oo) pl)), (9, .ref (aa 0)), (10, .ref (aa 1)), (11, .ref (aa 2)), (12, .ref (aa 3)), (13, .ref (aa 4)), (14, .ref (aa 5)), (15, .ref (aa 6))] → W p l e room_1 s m args below meth c H locs cells slots Q (F0 m 678 ls []) := by
  obtain ⟨hx, hb, hml, hown, hw, hK, hN, hST, hSC, hA⟩ := id hC
  obtain ⟨A0, A1, A2, A3, A4, A5, A6⟩ := hAC
  refine lp ?_ ?_
  · intro x H locs ls cells slots hI hxo hc hs hP hD hS hl
    refine lv_iload hx hb dL_law_678 (lv_at hl 0 rfl) ?_
    refine lv_iconst (v := 4) hx hb dL_law_680 (by decide) ?_
    refine lv_icmp_ge (tgt := 917) hx hb dL_law_681 (by decide) (fun _ => ?_) (fun h => absurd (show (4 : Int32) ≤ nI 4 by decide) h)
    exact kk x H locs ls cells slots hI hxo hc hs hP hD hS (lv_sub hl [1, 2, 3, 4, 5, 6, 7, 8, 9, 10, 11, 12, 13, 14, 15, 16] rfl)
  · intro pl hp ih x H locs ls cells slots hI hxo hc hs hP hD hS hl
    refine lv_iload hx hb dL_law_678 (lv_at hl 0 rfl) ?_
    refine lv_iconst (v := 4) hx hb dL_law_680 (by decide) ?_
    refine lv_icmp_ge (tgt := 917) hx hb dL_law_681 (by decide) (fun h => absurd h (show ¬ (4 : Int32) ≤ nI pl from nI_ge hp (by decide))) (fun _ => ?_)
    refine lv_bipush (v := (-3)) hx hb dL_law_684 (by decide) ?_
    refine lv_istore (lv' := [(17, .int (-3)), (16, .int (nI pl)), (0, .ref b), (1, .ref (ad 12 0)), (2, .int (nI o)), (3, .int (nI n)), (4, .int u4), (5, .int u5), (6, .int u6), (7, .int u7), (8, .int (sumTo (q3 oo) pl)), (9, .ref (aa 0)), (10, .ref (aa 1)), (11, .ref (aa 2)), (12, .ref (aa 3)), (13, .ref (aa 4)), (14, .ref (aa 5)), (15, .ref (aa 6))]) hx hb dL_law_686 hl (by decide) rfl (fun ls hl => ?_)
    refine lv_iconst (v := (-1)) hx hb dL_law_688 (by decide) ?_
    refine lv_istore (lv' := [(18, .int (-1)), (17, .int (-3)), (16, .int (nI pl)), (0, .ref b), (1, .ref (ad 12 0)), (2, .int (nI o)), (3, .int (nI n)), (4, .int u4), (5, .int u5), (6, .int u6), (7, .int u7), (8, .int (sumTo (q3 oo) pl)), (9, .ref (aa 0)), (10, .ref (aa 1)), (11, .ref (aa 2)), (12, .ref (aa 3)), (13, .ref (aa 4)), (14, .ref (aa 5)), (15, .ref (aa 6))]) hx hb dL_law_689 hl (by decide) rfl (fun ls hl => ?_)
    refine lv_iload hx hb dL_law_691 (lv_at hl 11 rfl) ?_
    refine lv_aload_n hx hb dL_law_693 rfl (lv_at hl 4 rfl) ?_
    refine lv_iload hx hb dL_law_694 (lv_at hl 2 rfl) ?_
    refine lv_iconst (v := 0) hx hb dL_law_696 (by decide) ?_
    refine xfT (w1 := cW cy ad en x) (w2 := lW cy aa f) (As := [.int (nI pl), .int 0]) (rest := [.int (sumTo (q3 oo) pl)]) hx hb hml hown hw hK hN hA hl.1 hP hD hS hST k_424 k_425 k_426 k_21 k_427 (met_X9_ownerOf l hst0 D cy _ ad en g x (nI pl) 0 0 (oo 3 pl) (g_ow0 hxo hp)) (gY (x := x) (r := 0) (f := x 12 0) (by decide) rfl) rfl ⟨rfl, rfl⟩ (n := 2) (by decide +kernel) rfl ⟨Nat.le_of_ble_eq_true rfl, Nat.le_of_ble_eq_true rfl⟩ ⟨show _ ≤ 975572 by omega, show _ ≤ 6174753 by omega⟩ (Nat.le_of_ble_eq_true rfl) rfl dL_law_697 (fun H locs q9 ce9 hne hP hD hS hce hcv hcl => absurd rfl hne) (fun H locs h0 hP hD hS => ?_)
    refine lv_iadd hx hb dL_law_700 ?_
    rw [show ((sumTo (q3 oo) pl) + (oo 3 pl)) = sumTo (q3 oo) (pl + 1) from rfl]
    refine lv_istore (lv' := [(8, .int (sumTo (q3 oo) (pl + 1))), (18, .int (-1)), (17, .int (-3)), (16, .int (nI pl)), (0, .ref b), (1, .ref (ad 12 0)), (2, .int (nI o)), (3, .int (nI n)), (4, .int u4), (5, .int u5), (6, .int u6), (7, .int u7), (9, .ref (aa 0)), (10, .ref (aa 1)), (11, .ref (aa 2)), (12, .ref (aa 3)), (13, .ref (aa 4)), (14, .ref (aa 5)), (15, .ref (aa 6))]) hx hb dL_law_701 hl (by decide) rfl (fun ls hl => ?_)
    refine lv_bipush (v := (-3)) hx hb dL_law_703 (by decide) ?_
    rw [show (-3) = nI 0 - 3 from by decide]
    refine lv_istore (lv' := [(19, .int (nI 0 - 3)), (8, .int (sumTo (q3 oo) (pl + 1))), (18, .int (-1)), (17, .int (-3)), (16, .int (nI pl)), (0, .ref b), (1, .ref (ad 12 0)), (2, .int (nI o)), (3, .int (nI n)), (4, .int u4), (5, .int u5), (6, .int u6), (7, .int u7), (9, .ref (aa 0)), (10, .ref (aa 1)), (11, .ref (aa 2)), (12, .ref (aa 3)), (13, .ref (aa 4)), (14, .ref (aa 5)), (15, .ref (aa 6))]) hx hb dL_law_705 hl (by decide) rfl (fun ls hl => ?_)
    refine seg_w (kc := kc + 500 * pl + 2) (ks := ks + 3000 * pl + 12) (pl := pl) (n := n) (d := d) (k := k) (oo := oo) hC hst0 hp hk (by omega) (by omega) hn6 (fun x H locs ls cells slots hI hxo hc hs hP hD hS hl => ?_) 0 (Nat.zero_le _) x H locs ls _ _ hI hxo (by omega) (by omega) hP hD hS (lv_sub hl [0, 2, 3, 4, 5, 6, 7, 8, 9, 10, 11, 12, 1, 13, 14, 15, 16, 17, 18, 19] rfl)
    obtain ⟨x', e9, hI', hxo'⟩ := g_best hk hI hxo hp
    refine lv_aload_n hx hb dL_law_800 rfl (lv_at hl 3 rfl) ?_
    refine lv_iload hx hb dL_law_801 (lv_at hl 1 rfl) ?_
    refine xfT (w1 := cW cy ad en x) (w2 := lW cy aa f) (As := [.int (nI pl)]) (rest := []) hx hb hml hown hw hK hN hA hl.1 hP hD hS hST k_601 k_602 k_603 k_21 k_604 (met_X9_bestWind l hst0 D cy _ ad en g x (nI pl) 0 (bestN (wval oo n (nI pl)) 6) x' e9) (gY (x := x) (r := 0) (f := x 12 0) (by decide) rfl) rfl ⟨rfl, rfl⟩ (n := 1) (by decide +kernel) rfl ⟨Nat.le_of_ble_eq_true rfl, Nat.le_of_ble_eq_true rfl⟩ ⟨show _ ≤ 975572 by omega, show _ ≤ 6174753 by omega⟩ (Nat.le_of_ble_eq_true rfl) rfl dL_law_803 (fun H locs q9 ce9 hne hP hD hS hce hcv hcl => absurd rfl hne) (fun H locs h0 hP hD hS => ?_)
    refine lv_iload hx hb dL_law_806 (lv_at hl 0 rfl) ?_
    refine lv_icmp_ne (tgt := 909) hx hb dL_law_808 (by decide) (fun h => absurd rfl h) (fun _ => ?_)
    obtain ⟨cz, hcz, ecz⟩ := hI'.1.2.2.2.2.1.at hp
    rw [hxo'] at ecz
    have hSB : SB k < 2 ^ 31 := by unfold SB; omega
    refine lv_aload_n hx hb dL_law_811 rfl (lv_at hl 3 rfl) ?_
    refine lv_iload hx hb dL_law_812 (lv_at hl 1 rfl) ?_
    refine lv_iconst (v := 0) hx hb dL_law_814 (by decide) ?_
    refine xfT (w1 := cW cy ad en x') (w2 := lW cy aa f) (As := [.int (nI pl), .int 0]) (rest := []) hx hb hml hown hw hK hN hA hl.1 hP hD hS hST k_424 k_425 k_426 k_21 k_427 (met_X9_ownerOf l hst0 D cy _ ad en g x' (nI pl) 0 0 (oo 3 pl) (g_ow0 hxo' hp)) (gY (x := x') (r := 0) (f := x' 12 0) (by decide) rfl) rfl ⟨rfl, rfl⟩ (n := 2) (by decide +kernel) rfl ⟨Nat.le_of_ble_eq_true rfl, Nat.le_of_ble_eq_true rfl⟩ ⟨show _ ≤ 975572 by omega, show _ ≤ 6174753 by omega⟩ (Nat.le_of_ble_eq_true rfl) rfl dL_law_815 (fun H locs q9 ce9 hne hP hD hS hce hcv hcl => absurd rfl hne) (fun H locs h0 hP hD hS => ?_)
    refine lv_if_lt (tgt := 909) hx hb dL_law_818 (by decide) (fun h => absurd h (by rw [ecz]; exact nI_pos (by omega))) (fun _ => ?_)
    refine lv_aload_n hx hb dL_law_821 rfl (lv_at hl 3 rfl) ?_
    refine lv_iload hx hb dL_law_822 (lv_at hl 1 rfl) ?_
    refine lv_iconst (v := 1) hx hb dL_law_824 (by decide) ?_
    refine xfT (w1 := cW cy ad en x') (w2 := lW cy aa f) (As := [.int (nI pl), .int 1]) (rest := []) hx hb hml hown hw hK hN hA hl.1 hP hD hS hST k_424 k_425 k_426 k_21 k_427 (met_X9_ownerOf l hst0 D cy _ ad en g x' (nI pl) 1 0 (sumTo (fun j => if oo 2 j = nI pl then 1 else 0) 6) (g_ow1 hxo' hp)) (gY (x := x') (r := 0) (f := x' 12 0) (by decide) rfl) rfl ⟨rfl, rfl⟩ (n := 2) (by decide +kernel) rfl ⟨Nat.le_of_ble_eq_true rfl, Nat.le_of_ble_eq_true rfl⟩ ⟨show _ ≤ 975572 by omega, show _ ≤ 6174753 by omega⟩ (Nat.le_of_ble_eq_true rfl) rfl dL_law_825 (fun H locs q9 ce9 hne hP hD hS hce hcv hcl => absurd rfl hne) (fun H locs h0 hP hD hS => ?_)
    refine lv_aload hx hb dL_law_828 (lv_at hl 17 rfl) ?_
    refine lv_iload hx hb dL_law_830 (lv_at hl 1 rfl) ?_
    refine ar_get hx hb hK hP (i := 6) (p9 := pl) rfl hp (by decide) dL_law_832 ?_
    refine lv_icmp_ne (tgt := 909) hx hb dL_law_833 (by decide) (fun h => absurd (A6 pl hp).symm h) (fun _ => ?_)
    refine lv_aload_n hx hb dL_law_836 rfl (lv_at hl 3 rfl) ?_
    refine lv_iload hx hb dL_law_837 (lv_at hl 1 rfl) ?_
    refine lv_iconst (v := 2) hx hb dL_law_839 (by decide) ?_
    refine xfT (w1 := cW cy ad en x') (w2 := lW cy aa f) (As := [.int (nI pl), .int 2]) (rest := []) hx hb hml hown hw hK hN hA hl.1 hP hD hS hST k_424 k_425 k_426 k_21 k_427 (met_X9_ownerOf l hst0 D cy _ ad en g x' (nI pl) 2 0 (sumTo (fun j => if oo (j + 7) 5 = nI pl then 1 else 0) n) (g_ow2 hI' hxo' hp)) (gY (x := x') (r := 0) (f := x' 12 0) (by decide) rfl) rfl ⟨rfl, rfl⟩ (n := 2) (by decide +kernel) rfl ⟨Nat.le_of_ble_eq_true rfl, Nat.le_of_ble_eq_true rfl⟩ ⟨show _ ≤ 975572 by omega, show _ ≤ 6174753 by omega⟩ (Nat.le_of_ble_eq_true rfl) rfl dL_law_840 (fun H locs q9 ce9 hne hP hD hS hce hcv hcl => absurd rfl hne) (fun H locs h0 hP hD hS => ?_)
    refine lv_aload hx hb dL_law_843 (lv_at hl 12 rfl) ?_
    refine lv_iload hx hb dL_law_845 (lv_at hl 1 rfl) ?_
    refine ar_get hx hb hK hP (i := 1) (p9 := pl) rfl hp (by decide) dL_law_847 ?_
    refine lv_icmp_ne (tgt := 909) hx hb dL_law_848 (by decide) (fun h => absurd (A1 pl hp).symm h) (fun _ => ?_)
    refine lv_aload_n hx hb dL_law_851 rfl (lv_at hl 3 rfl) ?_
    refine lv_iload hx hb dL_law_852 (lv_at hl 1 rfl) ?_
    refine lv_iconst (v := 3) hx hb dL_law_854 (by decide) ?_
    refine xfT (w1 := cW cy ad en x') (w2 := lW cy aa f) (As := [.int (nI pl), .int 3]) (rest := []) hx hb hml hown hw hK hN hA hl.1 hP hD hS hST k_424 k_425 k_426 k_21 k_427 (met_X9_ownerOf l hst0 D cy _ ad en g x' (nI pl) 3 0 (sumTo (fun j => if oo (j + 7) 3 = nI pl then qP oo j else 0) n) (g_ow3 hI' hxo' hp)) (gY (x := x') (r := 0) (f := x' 12 0) (by decide) rfl) rfl ⟨rfl, rfl⟩ (n := 2) (by decide +kernel) rfl ⟨Nat.le_of_ble_eq_true rfl, Nat.le_of_ble_eq_true rfl⟩ ⟨show _ ≤ 975572 by omega, show _ ≤ 6174753 by omega⟩ (Nat.le_of_ble_eq_true rfl) rfl dL_law_855 (fun H locs q9 ce9 hne hP hD hS hce hcv hcl => absurd rfl hne) (fun H locs h0 hP hD hS => ?_)
    refine lv_aload hx hb dL_law_858 (lv_at hl 13 rfl) ?_
    refine lv_iload hx hb dL_law_860 (lv_at hl 1 rfl) ?_
    refine ar_get hx hb hK hP (i := 2) (p9 := pl) rfl hp (by decide) dL_law_862 ?_
    refine lv_icmp_ne (tgt := 909) hx hb dL_law_863 (by decide) (fun h => absurd (A2 pl hp).symm h) (fun _ => ?_)
    refine lv_aload_n hx hb dL_law_866 rfl (lv_at hl 3 rfl) ?_
    refine lv_iload hx hb dL_law_867 (lv_at hl 1 rfl) ?_
    refine lv_iconst (v := 4) hx hb dL_law_869 (by decide) ?_
    refine xfT (w1 := cW cy ad en x') (w2 := lW cy aa f) (As := [.int (nI pl), .int 4]) (rest := []) hx hb hml hown hw hK hN hA hl.1 hP hD hS hST k_424 k_425 k_426 k_21 k_427 (met_X9_ownerOf l hst0 D cy _ ad en g x' (nI pl) 4 0 (sumTo (fun j => if oo (j + 7) 3 = nI pl then qS oo j else 0) n) (g_ow4 hI' hxo' hp)) (gY (x := x') (r := 0) (f := x' 12 0) (by decide) rfl) rfl ⟨rfl, rfl⟩ (n := 2) (by decide +kernel) rfl ⟨Nat.le_of_ble_eq_true rfl, Nat.le_of_ble_eq_true rfl⟩ ⟨show _ ≤ 975572 by omega, show _ ≤ 6174753 by omega⟩ (Nat.le_of_ble_eq_true rfl) rfl dL_law_870 (fun H locs q9 ce9 hne hP hD hS hce hcv hcl => absurd rfl hne) (fun H locs h0 hP hD hS => ?_)
    refine lv_aload hx hb dL_law_873 (lv_at hl 14 rfl) ?_
    refine lv_iload hx hb dL_law_875 (lv_at hl 1 rfl) ?_
    refine ar_get hx hb hK hP (i := 3) (p9 := pl) rfl hp (by decide) dL_law_877 ?_
    refine lv_icmp_ne (tgt := 909) hx hb dL_law_878 (by decide) (fun h => absurd (A3 pl hp).symm h) (fun _ => ?_)
    refine lv_aload_n hx hb dL_law_881 rfl (lv_at hl 3 rfl) ?_
    refine lv_iload hx hb dL_law_882 (lv_at hl 1 rfl) ?_
    refine xfT (w1 := cW cy ad en x') (w2 := lW cy aa f) (As := [.int (nI pl)]) (rest := []) hx hb hml hown hw hK hN hA hl.1 hP hD hS hST k_464 k_465 k_466 k_21 k_467 (met_X9_clouds l hst0 D cy _ ad en g x' (nI pl) 0 (sumTo (fun j => if oo (j + 7) 3 = nI pl then 1 else 0) n) (g_cl hI' hxo' hp).1) (gY (x := x') (r := 0) (f := x' 12 0) (by decide) rfl) rfl ⟨rfl, rfl⟩ (n := 1) (by decide +kernel) rfl ⟨Nat.le_of_ble_eq_true rfl, Nat.le_of_ble_eq_true rfl⟩ ⟨show _ ≤ 975572 by omega, show _ ≤ 6174753 by omega⟩ (Nat.le_of_ble_eq_true rfl) rfl dL_law_884 (fun H locs q9 ce9 hne hP hD hS hce hcv hcl => absurd rfl hne) (fun H locs h0 hP hD hS => ?_)
    refine lv_aload hx hb dL_law_887 (lv_at hl 11 rfl) ?_
    refine lv_iload hx hb dL_law_889 (lv_at hl 1 rfl) ?_
    refine ar_get hx hb hK hP (i := 0) (p9 := pl) rfl hp (by decide) dL_law_891 ?_
    refine lv_icmp_ne (tgt := 909) hx hb dL_law_892 (by decide) (fun h => absurd (A0 pl hp).symm h) (fun _ => ?_)
    refine lv_aload_n hx hb dL_law_895 rfl (lv_at hl 3 rfl) ?_
    refine lv_iload hx hb dL_law_896 (lv_at hl 1 rfl) ?_
    refine xfT (w1 := cW cy ad en x') (w2 := lW cy aa f) (As := [.int (nI pl)]) (rest := []) hx hb hml hown hw hK hN hA hl.1 hP hD hS hST k_472 k_473 k_474 k_21 k_475 (met_X9_cloudsAgain l hst0 D cy _ ad en g x' (nI pl) 0 (sumTo (fun j => if oo (j + 7) 3 = nI pl then 1 else 0) n) (g_cl hI' hxo' hp).2) (gY (x := x') (r := 0) (f := x' 12 0) (by decide) rfl) rfl ⟨rfl, rfl⟩ (n := 1) (by decide +kernel) rfl ⟨Nat.le_of_ble_eq_true rfl, Nat.le_of_ble_eq_true rfl⟩ ⟨show _ ≤ 975572 by omega, show _ ≤ 6174753 by omega⟩ (Nat.le_of_ble_eq_true rfl) rfl dL_law_898 (fun H locs q9 ce9 hne hP hD hS hce hcv hcl => absurd rfl hne) (fun H locs h0 hP hD hS => ?_)
    refine lv_aload hx hb dL_law_901 (lv_at hl 11 rfl) ?_
    refine lv_iload hx hb dL_law_903 (lv_at hl 1 rfl) ?_
    refine ar_get hx hb hK hP (i := 0) (p9 := pl) rfl hp (by decide) dL_law_905 ?_
    refine lv_icmp_eq (tgt := 911) hx hb dL_law_906 (by decide) (fun _ => ?_) (fun h => absurd (A0 pl hp).symm h)
    refine lv_iinc (v := nI (pl + 1)) (lv' := [(16, .int (nI (pl + 1))), (17, .int (bestW (wval oo n (nI pl)) 7)), (0, .ref b), (1, .ref (ad 12 0)), (2, .int (nI o)), (3, .int (nI n)), (4, .int u4), (5, .int u5), (6, .int u6), (7, .int u7), (8, .int (sumTo (q3 oo) (pl + 1))), (9, .ref (aa 0)), (10, .ref (aa 1)), (11, .ref (aa 2)), (12, .ref (aa 3)), (13, .ref (aa 4)), (14, .ref (aa 5)), (15, .ref (aa 6))]) hx hb dL_law_911 hl (k := 1) rfl (by rw [nI_succ]; rfl) (by decide) rfl (fun ls hl => ?_)
    refine lv_goto (tgt := 678) hx hb dL_law_914 (by decide) ?_
    exact ih x' H locs _ _ _ hI' hxo' (bmul (by omega)) (bmul (by omega)) hP hD hS (lv_sub hl [0, 2, 3, 4, 5, 6, 7, 8, 9, 10, 11, 12, 13, 14, 15, 16, 17] rfl)
set_option maxHeartbeats 4000000 in
theorem seg_S5 (hC : LX p s m c args b L xs A D cy en g) (hst0 : l.stackTraces = false) (hI : IV k x n d) (hxo : x 0 = oo) (hkc : kc ≤ 400000) (hks : ks ≤ 3000000) (hAC : AC oo n f)
    (kk : ∀ (H : Heap) (locs : List Loc) (ls : Array Slot) (cells slots : Nat), cells ≤ kc + 24 → slots ≤ ks + 144 → va_P D vwCl (cW cy ad en x ++ lW cy aa f) H → va_D A (cW cy ad en x ++ lW cy aa f) → va_S A s.heap H locs → lv_has ls 27 [(0, .ref b), (1, .ref (ad 12 0)), (2, .int (nI o)), (3, .int (nI n)), (4, .int u4), (5, .int u5), (6, .int u6), (7, .int u7), (8, .int u8), (9, .ref (aa 0)), (10, .ref (aa 1)), (11, .ref (aa 2)), (12, .ref (aa 3)), (13, .ref (aa 4)), (14, .ref (aa 5)), (15, .ref (aa 6))] → W p l e room_1 s m args below meth c H locs cells slots Q (F0 m 965 ls [])) :
    ∀ v, v ≤ 6 → ∀ (H : Heap) (locs : List Loc) (ls : Array Slot) (cells slots : Nat), cells ≤ kc + 4 * v → slots ≤ ks + 24 * v → va_P D vwCl (cW cy ad en x ++ lW cy aa f) H → va_D A (cW cy ad en x ++ lW cy aa f) → va_S A s.heap H locs → lv_has ls 27 [(16, .int (nI v)), (0, .ref b), (1, .ref (ad 12 0)), (2, .int (nI o)), (3, .int (nI n)), (4, .int u4), (5, .int u5), (6, .int u6), (7, .int u7), (8, .int u8), (9, .ref (aa 0)), (10, .ref (aa 1)), (11, .ref (aa 2)), (12, .ref (aa 3)), (13, .ref (aa 4)), (14, .ref (aa 5)), (15, .ref (aa 6))] → W p l e room_1 s m args below meth c H locs cells slots Q (F0 m 920 ls []) := by
  obtain ⟨hx, hb, hml, hown, hw, hK, hN, hST, hSC, hA⟩ := id hC
  obtain ⟨A0, A1, A2, A3, A4, A5, A6⟩ := hAC
  refine lp ?_ ?_
  · intro H locs ls cells slots hc hs hP hD hS hl
    refine lv_iload hx hb dL_law_920 (lv_at hl 0 rfl) ?_
    refine lv_bipush (v := 6) hx hb dL_law_922 (by decide) ?_
    refine lv_icmp_ge (tgt := 965) hx hb dL_law_924 (by decide) (fun _ => ?_) (fun h => absurd (show (6 : Int32) ≤ nI 6 by decide) h)
    exact kk H locs ls cells slots hc hs hP hD hS (lv_sub hl [1, 2, 3, 4, 5, 6, 7, 8, 9, 10, 11, 12, 13, 14, 15, 16] rfl)
  · intro v hv ih H locs ls cells slots hc hs hP hD hS hl
    refine lv_iload hx hb dL_law_920 (lv_at hl 0 rfl) ?_
    refine lv_bipush (v := 6) hx hb dL_law_922 (by decide) ?_
    refine lv_icmp_ge (tgt := 965) hx hb dL_law_924 (by decide) (fun h => absurd h (show ¬ (6 : Int32) ≤ nI v from nI_ge hv (by decide))) (fun _ => ?_)
    refine lv_aload_n hx hb dL_law_927 rfl (lv_at hl 2 rfl) ?_
    refine lv_iload hx hb dL_law_928 (lv_at hl 0 rfl) ?_
    refine lv_iconst (v := 1) hx hb dL_law_930 (by decide) ?_
    refine xfT (w1 := cW cy ad en x) (w2 := lW cy aa f) (As := [.int (nI v), .int 1]) (rest := []) hx hb hml hown hw hK hN hA hl.1 hP hD hS hST k_450 k_451 k_452 k_21 k_453 (met_X9_vineyardOf l hst0 D cy _ ad en g x (nI v) 1 0 (sumTo (fun j => if oo (j + 7) 0 = nI v then 1 else 0) n) (g_vy1 hI hxo hv).1) (gY (x := x) (r := 0) (f := x 12 0) (by decide) rfl) rfl ⟨rfl, rfl⟩ (n := 2) (by decide +kernel) rfl ⟨Nat.le_of_ble_eq_true rfl, Nat.le_of_ble_eq_true rfl⟩ ⟨show _ ≤ 975572 by omega, show _ ≤ 6174753 by omega⟩ (Nat.le_of_ble_eq_true rfl) rfl dL_law_931 (fun H locs q9 ce9 hne hP hD hS hce hcv hcl => absurd rfl hne) (fun H locs h0 hP hD hS => ?_)
    refine lv_aload hx hb dL_law_934 (lv_at hl 14 rfl) ?_
    refine lv_iload hx hb dL_law_936 (lv_at hl 0 rfl) ?_
    refine ar_get hx hb hK hP (i := 4) (p9 := v) rfl hv (by decide) dL_law_938 ?_
    refine lv_icmp_ne (tgt := 957) hx hb dL_law_939 (by decide) (fun h => absurd (A4 v hv).symm h) (fun _ => ?_)
    refine lv_aload_n hx hb dL_law_942 rfl (lv_at hl 2 rfl) ?_
    refine lv_iload hx hb dL_law_943 (lv_at hl 0 rfl) ?_
    refine lv_iconst (v := 2) hx hb dL_law_945 (by decide) ?_
    refine xfT (w1 := cW cy ad en x) (w2 := lW cy aa f) (As := [.int (nI v), .int 2]) (rest := []) hx hb hml hown hw hK hN hA hl.1 hP hD hS hST k_450 k_451 k_452 k_21 k_453 (met_X9_vineyardOf l hst0 D cy _ ad en g x (nI v) 2 0 (sumTo (fun j => if oo (j + 7) 0 = nI v then qS oo j else 0) n) (g_vy1 hI hxo hv).2) (gY (x := x) (r := 0) (f := x 12 0) (by decide) rfl) rfl ⟨rfl, rfl⟩ (n := 2) (by decide +kernel) rfl ⟨Nat.le_of_ble_eq_true rfl, Nat.le_of_ble_eq_true rfl⟩ ⟨show _ ≤ 975572 by omega, show _ ≤ 6174753 by omega⟩ (Nat.le_of_ble_eq_true rfl) rfl dL_law_946 (fun H locs q9 ce9 hne hP hD hS hce hcv hcl => absurd rfl hne) (fun H locs h0 hP hD hS => ?_)
    refine lv_aload hx hb dL_law_949 (lv_at hl 15 rfl) ?_
    refine lv_iload hx hb dL_law_951 (lv_at hl 0 rfl) ?_
    refine ar_get hx hb hK hP (i := 5) (p9 := v) rfl hv (by decide) dL_law_953 ?_
    refine lv_icmp_eq (tgt := 959) hx hb dL_law_954 (by decide) (fun _ => ?_) (fun h => absurd (A5 v hv).symm h)
    refine lv_iinc (v := nI (v + 1)) (lv' := [(16, .int (nI (v + 1))), (0, .ref b), (1, .ref (ad 12 0)), (2, .int (nI o)), (3, .int (nI n)), (4, .int u4), (5, .int u5), (6, .int u6), (7, .int u7), (8, .int u8), (9, .ref (aa 0)), (10, .ref (aa 1)), (11, .ref (aa 2)), (12, .ref (aa 3)), (13, .ref (aa 4)), (14, .ref (aa 5)), (15, .ref (aa 6))]) hx hb dL_law_959 hl (k := 0) rfl (by rw [nI_succ]; rfl) (by decide) rfl (fun ls hl => ?_)
    refine lv_goto (tgt := 920) hx hb dL_law_962 (by decide) ?_
    exact ih H locs _ _ _ (by omega) (by omega) hP hD hS (lv_sub hl [0, 1, 2, 3, 4, 5, 6, 7, 8, 9, 10, 11, 12, 13, 14, 15, 16] rfl)
end LAWC
