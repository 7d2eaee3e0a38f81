/-! the law: the loop over the clouds -/
section LAWB
variable {p : Program} {l : Launch} {e : Env} {s : State} {m : MethodId} {args : Array Value} {below : List Frame} {meth : Method} {c : Code} {b L : Nat} {xs : Nat → Int32} {A : Nat → Prop} {D : va_G} {cy : Nat → ClassId} {en g : Nat → Nat} {Q : State → Prop} {H : Heap} {locs : List Loc} {ls : Array Slot} {cells slots : Nat} {ad : Nat → Nat → Nat} {x : Mem} {oo : Nat → Nat → Int32} {k n d o : Nat} {aa : Nat → Nat} {f : Nat → Nat → Int32} {kc ks : Nat} {a : Nat} {u4 u5 u6 u7 u8 : Int32}
theorem bd1 {c k i : Nat} (h : c ≤ k + 100 * i + 64 + 24) : c ≤ k + 100 * (i + 1) := by omega
theorem bd2 {c k i : Nat} (h : c ≤ k + 700 * i + 494 + 144) : c ≤ k + 700 * (i + 1) := by rw [show 700 * (i + 1) = 700 * i + 700 from Nat.mul_succ 700 i, ← Nat.add_assoc]; exact Nat.le_trans h (by omega)
def AC (oo : Nat → Nat → Int32) (t : Nat) (f : Nat → Nat → Int32) : Prop :=
  AS 4 (fun j => oo (j + 7) 3) (fun _ => 1) t (f 0) ∧ AS 4 (fun j => oo (j + 7) 5) (fun _ => 1) t (f 1) ∧ AS 4 (fun j => oo (j + 7) 3) (qP oo) t (f 2) ∧ AS 4 (fun j => oo (j + 7) 3) (qS oo) t (f 3) ∧ AS 6 (fun j => oo (j + 7) 0) (fun _ => 1) t (f 4) ∧ AS 6 (fun j => oo (j + 7) 0) (qS oo) t (f 5) ∧ AS 4 (oo 2) (fun _ => 1) 6 (f 6)
def stepB (c v w t : Int32) : Int32 := if ((c + t) - (c + t) / 6 * 6) = v then t else if ((c - t + 6) - (c - t + 6) / 6 * 6) = v then (-t) else w
def byW (c v : Int32) : Int32 := stepB c v (stepB c v (stepB c v (stepB c v 9 3) (3 + (-1))) (3 + (-1) + (-1))) (3 + (-1) + (-1) + (-1))
theorem fin_by : ∀ i j : Fin 6, byW (nI i.val) (nI j.val) = wdist (nI i.val) (nI j.val) := by decide +kernel
theorem by_eq {c : Int32} (h : rng c 0 5) {v : Nat} (hv : v < 6) : byW c (nI v) = wdist c (nI v) := by
  obtain ⟨i, hi, e⟩ := rng_nI (b := 5) h (by decide)
  rw [e]
  exact fin_by ⟨i, by omega⟩ ⟨v, hv⟩
theorem g_wt {v : Nat} (h : IV k x n d) (hxo : x 0 = oo) (ha : a < n) (hv : v < 6) : D_X9_windTo x (nI a) (nI v) = some (0, wdist (oo (a + 7) 0) (nI v)) ∧ D_X9_windToAgain x (nI a) (nI v) = some (0, wdist (oo (a + 7) 0) (nI v)) := by rw [← hxo]; exact f_windTo h ha hv
theorem g_line (h : IV k x n d) (hxo : x 0 = oo) (ha : a < n) : ∃ x' : Mem, D_X9_line x (nI a) = some (0, nI (lineL (oo (a + 7)) a).length, x') ∧ TX x' (lineL (oo (a + 7)) a) ∧ IV k x' n d ∧ x' 0 = oo := by
  rw [← hxo]
  obtain ⟨x', e, t, fx⟩ := f_line h ha
  exact ⟨x', e, t, h.fx fx t, fx.1 0 (by omega)⟩
theorem g_ci (h : IV k x n d) (hxo : x 0 = oo) (ha : a < n) : CI (oo (a + 7)) := by rw [← hxo]; exact h.1.2.2.1 a ha
theorem rd0 {c : Nat → Int32} (h : c 5 = -1) : D_X1_redemption c = 0 := by unfold D_X1_redemption; rw [if_pos ((hPl c).mpr h)]
theorem rd1 {c : Nat → Int32} (hC : CI c) (h : ¬ c 5 = -1) : ∃ z w : Nat, c 2 = nI z ∧ D_X1_redemption c = nI w ∧ 2 * z + 1 ≤ w ∧ w < 100 := by
  obtain ⟨z, -, hz, ez⟩ := hC.1.size
  obtain ⟨w, hw, ew⟩ := rng_nI (x := c 6) (b := 9) ⟨by have := (hC.1.2.2.2.2.2 h).2.1; omega, (hC.1.2.2.2.2.2 h).2.2⟩ (by decide)
  have hle := (hC.2.2.2 h).2
  rw [ez, ew] at hle
  have hzw : z ≤ w := (nI_leJ (by omega) (by omega)).mp hle
  refine ⟨z, 2 * w + 1, ez, ?_, by omega, by omega⟩
  unfold D_X1_redemption
  rw [if_neg (fun q => h ((hPl c).mp q)), ew, show (2 : Int32) * nI w = nI (2 * w) from pk_mul 2 w]
  exact nI_add (2 * w) 1
set_option maxHeartbeats 4000000 in
theorem seg_wit (hC : LX p s m c args b L xs A D cy en g) {t w : Int32} {v : Nat} (ht : ¬ t < 0) (hl : lv_has ls 27 [(26, .int t), (25, .int w), (24, .int (nI v)), (16, .int (nI a)), (17, .int (oo (a + 7) 0)), (0, .ref b), (1, .ref (ad 12 0)), (2, .int (nI o)), (3, .int (nI n)), (4, .int u4), (5, .int u5), (6, .int u6), (7, .int u7), (8, .int u8), (9, .ref (aa 0)), (10, .ref (aa 1)), (11, .ref (aa 2)), (12, .ref (aa 3)), (13, .ref (aa 4)), (14, .ref (aa 5)), (15, .ref (aa 6))])
    (kk : ∀ ls : Array Slot, lv_has ls 27 [(26, .int (t + (-1))), (25, .int (stepB (oo (a + 7) 0) (nI v) w t)), (24, .int (nI v)), (16, .int (nI a)), (17, .int (oo (a + 7) 0)), (0, .ref b), (1, .ref (ad 12 0)), (2, .int (nI o)), (3, .int (nI n)), (4, .int u4), (5, .int u5), (6, .int u6), (7, .int u7), (8, .int u8), (9, .ref (aa 0)), (10, .ref (aa 1)), (11, .ref (aa 2)), (12, .ref (aa 3)), (13, .ref (aa 4)), (14, .ref (aa 5)), (15, .ref (aa 6))] → W p l e room_1 s m args below meth c H locs cells slots Q (F0 m 580 ls [])) : W p l e room_1 s m args below meth c H locs cells slots Q (F0 m 580 ls []) := by
  obtain ⟨hx, hb, hml, hown, hw, hK, hN, hST, hSC, hA⟩ := id hC
  refine lv_iload hx hb dL_law_580 (lv_at hl 0 rfl) ?_
  refine lv_if_lt (tgt := 635) hx hb dL_law_582 (by decide) (fun h => absurd h ht) (fun _ => ?_)
  refine lv_iload hx hb dL_law_585 (lv_at hl 4 rfl) ?_
  refine lv_iload hx hb dL_law_587 (lv_at hl 0 rfl) ?_
  refine lv_iadd hx hb dL_law_589 ?_
  refine lv_bipush (v := 6) hx hb dL_law_590 (by decide) ?_
  refine lv_irem hx hb dL_law_592 (by decide) ?_
  refine lv_iload hx hb dL_law_593 (lv_at hl 2 rfl) ?_
  refine lv_icmp_ne (tgt := 603) hx hb dL_law_595 (by decide) (fun h1 => ?_) (fun h2 => ?_)
  · refine lv_iload hx hb dL_law_603 (lv_at hl 4 rfl) ?_
    refine lv_iload hx hb dL_law_605 (lv_at hl 0 rfl) ?_
    refine lv_isub hx hb dL_law_607 ?_
    refine lv_bipush (v := 6) hx hb dL_law_608 (by decide) ?_
    refine lv_iadd hx hb dL_law_610 ?_
    refine lv_bipush (v := 6) hx hb dL_law_611 (by decide) ?_
    refine lv_irem hx hb dL_law_613 (by decide) ?_
    refine lv_iload hx hb dL_law_614 (lv_at hl 2 rfl) ?_
    refine lv_icmp_ne (tgt := 625) hx hb dL_law_616 (by decide) (fun h3 => ?_) (fun h4 => ?_)
    · refine lv_iload hx hb dL_law_625 (lv_at hl 1 rfl) ?_
      rw [show w = stepB (oo (a + 7) 0) (nI v) w t from by unfold stepB; rw [if_neg h1, if_neg h3]]
      refine lv_istore (lv' := [(25, .int (stepB (oo (a + 7) 0) (nI v) w t)), (26, .int t), (24, .int (nI v)), (16, .int (nI a)), (17, .int (oo (a + 7) 0)), (0, .ref b), (1, .ref (ad 12 0)), (2, .int (nI o)), (3, .int (nI n)), (4, .int u4), (5, .int u5), (6, .int u6), (7, .int u7), (8, .int u8), (9, .ref (aa 0)), (10, .ref (aa 1)), (11, .ref (aa 2)), (12, .ref (aa 3)), (13, .ref (aa 4)), (14, .ref (aa 5)), (15, .ref (aa 6))]) hx hb dL_law_627 hl (by decide) rfl (fun ls hl => ?_)
      refine lv_iinc (v := (t + (-1))) (lv' := [(26, .int (t + (-1))), (25, .int (stepB (oo (a + 7) 0) (nI v) w t)), (24, .int (nI v)), (16, .int (nI a)), (17, .int (oo (a + 7) 0)), (0, .ref b), (1, .ref (ad 12 0)), (2, .int (nI o)), (3, .int (nI n)), (4, .int u4), (5, .int u5), (6, .int u6), (7, .int u7), (8, .int u8), (9, .ref (aa 0)), (10, .ref (aa 1)), (11, .ref (aa 2)), (12, .ref (aa 3)), (13, .ref (aa 4)), (14, .ref (aa 5)), (15, .ref (aa 6))]) hx hb dL_law_629 hl (k := 1) rfl rfl (by decide) rfl (fun ls hl => ?_)
      refine lv_goto (tgt := 580) hx hb dL_law_632 (by decide) ?_
      exact kk ls (lv_sub hl [0, 1, 2, 3, 4, 5, 6, 7, 8, 9, 10, 11, 12, 13, 14, 15, 16, 17, 18, 19, 20] rfl)
    · refine lv_iload hx hb dL_law_619 (lv_at hl 0 rfl) ?_
      refine lv_ineg hx hb dL_law_621 ?_
      refine lv_goto (tgt := 627) hx hb dL_law_622 (by decide) ?_
      rw [show (-t) = stepB (oo (a + 7) 0) (nI v) w t from by unfold stepB; rw [if_neg h1, if_pos h4]]
      refine lv_istore (lv' := [(25, .int (stepB (oo (a + 7) 0) (nI v) w t)), (26, .int t), (24, .int (nI v)), (16, .int (nI a)), (17, .int (oo (a + 7) 0)), (0, .ref b), (1, .ref (ad 12 0)), (2, .int (nI o)), (3, .int (nI n)), (4, .int u4), (5, .int u5), (6, .int u6), (7, .int u7), (8, .int u8), (9, .ref (aa 0)), (10, .ref (aa 1)), (11, .ref (aa 2)), (12, .ref (aa 3)), (13, .ref (aa 4)), (14, .ref (aa 5)), (15, .ref (aa 6))]) hx hb dL_law_627 hl (by decide) rfl (fun ls hl => ?_)
      refine lv_iinc (v := (t + (-1))) (lv' := [(26, .int (t + (-1))), (25, .int (stepB (oo (a + 7) 0) (nI v) w t)), (24, .int (nI v)), (16, .int (nI a)), (17, .int (oo (a + 7) 0)), (0, .ref b), (1, .ref (ad 12 0)), (2, .int (nI o)), (3, .int (nI n)), (4, .int u4), (5, .int u5), (6, .int u6), (7, .int u7), (8, .int u8), (9, .ref (aa 0)), (10, .ref (aa 1)), (11, .ref (aa 2)), (12, .ref (aa 3)), (13, .ref (aa 4)), (14, .ref (aa 5)), (15, .ref (aa 6))]) hx hb dL_law_629 hl (k := 1) rfl rfl (by decide) rfl (fun ls hl => ?_)
      refine lv_goto (tgt := 580) hx hb dL_law_632 (by decide) ?_
      exact kk ls (lv_sub hl [0, 1, 2, 3, 4, 5, 6, 7, 8, 9, 10, 11, 12, 13, 14, 15, 16, 17, 18, 19, 20] rfl)
  · refine lv_iload hx hb dL_law_598 (lv_at hl 0 rfl) ?_
    refine lv_goto (tgt := 627) hx hb dL_law_600 (by decide) ?_
    rw [show t = stepB (oo (a + 7) 0) (nI v) w t from by unfold stepB; rw [if_pos h2]]
    refine lv_istore (lv' := [(25, .int (stepB (oo (a + 7) 0) (nI v) w t)), (26, .int t), (24, .int (nI v)), (16, .int (nI a)), (17, .int (oo (a + 7) 0)), (0, .ref b), (1, .ref (ad 12 0)), (2, .int (nI o)), (3, .int (nI n)), (4, .int u4), (5, .int u5), (6, .int u6), (7, .int u7), (8, .int u8), (9, .ref (aa 0)), (10, .ref (aa 1)), (11, .ref (aa 2)), (12, .ref (aa 3)), (13, .ref (aa 4)), (14, .ref (aa 5)), (15, .ref (aa 6))]) hx hb dL_law_627 hl (by decide) rfl (fun ls hl => ?_)
    refine lv_iinc (v := (t + (-1))) (lv' := [(26, .int (t + (-1))), (25, .int (stepB (oo (a + 7) 0) (nI v) w t)), (24, .int (nI v)), (16, .int (nI a)), (17, .int (oo (a + 7) 0)), (0, .ref b), (1, .ref (ad 12 0)), (2, .int (nI o)), (3, .int (nI n)), (4, .int u4), (5, .int u5), (6, .int u6), (7, .int u7), (8, .int u8), (9, .ref (aa 0)), (10, .ref (aa 1)), (11, .ref (aa 2)), (12, .ref (aa 3)), (13, .ref (aa 4)), (14, .ref (aa 5)), (15, .ref (aa 6))]) hx hb dL_law_629 hl (k := 1) rfl rfl (by decide) rfl (fun ls hl => ?_)
    refine lv_goto (tgt := 580) hx hb dL_law_632 (by decide) ?_
    exact kk ls (lv_sub hl [0, 1, 2, 3, 4, 5, 6, 7, 8, 9, 10, 11, 12, 13, 14, 15, 16, 17, 18, 19, 20] rfl)
set_option maxHeartbeats 4000000 in
theorem seg_wind (hC : LX p s m c args b L xs A D cy en g) (hst0 : l.stackTraces = false) (hI : IV k x n d) (hxo : x 0 = oo) (hkc : kc ≤ 500000) (hks : ks ≤ 4000000) (ha : a < n)
    (kk : ∀ (H : Heap) (locs : List Loc) (ls : Array Slot) (cells slots : Nat), cells ≤ kc + 24 → slots ≤ ks + 144 → va_P D vwCl (cW cy ad en x ++ lW cy aa f) H → va_D A (cW cy ad en x ++ lW cy aa f) → va_S A s.heap H locs → lv_has ls 27 [(16, .int (nI a)), (0, .ref b), (1, .ref (ad 12 0)), (2, .int (nI o)), (3, .int (nI n)), (4, .int u4), (5, .int u5), (6, .int u6), (7, .int u7), (8, .int u8), (9, .ref (aa 0)), (10, .ref (aa 1)), (11, .ref (aa 2)), (12, .ref (aa 3)), (13, .ref (aa 4)), (14, .ref (aa 5)), (15, .ref (aa 6))] → W p l e room_1 s m args below meth c H locs cells slots Q (F0 m 669 ls [])) :
    ∀ v, v ≤ 6 → ∀ (H : Heap) (locs : List Loc) (ls : Array Slot) (cells slots : Nat), cells ≤ kc + 4 * v → slots ≤ ks + 24 * v → va_P D vwCl (cW cy ad en x ++ lW cy aa f) H → va_D A (cW cy ad en x ++ lW cy aa f) → va_S A s.heap H locs → lv_has ls 27 [(24, .int (nI v)), (16, .int (nI a)), (17, .int (oo (a + 7) 0)), (0, .ref b), (1, .ref (ad 12 0)), (2, .int (nI o)), (3, .int (nI n)), (4, .int u4), (5, .int u5), (6, .int u6), (7, .int u7), (8, .int u8), (9, .ref (aa 0)), (10, .ref (aa 1)), (11, .ref (aa 2)), (12, .ref (aa 3)), (13, .ref (aa 4)), (14, .ref (aa 5)), (15, .ref (aa 6))] → W p l e room_1 s m args below meth c H locs cells slots Q (F0 m 566 ls []) := by
  obtain ⟨hx, hb, hml, hown, hw, hK, hN, hST, hSC, hA⟩ := id hC
  refine lp ?_ ?_
  · intro H locs ls cells slots hc hs hP hD hS hl
    refine lv_iload hx hb dL_law_566 (lv_at hl 0 rfl) ?_
    refine lv_bipush (v := 6) hx hb dL_law_568 (by decide) ?_
    refine lv_icmp_ge (tgt := 669) hx hb dL_law_570 (by decide) (fun _ => ?_) (fun h => absurd (show (6 : Int32) ≤ nI 6 by decide) h)
    exact kk H locs ls cells slots hc hs hP hD hS (lv_sub hl [1, 3, 4, 5, 6, 7, 8, 9, 10, 11, 12, 13, 14, 15, 16, 17, 18] rfl)
  · intro v hv ih H locs ls cells slots hc hs hP hD hS hl
    obtain ⟨w1, w2⟩ := g_wt hI hxo ha hv
    have hby := by_eq (g_ci hI hxo ha).1.1 hv
    refine lv_iload hx hb dL_law_566 (lv_at hl 0 rfl) ?_
    refine lv_bipush (v := 6) hx hb dL_law_568 (by decide) ?_
    refine lv_icmp_ge (tgt := 669) hx hb dL_law_570 (by decide) (fun h => absurd h (show ¬ (6 : Int32) ≤ nI v from nI_ge hv (by decide))) (fun _ => ?_)
    refine lv_bipush (v := 9) hx hb dL_law_573 (by decide) ?_
    refine lv_istore (lv' := [(25, .int 9), (24, .int (nI v)), (16, .int (nI a)), (17, .int (oo (a + 7) 0)), (0, .ref b), (1, .ref (ad 12 0)), (2, .int (nI o)), (3, .int (nI n)), (4, .int u4), (5, .int u5), (6, .int u6), (7, .int u7), (8, .int u8), (9, .ref (aa 0)), (10, .ref (aa 1)), (11, .ref (aa 2)), (12, .ref (aa 3)), (13, .ref (aa 4)), (14, .ref (aa 5)), (15, .ref (aa 6))]) hx hb dL_law_575 hl (by decide) rfl (fun ls hl => ?_)
    refine lv_iconst (v := 3) hx hb dL_law_577 (by decide) ?_
    refine lv_istore (lv' := [(26, .int 3), (25, .int 9), (24, .int (nI v)), (16, .int (nI a)), (17, .int (oo (a + 7) 0)), (0, .ref b), (1, .ref (ad 12 0)), (2, .int (nI o)), (3, .int (nI n)), (4, .int u4), (5, .int u5), (6, .int u6), (7, .int u7), (8, .int u8), (9, .ref (aa 0)), (10, .ref (aa 1)), (11, .ref (aa 2)), (12, .ref (aa 3)), (13, .ref (aa 4)), (14, .ref (aa 5)), (15, .ref (aa 6))]) hx hb dL_law_578 hl (by decide) rfl (fun ls hl => ?_)
    refine seg_wit hC (t := 3) (w := 9) (v := v) (by decide) (lv_sub hl [0, 1, 2, 3, 4, 5, 6, 7, 8, 9, 10, 11, 12, 13, 14, 15, 16, 17, 18, 19, 20] rfl) (fun ls hl => ?_)
    refine seg_wit hC (t := 3 + (-1)) (w := (stepB (oo (a + 7) 0) (nI v) 9 3)) (v := v) (by decide) (lv_sub hl [0, 1, 2, 3, 4, 5, 6, 7, 8, 9, 10, 11, 12, 13, 14, 15, 16, 17, 18, 19, 20] rfl) (fun ls hl => ?_)
    refine seg_wit hC (t := 3 + (-1) + (-1)) (w := (stepB (oo (a + 7) 0) (nI v) (stepB (oo (a + 7) 0) (nI v) 9 3) (3 + (-1)))) (v := v) (by decide) (lv_sub hl [0, 1, 2, 3, 4, 5, 6, 7, 8, 9, 10, 11, 12, 13, 14, 15, 16, 17, 18, 19, 20] rfl) (fun ls hl => ?_)
    refine seg_wit hC (t := 3 + (-1) + (-1) + (-1)) (w := (stepB (oo (a + 7) 0) (nI v) (stepB (oo (a + 7) 0) (nI v) (stepB (oo (a + 7) 0) (nI v) 9 3) (3 + (-1))) (3 + (-1) + (-1)))) (v := v) (by decide) (lv_sub hl [0, 1, 2, 3, 4, 5, 6, 7, 8, 9, 10, 11, 12, 13, 14, 15, 16, 17, 18, 19, 20] rfl) (fun ls hl => ?_)
    refine lv_iload hx hb dL_law_580 (lv_at hl 0 rfl) ?_
    refine lv_if_lt (tgt := 635) hx hb dL_law_582 (by decide) (fun _ => ?_) (fun h => absurd (by decide) h)
    refine lv_aload_n hx hb dL_law_635 rfl (lv_at hl 6 rfl) ?_
    refine lv_iload hx hb dL_law_636 (lv_at hl 3 rfl) ?_
    refine lv_iload hx hb dL_law_638 (lv_at hl 2 rfl) ?_
    refine xfT (w1 := cW cy ad en x) (w2 := lW cy aa f) (As := [.int (nI a), .int (nI v)]) (rest := []) hx hb hml hown hw hK hN hA hl.1 hP hD hS hST k_481 k_482 k_483 k_21 k_484 (met_X9_windTo l hst0 D cy _ ad en g x (nI a) (nI v) 0 (wdist (oo (a + 7) 0) (nI v)) w1) (gY (x := x) (r := 0) (f := x 12 0) (by decide) rfl) rfl ⟨rfl, rfl⟩ (n := 2) (by decide +kernel) rfl ⟨Nat.le_of_ble_eq_true rfl, Nat.le_of_ble_eq_true rfl⟩ ⟨show _ ≤ 975572 by omega, show _ ≤ 6174753 by omega⟩ (Nat.le_of_ble_eq_true rfl) rfl dL_law_640 (fun H locs q9 ce9 hne hP hD hS hce hcv hcl => absurd rfl hne) (fun H locs h0 hP hD hS => ?_)
    refine lv_iload hx hb dL_law_643 (lv_at hl 1 rfl) ?_
    refine lv_icmp_ne (tgt := 661) hx hb dL_law_645 (by decide) (fun h => absurd hby.symm h) (fun _ => ?_)
    refine lv_aload_n hx hb dL_law_648 rfl (lv_at hl 6 rfl) ?_
    refine lv_iload hx hb dL_law_649 (lv_at hl 3 rfl) ?_
    refine lv_iload hx hb dL_law_651 (lv_at hl 2 rfl) ?_
    refine xfT (w1 := cW cy ad en x) (w2 := lW cy aa f) (As := [.int (nI a), .int (nI v)]) (rest := []) hx hb hml hown hw hK hN hA hl.1 hP hD hS hST k_497 k_498 k_499 k_21 k_500 (met_X9_windToAgain l hst0 D cy _ ad en g x (nI a) (nI v) 0 (wdist (oo (a + 7) 0) (nI v)) w2) (gY (x := x) (r := 0) (f := x 12 0) (by decide) rfl) rfl ⟨rfl, rfl⟩ (n := 2) (by decide +kernel) rfl ⟨Nat.le_of_ble_eq_true rfl, Nat.le_of_ble_eq_true rfl⟩ ⟨show _ ≤ 975572 by omega, show _ ≤ 6174753 by omega⟩ (Nat.le_of_ble_eq_true rfl) rfl dL_law_653 (fun H locs q9 ce9 hne hP hD hS hce hcv hcl => absurd rfl hne) (fun H locs h0 hP hD hS => ?_)
    refine lv_iload hx hb dL_law_656 (lv_at hl 1 rfl) ?_
    refine lv_icmp_eq (tgt := 663) hx hb dL_law_658 (by decide) (fun _ => ?_) (fun h => absurd hby.symm h)
    refine lv_iinc (v := nI (v + 1)) (lv' := [(24, .int (nI (v + 1))), (26, .int (3 + (-1) + (-1) + (-1) + (-1))), (25, .int (stepB (oo (a + 7) 0) (nI v) (stepB (oo (a + 7) 0) (nI v) (stepB (oo (a + 7) 0) (nI v) (stepB (oo (a + 7) 0) (nI v) 9 3) (3 + (-1))) (3 + (-1) + (-1))) (3 + (-1) + (-1) + (-1)))), (16, .int (nI a)), (17, .int (oo (a + 7) 0)), (0, .ref b), (1, .ref (ad 12 0)), (2, .int (nI o)), (3, .int (nI n)), (4, .int u4), (5, .int u5), (6, .int u6), (7, .int u7), (8, .int u8), (9, .ref (aa 0)), (10, .ref (aa 1)), (11, .ref (aa 2)), (12, .ref (aa 3)), (13, .ref (aa 4)), (14, .ref (aa 5)), (15, .ref (aa 6))]) hx hb dL_law_663 hl (k := 2) rfl (by rw [nI_succ]; rfl) (by decide) rfl (fun ls hl => ?_)
    refine lv_goto (tgt := 566) hx hb dL_law_666 (by decide) ?_
    exact ih H locs _ _ _ (by omega) (by omega) hP hD hS (lv_sub hl [0, 3, 4, 5, 6, 7, 8, 9, 10, 11, 12, 13, 14, 15, 16, 17, 18, 19, 20] rfl)
set_option maxHeartbeats 8000000 in
theorem seg_c1 (hC : LX p s m c args b L xs A D cy en g) (hst0 : l.stackTraces = false) (hI : IV k x n d) (hxo : x 0 = oo) (hkc : kc ≤ 500000) (hks : ks ≤ 4000000) (ha : a < n) (hl : lv_has ls 27 [(16, .int (nI a)), (0, .ref b), (1, .ref (ad 12 0)), (2, .int (nI o)), (3, .int (nI n)), (4, .int u4), (5, .int u5), (6, .int u6), (7, .int u7), (8, .int u8), (9, .ref (aa 0)), (10, .ref (aa 1)), (11, .ref (aa 2)), (12, .ref (aa 3)), (13, .ref (aa 4)), (14, .ref (aa 5)), (15, .ref (aa 6))]) (hc : cells ≤ kc) (hs : slots ≤ ks) (hP : va_P D vwCl (cW cy ad en x ++ lW cy aa f) H) (hD : va_D A (cW cy ad en x ++ lW cy aa f)) (hS : va_S A s.heap H locs)
    (kk : ∀ (x : Mem) (H : Heap) (locs : List Loc) (ls : Array Slot) (cells slots : Nat), IV k x n d → x 0 = oo → cells ≤ kc + 60 → slots ≤ ks + 470 → va_P D vwCl (cW cy ad en x ++ lW cy aa f) H → va_D A (cW cy ad en x ++ lW cy aa f) → va_S A s.heap H locs → lv_has ls 27 [(16, .int (nI a)), (17, .int (oo (a + 7) 0)), (18, .int (oo (a + 7) 1)), (19, .int (oo (a + 7) 2)), (20, .int (oo (a + 7) 3)), (21, .int (oo (a + 7) 4)), (22, .int (oo (a + 7) 5)), (0, .ref b), (1, .ref (ad 12 0)), (2, .int (nI o)), (3, .int (nI n)), (4, .int u4), (5, .int u5), (6, .int u6), (7, .int u7), (8, .int u8), (9, .ref (aa 0)), (10, .ref (aa 1)), (11, .ref (aa 2)), (12, .ref (aa 3)), (13, .ref (aa 4)), (14, .ref (aa 5)), (15, .ref (aa 6))] → W p l e room_1 s m args below meth c H locs cells slots Q (F0 m 345 ls [])) : W p l e room_1 s m args below meth c H locs cells slots Q (F0 m 141 ls []) := by
  obtain ⟨hx, hb, hml, hown, hw, hK, hN, hST, hSC, hA⟩ := id hC
  refine lv_aload_n hx hb dL_law_141 rfl (lv_at hl 2 rfl) ?_
  refine lv_iload hx hb dL_law_142 (lv_at hl 0 rfl) ?_
  refine lv_iconst (v := 0) hx hb dL_law_144 (by decide) ?_
  refine xfT (w1 := cW cy ad en x) (w2 := lW cy aa f) (As := [.int (nI a), .int 0]) (rest := []) hx hb hml hown hw hK hN hA hl.1 hP hD hS hST k_315 k_316 k_317 k_21 k_318 (met_X9_cloudOf l hst0 D cy _ ad en g x (nI a) 0 0 (oo (a + 7) 0) (g_co0 hI hxo ha)) (gY (x := x) (r := 0) (f := x 12 0) (by decide) rfl) rfl ⟨rfl, rfl⟩ (n := 2) (by decide +kernel) rfl ⟨Nat.le_of_ble_eq_true rfl, Nat.le_of_ble_eq_true rfl⟩ ⟨show _ ≤ 975572 by omega, show _ ≤ 6174753 by omega⟩ (Nat.le_of_ble_eq_true rfl) rfl dL_law_145 (fun H locs q9 ce9 hne hP hD hS hce hcv hcl => absurd rfl hne) (fun H locs h0 hP hD hS => ?_)
  refine lv_istore (lv' := [(17, .int (oo (a + 7) 0)), (16, .int (nI a)), (0, .ref b), (1, .ref (ad 12 0)), (2, .int (nI o)), (3, .int (nI n)), (4, .int u4), (5, .int u5), (6, .int u6), (7, .int u7), (8, .int u8), (9, .ref (aa 0)), (10, .ref (aa 1)), (11, .ref (aa 2)), (12, .ref (aa 3)), (13, .ref (aa 4)), (14, .ref (aa 5)), (15, .ref (aa 6))]) hx hb dL_law_148 hl (by decide) rfl (fun ls hl => ?_)
  refine lv_aload_n hx hb dL_law_150 rfl (lv_at hl 3 rfl) ?_
  refine lv_iload hx hb dL_law_151 (lv_at hl 1 rfl) ?_
  refine lv_iconst (v := 1) hx hb dL_law_153 (by decide) ?_
  refine xfT (w1 := cW cy ad en x) (w2 := lW cy aa f) (As := [.int (nI a), .int 1]) (rest := []) hx hb hml hown hw hK hN hA hl.1 hP hD hS hST k_315 k_316 k_317 k_21 k_318 (met_X9_cloudOf l hst0 D cy _ ad en g x (nI a) 1 0 (oo (a + 7) 1) (g_co1 hI hxo ha)) (gY (x := x) (r := 0) (f := x 12 0) (by decide) rfl) rfl ⟨rfl, rfl⟩ (n := 2) (by decide +kernel) rfl ⟨Nat.le_of_ble_eq_true rfl, Nat.le_of_ble_eq_true rfl⟩ ⟨show _ ≤ 975572 by omega, show _ ≤ 6174753 by omega⟩ (Nat.le_of_ble_eq_true rfl) rfl dL_law_154 (fun H locs q9 ce9 hne hP hD hS hce hcv hcl => absurd rfl hne) (fun H locs h0 hP hD hS => ?_)
  refine lv_istore (lv' := [(18, .int (oo (a + 7) 1)), (17, .int (oo (a + 7) 0)), (16, .int (nI a)), (0, .ref b), (1, .ref (ad 12 0)), (2, .int (nI o)), (3, .int (nI n)), (4, .int u4), (5, .int u5), (6, .int u6), (7, .int u7), (8, .int u8), (9, .ref (aa 0)), (10, .ref (aa 1)), (11, .ref (aa 2)), (12, .ref (aa 3)), (13, .ref (aa 4)), (14, .ref (aa 5)), (15, .ref (aa 6))]) hx hb dL_law_157 hl (by decide) rfl (fun ls hl => ?_)
  refine lv_aload_n hx hb dL_law_159 rfl (lv_at hl 4 rfl) ?_
  refine lv_iload hx hb dL_law_160 (lv_at hl 2 rfl) ?_
  refine lv_iconst (v := 2) hx hb dL_law_162 (by decide) ?_
  refine xfT (w1 := cW cy ad en x) (w2 := lW cy aa f) (As := [.int (nI a), .int 2]) (rest := []) hx hb hml hown hw hK hN hA hl.1 hP hD hS hST k_315 k_316 k_317 k_21 k_318 (met_X9_cloudOf l hst0 D cy _ ad en g x (nI a) 2 0 (oo (a + 7) 2) (g_co2 hI hxo ha)) (gY (x := x) (r := 0) (f := x 12 0) (by decide) rfl) rfl ⟨rfl, rfl⟩ (n := 2) (by decide +kernel) rfl ⟨Nat.le_of_ble_eq_true rfl, Nat.le_of_ble_eq_true rfl⟩ ⟨show _ ≤ 975572 by omega, show _ ≤ 6174753 by omega⟩ (Nat.le_of_ble_eq_true rfl) rfl dL_law_163 (fun H locs q9 ce9 hne hP hD hS hce hcv hcl => absurd rfl hne) (fun H locs h0 hP hD hS => ?_)
  refine lv_istore (lv' := [(19, .int (oo (a + 7) 2)), (18, .int (oo (a + 7) 1)), (17, .int (oo (a + 7) 0)), (16, .int (nI a)), (0, .ref b), (1, .ref (ad 12 0)), (2, .int (nI o)), (3, .int (nI n)), (4, .int u4), (5, .int u5), (6, .int u6), (7, .int u7), (8, .int u8), (9, .ref (aa 0)), (10, .ref (aa 1)), (11, .ref (aa 2)), (12, .ref (aa 3)), (13, .ref (aa 4)), (14, .ref (aa 5)), (15, .ref (aa 6))]) hx hb dL_law_166 hl (by decide) rfl (fun ls hl => ?_)
  refine lv_aload_n hx hb dL_law_168 rfl (lv_at hl 5 rfl) ?_
  refine lv_iload hx hb dL_law_169 (lv_at hl 3 rfl) ?_
  refine lv_iconst (v := 3) hx hb dL_law_171 (by decide) ?_
  refine xfT (w1 := cW cy ad en x) (w2 := lW cy aa f) (As := [.int (nI a), .int 3]) (rest := []) hx hb hml hown hw hK hN hA hl.1 hP hD hS hST k_315 k_316 k_317 k_21 k_318 (met_X9_cloudOf l hst0 D cy _ ad en g x (nI a) 3 0 (oo (a + 7) 3) (g_co3 hI hxo ha)) (gY (x := x) (r := 0) (f := x 12 0) (by decide) rfl) rfl ⟨rfl, rfl⟩ (n := 2) (by decide +kernel) rfl ⟨Nat.le_of_ble_eq_true rfl, Nat.le_of_ble_eq_true rfl⟩ ⟨show _ ≤ 975572 by omega, show _ ≤ 6174753 by omega⟩ (Nat.le_of_ble_eq_true rfl) rfl dL_law_172 (fun H locs q9 ce9 hne hP hD hS hce hcv hcl => absurd rfl hne) (fun H locs h0 hP hD hS => ?_)
  refine lv_istore (lv' := [(20, .int (oo (a + 7) 3)), (19, .int (oo (a + 7) 2)), (18, .int (oo (a + 7) 1)), (17, .int (oo (a + 7) 0)), (16, .int (nI a)), (0, .ref b), (1, .ref (ad 12 0)), (2, .int (nI o)), (3, .int (nI n)), (4, .int u4), (5, .int u5), (6, .int u6), (7, .int u7), (8, .int u8), (9, .ref (aa 0)), (10, .ref (aa 1)), (11, .ref (aa 2)), (12, .ref (aa 3)), (13, .ref (aa 4)), (14, .ref (aa 5)), (15, .ref (aa 6))]) hx hb dL_law_175 hl (by decide) rfl (fun ls hl => ?_)
  refine lv_aload_n hx hb dL_law_177 rfl (lv_at hl 6 rfl) ?_
  refine lv_iload hx hb dL_law_178 (lv_at hl 4 rfl) ?_
  refine lv_iconst (v := 4) hx hb dL_law_180 (by decide) ?_
  refine xfT (w1 := cW cy ad en x) (w2 := lW cy aa f) (As := [.int (nI a), .int 4]) (rest := []) hx hb hml hown hw hK hN hA hl.1 hP hD hS hST k_315 k_316 k_317 k_21 k_318 (met_X9_cloudOf l hst0 D cy _ ad en g x (nI a) 4 0 (oo (a + 7) 4) (g_co4 hI hxo ha)) (gY (x := x) (r := 0) (f := x 12 0) (by decide) rfl) rfl ⟨rfl, rfl⟩ (n := 2) (by decide +kernel) rfl ⟨Nat.le_of_ble_eq_true rfl, Nat.le_of_ble_eq_true rfl⟩ ⟨show _ ≤ 975572 by omega, show _ ≤ 6174753 by omega⟩ (Nat.le_of_ble_eq_true rfl) rfl dL_law_181 (fun H locs q9 ce9 hne hP hD hS hce hcv hcl => absurd rfl hne) (fun H locs h0 hP hD hS => ?_)
  refine lv_istore (lv' := [(21, .int (oo (a + 7) 4)), (20, .int (oo (a + 7) 3)), (19, .int (oo (a + 7) 2)), (18, .int (oo (a + 7) 1)), (17, .int (oo (a + 7) 0)), (16, .int (nI a)), (0, .ref b), (1, .ref (ad 12 0)), (2, .int (nI o)), (3, .int (nI n)), (4, .int u4), (5, .int u5), (6, .int u6), (7, .int u7), (8, .int u8), (9, .ref (aa 0)), (10, .ref (aa 1)), (11, .ref (aa 2)), (12, .ref (aa 3)), (13, .ref (aa 4)), (14, .ref (aa 5)), (15, .ref (aa 6))]) hx hb dL_law_184 hl (by decide) rfl (fun ls hl => ?_)
  refine lv_aload_n hx hb dL_law_186 rfl (lv_at hl 7 rfl) ?_
  refine lv_iload hx hb dL_law_187 (lv_at hl 5 rfl) ?_
  refine lv_iconst (v := 5) hx hb dL_law_189 (by decide) ?_
  refine xfT (w1 := cW cy ad en x) (w2 := lW cy aa f) (As := [.int (nI a), .int 5]) (rest := []) hx hb hml hown hw hK hN hA hl.1 hP hD hS hST k_315 k_316 k_317 k_21 k_318 (met_X9_cloudOf l hst0 D cy _ ad en g x (nI a) 5 0 (oo (a + 7) 5) (g_co5 hI hxo ha)) (gY (x := x) (r := 0) (f := x 12 0) (by decide) rfl) rfl ⟨rfl, rfl⟩ (n := 2) (by decide +kernel) rfl ⟨Nat.le_of_ble_eq_true rfl, Nat.le_of_ble_eq_true rfl⟩ ⟨show _ ≤ 975572 by omega, show _ ≤ 6174753 by omega⟩ (Nat.le_of_ble_eq_true rfl) rfl dL_law_190 (fun H locs q9 ce9 hne hP hD hS hce hcv hcl => absurd rfl hne) (fun H locs h0 hP hD hS => ?_)
  refine lv_istore (lv' := [(22, .int (oo (a + 7) 5)), (21, .int (oo (a + 7) 4)), (20, .int (oo (a + 7) 3)), (19, .int (oo (a + 7) 2)), (18, .int (oo (a + 7) 1)), (17, .int (oo (a + 7) 0)), (16, .int (nI a)), (0, .ref b), (1, .ref (ad 12 0)), (2, .int (nI o)), (3, .int (nI n)), (4, .int u4), (5, .int u5), (6, .int u6), (7, .int u7), (8, .int u8), (9, .ref (aa 0)), (10, .ref (aa 1)), (11, .ref (aa 2)), (12, .ref (aa 3)), (13, .ref (aa 4)), (14, .ref (aa 5)), (15, .ref (aa 6))]) hx hb dL_law_193 hl (by decide) rfl (fun ls hl => ?_)
  have h6 := hI.1.1
  have hCI := g_ci hI hxo ha
  refine seg_text (k0 := kc + 24) (k1 := ks + 192) hC (by omega) (by omega) (show a < 10 by omega) hCI.1 (lv_sub hl [6, 5, 4, 3, 2, 1, 0] rfl) (by omega) (by omega) hP hD hS (fun q sv h H locs cells slots hc hs hh hP hD hS => ?_)
  rw [List.append_assoc] at hP hD
  refine lv_astore (lv' := [(23, .ref q), (22, .int (oo (a + 7) 5)), (21, .int (oo (a + 7) 4)), (20, .int (oo (a + 7) 3)), (19, .int (oo (a + 7) 2)), (18, .int (oo (a + 7) 1)), (17, .int (oo (a + 7) 0)), (16, .int (nI a)), (0, .ref b), (1, .ref (ad 12 0)), (2, .int (nI o)), (3, .int (nI n)), (4, .int u4), (5, .int u5), (6, .int u6), (7, .int u7), (8, .int u8), (9, .ref (aa 0)), (10, .ref (aa 1)), (11, .ref (aa 2)), (12, .ref (aa 3)), (13, .ref (aa 4)), (14, .ref (aa 5)), (15, .ref (aa 6))]) hx hb dL_law_328 hl (by decide) rfl (fun ls hl => ?_)
  refine lv_aload_n hx hb dL_law_330 rfl (lv_at hl 9 rfl) ?_
  refine lv_aload_n hx hb dL_law_331 rfl (lv_at hl 9 rfl) ?_
  refine lv_iload hx hb dL_law_332 (lv_at hl 7 rfl) ?_
  obtain ⟨x', eL, tL, hI', hxo'⟩ := g_line hI hxo ha
  refine xfT (w1 := cW cy ad en x) (w2 := lW cy aa f ++ [(q, .inr (0, [.ref sv, .int 0, .int 0, .int 0])), (sv, .inl (cy 2, (lineL (oo (a + 7)) a).length, .inl h))]) (As := [.int (nI a)]) (rest := [.ref (ad 12 0)]) hx hb hml hown hw hK hN hA hl.1 hP hD hS hST k_674 k_675 k_676 k_21 k_677 (met_X9_line l hst0 D cy _ ad en g x (nI a) 0 (nI (lineL (oo (a + 7)) a).length) x' eL) (gY (x := x) (r := 0) (f := x 12 0) (by decide) rfl) rfl ⟨rfl, rfl⟩ (n := 1) (by decide +kernel) rfl ⟨Nat.le_of_ble_eq_true rfl, Nat.le_of_ble_eq_true rfl⟩ ⟨show _ ≤ 975572 by omega, show _ ≤ 6174753 by omega⟩ (Nat.le_of_ble_eq_true rfl) rfl dL_law_334 (fun H locs q9 ce9 hne hP hD hS hce hcv hcl => absurd rfl hne) (fun H locs h0 hP hD hS => ?_)
  refine lv_aload hx hb dL_law_337 (lv_at hl 0 rfl) ?_
  refine fSj (w1 := cW cy ad en x') (w2 := lW cy aa f ++ [(q, .inr (0, [.ref sv, .int 0, .int 0, .int 0])), (sv, .inl (cy 2, (lineL (oo (a + 7)) a).length, .inl h))]) (As := [.ref (ad 12 0), .int (nI (lineL (oo (a + 7)) a).length), .ref q]) (rest := []) hx hb hml hown hw hK hN hA hl.1 hP hD hS k_1165 k_1166 k_20 k_1167 (met_L_isLine l hst0 D cy _ ad en g x' (lineL (oo (a + 7)) a) tL q sv _ h rfl (fun j u hj => (hh j u hj).1)) (fun Z hZ hW => ⟨ST_call hST hS (fr_F hS hD hA) Z hZ hW, KS_made (i := 7) (j := 8) hw hK hP hD rfl rfl Z hZ hW⟩) Xok_K ⟨rfl, rfl⟩ (n := 3) (by decide +kernel) rfl ⟨Nat.le_of_ble_eq_true rfl, Nat.le_of_ble_eq_true rfl⟩ ⟨show _ ≤ 975572 by omega, show _ ≤ 6174753 by omega⟩ (Nat.le_of_ble_eq_true rfl) rfl dL_law_339 (fun r9 w9 H locs h9 hP hD hS => ?_)
  obtain ⟨hr9, hw9⟩ := h9
  subst r9 w9
  rw [← List.append_assoc] at hP hD
  have hP := fr_l hP
  have hD := fr_dl hD
  refine lv_if_eq (tgt := 449) hx hb dL_law_342 (by decide) (fun h => absurd h (by decide)) (fun _ => ?_)
  exact kk x' H locs ls _ _ hI' hxo' (by omega) (by omega) hP hD hS (lv_sub hl [7, 6, 5, 4, 3, 2, 1, 8, 9, 10, 11, 12, 13, 14, 15, 16, 17, 18, 19, 20, 21, 22, 23] rfl)
set_option maxHeartbeats 8000000 in
theorem seg_c2 (hC : LX p s m c args b L xs A D cy en g) (hst0 : l.stackTraces = false) (hI : IV k x n d) (hxo : x 0 = oo) (hkc : kc ≤ 500000) (hks : ks ≤ 4000000) (ha : a < n) (hl : lv_has ls 27 [(16, .int (nI a)), (17, .int (oo (a + 7) 0)), (18, .int (oo (a + 7) 1)), (19, .int (oo (a + 7) 2)), (20, .int (oo (a + 7) 3)), (21, .int (oo (a + 7) 4)), (22, .int (oo (a + 7) 5)), (0, .ref b), (1, .ref (ad 12 0)), (2, .int (nI o)), (3, .int (nI n)), (4, .int u4), (5, .int u5), (6, .int u6), (7, .int u7), (8, .int u8), (9, .ref (aa 0)), (10, .ref (aa 1)), (11, .ref (aa 2)), (12, .ref (aa 3)), (13, .ref (aa 4)), (14, .ref (aa 5)), (15, .ref (aa 6))]) (hc : cells ≤ kc) (hs : slots ≤ ks) (hP : va_P D vwCl (cW cy ad en x ++ lW cy aa f) H) (hD : va_D A (cW cy ad en x ++ lW cy aa f)) (hS : va_S A s.heap H locs)
    (kk : ∀ (H : Heap) (locs : List Loc) (cells slots : Nat), cells ≤ kc + 4 → slots ≤ ks + 24 → va_P D vwCl (cW cy ad en x ++ lW cy aa f) H → va_D A (cW cy ad en x ++ lW cy aa f) → va_S A s.heap H locs → W p l e room_1 s m args below meth c H locs cells slots Q (F0 m 451 ls [])) : W p l e room_1 s m args below meth c H locs cells slots Q (F0 m 345 ls []) := by
  obtain ⟨hx, hb, hml, hown, hw, hK, hN, hST, hSC, hA⟩ := id hC
  have hCI := g_ci hI hxo ha
  obtain ⟨z, hz1, hz9, ez⟩ := hCI.1.size
  have y1 : ¬ oo (a + 7) 2 < 1 := by rw [ez]; exact fun w => absurd ((nI_ltJ (b := 1) (by omega) (by omega)).mp w) (by omega)
  have y9 : ¬ (9 : Int32) < oo (a + 7) 2 := by rw [ez]; exact fun w => absurd ((nI_ltJ (a := 9) (by omega) (by omega)).mp w) (by omega)
  by_cases e3 : oo (a + 7) 3 = -1
  · have e4 : oo (a + 7) 4 = -1 := hCI.2.1 e3
    have e5 : oo (a + 7) 5 = -1 := Classical.byContradiction fun w => (hCI.1.2.2.2.2.2 w).1 e3
    have l3 : oo (a + 7) 3 < 0 := by rw [e3]; decide
    have l5 : oo (a + 7) 5 < 0 := by rw [e5]; decide
    have n3 : ¬ 0 ≤ oo (a + 7) 3 := by rw [e3]; decide
    have n4 : ¬ 0 ≤ oo (a + 7) 4 := by rw [e4]; decide
    have r0 : D_X1_redemption (oo (a + 7)) ≤ 0 := by rw [rd0 e5]; decide
    refine lv_iload hx hb dL_law_345 (lv_at hl 3 rfl) ?_
    refine lv_iconst (v := 1) hx hb dL_law_347 (by decide) ?_
    refine lv_icmp_lt (tgt := 449) hx hb dL_law_348 (by decide) (fun h => absurd h y1) (fun _ => ?_)
    refine lv_iload hx hb dL_law_351 (lv_at hl 3 rfl) ?_
    refine lv_bipush (v := 9) hx hb dL_law_353 (by decide) ?_
    refine lv_icmp_gt (tgt := 449) hx hb dL_law_355 (by decide) (fun h => absurd h y9) (fun _ => ?_)
    refine lv_iload hx hb dL_law_358 (lv_at hl 4 rfl) ?_
    refine lv_if_ge (tgt := 367) hx hb dL_law_360 (by decide) (fun h => absurd h n3) (fun _ => ?_)
    refine lv_iconst (v := 1) hx hb dL_law_363 (by decide) ?_
    refine lv_goto (tgt := 368) hx hb dL_law_364 (by decide) ?_
    refine lv_iload hx hb dL_law_368 (lv_at hl 5 rfl) ?_
    refine lv_if_ge (tgt := 377) hx hb dL_law_370 (by decide) (fun h => absurd h n4) (fun _ => ?_)
    refine lv_iconst (v := 1) hx hb dL_law_373 (by decide) ?_
    refine lv_goto (tgt := 378) hx hb dL_law_374 (by decide) ?_
    refine lv_icmp_ne (tgt := 449) hx hb dL_law_378 (by decide) (fun h => absurd rfl h) (fun _ => ?_)
    refine lv_iload hx hb dL_law_381 (lv_at hl 6 rfl) ?_
    refine lv_if_lt (tgt := 398) hx hb dL_law_383 (by decide) (fun _ => ?_) (fun h => absurd l5 h)
    refine lv_iload hx hb dL_law_398 (lv_at hl 6 rfl) ?_
    refine lv_if_lt (tgt := 407) hx hb dL_law_400 (by decide) (fun _ => ?_) (fun h => absurd l5 h)
    refine lv_iconst (v := 0) hx hb dL_law_407 (by decide) ?_
    refine lv_aload_n hx hb dL_law_408 rfl (lv_at hl 8 rfl) ?_
    refine lv_iload hx hb dL_law_409 (lv_at hl 0 rfl) ?_
    refine lv_bipush (v := 6) hx hb dL_law_411 (by decide) ?_
    refine xfT (w1 := cW cy ad en x) (w2 := lW cy aa f) (As := [.int (nI a), .int 6]) (rest := [.int 0]) hx hb hml hown hw hK hN hA hl.1 hP hD hS hST k_315 k_316 k_317 k_21 k_318 (met_X9_cloudOf l hst0 D cy _ ad en g x (nI a) 6 0 (D_X1_redemption (oo (a + 7))) (g_co6 hI hxo ha)) (gY (x := x) (r := 0) (f := x 12 0) (by decide) rfl) rfl ⟨rfl, rfl⟩ (n := 2) (by decide +kernel) rfl ⟨Nat.le_of_ble_eq_true rfl, Nat.le_of_ble_eq_true rfl⟩ ⟨show _ ≤ 975572 by omega, show _ ≤ 6174753 by omega⟩ (Nat.le_of_ble_eq_true rfl) rfl dL_law_413 (fun H locs q9 ce9 hne hP hD hS hce hcv hcl => absurd rfl hne) (fun H locs h0 hP hD hS => ?_)
    refine lv_if_le (tgt := 423) hx hb dL_law_416 (by decide) (fun _ => ?_) (fun h => absurd r0 h)
    refine lv_iconst (v := 0) hx hb dL_law_423 (by decide) ?_
    refine lv_icmp_ne (tgt := 449) hx hb dL_law_424 (by decide) (fun h => absurd rfl h) (fun _ => ?_)
    refine lv_iload hx hb dL_law_427 (lv_at hl 6 rfl) ?_
    refine lv_if_lt (tgt := 451) hx hb dL_law_429 (by decide) (fun _ => ?_) (fun h => absurd l5 h)
    exact kk H locs _ _ (by omega) (by omega) hP hD hS
  · obtain ⟨q, hq, eq⟩ : ∃ q : Nat, q < 4 ∧ oo (a + 7) 3 = nI q := by
      rcases rng_m (b := 3) hCI.1.2.2.2.1 (by decide) with h | ⟨q, hq, h⟩
      · exact absurd h e3
      · exact ⟨q, by omega, h⟩
    obtain ⟨q4, hq4, eq4⟩ := rng_nI (b := 5) (hCI.2.2.1 e3) (by decide)
    have n3 : 0 ≤ oo (a + 7) 3 := by rw [eq]; exact nI_pos' (by omega)
    have n4 : 0 ≤ oo (a + 7) 4 := by rw [eq4]; exact nI_pos' (by omega)
    have l3 : ¬ oo (a + 7) 3 < 0 := by rw [eq]; exact nI_pos (by omega)
    by_cases e5 : oo (a + 7) 5 = -1
    · have l5 : oo (a + 7) 5 < 0 := by rw [e5]; decide
      have r0 : D_X1_redemption (oo (a + 7)) ≤ 0 := by rw [rd0 e5]; decide
      refine lv_iload hx hb dL_law_345 (lv_at hl 3 rfl) ?_
      refine lv_iconst (v := 1) hx hb dL_law_347 (by decide) ?_
      refine lv_icmp_lt (tgt := 449) hx hb dL_law_348 (by decide) (fun h => absurd h y1) (fun _ => ?_)
      refine lv_iload hx hb dL_law_351 (lv_at hl 3 rfl) ?_
      refine lv_bipush (v := 9) hx hb dL_law_353 (by decide) ?_
      refine lv_icmp_gt (tgt := 449) hx hb dL_law_355 (by decide) (fun h => absurd h y9) (fun _ => ?_)
      refine lv_iload hx hb dL_law_358 (lv_at hl 4 rfl) ?_
      refine lv_if_ge (tgt := 367) hx hb dL_law_360 (by decide) (fun _ => ?_) (fun h => absurd n3 h)
      refine lv_iconst (v := 0) hx hb dL_law_367 (by decide) ?_
      refine lv_iload hx hb dL_law_368 (lv_at hl 5 rfl) ?_
      refine lv_if_ge (tgt := 377) hx hb dL_law_370 (by decide) (fun _ => ?_) (fun h => absurd n4 h)
      refine lv_iconst (v := 0) hx hb dL_law_377 (by decide) ?_
      refine lv_icmp_ne (tgt := 449) hx hb dL_law_378 (by decide) (fun h => absurd rfl h) (fun _ => ?_)
      refine lv_iload hx hb dL_law_381 (lv_at hl 6 rfl) ?_
      refine lv_if_lt (tgt := 398) hx hb dL_law_383 (by decide) (fun _ => ?_) (fun h => absurd l5 h)
      refine lv_iload hx hb dL_law_398 (lv_at hl 6 rfl) ?_
      refine lv_if_lt (tgt := 407) hx hb dL_law_400 (by decide) (fun _ => ?_) (fun h => absurd l5 h)
      refine lv_iconst (v := 0) hx hb dL_law_407 (by decide) ?_
      refine lv_aload_n hx hb dL_law_408 rfl (lv_at hl 8 rfl) ?_
      refine lv_iload hx hb dL_law_409 (lv_at hl 0 rfl) ?_
      refine lv_bipush (v := 6) hx hb dL_law_411 (by decide) ?_
      refine xfT (w1 := cW cy ad en x) (w2 := lW cy aa f) (As := [.int (nI a), .int 6]) (rest := [.int 0]) hx hb hml hown hw hK hN hA hl.1 hP hD hS hST k_315 k_316 k_317 k_21 k_318 (met_X9_cloudOf l hst0 D cy _ ad en g x (nI a) 6 0 (D_X1_redemption (oo (a + 7))) (g_co6 hI hxo ha)) (gY (x := x) (r := 0) (f := x 12 0) (by decide) rfl) rfl ⟨rfl, rfl⟩ (n := 2) (by decide +kernel) rfl ⟨Nat.le_of_ble_eq_true rfl, Nat.le_of_ble_eq_true rfl⟩ ⟨show _ ≤ 975572 by omega, show _ ≤ 6174753 by omega⟩ (Nat.le_of_ble_eq_true rfl) rfl dL_law_413 (fun H locs q9 ce9 hne hP hD hS hce hcv hcl => absurd rfl hne) (fun H locs h0 hP hD hS => ?_)
      refine lv_if_le (tgt := 423) hx hb dL_law_416 (by decide) (fun _ => ?_) (fun h => absurd r0 h)
      refine lv_iconst (v := 0) hx hb dL_law_423 (by decide) ?_
      refine lv_icmp_ne (tgt := 449) hx hb dL_law_424 (by decide) (fun h => absurd rfl h) (fun _ => ?_)
      refine lv_iload hx hb dL_law_427 (lv_at hl 6 rfl) ?_
      refine lv_if_lt (tgt := 451) hx hb dL_law_429 (by decide) (fun _ => ?_) (fun h => absurd l5 h)
      exact kk H locs _ _ (by omega) (by omega) hP hD hS
    · obtain ⟨q5, hq5, eq5⟩ : ∃ q : Nat, q < 4 ∧ oo (a + 7) 5 = nI q := by
        rcases rng_m (b := 3) hCI.1.2.2.2.2.1 (by decide) with h | ⟨q, hq, h⟩
        · exact absurd h e5
        · exact ⟨q, by omega, h⟩
      have l5 : ¬ oo (a + 7) 5 < 0 := by rw [eq5]; exact nI_pos (by omega)
      obtain ⟨z2, w, ez2, ew, hzw, hw9⟩ := rd1 hCI e5
      have hne := (hCI.2.2.2 e5).1
      have r1 : ¬ D_X1_redemption (oo (a + 7)) ≤ 0 := by rw [ew]; exact fun v => absurd ((nI_le0 (by omega)).mp v) (by omega)
      have r2 : (2 * oo (a + 7) 2 + 1) ≤ D_X1_redemption (oo (a + 7)) := by rw [ew, ez2, show (2 : Int32) * nI z2 = nI (2 * z2) from pk_mul 2 z2, show nI (2 * z2) + 1 = nI (2 * z2 + 1) from nI_add (2 * z2) 1]; exact nI_le hzw (by omega)
      refine lv_iload hx hb dL_law_345 (lv_at hl 3 rfl) ?_
      refine lv_iconst (v := 1) hx hb dL_law_347 (by decide) ?_
      refine lv_icmp_lt (tgt := 449) hx hb dL_law_348 (by decide) (fun h => absurd h y1) (fun _ => ?_)
      refine lv_iload hx hb dL_law_351 (lv_at hl 3 rfl) ?_
      refine lv_bipush (v := 9) hx hb dL_law_353 (by decide) ?_
      refine lv_icmp_gt (tgt := 449) hx hb dL_law_355 (by decide) (fun h => absurd h y9) (fun _ => ?_)
      refine lv_iload hx hb dL_law_358 (lv_at hl 4 rfl) ?_
      refine lv_if_ge (tgt := 367) hx hb dL_law_360 (by decide) (fun _ => ?_) (fun h => absurd n3 h)
      refine lv_iconst (v := 0) hx hb dL_law_367 (by decide) ?_
      refine lv_iload hx hb dL_law_368 (lv_at hl 5 rfl) ?_
      refine lv_if_ge (tgt := 377) hx hb dL_law_370 (by decide) (fun _ => ?_) (fun h => absurd n4 h)
      refine lv_iconst (v := 0) hx hb dL_law_377 (by decide) ?_
      refine lv_icmp_ne (tgt := 449) hx hb dL_law_378 (by decide) (fun h => absurd rfl h) (fun _ => ?_)
      refine lv_iload hx hb dL_law_381 (lv_at hl 6 rfl) ?_
      refine lv_if_lt (tgt := 398) hx hb dL_law_383 (by decide) (fun h => absurd h l5) (fun _ => ?_)
      refine lv_iload hx hb dL_law_386 (lv_at hl 4 rfl) ?_
      refine lv_if_lt (tgt := 449) hx hb dL_law_388 (by decide) (fun h => absurd h l3) (fun _ => ?_)
      refine lv_iload hx hb dL_law_391 (lv_at hl 6 rfl) ?_
      refine lv_iload hx hb dL_law_393 (lv_at hl 4 rfl) ?_
      refine lv_icmp_eq (tgt := 449) hx hb dL_law_395 (by decide) (fun h => absurd h hne) (fun _ => ?_)
      refine lv_iload hx hb dL_law_398 (lv_at hl 6 rfl) ?_
      refine lv_if_lt (tgt := 407) hx hb dL_law_400 (by decide) (fun h => absurd h l5) (fun _ => ?_)
      refine lv_iconst (v := 1) hx hb dL_law_403 (by decide) ?_
      refine lv_goto (tgt := 408) hx hb dL_law_404 (by decide) ?_
      refine lv_aload_n hx hb dL_law_408 rfl (lv_at hl 8 rfl) ?_
      refine lv_iload hx hb dL_law_409 (lv_at hl 0 rfl) ?_
      refine lv_bipush (v := 6) hx hb dL_law_411 (by decide) ?_
      refine xfT (w1 := cW cy ad en x) (w2 := lW cy aa f) (As := [.int (nI a), .int 6]) (rest := [.int 1]) hx hb hml hown hw hK hN hA hl.1 hP hD hS hST k_315 k_316 k_317 k_21 k_318 (met_X9_cloudOf l hst0 D cy _ ad en g x (nI a) 6 0 (D_X1_redemption (oo (a + 7))) (g_co6 hI hxo ha)) (gY (x := x) (r := 0) (f := x 12 0) (by decide) rfl) rfl ⟨rfl, rfl⟩ (n := 2) (by decide +kernel) rfl ⟨Nat.le_of_ble_eq_true rfl, Nat.le_of_ble_eq_true rfl⟩ ⟨show _ ≤ 975572 by omega, show _ ≤ 6174753 by omega⟩ (Nat.le_of_ble_eq_true rfl) rfl dL_law_413 (fun H locs q9 ce9 hne hP hD hS hce hcv hcl => absurd rfl hne) (fun H locs h0 hP hD hS => ?_)
      refine lv_if_le (tgt := 423) hx hb dL_law_416 (by decide) (fun h => absurd h r1) (fun _ => ?_)
      refine lv_iconst (v := 1) hx hb dL_law_419 (by decide) ?_
      refine lv_goto (tgt := 424) hx hb dL_law_420 (by decide) ?_
      refine lv_icmp_ne (tgt := 449) hx hb dL_law_424 (by decide) (fun h => absurd rfl h) (fun _ => ?_)
      refine lv_iload hx hb dL_law_427 (lv_at hl 6 rfl) ?_
      refine lv_if_lt (tgt := 451) hx hb dL_law_429 (by decide) (fun h => absurd h l5) (fun _ => ?_)
      refine lv_aload_n hx hb dL_law_432 rfl (lv_at hl 8 rfl) ?_
      refine lv_iload hx hb dL_law_433 (lv_at hl 0 rfl) ?_
      refine lv_bipush (v := 6) hx hb dL_law_435 (by decide) ?_
      refine xfT (w1 := cW cy ad en x) (w2 := lW cy aa f) (As := [.int (nI a), .int 6]) (rest := []) hx hb hml hown hw hK hN hA hl.1 hP hD hS hST k_315 k_316 k_317 k_21 k_318 (met_X9_cloudOf l hst0 D cy _ ad en g x (nI a) 6 0 (D_X1_redemption (oo (a + 7))) (g_co6 hI hxo ha)) (gY (x := x) (r := 0) (f := x 12 0) (by decide) rfl) rfl ⟨rfl, rfl⟩ (n := 2) (by decide +kernel) rfl ⟨Nat.le_of_ble_eq_true rfl, Nat.le_of_ble_eq_true rfl⟩ ⟨show _ ≤ 975572 by omega, show _ ≤ 6174753 by omega⟩ (Nat.le_of_ble_eq_true rfl) rfl dL_law_437 (fun H locs q9 ce9 hne hP hD hS hce hcv hcl => absurd rfl hne) (fun H locs h0 hP hD hS => ?_)
      refine lv_iconst (v := 2) hx hb dL_law_440 (by decide) ?_
      refine lv_iload hx hb dL_law_441 (lv_at hl 3 rfl) ?_
      refine lv_imul hx hb dL_law_443 ?_
      refine lv_iconst (v := 1) hx hb dL_law_444 (by decide) ?_
      refine lv_iadd hx hb dL_law_445 ?_
      refine lv_icmp_ge (tgt := 451) hx hb dL_law_446 (by decide) (fun _ => ?_) (fun h => absurd r2 h)
      exact kk H locs _ _ (by omega) (by omega) hP hD hS
theorem acc {N t : Nat} {K V F G : Nat → Int32} (h : AS N K V t F) (e : G = F) : AS N K V t G := by rw [e]; exact h
set_option maxHeartbeats 8000000 in
theorem seg_c3 (hC : LX p s m c args b L xs A D cy en g) (hI : IV k x n d) (hxo : x 0 = oo) (ha : a < n) (hAC : AC oo a f) (hl : lv_has ls 27 [(16, .int (nI a)), (17, .int (oo (a + 7) 0)), (18, .int (oo (a + 7) 1)), (19, .int (oo (a + 7) 2)), (20, .int (oo (a + 7) 3)), (21, .int (oo (a + 7) 4)), (22, .int (oo (a + 7) 5)), (0, .ref b), (1, .ref (ad 12 0)), (2, .int (nI o)), (3, .int (nI n)), (4, .int (sumTo (qT oo) a)), (5, .int (sumTo (qP oo) a)), (6, .int (sumTo (qS oo) a)), (7, .int u7), (8, .int u8), (9, .ref (aa 0)), (10, .ref (aa 1)), (11, .ref (aa 2)), (12, .ref (aa 3)), (13, .ref (aa 4)), (14, .ref (aa 5)), (15, .ref (aa 6))]) (hP : va_P D vwCl (cW cy ad en x ++ lW cy aa f) H) (hD : va_D A (cW cy ad en x ++ lW cy aa f)) (hS : va_S A s.heap H locs)
    (kk : ∀ (f : Nat → Nat → Int32) (H : Heap) (locs : List Loc) (ls : Array Slot), AC oo (a + 1) f → va_P D vwCl (cW cy ad en x ++ lW cy aa f) H → va_D A (cW cy ad en x ++ lW cy aa f) → va_S A s.heap H locs → lv_has ls 27 [(16, .int (nI a)), (17, .int (oo (a + 7) 0)), (0, .ref b), (1, .ref (ad 12 0)), (2, .int (nI o)), (3, .int (nI n)), (4, .int (sumTo (qT oo) (a + 1))), (5, .int (sumTo (qP oo) (a + 1))), (6, .int (sumTo (qS oo) (a + 1))), (7, .int u7), (8, .int u8), (9, .ref (aa 0)), (10, .ref (aa 1)), (11, .ref (aa 2)), (12, .ref (aa 3)), (13, .ref (aa 4)), (14, .ref (aa 5)), (15, .ref (aa 6))] → W p l e room_1 s m args below meth c H locs cells slots Q (F0 m 563 ls [])) : W p l e room_1 s m args below meth c H locs cells slots Q (F0 m 451 ls []) := by
  obtain ⟨hx, hb, hml, hown, hw, hK, hN, hST, hSC, hA⟩ := id hC
  have hCI := g_ci hI hxo ha
  obtain ⟨v0, hv0, e0⟩ := hCI.1.v
  obtain ⟨A0, A1, A2, A3, A4, A5, A6⟩ := hAC
  by_cases e3 : oo (a + 7) 3 = -1
  · have e4 : oo (a + 7) 4 = -1 := hCI.2.1 e3
    have e5 : oo (a + 7) 5 = -1 := Classical.byContradiction fun w => (hCI.1.2.2.2.2.2 w).1 e3
    have l3 : oo (a + 7) 3 < 0 := by rw [e3]; decide
    have l5 : oo (a + 7) 5 < 0 := by rw [e5]; decide
    have n3 : ¬ 0 ≤ oo (a + 7) 3 := by rw [e3]; decide
    have n4 : ¬ 0 ≤ oo (a + 7) 4 := by rw [e4]; decide
    refine lv_iload hx hb dL_law_451 (lv_at hl 11 rfl) ?_
    refine lv_iload hx hb dL_law_453 (lv_at hl 4 rfl) ?_
    refine lv_if_lt (tgt := 462) hx hb dL_law_455 (by decide) (fun _ => ?_) (fun h => absurd l3 h)
    refine lv_iconst (v := 0) hx hb dL_law_462 (by decide) ?_
    refine lv_iadd hx hb dL_law_463 ?_
    rw [show ((sumTo (qT oo) a) + 0) = sumTo (qT oo) (a + 1) from by rw [sumTo_s]; unfold qT; rw [if_pos e3]]
    refine lv_istore (lv' := [(4, .int (sumTo (qT oo) (a + 1))), (16, .int (nI a)), (17, .int (oo (a + 7) 0)), (18, .int (oo (a + 7) 1)), (19, .int (oo (a + 7) 2)), (20, .int (oo (a + 7) 3)), (21, .int (oo (a + 7) 4)), (22, .int (oo (a + 7) 5)), (0, .ref b), (1, .ref (ad 12 0)), (2, .int (nI o)), (3, .int (nI n)), (5, .int (sumTo (qP oo) a)), (6, .int (sumTo (qS oo) a)), (7, .int u7), (8, .int u8), (9, .ref (aa 0)), (10, .ref (aa 1)), (11, .ref (aa 2)), (12, .ref (aa 3)), (13, .ref (aa 4)), (14, .ref (aa 5)), (15, .ref (aa 6))]) hx hb dL_law_464 hl (by decide) rfl (fun ls hl => ?_)
    refine lv_iload hx hb dL_law_466 (lv_at hl 12 rfl) ?_
    refine lv_iload hx hb dL_law_468 (lv_at hl 7 rfl) ?_
    refine lv_if_lt (tgt := 477) hx hb dL_law_470 (by decide) (fun _ => ?_) (fun h => absurd l5 h)
    refine lv_iconst (v := 0) hx hb dL_law_477 (by decide) ?_
    refine lv_iadd hx hb dL_law_478 ?_
    rw [show ((sumTo (qP oo) a) + 0) = sumTo (qP oo) (a + 1) from by rw [sumTo_s]; unfold qP; rw [if_pos e5]]
    refine lv_istore (lv' := [(5, .int (sumTo (qP oo) (a + 1))), (4, .int (sumTo (qT oo) (a + 1))), (16, .int (nI a)), (17, .int (oo (a + 7) 0)), (18, .int (oo (a + 7) 1)), (19, .int (oo (a + 7) 2)), (20, .int (oo (a + 7) 3)), (21, .int (oo (a + 7) 4)), (22, .int (oo (a + 7) 5)), (0, .ref b), (1, .ref (ad 12 0)), (2, .int (nI o)), (3, .int (nI n)), (6, .int (sumTo (qS oo) a)), (7, .int u7), (8, .int u8), (9, .ref (aa 0)), (10, .ref (aa 1)), (11, .ref (aa 2)), (12, .ref (aa 3)), (13, .ref (aa 4)), (14, .ref (aa 5)), (15, .ref (aa 6))]) hx hb dL_law_479 hl (by decide) rfl (fun ls hl => ?_)
    refine lv_iload hx hb dL_law_481 (lv_at hl 13 rfl) ?_
    refine lv_iload hx hb dL_law_483 (lv_at hl 5 rfl) ?_
    refine lv_iadd hx hb dL_law_485 ?_
    rw [show ((sumTo (qS oo) a) + (oo (a + 7) 2)) = sumTo (qS oo) (a + 1) from rfl]
    refine lv_istore (lv' := [(6, .int (sumTo (qS oo) (a + 1))), (5, .int (sumTo (qP oo) (a + 1))), (4, .int (sumTo (qT oo) (a + 1))), (16, .int (nI a)), (17, .int (oo (a + 7) 0)), (18, .int (oo (a + 7) 1)), (19, .int (oo (a + 7) 2)), (20, .int (oo (a + 7) 3)), (21, .int (oo (a + 7) 4)), (22, .int (oo (a + 7) 5)), (0, .ref b), (1, .ref (ad 12 0)), (2, .int (nI o)), (3, .int (nI n)), (7, .int u7), (8, .int u8), (9, .ref (aa 0)), (10, .ref (aa 1)), (11, .ref (aa 2)), (12, .ref (aa 3)), (13, .ref (aa 4)), (14, .ref (aa 5)), (15, .ref (aa 6))]) hx hb dL_law_486 hl (by decide) rfl (fun ls hl => ?_)
    refine lv_aload hx hb dL_law_488 (lv_at hl 20 rfl) ?_
    refine lv_iload hx hb dL_law_490 (lv_at hl 4 rfl) ?_
    rw [e0]
    refine lv_dup2_11 hx hb dL_law_492 rfl rfl ?_
    refine ar_get hx hb hK hP (i := 4) (p9 := v0) rfl hv0 (by decide) dL_law_493 ?_
    refine lv_iconst (v := 1) hx hb dL_law_494 (by decide) ?_
    refine lv_iadd hx hb dL_law_495 ?_
    refine ar_set hx hb hK hP hD hS (i := 4) (p9 := v0) rfl rfl hv0 (by decide) dL_law_496 (fun f1 H locs hU1 hP hD hS => ?_)
    refine lv_aload hx hb dL_law_497 (lv_at hl 21 rfl) ?_
    refine lv_iload hx hb dL_law_499 (lv_at hl 4 rfl) ?_
    rw [e0]
    refine lv_dup2_11 hx hb dL_law_501 rfl rfl ?_
    refine ar_get hx hb hK hP (i := 5) (p9 := v0) rfl hv0 (by decide) dL_law_502 ?_
    refine lv_iload hx hb dL_law_503 (lv_at hl 6 rfl) ?_
    refine lv_iadd hx hb dL_law_505 ?_
    refine ar_set hx hb hK hP hD hS (i := 5) (p9 := v0) rfl rfl hv0 (by decide) dL_law_506 (fun f2 H locs hU2 hP hD hS => ?_)
    refine lv_iload hx hb dL_law_507 (lv_at hl 7 rfl) ?_
    refine lv_if_lt (tgt := 549) hx hb dL_law_509 (by decide) (fun _ => ?_) (fun h => absurd l3 h)
    refine lv_iload hx hb dL_law_549 (lv_at hl 9 rfl) ?_
    refine lv_if_lt (tgt := 563) hx hb dL_law_551 (by decide) (fun _ => ?_) (fun h => absurd l5 h)
    subst hU1 hU2
    exact kk _ H locs ls ⟨acc (A0.miss (by decide) e3) (by simp [va_up]), acc (A1.miss (by decide) e5) (by simp [va_up]), acc (A2.miss (by decide) e3) (by simp [va_up]), acc (A3.miss (by decide) e3) (by simp [va_up]), acc (A4.hit (V := fun _ => 1) (by decide) hv0 e0) (by simp [va_up]), acc (A5.hit' (v := oo (a + 7) 2) (by decide) hv0 e0 rfl) (by simp [va_up]), acc A6 (by simp [va_up])⟩ hP hD hS (lv_sub hl [3, 4, 10, 11, 12, 13, 2, 1, 0, 14, 15, 16, 17, 18, 19, 20, 21, 22] rfl)
  · obtain ⟨q, hq, eq⟩ : ∃ q : Nat, q < 4 ∧ oo (a + 7) 3 = nI q := by
      rcases rng_m (b := 3) hCI.1.2.2.2.1 (by decide) with h | ⟨q, hq, h⟩
      · exact absurd h e3
      · exact ⟨q, by omega, h⟩
    obtain ⟨q4, hq4, eq4⟩ := rng_nI (b := 5) (hCI.2.2.1 e3) (by decide)
    have n3 : 0 ≤ oo (a + 7) 3 := by rw [eq]; exact nI_pos' (by omega)
    have n4 : 0 ≤ oo (a + 7) 4 := by rw [eq4]; exact nI_pos' (by omega)
    have l3 : ¬ oo (a + 7) 3 < 0 := by rw [eq]; exact nI_pos (by omega)
    by_cases e5 : oo (a + 7) 5 = -1
    · have l5 : oo (a + 7) 5 < 0 := by rw [e5]; decide
      refine lv_iload hx hb dL_law_451 (lv_at hl 11 rfl) ?_
      refine lv_iload hx hb dL_law_453 (lv_at hl 4 rfl) ?_
      refine lv_if_lt (tgt := 462) hx hb dL_law_455 (by decide) (fun h => absurd h l3) (fun _ => ?_)
      refine lv_iconst (v := 1) hx hb dL_law_458 (by decide) ?_
      refine lv_goto (tgt := 463) hx hb dL_law_459 (by decide) ?_
      refine lv_iadd hx hb dL_law_463 ?_
      rw [show ((sumTo (qT oo) a) + 1) = sumTo (qT oo) (a + 1) from by rw [sumTo_s]; unfold qT; rw [if_neg e3]]
      refine lv_istore (lv' := [(4, .int (sumTo (qT oo) (a + 1))), (16, .int (nI a)), (17, .int (oo (a + 7) 0)), (18, .int (oo (a + 7) 1)), (19, .int (oo (a + 7) 2)), (20, .int (oo (a + 7) 3)), (21, .int (oo (a + 7) 4)), (22, .int (oo (a + 7) 5)), (0, .ref b), (1, .ref (ad 12 0)), (2, .int (nI o)), (3, .int (nI n)), (5, .int (sumTo (qP oo) a)), (6, .int (sumTo (qS oo) a)), (7, .int u7), (8, .int u8), (9, .ref (aa 0)), (10, .ref (aa 1)), (11, .ref (aa 2)), (12, .ref (aa 3)), (13, .ref (aa 4)), (14, .ref (aa 5)), (15, .ref (aa 6))]) hx hb dL_law_464 hl (by decide) rfl (fun ls hl => ?_)
      refine lv_iload hx hb dL_law_466 (lv_at hl 12 rfl) ?_
      refine lv_iload hx hb dL_law_468 (lv_at hl 7 rfl) ?_
      refine lv_if_lt (tgt := 477) hx hb dL_law_470 (by decide) (fun _ => ?_) (fun h => absurd l5 h)
      refine lv_iconst (v := 0) hx hb dL_law_477 (by decide) ?_
      refine lv_iadd hx hb dL_law_478 ?_
      rw [show ((sumTo (qP oo) a) + 0) = sumTo (qP oo) (a + 1) from by rw [sumTo_s]; unfold qP; rw [if_pos e5]]
      refine lv_istore (lv' := [(5, .int (sumTo (qP oo) (a + 1))), (4, .int (sumTo (qT oo) (a + 1))), (16, .int (nI a)), (17, .int (oo (a + 7) 0)), (18, .int (oo (a + 7) 1)), (19, .int (oo (a + 7) 2)), (20, .int (oo (a + 7) 3)), (21, .int (oo (a + 7) 4)), (22, .int (oo (a + 7) 5)), (0, .ref b), (1, .ref (ad 12 0)), (2, .int (nI o)), (3, .int (nI n)), (6, .int (sumTo (qS oo) a)), (7, .int u7), (8, .int u8), (9, .ref (aa 0)), (10, .ref (aa 1)), (11, .ref (aa 2)), (12, .ref (aa 3)), (13, .ref (aa 4)), (14, .ref (aa 5)), (15, .ref (aa 6))]) hx hb dL_law_479 hl (by decide) rfl (fun ls hl => ?_)
      refine lv_iload hx hb dL_law_481 (lv_at hl 13 rfl) ?_
      refine lv_iload hx hb dL_law_483 (lv_at hl 5 rfl) ?_
      refine lv_iadd hx hb dL_law_485 ?_
      rw [show ((sumTo (qS oo) a) + (oo (a + 7) 2)) = sumTo (qS oo) (a + 1) from rfl]
      refine lv_istore (lv' := [(6, .int (sumTo (qS oo) (a + 1))), (5, .int (sumTo (qP oo) (a + 1))), (4, .int (sumTo (qT oo) (a + 1))), (16, .int (nI a)), (17, .int (oo (a + 7) 0)), (18, .int (oo (a + 7) 1)), (19, .int (oo (a + 7) 2)), (20, .int (oo (a + 7) 3)), (21, .int (oo (a + 7) 4)), (22, .int (oo (a + 7) 5)), (0, .ref b), (1, .ref (ad 12 0)), (2, .int (nI o)), (3, .int (nI n)), (7, .int u7), (8, .int u8), (9, .ref (aa 0)), (10, .ref (aa 1)), (11, .ref (aa 2)), (12, .ref (aa 3)), (13, .ref (aa 4)), (14, .ref (aa 5)), (15, .ref (aa 6))]) hx hb dL_law_486 hl (by decide) rfl (fun ls hl => ?_)
      refine lv_aload hx hb dL_law_488 (lv_at hl 20 rfl) ?_
      refine lv_iload hx hb dL_law_490 (lv_at hl 4 rfl) ?_
      rw [e0]
      refine lv_dup2_11 hx hb dL_law_492 rfl rfl ?_
      refine ar_get hx hb hK hP (i := 4) (p9 := v0) rfl hv0 (by decide) dL_law_493 ?_
      refine lv_iconst (v := 1) hx hb dL_law_494 (by decide) ?_
      refine lv_iadd hx hb dL_law_495 ?_
      refine ar_set hx hb hK hP hD hS (i := 4) (p9 := v0) rfl rfl hv0 (by decide) dL_law_496 (fun f1 H locs hU1 hP hD hS => ?_)
      refine lv_aload hx hb dL_law_497 (lv_at hl 21 rfl) ?_
      refine lv_iload hx hb dL_law_499 (lv_at hl 4 rfl) ?_
      rw [e0]
      refine lv_dup2_11 hx hb dL_law_501 rfl rfl ?_
      refine ar_get hx hb hK hP (i := 5) (p9 := v0) rfl hv0 (by decide) dL_law_502 ?_
      refine lv_iload hx hb dL_law_503 (lv_at hl 6 rfl) ?_
      refine lv_iadd hx hb dL_law_505 ?_
      refine ar_set hx hb hK hP hD hS (i := 5) (p9 := v0) rfl rfl hv0 (by decide) dL_law_506 (fun f2 H locs hU2 hP hD hS => ?_)
      refine lv_iload hx hb dL_law_507 (lv_at hl 7 rfl) ?_
      refine lv_if_lt (tgt := 549) hx hb dL_law_509 (by decide) (fun h => absurd h l3) (fun _ => ?_)
      refine lv_aload hx hb dL_law_512 (lv_at hl 16 rfl) ?_
      refine lv_iload hx hb dL_law_514 (lv_at hl 7 rfl) ?_
      rw [eq]
      refine lv_dup2_11 hx hb dL_law_516 rfl rfl ?_
      refine ar_get hx hb hK hP (i := 0) (p9 := q) rfl hq (by decide) dL_law_517 ?_
      refine lv_iconst (v := 1) hx hb dL_law_518 (by decide) ?_
      refine lv_iadd hx hb dL_law_519 ?_
      refine ar_set hx hb hK hP hD hS (i := 0) (p9 := q) rfl rfl hq (by decide) dL_law_520 (fun f3 H locs hU3 hP hD hS => ?_)
      refine lv_aload hx hb dL_law_521 (lv_at hl 19 rfl) ?_
      refine lv_iload hx hb dL_law_523 (lv_at hl 7 rfl) ?_
      rw [eq]
      refine lv_dup2_11 hx hb dL_law_525 rfl rfl ?_
      refine ar_get hx hb hK hP (i := 3) (p9 := q) rfl hq (by decide) dL_law_526 ?_
      refine lv_iload hx hb dL_law_527 (lv_at hl 6 rfl) ?_
      refine lv_iadd hx hb dL_law_529 ?_
      refine ar_set hx hb hK hP hD hS (i := 3) (p9 := q) rfl rfl hq (by decide) dL_law_530 (fun f4 H locs hU4 hP hD hS => ?_)
      refine lv_aload hx hb dL_law_531 (lv_at hl 18 rfl) ?_
      refine lv_iload hx hb dL_law_533 (lv_at hl 7 rfl) ?_
      rw [eq]
      refine lv_dup2_11 hx hb dL_law_535 rfl rfl ?_
      refine ar_get hx hb hK hP (i := 2) (p9 := q) rfl hq (by decide) dL_law_536 ?_
      refine lv_iload hx hb dL_law_537 (lv_at hl 9 rfl) ?_
      refine lv_if_lt (tgt := 546) hx hb dL_law_539 (by decide) (fun _ => ?_) (fun h => absurd l5 h)
      refine lv_iconst (v := 0) hx hb dL_law_546 (by decide) ?_
      refine lv_iadd hx hb dL_law_547 ?_
      refine ar_set hx hb hK hP hD hS (i := 2) (p9 := q) rfl rfl hq (by decide) dL_law_548 (fun f5 H locs hU5 hP hD hS => ?_)
      refine lv_iload hx hb dL_law_549 (lv_at hl 9 rfl) ?_
      refine lv_if_lt (tgt := 563) hx hb dL_law_551 (by decide) (fun _ => ?_) (fun h => absurd l5 h)
      subst hU1 hU2 hU3 hU4 hU5
      exact kk _ H locs ls ⟨acc (A0.hit (V := fun _ => 1) (by decide) hq eq) (by simp [va_up]), acc (A1.miss (by decide) e5) (by simp [va_up]), acc (A2.hit' (v := 0) (by decide) hq eq (by unfold qP; rw [if_pos e5])) (by simp [va_up]), acc (A3.hit' (v := oo (a + 7) 2) (by decide) hq eq rfl) (by simp [va_up]), acc (A4.hit (V := fun _ => 1) (by decide) hv0 e0) (by simp [va_up]), acc (A5.hit' (v := oo (a + 7) 2) (by decide) hv0 e0 rfl) (by simp [va_up]), acc A6 (by simp [va_up])⟩ hP hD hS (lv_sub hl [3, 4, 10, 11, 12, 13, 2, 1, 0, 14, 15, 16, 17, 18, 19, 20, 21, 22] rfl)
    · obtain ⟨q5, hq5, eq5⟩ : ∃ q : Nat, q < 4 ∧ oo (a + 7) 5 = nI q := by
        rcases rng_m (b := 3) hCI.1.2.2.2.2.1 (by decide) with h | ⟨q, hq, h⟩
        · exact absurd h e5
        · exact ⟨q, by omega, h⟩
      have l5 : ¬ oo (a + 7) 5 < 0 := by rw [eq5]; exact nI_pos (by omega)
      refine lv_iload hx hb dL_law_451 (lv_at hl 11 rfl) ?_
      refine lv_iload hx hb dL_law_453 (lv_at hl 4 rfl) ?_
      refine lv_if_lt (tgt := 462) hx hb dL_law_455 (by decide) (fun h => absurd h l3) (fun _ => ?_)
      refine lv_iconst (v := 1) hx hb dL_law_458 (by decide) ?_
      refine lv_goto (tgt := 463) hx hb dL_law_459 (by decide) ?_
      refine lv_iadd hx hb dL_law_463 ?_
      rw [show ((sumTo (qT oo) a) + 1) = sumTo (qT oo) (a + 1) from by rw [sumTo_s]; unfold qT; rw [if_neg e3]]
      refine lv_istore (lv' := [(4, .int (sumTo (qT oo) (a + 1))), (16, .int (nI a)), (17, .int (oo (a + 7) 0)), (18, .int (oo (a + 7) 1)), (19, .int (oo (a + 7) 2)), (20, .int (oo (a + 7) 3)), (21, .int (oo (a + 7) 4)), (22, .int (oo (a + 7) 5)), (0, .ref b), (1, .ref (ad 12 0)), (2, .int (nI o)), (3, .int (nI n)), (5, .int (sumTo (qP oo) a)), (6, .int (sumTo (qS oo) a)), (7, .int u7), (8, .int u8), (9, .ref (aa 0)), (10, .ref (aa 1)), (11, .ref (aa 2)), (12, .ref (aa 3)), (13, .ref (aa 4)), (14, .ref (aa 5)), (15, .ref (aa 6))]) hx hb dL_law_464 hl (by decide) rfl (fun ls hl => ?_)
      refine lv_iload hx hb dL_law_466 (lv_at hl 12 rfl) ?_
      refine lv_iload hx hb dL_law_468 (lv_at hl 7 rfl) ?_
      refine lv_if_lt (tgt := 477) hx hb dL_law_470 (by decide) (fun h => absurd h l5) (fun _ => ?_)
      refine lv_iconst (v := 1) hx hb dL_law_473 (by decide) ?_
      refine lv_goto (tgt := 478) hx hb dL_law_474 (by decide) ?_
      refine lv_iadd hx hb dL_law_478 ?_
      rw [show ((sumTo (qP oo) a) + 1) = sumTo (qP oo) (a + 1) from by rw [sumTo_s]; unfold qP; rw [if_neg e5]]
      refine lv_istore (lv' := [(5, .int (sumTo (qP oo) (a + 1))), (4, .int (sumTo (qT oo) (a + 1))), (16, .int (nI a)), (17, .int (oo (a + 7) 0)), (18, .int (oo (a + 7) 1)), (19, .int (oo (a + 7) 2)), (20, .int (oo (a + 7) 3)), (21, .int (oo (a + 7) 4)), (22, .int (oo (a + 7) 5)), (0, .ref b), (1, .ref (ad 12 0)), (2, .int (nI o)), (3, .int (nI n)), (6, .int (sumTo (qS oo) a)), (7, .int u7), (8, .int u8), (9, .ref (aa 0)), (10, .ref (aa 1)), (11, .ref (aa 2)), (12, .ref (aa 3)), (13, .ref (aa 4)), (14, .ref (aa 5)), (15, .ref (aa 6))]) hx hb dL_law_479 hl (by decide) rfl (fun ls hl => ?_)
      refine lv_iload hx hb dL_law_481 (lv_at hl 13 rfl) ?_
      refine lv_iload hx hb dL_law_483 (lv_at hl 5 rfl) ?_
      refine lv_iadd hx hb dL_law_485 ?_
      rw [show ((sumTo (qS oo) a) + (oo (a + 7) 2)) = sumTo (qS oo) (a + 1) from rfl]
      refine lv_istore (lv' := [(6, .int (sumTo (qS oo) (a + 1))), (5, .int (sumTo (qP oo) (a + 1))), (4, .int (sumTo (qT oo) (a + 1))), (16, .int (nI a)), (17, .int (oo (a + 7) 0)), (18, .int (oo (a + 7) 1)), (19, .int (oo (a + 7) 2)), (20, .int (oo (a + 7) 3)), (21, .int (oo (a + 7) 4)), (22, .int (oo (a + 7) 5)), (0, .ref b), (1, .ref (ad 12 0)), (2, .int (nI o)), (3, .int (nI n)), (7, .int u7), (8, .int u8), (9, .ref (aa 0)), (10, .ref (aa 1)), (11, .ref (aa 2)), (12, .ref (aa 3)), (13, .ref (aa 4)), (14, .ref (aa 5)), (15, .ref (aa 6))]) hx hb dL_law_486 hl (by decide) rfl (fun ls hl => ?_)
      refine lv_aload hx hb dL_law_488 (lv_at hl 20 rfl) ?_
      refine lv_iload hx hb dL_law_490 (lv_at hl 4 rfl) ?_
      rw [e0]
      refine lv_dup2_11 hx hb dL_law_492 rfl rfl ?_
      refine ar_get hx hb hK hP (i := 4) (p9 := v0) rfl hv0 (by decide) dL_law_493 ?_
      refine lv_iconst (v := 1) hx hb dL_law_494 (by decide) ?_
      refine lv_iadd hx hb dL_law_495 ?_
      refine ar_set hx hb hK hP hD hS (i := 4) (p9 := v0) rfl rfl hv0 (by decide) dL_law_496 (fun f1 H locs hU1 hP hD hS => ?_)
      refine lv_aload hx hb dL_law_497 (lv_at hl 21 rfl) ?_
      refine lv_iload hx hb dL_law_499 (lv_at hl 4 rfl) ?_
      rw [e0]
      refine lv_dup2_11 hx hb dL_law_501 rfl rfl ?_
      refine ar_get hx hb hK hP (i := 5) (p9 := v0) rfl hv0 (by decide) dL_law_502 ?_
      refine lv_iload hx hb dL_law_503 (lv_at hl 6 rfl) ?_
      refine lv_iadd hx hb dL_law_505 ?_
      refine ar_set hx hb hK hP hD hS (i := 5) (p9 := v0) rfl rfl hv0 (by decide) dL_law_506 (fun f2 H locs hU2 hP hD hS => ?_)
      refine lv_iload hx hb dL_law_507 (lv_at hl 7 rfl) ?_
      refine lv_if_lt (tgt := 549) hx hb dL_law_509 (by decide) (fun h => absurd h l3) (fun _ => ?_)
      refine lv_aload hx hb dL_law_512 (lv_at hl 16 rfl) ?_
      refine lv_iload hx hb dL_law_514 (lv_at hl 7 rfl) ?_
      rw [eq]
      refine lv_dup2_11 hx hb dL_law_516 rfl rfl ?_
      refine ar_get hx hb hK hP (i := 0) (p9 := q) rfl hq (by decide) dL_law_517 ?_
      refine lv_iconst (v := 1) hx hb dL_law_518 (by decide) ?_
      refine lv_iadd hx hb dL_law_519 ?_
      refine ar_set hx hb hK hP hD hS (i := 0) (p9 := q) rfl rfl hq (by decide) dL_law_520 (fun f3 H locs hU3 hP hD hS => ?_)
      refine lv_aload hx hb dL_law_521 (lv_at hl 19 rfl) ?_
      refine lv_iload hx hb dL_law_523 (lv_at hl 7 rfl) ?_
      rw [eq]
      refine lv_dup2_11 hx hb dL_law_525 rfl rfl ?_
      refine ar_get hx hb hK hP (i := 3) (p9 := q) rfl hq (by decide) dL_law_526 ?_
      refine lv_iload hx hb dL_law_527 (lv_at hl 6 rfl) ?_
      refine lv_iadd hx hb dL_law_529 ?_
      refine ar_set hx hb hK hP hD hS (i := 3) (p9 := q) rfl rfl hq (by decide) dL_law_530 (fun f4 H locs hU4 hP hD hS => ?_)
      refine lv_aload hx hb dL_law_531 (lv_at hl 18 rfl) ?_
      refine lv_iload hx hb dL_law_533 (lv_at hl 7 rfl) ?_
      rw [eq]
      refine lv_dup2_11 hx hb dL_law_535 rfl rfl ?_
      refine ar_get hx hb hK hP (i := 2) (p9 := q) rfl hq (by decide) dL_law_536 ?_
      refine lv_iload hx hb dL_law_537 (lv_at hl 9 rfl) ?_
      refine lv_if_lt (tgt := 546) hx hb dL_law_539 (by decide) (fun h => absurd h l5) (fun _ => ?_)
      refine lv_iconst (v := 1) hx hb dL_law_542 (by decide) ?_
      refine lv_goto (tgt := 547) hx hb dL_law_543 (by decide) ?_
      refine lv_iadd hx hb dL_law_547 ?_
      refine ar_set hx hb hK hP hD hS (i := 2) (p9 := q) rfl rfl hq (by decide) dL_law_548 (fun f5 H locs hU5 hP hD hS => ?_)
      refine lv_iload hx hb dL_law_549 (lv_at hl 9 rfl) ?_
      refine lv_if_lt (tgt := 563) hx hb dL_law_551 (by decide) (fun h => absurd h l5) (fun _ => ?_)
      refine lv_aload hx hb dL_law_554 (lv_at hl 17 rfl) ?_
      refine lv_iload hx hb dL_law_556 (lv_at hl 9 rfl) ?_
      rw [eq5]
      refine lv_dup2_11 hx hb dL_law_558 rfl rfl ?_
      refine ar_get hx hb hK hP (i := 1) (p9 := q5) rfl hq5 (by decide) dL_law_559 ?_
      refine lv_iconst (v := 1) hx hb dL_law_560 (by decide) ?_
      refine lv_iadd hx hb dL_law_561 ?_
      refine ar_set hx hb hK hP hD hS (i := 1) (p9 := q5) rfl rfl hq5 (by decide) dL_law_562 (fun f6 H locs hU6 hP hD hS => ?_)
      subst hU1 hU2 hU3 hU4 hU5 hU6
      exact kk _ H locs ls ⟨acc (A0.hit (V := fun _ => 1) (by decide) hq eq) (by simp [va_up]), acc (A1.hit (V := fun _ => 1) (by decide) hq5 eq5) (by simp [va_up]), acc (A2.hit' (v := 1) (by decide) hq eq (by unfold qP; rw [if_neg e5])) (by simp [va_up]), acc (A3.hit' (v := oo (a + 7) 2) (by decide) hq eq rfl) (by simp [va_up]), acc (A4.hit (V := fun _ => 1) (by decide) hv0 e0) (by simp [va_up]), acc (A5.hit' (v := oo (a + 7) 2) (by decide) hv0 e0 rfl) (by simp [va_up]), acc A6 (by simp [va_up])⟩ hP hD hS (lv_sub hl [3, 4, 10, 11, 12, 13, 2, 1, 0, 14, 15, 16, 17, 18, 19, 20, 21, 22] rfl)
set_option maxHeartbeats 8000000 in
theorem seg_S3 (hC : LX p s m c args b L xs A D cy en g) (hst0 : l.stackTraces = false) (hkc : kc ≤ 400000) (hks : ks ≤ 3000000)
    (kk : ∀ (x : Mem) (f : Nat → Nat → Int32) (H : Heap) (locs : List Loc) (ls : Array Slot) (cells slots : Nat), IV k x n d → x 0 = oo → AC oo n f → cells ≤ kc + 600 → slots ≤ ks + 4200 → va_P D vwCl (cW cy ad en x ++ lW cy aa f) H → va_D A (cW cy ad en x ++ lW cy aa f) → va_S A s.heap H locs → lv_has ls 27 [(0, .ref b), (1, .ref (ad 12 0)), (2, .int (nI o)), (3, .int (nI n)), (4, .int (sumTo (qT oo) n)), (5, .int (sumTo (qP oo) n)), (6, .int (sumTo (qS oo) n)), (7, .int u7), (8, .int u8), (9, .ref (aa 0)), (10, .ref (aa 1)), (11, .ref (aa 2)), (12, .ref (aa 3)), (13, .ref (aa 4)), (14, .ref (aa 5)), (15, .ref (aa 6))] → W p l e room_1 s m args below meth c H locs cells slots Q (F0 m 675 ls [])) :
    n ≤ 6 → ∀ i, i ≤ n → ∀ (x : Mem) (f : Nat → Nat → Int32) (H : Heap) (locs : List Loc) (ls : Array Slot) (cells slots : Nat), IV k x n d → x 0 = oo → AC oo i f → cells ≤ kc + 100 * i → slots ≤ ks + 700 * i → va_P D vwCl (cW cy ad en x ++ lW cy aa f) H → va_D A (cW cy ad en x ++ lW cy aa f) → va_S A s.heap H locs → lv_has ls 27 [(16, .int (nI i)), (0, .ref b), (1, .ref (ad 12 0)), (2, .int (nI o)), (3, .int (nI n)), (4, .int (sumTo (qT oo) i)), (5, .int (sumTo (qP oo) i)), (6, .int (sumTo (qS oo) i)), (7, .int u7), (8, .int u8), (9, .ref (aa 0)), (10, .ref (aa 1)), (11, .ref (aa 2)), (12, .ref (aa 3)), (13, .ref (aa 4)), (14, .ref (aa 5)), (15, .ref (aa 6))] → W p l e room_1 s m args below meth c H locs cells slots Q (F0 m 135 ls []) := by
  obtain ⟨hx, hb, hml, hown, hw, hK, hN, hST, hSC, hA⟩ := id hC
  intro hn6
  refine lp ?_ ?_
  · intro x f H locs ls cells slots hI hxo hAC hc hs hP hD hS hl
    refine lv_iload hx hb dL_law_135 (lv_at hl 0 rfl) ?_
    refine lv_iload_n hx hb dL_law_137 rfl (lv_at hl 4 rfl) ?_
    refine lv_icmp_ge (tgt := 675) hx hb dL_law_138 (by decide) (fun _ => ?_) (fun h => absurd (nI_le (Nat.le_refl _) (show n < 2 ^ 31 by omega)) h)
    exact kk x f H locs ls cells slots hI hxo hAC (by omega) (by omega) hP hD hS (lv_sub hl [1, 2, 3, 4, 5, 6, 7, 8, 9, 10, 11, 12, 13, 14, 15, 16] rfl)
  · intro i hi ih x f H locs ls cells slots hI hxo hAC hc hs hP hD hS hl
    refine lv_iload hx hb dL_law_135 (lv_at hl 0 rfl) ?_
    refine lv_iload_n hx hb dL_law_137 rfl (lv_at hl 4 rfl) ?_
    refine lv_icmp_ge (tgt := 675) hx hb dL_law_138 (by decide) (fun h => absurd h (nI_ge hi (show n < 2 ^ 31 by omega))) (fun _ => ?_)
    refine seg_c1 (kc := kc + 100 * i) (ks := ks + 700 * i) hC hst0 hI hxo (by omega) (by omega) hi (lv_sub hl [0, 1, 2, 3, 4, 5, 6, 7, 8, 9, 10, 11, 12, 13, 14, 15, 16] rfl) (by omega) (by omega) hP hD hS (fun x H locs ls cells slots hI hxo hc hs hP hD hS hl => ?_)
    refine seg_c2 (kc := kc + 100 * i + 60) (ks := ks + 700 * i + 470) hC hst0 hI hxo (by omega) (by omega) hi hl (by omega) (by omega) hP hD hS (fun H locs cells slots hc hs hP hD hS => ?_)
    refine seg_c3 hC hI hxo hi hAC hl hP hD hS (fun f H locs ls hAC hP hD hS hl => ?_)
    refine lv_iconst (v := 0) hx hb dL_law_563 (by decide) ?_
    refine lv_istore (lv' := [(24, .int 0), (16, .int (nI i)), (17, .int (oo (i + 7) 0)), (0, .ref b), (1, .ref (ad 12 0)), (2, .int (nI o)), (3, .int (nI n)), (4, .int (sumTo (qT oo) (i + 1))), (5, .int (sumTo (qP oo) (i + 1))), (6, .int (sumTo (qS oo) (i + 1))), (7, .int u7), (8, .int u8), (9, .ref (aa 0)), (10, .ref (aa 1)), (11, .ref (aa 2)), (12, .ref (aa 3)), (13, .ref (aa 4)), (14, .ref (aa 5)), (15, .ref (aa 6))]) hx hb dL_law_564 hl (by decide) rfl (fun ls hl => ?_)
    refine seg_wind (kc := kc + 100 * i + 64) (ks := ks + 700 * i + 494) hC hst0 hI hxo (by omega) (by omega) hi (fun H locs ls cells slots hc hs hP hD hS hl => ?_) 0 (Nat.zero_le _) H locs ls cells slots (by omega) (by omega) hP hD hS (lv_sub hl [0, 1, 2, 3, 4, 5, 6, 7, 8, 9, 10, 11, 12, 13, 14, 15, 16, 17, 18] rfl)
    refine lv_iinc (v := nI (i + 1)) (lv' := [(16, .int (nI (i + 1))), (0, .ref b), (1, .ref (ad 12 0)), (2, .int (nI o)), (3, .int (nI n)), (4, .int (sumTo (qT oo) (i + 1))), (5, .int (sumTo (qP oo) (i + 1))), (6, .int (sumTo (qS oo) (i + 1))), (7, .int u7), (8, .int u8), (9, .ref (aa 0)), (10, .ref (aa 1)), (11, .ref (aa 2)), (12, .ref (aa 3)), (13, .ref (aa 4)), (14, .ref (aa 5)), (15, .ref (aa 6))]) hx hb dL_law_669 hl (k := 0) rfl (by rw [nI_succ]; rfl) (by decide) rfl (fun ls hl => ?_)
    refine lv_goto (tgt := 135) hx hb dL_law_672 (by decide) ?_
    exact ih x f H locs ls cells slots hI hxo hAC (bd1 hc) (bd2 hs) hP hD hS (lv_sub hl [0, 1, 2, 3, 4, 5, 6, 7, 8, 9, 10, 11, 12, 13, 14, 15, 16] rfl)
end LAWB
