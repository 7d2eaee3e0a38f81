/-! the law's loop -/
def Good_cloud (Inv : Nat → Mem → (Nat → Nat → Int32) → Prop) : Prop := ∀ (k : Nat) (x : Mem) (m : Nat → Nat → Int32), k ≤ 512 → Inv k x m → ∀ p1 p2 p3 : Int32, OK_cloud (Inv (k + 1)) x m p1 p2 p3
def Good_vine (Inv : Nat → Mem → (Nat → Nat → Int32) → Prop) : Prop := ∀ (k : Nat) (x : Mem) (m : Nat → Nat → Int32), k ≤ 512 → Inv k x m → ∀ p1 p2 : Int32, OK_vine (Inv (k + 1)) x m p1 p2
def Good_title (Inv : Nat → Mem → (Nat → Nat → Int32) → Prop) : Prop := ∀ (k : Nat) (x : Mem) (m : Nat → Nat → Int32), k ≤ 512 → Inv k x m → ∀ p1 p2 : Int32, OK_title (Inv (k + 1)) x m p1 p2
def Good_sell (Inv : Nat → Mem → (Nat → Nat → Int32) → Prop) : Prop := ∀ (k : Nat) (x : Mem) (m : Nat → Nat → Int32), k ≤ 512 → Inv k x m → ∀ p1 p2 p3 : Int32, OK_sell (Inv (k + 1)) x m p1 p2 p3
def Good_pledge (Inv : Nat → Mem → (Nat → Nat → Int32) → Prop) : Prop := ∀ (k : Nat) (x : Mem) (m : Nat → Nat → Int32), k ≤ 512 → Inv k x m → ∀ p1 p2 : Int32, OK_pledge (Inv (k + 1)) x m p1 p2
def Good_redeem (Inv : Nat → Mem → (Nat → Nat → Int32) → Prop) : Prop := ∀ (k : Nat) (x : Mem) (m : Nat → Nat → Int32), k ≤ 512 → Inv k x m → ∀ p1 : Int32, OK_redeem (Inv (k + 1)) x m p1
def Good_wind (Inv : Nat → Mem → (Nat → Nat → Int32) → Prop) : Prop := ∀ (k : Nat) (x : Mem) (m : Nat → Nat → Int32), k ≤ 512 → Inv k x m → ∀ p1 : Int32, OK_wind (Inv (k + 1)) x m p1
def Good_hail (Inv : Nat → Mem → (Nat → Nat → Int32) → Prop) : Prop := ∀ (k : Nat) (x : Mem) (m : Nat → Nat → Int32), k ≤ 512 → Inv k x m → ∀ p1 : Int32, OK_hail (Inv (k + 1)) x m p1
def Good_dawn (Inv : Nat → Mem → (Nat → Nat → Int32) → Prop) : Prop := ∀ (k : Nat) (x : Mem) (m : Nat → Nat → Int32), k ≤ 512 → Inv k x m → OK_dawn (Inv (k + 1)) x m
def Good_cloudOf (Inv : Nat → Mem → (Nat → Nat → Int32) → Prop) : Prop := ∀ (k : Nat) (x : Mem) (m : Nat → Nat → Int32), k ≤ 512 → Inv k x m → ∀ p1 p2 : Int32, OK_cloudOf (Inv (k + 1)) x m p1 p2
def Good_ownerOf (Inv : Nat → Mem → (Nat → Nat → Int32) → Prop) : Prop := ∀ (k : Nat) (x : Mem) (m : Nat → Nat → Int32), k ≤ 512 → Inv k x m → ∀ p1 p2 : Int32, OK_ownerOf (Inv (k + 1)) x m p1 p2
def Good_vineyardOf (Inv : Nat → Mem → (Nat → Nat → Int32) → Prop) : Prop := ∀ (k : Nat) (x : Mem) (m : Nat → Nat → Int32), k ≤ 512 → Inv k x m → ∀ p1 p2 : Int32, OK_vineyardOf (Inv (k + 1)) x m p1 p2
def Good_clouds (Inv : Nat → Mem → (Nat → Nat → Int32) → Prop) : Prop := ∀ (k : Nat) (x : Mem) (m : Nat → Nat → Int32), k ≤ 512 → Inv k x m → ∀ p1 : Int32, OK_clouds (Inv (k + 1)) x m p1
def Good_cloudsAgain (Inv : Nat → Mem → (Nat → Nat → Int32) → Prop) : Prop := ∀ (k : Nat) (x : Mem) (m : Nat → Nat → Int32), k ≤ 512 → Inv k x m → ∀ p1 : Int32, OK_cloudsAgain (Inv (k + 1)) x m p1
def Good_windTo (Inv : Nat → Mem → (Nat → Nat → Int32) → Prop) : Prop := ∀ (k : Nat) (x : Mem) (m : Nat → Nat → Int32), k ≤ 512 → Inv k x m → ∀ p1 p2 : Int32, OK_windTo (Inv (k + 1)) x m p1 p2
def Good_windToAgain (Inv : Nat → Mem → (Nat → Nat → Int32) → Prop) : Prop := ∀ (k : Nat) (x : Mem) (m : Nat → Nat → Int32), k ≤ 512 → Inv k x m → ∀ p1 p2 : Int32, OK_windToAgain (Inv (k + 1)) x m p1 p2
def Good_would (Inv : Nat → Mem → (Nat → Nat → Int32) → Prop) : Prop := ∀ (k : Nat) (x : Mem) (m : Nat → Nat → Int32), k ≤ 512 → Inv k x m → ∀ p1 p2 : Int32, OK_would (Inv (k + 1)) x m p1 p2
def Good_bestWind (Inv : Nat → Mem → (Nat → Nat → Int32) → Prop) : Prop := ∀ (k : Nat) (x : Mem) (m : Nat → Nat → Int32), k ≤ 512 → Inv k x m → ∀ p1 : Int32, OK_bestWind (Inv (k + 1)) x m p1
def Good_recorded (Inv : Nat → Mem → (Nat → Nat → Int32) → Prop) : Prop := ∀ (k : Nat) (x : Mem) (m : Nat → Nat → Int32), k ≤ 512 → Inv k x m → ∀ p1 p2 : Int32, OK_recorded (Inv (k + 1)) x m p1 p2
def Good_coins (Inv : Nat → Mem → (Nat → Nat → Int32) → Prop) : Prop := ∀ (k : Nat) (x : Mem) (m : Nat → Nat → Int32), k ≤ 512 → Inv k x m → OK_coins (Inv (k + 1)) x m
def Good_coinsAgain (Inv : Nat → Mem → (Nat → Nat → Int32) → Prop) : Prop := ∀ (k : Nat) (x : Mem) (m : Nat → Nat → Int32), k ≤ 512 → Inv k x m → OK_coinsAgain (Inv (k + 1)) x m
def Good_greatest (Inv : Nat → Mem → (Nat → Nat → Int32) → Prop) : Prop := ∀ (k : Nat) (x : Mem) (m : Nat → Nat → Int32), k ≤ 512 → Inv k x m → ∀ p1 : Int32, OK_greatest (Inv (k + 1)) x m p1
def Good_ranked (Inv : Nat → Mem → (Nat → Nat → Int32) → Prop) : Prop := ∀ (k : Nat) (x : Mem) (m : Nat → Nat → Int32), k ≤ 512 → Inv k x m → ∀ p1 : Int32, OK_ranked (Inv (k + 1)) x m p1
def Good_feed (Inv : Nat → Mem → (Nat → Nat → Int32) → Prop) : Prop := ∀ (k : Nat) (x : Mem) (m : Nat → Nat → Int32), k ≤ 512 → Inv k x m → ∀ p1 : Int32, OK_feed (Inv (k + 1)) x m ((p1.toUInt32 % 65536).toInt32)
def Good_run (Inv : Nat → Mem → (Nat → Nat → Int32) → Prop) : Prop := ∀ (k : Nat) (x : Mem) (m : Nat → Nat → Int32), k ≤ 512 → Inv k x m → OK_run (Inv (k + 1)) x m
def Good_faultPosition (Inv : Nat → Mem → (Nat → Nat → Int32) → Prop) : Prop := ∀ (k : Nat) (x : Mem) (m : Nat → Nat → Int32), k ≤ 512 → Inv k x m → OK_faultPosition (Inv (k + 1)) x m
def Good_reason (Inv : Nat → Mem → (Nat → Nat → Int32) → Prop) : Prop := ∀ (k : Nat) (x : Mem) (m : Nat → Nat → Int32), k ≤ 512 → Inv k x m → ∀ p1 p2 : Int32, OK_reason (Inv (k + 1)) x m (if p1 = 0 then 0 else 1) (if p2 = 0 then 0 else 1)
def Good_line (Inv : Nat → Mem → (Nat → Nat → Int32) → Prop) : Prop := ∀ (k : Nat) (x : Mem) (m : Nat → Nat → Int32), k ≤ 512 → Inv k x m → ∀ p1 : Int32, OK_line (Inv (k + 1)) x m p1
def Good_dawnLine (Inv : Nat → Mem → (Nat → Nat → Int32) → Prop) : Prop := ∀ (k : Nat) (x : Mem) (m : Nat → Nat → Int32), k ≤ 512 → Inv k x m → ∀ p1 : Int32, OK_dawnLine (Inv (k + 1)) x m p1
def Good_character (Inv : Nat → Mem → (Nat → Nat → Int32) → Prop) : Prop := ∀ (k : Nat) (x : Mem) (m : Nat → Nat → Int32), k ≤ 512 → Inv k x m → ∀ p1 : Int32, OK_character (Inv (k + 1)) x m p1
def Good_meanSize (Inv : Nat → Mem → (Nat → Nat → Int32) → Prop) : Prop := ∀ (k : Nat) (x : Mem) (m : Nat → Nat → Int32), k ≤ 512 → Inv k x m → OK_meanSize (Inv (k + 1)) x m
def Good_titledShare (Inv : Nat → Mem → (Nat → Nat → Int32) → Prop) : Prop := ∀ (k : Nat) (x : Mem) (m : Nat → Nat → Int32), k ≤ 512 → Inv k x m → OK_titledShare (Inv (k + 1)) x m
def Good_account (Inv : Nat → Mem → (Nat → Nat → Int32) → Prop) : Prop := ∀ (k : Nat) (x : Mem) (m : Nat → Nat → Int32), k ≤ 512 → Inv k x m → ∀ p1 : Int32, OK_account (Inv (k + 1)) x m p1
def Good_isBalanced (Inv : Nat → Mem → (Nat → Nat → Int32) → Prop) : Prop := ∀ (k : Nat) (x : Mem) (m : Nat → Nat → Int32), k ≤ 512 → Inv k x m → OK_isBalanced (Inv (k + 1)) x m
def Good_undo (Inv : Nat → Mem → (Nat → Nat → Int32) → Prop) : Prop := ∀ (k : Nat) (x : Mem) (m : Nat → Nat → Int32), k ≤ 512 → Inv k x m → OK_undo (Inv (k + 1)) x m
def Good_save (Inv : Nat → Mem → (Nat → Nat → Int32) → Prop) : Prop := ∀ (k : Nat) (x : Mem) (m : Nat → Nat → Int32), k ≤ 512 → Inv k x m → OK_save (Inv (k + 1)) x m
def Good_restore (Inv : Nat → Mem → (Nat → Nat → Int32) → Prop) : Prop := ∀ (k : Nat) (x : Mem) (m : Nat → Nat → Int32), k ≤ 512 → Inv k x m → OK_restore (Inv (k + 1)) x m
def LawOK (Inv : Nat → Mem → (Nat → Nat → Int32) → Prop) : Prop := (∀ (k : Nat) (x : Mem) (m : Nat → Nat → Int32), k ≤ 512 → Inv k x m → Inv (k + 1) x m) ∧ Good_cloud Inv ∧ Good_vine Inv ∧ Good_title Inv ∧ Good_sell Inv ∧ Good_pledge Inv ∧ Good_redeem Inv ∧ Good_wind Inv ∧ Good_hail Inv ∧ Good_dawn Inv ∧ Good_cloudOf Inv ∧ Good_ownerOf Inv ∧ Good_vineyardOf Inv ∧ Good_clouds Inv ∧ Good_cloudsAgain Inv ∧ Good_windTo Inv ∧ Good_windToAgain Inv ∧ Good_would Inv ∧ Good_bestWind Inv ∧ Good_recorded Inv ∧ Good_coins Inv ∧ Good_coinsAgain Inv ∧ Good_greatest Inv ∧ Good_ranked Inv ∧ Good_feed Inv ∧ Good_run Inv ∧ Good_faultPosition Inv ∧ Good_reason Inv ∧ Good_line Inv ∧ Good_dawnLine Inv ∧ Good_character Inv ∧ Good_meanSize Inv ∧ Good_titledShare Inv ∧ Good_account Inv ∧ Good_isBalanced Inv ∧ Good_undo Inv ∧ Good_save Inv ∧ Good_restore Inv
theorem lw_more {L k : Nat} (hL : L ≤ 2048) (hk : k ≤ 600) (h : ¬ (Int32.ofNat L - 4) < nI (4 * k)) : 4 * k + 4 ≤ L := by
  have e : (Int32.ofNat L - 4).toInt = (L : Int) - 4 := pk_sub_toInt (a := L) (b := 4) (by omega) (by omega)
  rw [Int32.lt_iff_toInt_lt, e, nI_toInt (by omega)] at h
  omega
theorem lw_in {L k : Nat} (hL : L ≤ 2048) (j : Nat) (h : 4 * k + 4 ≤ L) (hj : j < 4) : vp_in (nI (4 * k) + nI j) L := by
  rw [nI_add]
  exact vp_in_nI (by omega) (by omega)
set_option maxHeartbeats 8000000 in
theorem lw_loop {Inv : Nat → Mem → (Nat → Nat → Int32) → Prop} (hOK : LawOK Inv) {p : Program} {l : Launch} (hst0 : l.stackTraces = false) {e : Env} {s : State} {m : MethodId} {below : List Frame} {meth : Method} {c : Code} {b L : Nat} (hL : L ≤ 2048) {xs : Nat → Int32} {A : Nat → Prop} {D : va_G} {cy : Nat → ClassId} {en g : Nat → Nat} {Q : State → Prop} (hC : LC p s m c b L xs A D cy en g) {ad : Nat → Nat → Nat} {am : Nat → Nat} {ob od : Nat}
    (hend : ∀ (H : Heap) (locs : List Loc) (ls : Array Slot) (cells slots : Nat), va_S A s.heap H locs → cells ≤ 4000 → slots ≤ 100000 → W p l e room_1 s m #[Value.ref b] below meth c H locs cells slots Q (F0 m 2257 ls [.int 1])) :
    ∀ (n k : Nat) (x : Mem) (m0 : Nat → Nat → Int32) (fo : Nat → Int64) (fd : Nat → UInt64) (H : Heap) (locs : List Loc) (ls : Array Slot) (cells slots : Nat), n + k = 513 → cells ≤ 2000 + 2 * k → slots ≤ 60000 + 12 * k → Inv k x m0 → va_P D vwCl ((cW cy ad en x ++ [(ob, .inl (cy 6, 1, .inr (.inl fo)))]) ++ (mW cy am m0 ++ [(od, .inl (cy 7, 1, .inr (.inr (.inr (.inl fd)))))])) H → va_D A ((cW cy ad en x ++ [(ob, .inl (cy 6, 1, .inr (.inl fo)))]) ++ (mW cy am m0 ++ [(od, .inl (cy 7, 1, .inr (.inr (.inr (.inl fd)))))])) → va_S A s.heap H locs → lv_has ls 9 [(0, .ref b), (1, .ref (ad 12 0)), (2, .ref (am 0)), (3, .ref ob), (4, .ref od), (5, .int (nI (4 * k)))] → W p l e room_1 s m #[Value.ref b] below meth c H locs cells slots Q (F0 m 28 ls []) := by
  have hC0 := hC
  obtain ⟨hx, hb, hml, hown, hw, hK8, hN, hST, hX, hbl, hbA, hA⟩ := hC0
  intro n
  induction n with
  | zero =>
    intro k x m0 fo fd H locs ls cells slots hk hc hs hI hP hD hS hl
    refine lv_iload hx hb dL_law_28 (lv_at hl 5 rfl) ?_
    refine lv_aload_n hx hb dL_law_30 rfl (lv_at hl 0 rfl) ?_
    refine va_slen hx hb hX hbl hbA hS dL_law_31 ?_
    refine lv_iconst (v := 4) hx hb dL_law_32 (by decide) ?_
    refine lv_isub hx hb dL_law_33 ?_
    refine lv_icmp_gt (tgt := 2256) hx hb dL_law_34 (by decide) (fun _ => ?_) (fun h => ?_)
    · refine lv_iconst (v := 1) hx hb dL_law_2256 (by decide) ?_
      exact hend H locs ls cells slots hS (by omega) (by omega)
    · have h9 := lw_more hL (by omega) h
      omega
  | succ n ih =>
    intro k x m0 fo fd H locs ls cells slots hk hc hs hI hP hD hS hl
    refine lv_iload hx hb dL_law_28 (lv_at hl 5 rfl) ?_
    refine lv_aload_n hx hb dL_law_30 rfl (lv_at hl 0 rfl) ?_
    refine va_slen hx hb hX hbl hbA hS dL_law_31 ?_
    refine lv_iconst (v := 4) hx hb dL_law_32 (by decide) ?_
    refine lv_isub hx hb dL_law_33 ?_
    refine lv_icmp_gt (tgt := 2256) hx hb dL_law_34 (by decide) (fun _ => ?_) (fun h => ?_)
    · refine lv_iconst (v := 1) hx hb dL_law_2256 (by decide) ?_
      exact hend H locs ls cells slots hS (by omega) (by omega)
    have hm := lw_more hL (by omega) h
    have hnx : ∀ (x' : Mem) (m' : Nat → Nat → Int32) (fo' : Nat → Int64) (fd' : Nat → UInt64) (H : Heap) (locs : List Loc) (ls : Array Slot), Inv (k + 1) x' m' → va_P D vwCl ((cW cy ad en x' ++ [(ob, .inl (cy 6, 1, .inr (.inl fo')))]) ++ (mW cy am m' ++ [(od, .inl (cy 7, 1, .inr (.inr (.inr (.inl fd')))))])) H → va_D A ((cW cy ad en x' ++ [(ob, .inl (cy 6, 1, .inr (.inl fo')))]) ++ (mW cy am m' ++ [(od, .inl (cy 7, 1, .inr (.inr (.inr (.inl fd')))))])) → va_S A s.heap H locs → lv_has ls 9 [(0, .ref b), (1, .ref (ad 12 0)), (2, .ref (am 0)), (3, .ref ob), (4, .ref od), (5, .int (nI (4 * k)))] → W p l e room_1 s m #[Value.ref b] below meth c H locs (cells + 2) (slots + 12) Q (F0 m 2250 ls []) := by
      intro x' m' fo' fd' H locs ls hI hP hD hS hl
      have h4k : nI (4 * k) + Int32.ofInt 4 = nI (4 * (k + 1)) := by
        have e1 : Int32.ofInt 4 = nI 4 := by decide
        have e2 : 4 * (k + 1) = 4 * k + 4 := by omega
        rw [e1, e2, nI_add]
      refine lv_iinc (v := nI (4 * (k + 1))) (lv' := [(5, .int (nI (4 * (k + 1)))), (0, .ref b), (1, .ref (ad 12 0)), (2, .ref (am 0)), (3, .ref ob), (4, .ref od)]) hx hb dL_law_2250 hl (k := 5) rfl h4k (by decide) rfl (fun ls hl => ?_)
      refine lv_goto (tgt := 28) hx hb dL_law_2253 (by decide) ?_
      exact ih (k + 1) x' m' fo' fd' H locs ls _ _ (by omega) (by omega) (by omega) hI hP hD hS (lv_sub hl [1, 2, 3, 4, 5, 0] rfl)
    have h1 : vp_in (nI (4 * k) + 1) L := lw_in hL 1 hm (by omega)
    have h2 : vp_in (nI (4 * k) + 2) L := lw_in hL 2 hm (by omega)
    have h3 : vp_in (nI (4 * k) + 3) L := lw_in hL 3 hm (by omega)
    have hcs : cells + 2 ≤ room_1.cells ∧ slots + 12 ≤ room_1.slots := ⟨Nat.le_trans (show cells + 2 ≤ 4000 by omega) (Nat.le_of_ble_eq_true rfl), Nat.le_trans (show slots + 12 ≤ 100000 by omega) (Nat.le_of_ble_eq_true rfl)⟩
    refine lv_aload_n hx hb dL_law_37 rfl (lv_at hl 0 rfl) ?_
    refine lv_iload hx hb dL_law_38 (lv_at hl 5 rfl) ?_
    refine va_sld hx hb hX hbl hbA hS (vp_in_nI (show 4 * k < L by omega) (by omega)) dL_law_40 ?_
    refine lv_bipush (v := 63) hx hb dL_law_41 (by decide) ?_
    refine lv_iand hx hb dL_law_43 ?_
    generalize hv : xs (nI (4 * k)).toNatClampNeg &&& 63 = v
    obtain ⟨gmono, g0, g1, g2, g3, g4, g5, g6, g7, g8, g9, g10, g11, g12, g13, g14, g15, g16, g17, g18, g19, g20, g21, g22, g23, g24, g25, g26, g27, g28, g29, g30, g31, g32, g33, g34, g35, g36⟩ := hOK
    by_cases e0 : v = 0
    · refine lv_tableIn (tgt := 208) (off := 164) hx hb dL_law_44 (by rw [e0]; decide) (by rw [e0]; decide) (by rw [e0]; decide) (by decide) ?_
      exact lw_cloud hst0 hC h1 h2 h3 hcs (g0 k x m0 (by omega) hI _ _ _) hP hD hS hl hnx
    by_cases e1 : v = 1
    · refine lv_tableIn (tgt := 288) (off := 244) hx hb dL_law_44 (by rw [e1]; decide) (by rw [e1]; decide) (by rw [e1]; decide) (by decide) ?_
      exact lw_vine hst0 hC h1 h2 h3 hcs (g1 k x m0 (by omega) hI _ _) hP hD hS hl hnx
    by_cases e2 : v = 2
    · refine lv_tableIn (tgt := 356) (off := 312) hx hb dL_law_44 (by rw [e2]; decide) (by rw [e2]; decide) (by rw [e2]; decide) (by decide) ?_
      exact lw_title hst0 hC h1 h2 h3 hcs (g2 k x m0 (by omega) hI _ _) hP hD hS hl hnx
    by_cases e3 : v = 3
    · refine lv_tableIn (tgt := 424) (off := 380) hx hb dL_law_44 (by rw [e3]; decide) (by rw [e3]; decide) (by rw [e3]; decide) (by decide) ?_
      exact lw_sell hst0 hC h1 h2 h3 hcs (g3 k x m0 (by omega) hI _ _ _) hP hD hS hl hnx
    by_cases e4 : v = 4
    · refine lv_tableIn (tgt := 504) (off := 460) hx hb dL_law_44 (by rw [e4]; decide) (by rw [e4]; decide) (by rw [e4]; decide) (by decide) ?_
      exact lw_pledge hst0 hC h1 h2 h3 hcs (g4 k x m0 (by omega) hI _ _) hP hD hS hl hnx
    by_cases e5 : v = 5
    · refine lv_tableIn (tgt := 572) (off := 528) hx hb dL_law_44 (by rw [e5]; decide) (by rw [e5]; decide) (by rw [e5]; decide) (by decide) ?_
      exact lw_redeem hst0 hC h1 h2 h3 hcs (g5 k x m0 (by omega) hI _) hP hD hS hl hnx
    by_cases e6 : v = 6
    · refine lv_tableIn (tgt := 628) (off := 584) hx hb dL_law_44 (by rw [e6]; decide) (by rw [e6]; decide) (by rw [e6]; decide) (by decide) ?_
      exact lw_wind hst0 hC h1 h2 h3 hcs (g6 k x m0 (by omega) hI _) hP hD hS hl hnx
    by_cases e7 : v = 7
    · refine lv_tableIn (tgt := 684) (off := 640) hx hb dL_law_44 (by rw [e7]; decide) (by rw [e7]; decide) (by rw [e7]; decide) (by decide) ?_
      exact lw_hail hst0 hC h1 h2 h3 hcs (g7 k x m0 (by omega) hI _) hP hD hS hl hnx
    by_cases e8 : v = 8
    · refine lv_tableIn (tgt := 740) (off := 696) hx hb dL_law_44 (by rw [e8]; decide) (by rw [e8]; decide) (by rw [e8]; decide) (by decide) ?_
      exact lw_dawn hst0 hC h1 h2 h3 hcs (g8 k x m0 (by omega) hI) hP hD hS hl hnx
    by_cases e9 : v = 9
    · refine lv_tableIn (tgt := 753) (off := 709) hx hb dL_law_44 (by rw [e9]; decide) (by rw [e9]; decide) (by rw [e9]; decide) (by decide) ?_
      exact lw_cloudOf hst0 hC h1 h2 h3 hcs (g9 k x m0 (by omega) hI _ _) hP hD hS hl hnx
    by_cases e10 : v = 10
    · refine lv_tableIn (tgt := 821) (off := 777) hx hb dL_law_44 (by rw [e10]; decide) (by rw [e10]; decide) (by rw [e10]; decide) (by decide) ?_
      exact lw_ownerOf hst0 hC h1 h2 h3 hcs (g10 k x m0 (by omega) hI _ _) hP hD hS hl hnx
    by_cases e11 : v = 11
    · refine lv_tableIn (tgt := 889) (off := 845) hx hb dL_law_44 (by rw [e11]; decide) (by rw [e11]; decide) (by rw [e11]; decide) (by decide) ?_
      exact lw_vineyardOf hst0 hC h1 h2 h3 hcs (g11 k x m0 (by omega) hI _ _) hP hD hS hl hnx
    by_cases e12 : v = 12
    · refine lv_tableIn (tgt := 957) (off := 913) hx hb dL_law_44 (by rw [e12]; decide) (by rw [e12]; decide) (by rw [e12]; decide) (by decide) ?_
      exact lw_clouds hst0 hC h1 h2 h3 hcs (g12 k x m0 (by omega) hI _) hP hD hS hl hnx
    by_cases e13 : v = 13
    · refine lv_tableIn (tgt := 1013) (off := 969) hx hb dL_law_44 (by rw [e13]; decide) (by rw [e13]; decide) (by rw [e13]; decide) (by decide) ?_
      exact lw_cloudsAgain hst0 hC h1 h2 h3 hcs (g13 k x m0 (by omega) hI _) hP hD hS hl hnx
    by_cases e14 : v = 14
    · refine lv_tableIn (tgt := 1069) (off := 1025) hx hb dL_law_44 (by rw [e14]; decide) (by rw [e14]; decide) (by rw [e14]; decide) (by decide) ?_
      exact lw_windTo hst0 hC h1 h2 h3 hcs (g14 k x m0 (by omega) hI _ _) hP hD hS hl hnx
    by_cases e15 : v = 15
    · refine lv_tableIn (tgt := 1137) (off := 1093) hx hb dL_law_44 (by rw [e15]; decide) (by rw [e15]; decide) (by rw [e15]; decide) (by decide) ?_
      exact lw_windToAgain hst0 hC h1 h2 h3 hcs (g15 k x m0 (by omega) hI _ _) hP hD hS hl hnx
    by_cases e16 : v = 16
    · refine lv_tableIn (tgt := 1205) (off := 1161) hx hb dL_law_44 (by rw [e16]; decide) (by rw [e16]; decide) (by rw [e16]; decide) (by decide) ?_
      exact lw_would hst0 hC h1 h2 h3 hcs (g16 k x m0 (by omega) hI _ _) hP hD hS hl hnx
    by_cases e17 : v = 17
    · refine lv_tableIn (tgt := 1273) (off := 1229) hx hb dL_law_44 (by rw [e17]; decide) (by rw [e17]; decide) (by rw [e17]; decide) (by decide) ?_
      exact lw_bestWind hst0 hC h1 h2 h3 hcs (g17 k x m0 (by omega) hI _) hP hD hS hl hnx
    by_cases e18 : v = 18
    · refine lv_tableIn (tgt := 1329) (off := 1285) hx hb dL_law_44 (by rw [e18]; decide) (by rw [e18]; decide) (by rw [e18]; decide) (by decide) ?_
      exact lw_recorded hst0 hC h1 h2 h3 hcs (g18 k x m0 (by omega) hI _ _) hP hD hS hl hnx
    by_cases e19 : v = 19
    · refine lv_tableIn (tgt := 1397) (off := 1353) hx hb dL_law_44 (by rw [e19]; decide) (by rw [e19]; decide) (by rw [e19]; decide) (by decide) ?_
      exact lw_coins hst0 hC h1 h2 h3 hcs (g19 k x m0 (by omega) hI) hP hD hS hl hnx
    by_cases e20 : v = 20
    · refine lv_tableIn (tgt := 1410) (off := 1366) hx hb dL_law_44 (by rw [e20]; decide) (by rw [e20]; decide) (by rw [e20]; decide) (by decide) ?_
      exact lw_coinsAgain hst0 hC h1 h2 h3 hcs (g20 k x m0 (by omega) hI) hP hD hS hl hnx
    by_cases e21 : v = 21
    · refine lv_tableIn (tgt := 1423) (off := 1379) hx hb dL_law_44 (by rw [e21]; decide) (by rw [e21]; decide) (by rw [e21]; decide) (by decide) ?_
      exact lw_greatest hst0 hC h1 h2 h3 hcs (g21 k x m0 (by omega) hI _) hP hD hS hl hnx
    by_cases e22 : v = 22
    · refine lv_tableIn (tgt := 1479) (off := 1435) hx hb dL_law_44 (by rw [e22]; decide) (by rw [e22]; decide) (by rw [e22]; decide) (by decide) ?_
      exact lw_ranked hst0 hC h1 h2 h3 hcs (g22 k x m0 (by omega) hI _) hP hD hS hl hnx
    by_cases e23 : v = 23
    · refine lv_tableIn (tgt := 1535) (off := 1491) hx hb dL_law_44 (by rw [e23]; decide) (by rw [e23]; decide) (by rw [e23]; decide) (by decide) ?_
      exact lw_feed hst0 hC h1 h2 h3 hcs (g23 k x m0 (by omega) hI _) hP hD hS hl hnx
    by_cases e24 : v = 24
    · refine lv_tableIn (tgt := 1593) (off := 1549) hx hb dL_law_44 (by rw [e24]; decide) (by rw [e24]; decide) (by rw [e24]; decide) (by decide) ?_
      exact lw_run hst0 hC h1 h2 h3 hcs (g24 k x m0 (by omega) hI) hP hD hS hl hnx
    by_cases e25 : v = 25
    · refine lv_tableIn (tgt := 1637) (off := 1593) hx hb dL_law_44 (by rw [e25]; decide) (by rw [e25]; decide) (by rw [e25]; decide) (by decide) ?_
      exact lw_faultPosition hst0 hC h1 h2 h3 hcs (g25 k x m0 (by omega) hI) hP hD hS hl hnx
    by_cases e26 : v = 26
    · refine lv_tableIn (tgt := 1681) (off := 1637) hx hb dL_law_44 (by rw [e26]; decide) (by rw [e26]; decide) (by rw [e26]; decide) (by decide) ?_
      exact lw_reason hst0 hC h1 h2 h3 hcs (g26 k x m0 (by omega) hI _ _) hP hD hS hl hnx
    by_cases e27 : v = 27
    · refine lv_tableIn (tgt := 1781) (off := 1737) hx hb dL_law_44 (by rw [e27]; decide) (by rw [e27]; decide) (by rw [e27]; decide) (by decide) ?_
      exact lw_line hst0 hC h1 h2 h3 hcs (g27 k x m0 (by omega) hI _) hP hD hS hl hnx
    by_cases e28 : v = 28
    · refine lv_tableIn (tgt := 1837) (off := 1793) hx hb dL_law_44 (by rw [e28]; decide) (by rw [e28]; decide) (by rw [e28]; decide) (by decide) ?_
      exact lw_dawnLine hst0 hC h1 h2 h3 hcs (g28 k x m0 (by omega) hI _) hP hD hS hl hnx
    by_cases e29 : v = 29
    · refine lv_tableIn (tgt := 1893) (off := 1849) hx hb dL_law_44 (by rw [e29]; decide) (by rw [e29]; decide) (by rw [e29]; decide) (by decide) ?_
      exact lw_character hst0 hC h1 h2 h3 hcs (g29 k x m0 (by omega) hI _) hP hD hS hl hnx
    by_cases e30 : v = 30
    · refine lv_tableIn (tgt := 1949) (off := 1905) hx hb dL_law_44 (by rw [e30]; decide) (by rw [e30]; decide) (by rw [e30]; decide) (by decide) ?_
      exact lw_meanSize hst0 hC h1 h2 h3 hcs (g30 k x m0 (by omega) hI) hP hD hS hl hnx
    by_cases e31 : v = 31
    · refine lv_tableIn (tgt := 2014) (off := 1970) hx hb dL_law_44 (by rw [e31]; decide) (by rw [e31]; decide) (by rw [e31]; decide) (by decide) ?_
      exact lw_titledShare hst0 hC h1 h2 h3 hcs (g31 k x m0 (by omega) hI) hP hD hS hl hnx
    by_cases e32 : v = 32
    · refine lv_tableIn (tgt := 2080) (off := 2036) hx hb dL_law_44 (by rw [e32]; decide) (by rw [e32]; decide) (by rw [e32]; decide) (by decide) ?_
      exact lw_account hst0 hC h1 h2 h3 hcs (g32 k x m0 (by omega) hI _) hP hD hS hl hnx
    by_cases e33 : v = 33
    · refine lv_tableIn (tgt := 2136) (off := 2092) hx hb dL_law_44 (by rw [e33]; decide) (by rw [e33]; decide) (by rw [e33]; decide) (by decide) ?_
      exact lw_isBalanced hst0 hC h1 h2 h3 hcs (g33 k x m0 (by omega) hI) hP hD hS hl hnx
    by_cases e34 : v = 34
    · refine lv_tableIn (tgt := 2149) (off := 2105) hx hb dL_law_44 (by rw [e34]; decide) (by rw [e34]; decide) (by rw [e34]; decide) (by decide) ?_
      exact lw_undo hst0 hC h1 h2 h3 hcs (g34 k x m0 (by omega) hI) hP hD hS hl hnx
    by_cases e35 : v = 35
    · refine lv_tableIn (tgt := 2193) (off := 2149) hx hb dL_law_44 (by rw [e35]; decide) (by rw [e35]; decide) (by rw [e35]; decide) (by decide) ?_
      exact lw_save hst0 hC h1 h2 h3 hcs (g35 k x m0 (by omega) hI) hP hD hS hl hnx
    by_cases e36 : v = 36
    · refine lv_tableIn (tgt := 2206) (off := 2162) hx hb dL_law_44 (by rw [e36]; decide) (by rw [e36]; decide) (by rw [e36]; decide) (by decide) ?_
      exact lw_restore hst0 hC h1 h2 h3 hcs (g36 k x m0 (by omega) hI) hP hD hS hl hnx
    refine tableDf (tgt := 2250) hx hb dL_law_44 (fun z hz1 hz2 hz3 => by have x0 := lv_neT e0 (show (0 : Int32).toInt = 0 by decide); have x1 := lv_neT e1 (show (1 : Int32).toInt = 1 by decide); have x2 := lv_neT e2 (show (2 : Int32).toInt = 2 by decide); have x3 := lv_neT e3 (show (3 : Int32).toInt = 3 by decide); have x4 := lv_neT e4 (show (4 : Int32).toInt = 4 by decide); have x5 := lv_neT e5 (show (5 : Int32).toInt = 5 by decide); have x6 := lv_neT e6 (show (6 : Int32).toInt = 6 by decide); have x7 := lv_neT e7 (show (7 : Int32).toInt = 7 by decide); have x8 := lv_neT e8 (show (8 : Int32).toInt = 8 by decide); have x9 := lv_neT e9 (show (9 : Int32).toInt = 9 by decide); have x10 := lv_neT e10 (show (10 : Int32).toInt = 10 by decide); have x11 := lv_neT e11 (show (11 : Int32).toInt = 11 by decide); have x12 := lv_neT e12 (show (12 : Int32).toInt = 12 by decide); have x13 := lv_neT e13 (show (13 : Int32).toInt = 13 by decide); have x14 := lv_neT e14 (show (14 : Int32).toInt = 14 by decide); have x15 := lv_neT e15 (show (15 : Int32).toInt = 15 by decide); have x16 := lv_neT e16 (show (16 : Int32).toInt = 16 by decide); have x17 := lv_neT e17 (show (17 : Int32).toInt = 17 by decide); have x18 := lv_neT e18 (show (18 : Int32).toInt = 18 by decide); have x19 := lv_neT e19 (show (19 : Int32).toInt = 19 by decide); have x20 := lv_neT e20 (show (20 : Int32).toInt = 20 by decide); have x21 := lv_neT e21 (show (21 : Int32).toInt = 21 by decide); have x22 := lv_neT e22 (show (22 : Int32).toInt = 22 by decide); have x23 := lv_neT e23 (show (23 : Int32).toInt = 23 by decide); have x24 := lv_neT e24 (show (24 : Int32).toInt = 24 by decide); have x25 := lv_neT e25 (show (25 : Int32).toInt = 25 by decide); have x26 := lv_neT e26 (show (26 : Int32).toInt = 26 by decide); have x27 := lv_neT e27 (show (27 : Int32).toInt = 27 by decide); have x28 := lv_neT e28 (show (28 : Int32).toInt = 28 by decide); have x29 := lv_neT e29 (show (29 : Int32).toInt = 29 by decide); have x30 := lv_neT e30 (show (30 : Int32).toInt = 30 by decide); have x31 := lv_neT e31 (show (31 : Int32).toInt = 31 by decide); have x32 := lv_neT e32 (show (32 : Int32).toInt = 32 by decide); have x33 := lv_neT e33 (show (33 : Int32).toInt = 33 by decide); have x34 := lv_neT e34 (show (34 : Int32).toInt = 34 by decide); have x35 := lv_neT e35 (show (35 : Int32).toInt = 35 by decide); have x36 := lv_neT e36 (show (36 : Int32).toInt = 36 by decide); omega) (by decide) ?_
    exact W.widen (Nat.le_add_right cells 2) (Nat.le_add_right slots 12) (hnx x m0 fo fd H locs ls (gmono k x m0 (by omega) hI) hP hD hS hl)
