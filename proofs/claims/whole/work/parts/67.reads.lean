/-! readings: winds, records, coins, reasons, accounts -/
def wdist (a b : Int32) : Int32 := if (((b - a) + 6) - ((b - a) + 6) / 6 * 6) ≤ 3 then ((b - a) + 6) - ((b - a) + 6) / 6 * 6 else (((b - a) + 6) - ((b - a) + 6) / 6 * 6) - 6
theorem wbt_cg {u v : Nat → Int32} (h : u 0 = v 0) (p : Int32) : ∀ (q : Nat) (i : Int32), L_X1_windByTrying_2 q u p i = L_X1_windByTrying_2 q v p i
  | 0, _ => rfl
  | q + 1, i => by
    have ih := wbt_cg h p q
    simp only [L_X1_windByTrying_2, D_X1_vineyardAfter, h, ih]
theorem fin_wind : ∀ (a b : Fin 6), D_X1_windByTrying (fun _ => nI a.val) (nI b.val) = some (wdist (nI a.val) (nI b.val)) ∧ D_X1_windByDistance (fun _ => nI a.val) (nI b.val) = some (wdist (nI a.val) (nI b.val)) := by decide +kernel
theorem wbt_eq {u : Nat → Int32} (h : rng (u 0) 0 5) {b : Nat} (hb : b < 6) : D_X1_windByTrying u (nI b) = some (wdist (u 0) (nI b)) ∧ D_X1_windByDistance u (nI b) = some (wdist (u 0) (nI b)) := by
  obtain ⟨a, ha, ea⟩ := rng_nI (b := 5) h (by decide)
  have hf := fin_wind ⟨a, by omega⟩ ⟨b, hb⟩
  refine ⟨?_, ?_⟩
  · have e : D_X1_windByTrying u (nI b) = D_X1_windByTrying (fun _ => nI a) (nI b) := wbt_cg (v := fun _ => nI a) ea (nI b) 200 0
    rw [e, hf.1, ea]
  · have e : D_X1_windByDistance u (nI b) = D_X1_windByDistance (fun _ => nI a) (nI b) := by unfold D_X1_windByDistance; rw [ea]
    rw [e, hf.2, ea]
theorem mwind {k n d : Nat} {x : Mem} {m : Nat → Nat → Int32} (hI : Inv k x m) (hR : RO (x 0) (m 1) n d) (p1 p2 : Int32) (f : (Nat → Int32) → Int32 → Option Int32) (hf : ∀ u b, rng (u 0) 0 5 → b < 6 → f u (nI b) = some (wdist (u 0) (nI b))) :
    ∃ (code r bb : Int32) (m' : Nat → Nat → Int32), (code = 0 ∨ code = 1) ∧ (if (D_X4_hasCloud (x 0) p1) = 0 then (some (1, 0)) else (if (D_X9_isVineyard p2) = 0 then (some (1, 0)) else (if inb p1 6 then ((f ((x 0) (p1.toNatClampNeg + 7)) p2).bind (fun r11 => some (0, r11))) else none))) = some (code, r) ∧ D_X10_windTo m p1 p2 = some (bb, m') ∧ D_X10_thrown m' = code ∧ (code = 0 → r = bb) ∧ Inv (k + 1) x m' := by
  unfold D_X10_windTo
  rw [mcloud hR, mvi]
  simp only [Option.bind_some, it0, it1]
  rcases hc_cases hR p1 with e1 | ⟨e1, i, hi, rfl⟩
  · rw [if_pos e1, if_pos e1]
    exact ⟨1, 0, 0, _, Or.inr rfl, rfl, rfl, th _ _, fun z => absurd z one_ne, rd hI 1⟩
  rw [e1, if_neg one_ne, if_neg one_ne]
  rcases vi_cases p2 with ⟨e2, -⟩ | ⟨e2, v, hv, rfl⟩
  · rw [if_pos e2, if_pos e2]
    exact ⟨1, 0, 0, _, Or.inr rfl, rfl, rfl, th _ _, fun z => absurd z one_ne, rd hI 1⟩
  have h6 := hR.1
  obtain ⟨hC, hB⟩ := hR.2.2.2.2.2.2.2.2.1 i hi
  have hC' : CR (x 0 (i + 7)) (mcl (va_up m 0 (upd (m 0) 0 0) 1) i) := hC
  rw [e2, if_neg one_ne, if_neg one_ne, if_pos (inb_nI (show i < 6 by omega) (by decide)), nI_clamp (show i < 2 ^ 31 by omega), hf _ _ hB.1 hv, c0A hC' (by omega)]
  simp only [Option.bind_some]
  refine ⟨0, _, wdist (x 0 (i + 7) 0) (nI v), _, Or.inl rfl, rfl, ?_, th m 0, fun _ => rfl, rd hI 0⟩
  unfold wdist
  split <;> rfl
theorem g_windTo : Good_windTo Inv := by
  intro k x m hk hI p1 p2
  obtain ⟨⟨⟨n, d, hR⟩, hF⟩, -⟩ := id hI
  exact mwind hI hR p1 p2 D_X1_windByTrying (fun u b h1 h2 => (wbt_eq h1 h2).1)
theorem g_windToAgain : Good_windToAgain Inv := by
  intro k x m hk hI p1 p2
  obtain ⟨⟨⟨n, d, hR⟩, hF⟩, -⟩ := id hI
  obtain ⟨code, r, bb, m', h1, h2, h3, h4, h5, h6⟩ := mwind hI hR p1 p2 D_X1_windByDistance (fun u b h1 h2 => (wbt_eq h1 h2).2)
  refine ⟨code, r, bb, m', h1, h2, ?_, h4, h5, h6⟩
  unfold D_X10_windToAgain
  rw [h3]
  rfl
theorem in_cnt {x : Int32} {n : Nat} (hn : n < 2 ^ 30) : D_X10_in x 0 (nI n - 1) = D_X9_isWithin x (nI n) := by
  refine in_wi ?_
  rw [show (nI n - 1).toInt = (n : Int) - 1 from pk_sub_toInt (a := n) (b := 1) (by omega) (by omega), nI_toInt (by omega)]
  omega
theorem g_recorded : Good_recorded Inv := by
  intro k x m hk hI p1 p2
  unfold OK_recorded D_X9_recorded D_X10_recorded D_X7_hasDawn
  obtain ⟨⟨⟨n, d, hR⟩, hF⟩, -⟩ := id hI
  have hd := hR.2.1
  have h4 := hR.2.2.2.2.2.1
  have g10 := hR.2.2.2.2.2.2.2.2.2.1
  simp only [ib8, cl8, h4.1, h4.2, in_cnt (show d < 2 ^ 30 by omega), it0, it1, ↓reduceIte]
  rcases wi_cases p1 (n := d) (by omega) with ⟨e1, -⟩ | ⟨e1, e, he, rfl⟩
  · rw [if_pos e1, if_pos e1]
    exact ⟨1, 0, 0, _, Or.inr rfl, rfl, rfl, th _ _, fun z => absurd z one_ne, rd hI 1⟩
  obtain ⟨q, q6, q1, q2, q3⟩ := g10 e he
  have e7 : (61 : Int32) + 7 * nI e = nI (61 + 7 * e) := by rw [show (7 : Int32) = nI 7 from rfl, pk_mul, show (61 : Int32) = nI 61 from rfl, nI_add]
  have hca : D_X7_cloudsAt (x 0) (nI e) = some (nI q) := by
    unfold D_X7_cloudsAt D_X7_hasDawn
    rw [h4.1, e1, if_neg one_ne, if_pos (inb_nI (show e < 5 by omega) (by decide)), nI_clamp (by omega), q1]
  rw [e1, if_neg one_ne, if_neg one_ne, hca, e7, if_pos (inb_nI (show 61 + 7 * e < 1152 by omega) (by decide)), nI_clamp (show 61 + 7 * e < 2 ^ 31 by omega), q2, in_cnt (by omega)]
  simp only [Option.bind_some]
  rcases wi_cases p2 (n := q) (by omega) with ⟨e2, -⟩ | ⟨e2, i, hi, rfl⟩
  · rw [if_pos e2, if_pos e2]
    exact ⟨1, 0, 0, _, Or.inr rfl, rfl, rfl, th _ _, fun z => absurd z one_ne, rd hI 1⟩
  have e8 : nI (61 + 7 * e) + 1 + nI i = nI (62 + 7 * e + i) := by rw [← nI_succ, nI_add]; congr 1; omega
  have e9 : nI e * 6 + nI i = nI (6 * e + i) := by rw [show (6 : Int32) = nI 6 from rfl, pk_mul, nI_add]; congr 1; omega
  have hoa : D_X7_ownerAt (x 0) (nI e) (nI i) = some (x 0 5 (6 * e + i)) := by
    unfold D_X7_ownerAt
    rw [hca]
    simp only [Option.bind_some]
    rw [e2, if_neg one_ne, e9, if_pos (inb_nI (show 6 * e + i < 30 by omega) (by decide)), nI_clamp (show 6 * e + i < 2 ^ 31 by omega)]
  rw [e2, if_neg one_ne, if_neg one_ne, hoa, e8, if_pos (inb_nI (show 62 + 7 * e + i < 1152 by omega) (by decide)), nI_clamp (show 62 + 7 * e + i < 2 ^ 31 by omega), va_up_1of0, (q3 i hi).1, add1_sub1]
  exact ⟨0, _, _, _, Or.inl rfl, rfl, rfl, th _ _, fun _ => rfl, rd hI 0⟩
theorem cl9' : (9 : Int32).toNatClampNeg = 9 := by decide
theorem mcoins {x : Nat → Nat → Int32} {m : Nat → Nat → Int32} {n d : Nat} (hR : RO x (m 1) n d) : D_X10_coins m = some (x 3 0 + x 3 1 + x 3 2 + x 3 3, va_up m 0 (upd (m 0) 0 0)) := by
  have g7 := hR.2.2.2.2.2.2.1
  unfold D_X10_coins
  rw [if_pos (by decide), if_pos (by decide), if_pos (by decide), if_pos (by decide), cl9, cl10, cl11, cl12, g7 0 (by omega), g7 1 (by omega), g7 2 (by omega), g7 3 (by omega)]
theorem sum4z (f : Nat → Int32) : sumTo (fun j => f j) 4 = f 0 + f 1 + f 2 + f 3 := by
  simp only [sumTo]
  grind only
theorem g_coins : Good_coins Inv := by
  intro k x m hk hI
  unfold OK_coins D_X9_coins
  obtain ⟨⟨⟨n, d, hR⟩, hF⟩, -⟩ := id hI
  rw [coi_eq, mcoins hR, sum4z]
  exact ⟨_, _, _, rfl, rfl, rfl, rd hI 0⟩
theorem g_coinsAgain : Good_coinsAgain Inv := by
  intro k x m hk hI
  unfold OK_coinsAgain D_X9_coinsAgain D_X10_coinsAgain D_X4_coinsByPayments
  obtain ⟨⟨⟨n, d, hR⟩, hF⟩, -⟩ := id hI
  rw [mcoins hR]
  refine ⟨_, _, _, rfl, rfl, ?_, rd hI 0⟩
  have g11 := hR.2.2.2.2.2.2.2.2.2.2
  unfold RBa at g11
  rw [g11]
theorem g_faultPosition : Good_faultPosition Inv := by
  intro k x m hk hI
  unfold OK_faultPosition D_X9_faultPosition D_X10_faultPosition
  have h := hI.2.2.2.2.2.1
  rw [h, it0, it1]
  by_cases h0 : m 0 13 = -1
  · rw [if_pos h0, if_pos h0]
    exact ⟨1, 0, 0, _, Or.inr rfl, rfl, rfl, th _ _, fun z => absurd z one_ne, rd hI 1⟩
  · rw [if_neg h0, if_neg h0]
    exact ⟨0, _, _, _, Or.inl rfl, rfl, rfl, th _ _, fun _ => by rw [va_up_self, upd_ne _ _ (by omega)], rd hI 0⟩
theorem g_reason : Good_reason Inv := by
  intro k x m hk hI p1 p2
  unfold OK_reason D_X9_reason D_X10_reason
  obtain ⟨r0, r1, r2, r3⟩ := hI.2.2.2.1
  simp only [it0, it1, va_up_self, upd_ne _ _ (show 5 ≠ 0 by omega), upd_ne _ _ (show 6 ≠ 0 by omega), upd_ne _ _ (show 7 ≠ 0 by omega), upd_ne _ _ (show 8 ≠ 0 by omega), r0, r2]
  by_cases hp1 : p1 = 0
  · rw [if_pos hp1]
    simp only [↓reduceIte]
    by_cases h0 : m 0 5 = 0
    · rw [if_pos h0, if_pos h0]
      exact ⟨1, 0, 0, _, Or.inr rfl, rfl, rfl, th _ _, fun z => absurd z one_ne, rd hI 1⟩
    · rw [if_neg h0, if_neg h0]
      by_cases hp2 : p2 = 0
      · rw [if_pos hp2]
        exact ⟨0, _, _, _, Or.inl rfl, rfl, rfl, th _ _, fun _ => rfl, rd hI 0⟩
      · rw [if_neg hp2]
        exact ⟨0, _, _, _, Or.inl rfl, rfl, rfl, th _ _, fun _ => r1 h0, rd hI 0⟩
  · rw [if_neg hp1]
    simp only [if_neg one_ne]
    by_cases h0 : m 0 7 = 0
    · rw [if_pos h0, if_pos h0]
      exact ⟨1, 0, 0, _, Or.inr rfl, rfl, rfl, th _ _, fun z => absurd z one_ne, rd hI 1⟩
    · rw [if_neg h0, if_neg h0]
      by_cases hp2 : p2 = 0
      · rw [if_pos hp2]
        exact ⟨0, _, _, _, Or.inl rfl, rfl, rfl, th _ _, fun _ => rfl, rd hI 0⟩
      · rw [if_neg hp2]
        exact ⟨0, _, _, _, Or.inl rfl, rfl, rfl, th _ _, fun _ => r3 h0, rd hI 0⟩
theorem titled_eq {o : Nat → Nat → Int32} {n : Nat} (hn : o 0 1 = nI n) (h6 : n ≤ 6) : D_X4_titledClouds o = some (sumTo (fun j => if o (j + 7) 3 = -1 then 0 else 1) n) := by
  unfold D_X4_titledClouds
  rw [cc_eq hn h6]
  simp only [Option.bind_some, hn]
  have h := sumTo_two (f := fun j => if o (j + 7) 3 = -1 then 1 else 0) (g := fun j => if o (j + 7) 3 = -1 then 0 else 1) (n := n) (fun j _ => by
    by_cases h : o (j + 7) 3 = -1
    · simp only [if_pos h, Int32.add_zero]
    · simp only [if_neg h, Int32.zero_add])
  rw [← h]
  congr 1
  grind only
theorem g_account : Good_account Inv := by
  intro k x m hk hI p1
  unfold OK_account D_X9_account D_X10_account
  obtain ⟨⟨⟨n, d, hR⟩, hF⟩, ⟨c, nx, c1, c2, c3, c4, c5, c6⟩, -, -, ⟨l, l1, l2, l3, l4⟩, -⟩ := id hI
  have h6 := hR.1
  rw [in_wi (show (13 : Int32).toInt = (12 : Int32).toInt + 1 by decide)]
  rcases wi_cases p1 (n := 13) (by decide) with ⟨e1, -⟩ | ⟨e1, q, hq, rfl⟩
  · rw [show D_X9_isWithin p1 13 = 0 from e1, if_pos rfl, if_pos rfl, it0]
    exact ⟨1, 0, 0, _, Or.inr rfl, rfl, rfl, th _ _, fun z => absurd z one_ne, rd hI 1⟩
  rw [show D_X9_isWithin (nI q) 13 = 1 from e1, if_neg one_ne, if_neg one_ne, it1]
  obtain ⟨v1, v2, v3, v4, v5, v6, v7⟩ := hR.2.2.2.2.1
  have mr : ∀ z, va_up m 0 (upd (m 0) 0 0) 1 z = m 1 z := fun z => rfl
  have fin : ∀ u v : Int32, u = v → ∃ (code r bb : Int32) (m' : Nat → Nat → Int32), (code = 0 ∨ code = 1) ∧ (some ((0 : Int32), u) : Option (Int32 × Int32)) = some (code, r) ∧ (some (v, va_up m 0 (upd (m 0) 0 0)) : Option (Int32 × (Nat → Nat → Int32))) = some (bb, m') ∧ D_X10_thrown m' = code ∧ (code = 0 → r = bb) ∧ Inv (k + 1) x m' := fun u v huv => ⟨0, _, _, _, Or.inl rfl, rfl, rfl, th _ _, fun _ => huv, rd hI 0⟩
  have tl : ∀ a : Nat, a < 13 → D_X4_tellAccount (x 0) (nI a) = D_X4_tellAccount (x 0) (nI a) := fun _ _ => rfl
  rcases (show q = 0 ∨ q = 1 ∨ q = 2 ∨ q = 3 ∨ q = 4 ∨ q = 5 ∨ q = 6 ∨ q = 7 ∨ q = 8 ∨ q = 9 ∨ q = 10 ∨ q = 11 ∨ q = 12 by omega) with rfl | rfl | rfl | rfl | rfl | rfl | rfl | rfl | rfl | rfl | rfl | rfl | rfl
  · exact fin _ _ (hR.2.2.1.trans hR.2.2.2.1.symm)
  · rw [if_neg (by decide), if_neg (by decide), if_neg (by decide), if_pos (by decide), oc_eq (m := va_up m 0 (upd (m 0) 0 0)) (cs := fun i => x 0 (i + 7)) hR.2.2.2.1 hR.1 hR.2.2.2.2.2.2.2.2.1]
    unfold D_X4_tellAccount
    rw [if_neg (by decide), if_pos (by decide), titled_eq hR.2.2.1 h6]
    exact fin _ _ (sumTo_cg (fun j hj => by simp only [show nI 1 = 1 by decide, show ¬ (1 : Int32) = 0 by decide, ↓reduceIte]))
  · rw [if_neg (by decide), if_neg (by decide), if_neg (by decide), if_neg (by decide), if_pos (by decide), oc_eq (m := va_up m 0 (upd (m 0) 0 0)) (cs := fun i => x 0 (i + 7)) hR.2.2.2.1 hR.1 hR.2.2.2.2.2.2.2.2.1]
    unfold D_X4_tellAccount
    rw [if_neg (by decide), if_neg (by decide), if_pos (by decide), pc_eq hR.2.2.1 h6]
    exact fin _ _ (sumTo_cg (fun j hj => by simp only [show ¬ nI 2 = 0 by decide, show ¬ nI 2 = 1 by decide, hPl, ↓reduceIte]))
  · obtain ⟨z, hz, a1, a2⟩ := owned_eq (o := x 0) (m := va_up m 0 (upd (m 0) 0 0)) hR.2.2.2.2.2.2.2.1
    rw [if_neg (by decide), if_neg (by decide), if_neg (by decide), if_neg (by decide), if_neg (by decide), if_pos (by decide), a2]
    unfold D_X4_tellAccount
    rw [if_neg (by decide), if_neg (by decide), if_neg (by decide), if_pos (by decide), a1]
    exact fin _ _ rfl
  · exact fin _ _ v1
  · exact fin _ _ v2
  · exact fin _ _ v3
  · exact fin _ _ v4
  · exact fin _ _ v5
  · exact fin _ _ v6
  · exact fin _ _ v7
  · exact fin _ _ (l2.trans l3.symm)
  · exact fin _ _ (c3.trans c4.symm)
theorem g_isBalanced : Good_isBalanced Inv := by
  intro k x m hk hI
  unfold OK_isBalanced D_X9_isBalanced D_X10_isBalanced
  obtain ⟨⟨⟨n, d, hR⟩, hF⟩, -⟩ := id hI
  have h6 := hR.1
  have hn := hR.2.2.1
  have h9 := hR.2.2.2.2.2.2.2.2.1
  have g11 := hR.2.2.2.2.2.2.2.2.2.2
  have a1 : D_X4_areCloudsAlike (x 0) = some 1 := by
    have st : ∀ (q i : Nat), i < 4 → L_X4_areCloudsAlike_2 (q + 1) (x 0) (nI i) = L_X4_areCloudsAlike_2 q (x 0) (nI (i + 1)) := fun q i hi => by
      simp only [L_X4_areCloudsAlike_2, show ¬ (4 : Int32) ≤ nI i from nI_ge hi (by decide), cc_eq hn h6, left_eq hn h6 (fun j hj => (h9 j hj).2) hi, Option.bind_some, ↓reduceIte, nI_succ]
    show L_X4_areCloudsAlike_2 (195 + 1 + 1 + 1 + 1 + 1) (x 0) (nI 0) = some 1
    rw [st _ 0 (by omega), st _ 1 (by omega), st _ 2 (by omega), st _ 3 (by omega)]
    simp only [L_X4_areCloudsAlike_2, show (4 : Int32) ≤ nI 4 by decide, ↓reduceIte]
  have a2 : D_X4_areWindsAlike (x 0) = some 1 := by
    have inner : ∀ (i : Nat) (kont : Int32 → Option Int32), i < n → L_X4_areWindsAlike_12 200 (x 0) (nI i) 0 kont = kont (nI 6) := fun i kont hi => by
      have st : ∀ (q b : Nat), b < 6 → L_X4_areWindsAlike_12 (q + 1) (x 0) (nI i) (nI b) kont = L_X4_areWindsAlike_12 q (x 0) (nI i) (nI (b + 1)) kont := fun q b hb => by
        have w := wbt_eq (h9 i hi).2.1 hb
        simp only [L_X4_areWindsAlike_12, show ¬ (6 : Int32) ≤ nI b from nI_ge hb (by decide), inb_nI (show i < 6 by omega) (show 6 < 2 ^ 31 by decide), nI_clamp (show i < 2 ^ 31 by omega), w.1, w.2, Option.bind_some, ↓reduceIte, nI_succ]
      show L_X4_areWindsAlike_12 (193 + 1 + 1 + 1 + 1 + 1 + 1 + 1) (x 0) (nI i) (nI 0) kont = _
      rw [st _ 0 (by omega), st _ 1 (by omega), st _ 2 (by omega), st _ 3 (by omega), st _ 4 (by omega), st _ 5 (by omega)]
      simp only [L_X4_areWindsAlike_12, show (6 : Int32) ≤ nI 6 by decide, ↓reduceIte]
    obtain ⟨s', e, -⟩ := loop_up (L := fun q i (s : Unit) => L_X4_areWindsAlike_2 q (x 0) i) n (fun _ _ => True) (fun q i s hi _ => ⟨(), by
      simp only [L_X4_areWindsAlike_2, hn, nI_ge hi (show n < 2 ^ 31 by omega), inner i _ hi, ↓reduceIte, nI_succ], trivial⟩) 200 () (by omega) trivial
    show L_X4_areWindsAlike_2 200 (x 0) (nI 0) = some 1
    refine Eq.trans e ?_
    obtain ⟨z, hz⟩ : ∃ z, 200 - n = z + 1 := ⟨199 - n, by omega⟩
    rw [hz]
    simp only [L_X4_areWindsAlike_2, hn, nI_le (Nat.le_refl n) (show n < 2 ^ 31 by omega), ↓reduceIte]
  have a3 : D_X4_coinsCounted (x 0) = some (D_X4_coinsByPayments (x 0)) := by
    rw [coi_eq, sum4z]
    unfold D_X4_coinsByPayments
    unfold RBa at g11
    rw [g11]
  rw [a1]
  simp only [Option.bind_some, if_neg one_ne, a3, a2, ↓reduceIte]
  exact ⟨1, 1, _, rfl, rfl, rfl, rd hI 0⟩
