/-! readings: clouds, owners, vineyards -/
theorem th (m : Nat → Nat → Int32) (v : Int32) : D_X10_thrown (va_up m 0 (upd (m 0) 0 v)) = v := by
  show upd (m 0) 0 v 0 = v
  rw [upd_self]
theorem rd {k : Nat} {x : Mem} {m : Nat → Nat → Int32} (h : Inv k x m) (v : Int32) : Inv (k + 1) x (va_up m 0 (upd (m 0) 0 v)) := (h.thr v).mono (Nat.le_succ k)
theorem two_ne : ¬ (2 : Int32) = 0 := by decide
theorem in_wi {x a b : Int32} (h : b.toInt = a.toInt + 1) : D_X10_in x 0 a = D_X9_isWithin x b := by
  rw [in_iff, wi_iff, toInt_0, h]
  by_cases h1 : 0 ≤ x.toInt ∧ x.toInt ≤ a.toInt
  · rw [if_pos h1, if_pos (by omega)]
  · rw [if_neg h1, if_neg (by omega)]
theorem nI_ne {a b : Nat} (ha : a < 2 ^ 31) (hb : b < 2 ^ 31) (h : a ≠ b) : ¬ nI a = nI b := fun e => h (nI_eqI ha hb e)
theorem nI_neZ {a : Nat} (ha : a < 2 ^ 31) (h : a ≠ 0) : ¬ nI a = 0 := nI_ne (b := 0) ha (by omega) h
theorem nI_neO {a : Nat} (ha : a < 2 ^ 31) (h : a ≠ 1) : ¬ nI a = 1 := nI_ne (b := 1) ha (by omega) h
theorem g_cloudOf : Good_cloudOf Inv := by
  intro k x m hk hI p1 p2
  unfold OK_cloudOf D_X9_cloudOf D_X10_cloudOf
  obtain ⟨⟨⟨n, d, hR⟩, hF⟩, -⟩ := id hI
  rw [mcloud hR]
  simp only [Option.bind_some]
  rcases hc_cases hR p1 with e1 | ⟨e1, i, hi, rfl⟩
  · rw [if_pos e1, if_pos e1]
    exact ⟨1, 0, 0, _, Or.inr (Or.inl rfl), rfl, rfl, th _ _, fun z => absurd z one_ne, rd hI 1⟩
  rw [e1, if_neg one_ne, if_neg one_ne, in_wi (show (7 : Int32).toInt = (6 : Int32).toInt + 1 by decide)]
  rcases wi_cases p2 (n := 7) (by decide) with ⟨e2, -⟩ | ⟨e2, q, hq, rfl⟩
  · rw [show D_X9_isWithin p2 7 = 0 from e2, if_pos rfl, if_pos rfl]
    exact ⟨2, 0, 0, _, Or.inr (Or.inr rfl), rfl, rfl, th _ _, fun z => absurd z two_ne, rd hI 2⟩
  have h6 := hR.1
  obtain ⟨hC, hB⟩ := hR.2.2.2.2.2.2.2.2.1 i hi
  rw [show D_X9_isWithin (nI q) 7 = 1 from e2, if_neg one_ne, if_neg one_ne, if_pos (inb_nI (show i < 6 by omega) (by decide)), nI_clamp (show i < 2 ^ 31 by omega)]
  have hC' : CR (x 0 (i + 7)) (mcl (va_up m 0 (upd (m 0) 0 0) 1) i) := hC
  have hi1 : i < 100 := by omega
  have done : ∀ v, D_X1_tell (x 0 (i + 7)) (nI q) = v → (∃ code r bb m', (code = 0 ∨ code = 1 ∨ code = 2) ∧ some (0, D_X1_tell (x 0 (i + 7)) (nI q)) = some (code, r) ∧ some (v, va_up m 0 (upd (m 0) 0 0)) = some (bb, m') ∧ D_X10_thrown m' = code ∧ (code = 0 → r = bb) ∧ Inv (k + 1) x m') := fun v hv => ⟨0, _, _, _, Or.inl rfl, rfl, rfl, th _ _, fun _ => hv, rd hI 0⟩
  rcases (show q = 0 ∨ q = 1 ∨ q = 2 ∨ q = 3 ∨ q = 4 ∨ q = 5 ∨ q = 6 by omega) with rfl | rfl | rfl | rfl | rfl | rfl | rfl
  · rw [if_neg (by decide), if_neg (by decide), if_neg (by decide), if_neg (by decide), show D_X10_c _ (nI i) (nI 0) = _ from c0A hC' hi1]
    exact done _ rfl
  · rw [if_neg (by decide), if_neg (by decide), if_neg (by decide), if_neg (by decide), show D_X10_c _ (nI i) (nI 1) = _ from c1A hC' hi1]
    exact done _ rfl
  · rw [if_neg (by decide), if_neg (by decide), if_neg (by decide), if_neg (by decide), show D_X10_c _ (nI i) (nI 2) = _ from c2A hC' hi1]
    exact done _ rfl
  · rw [if_pos (by decide), oA hC' hi1]
    exact done _ rfl
  · rw [if_neg (by decide), if_pos (by decide), oA hC' hi1]
    simp only [Option.bind_some, pos_m1 hB.2.2.2.1]
    by_cases h3 : x 0 (i + 7) 3 = -1
    · rw [if_neg (fun z => z h3)]
      exact done _ (hC.2.2.2.2.1 h3)
    · rw [if_pos h3, show D_X10_c _ (nI i) 4 = some (mcl (va_up m 0 (upd (m 0) 0 0) 1) i 4) from mc_eq _ (j := 4) (by omega)]
      exact done _ (hC'.2.2.2.2.2.1 h3)
  · rw [if_neg (by decide), if_neg (by decide), if_pos (by decide), lA hC' hi1]
    exact done _ rfl
  · rw [if_neg (by decide), if_neg (by decide), if_neg (by decide), if_pos (by decide), tR hC' hB hi1]
    exact done _ rfl
theorem g_clouds : Good_clouds Inv := by
  intro k x m hk hI p1
  unfold OK_clouds D_X9_clouds D_X10_clouds
  obtain ⟨⟨⟨n, d, hR⟩, hF⟩, -⟩ := id hI
  rcases dem_cases p1 with ⟨e1, e2⟩ | ⟨e1, e2, p, hp, rfl⟩
  · rw [if_neg e1, if_pos e2, e2, it0]
    exact ⟨1, 0, 0, _, Or.inr rfl, rfl, rfl, th _ _, fun z => absurd z one_ne, rd hI 1⟩
  rw [if_pos e1, e2, if_neg one_ne, it1, cc_eq hR.2.2.1 hR.1, oo_eq (m := va_up m 0 (upd (m 0) 0 0)) (cs := fun i => x 0 (i + 7)) hR.2.2.2.1 hR.1 hR.2.2.2.2.2.2.2.2.1]
  refine ⟨0, _, _, _, Or.inl rfl, rfl, rfl, th _ _, fun _ => rfl, rd hI 0⟩
/-- each cloud has one owner, or none -/
theorem five {v : Int32} (h : rng v (-1) 3) : (if v = -1 then (1 : Int32) else 0) + (if v = nI 0 then 1 else 0) + (if v = nI 1 then 1 else 0) + (if v = nI 2 then 1 else 0) + (if v = nI 3 then 1 else 0) = 1 := by
  rcases rng_m (b := 3) h (by decide) with rfl | ⟨q, hq, rfl⟩
  · decide
  · rcases (show q = 0 ∨ q = 1 ∨ q = 2 ∨ q = 3 by omega) with rfl | rfl | rfl | rfl <;> decide
theorem add10 (a b c d e x y z u v : Int32) : (a + x) + (b + y) + (c + z) + (d + u) + (e + v) = (a + b + c + d + e) + (x + y + z + u + v) := by grind only
theorem sumTo_five (f : Nat → Int32) : ∀ n : Nat, (∀ j, j < n → rng (f j) (-1) 3) → sumTo (fun j => if f j = -1 then 1 else 0) n + sumTo (fun j => if f j = nI 0 then 1 else 0) n + sumTo (fun j => if f j = nI 1 then 1 else 0) n + sumTo (fun j => if f j = nI 2 then 1 else 0) n + sumTo (fun j => if f j = nI 3 then 1 else 0) n = nI n
  | 0, _ => rfl
  | n + 1, h => by
    have ih := sumTo_five f n (fun j hj => h j (by omega))
    have h5 := five (h n (by omega))
    rw [sumTo_s, sumTo_s, sumTo_s, sumTo_s, sumTo_s, add10, ih, nI_succ n]
    exact congrArg (nI n + ·) h5
theorem left_eq {o : Nat → Nat → Int32} {n : Nat} (hn : o 0 1 = nI n) (h6 : n ≤ 6) (hB : ∀ i, i < n → CB (o (i + 7))) {p : Nat} (hp : p < 4) : D_X4_cloudsLeftOver o (nI p) = some (sumTo (fun j => if o (j + 7) 3 = nI p then 1 else 0) n) := by
  have h5 := sumTo_five (fun j => o (j + 7) 3) n (fun j hj => (hB j hj).2.2.2.1)
  unfold D_X4_cloudsLeftOver
  rw [cc_eq hn h6]
  simp only [Option.bind_some, hn]
  have cc : ∀ q : Nat, D_X4_cloudsCounted o (nI q) = some (sumTo (fun j => if o (j + 7) 3 = nI q then 1 else 0) n) := fun q => cc_eq hn h6 _
  have st : ∀ (q i : Nat) (r1 a : Int32), i < 4 → L_X4_cloudsLeftOver_13 (q + 1) o (nI p) r1 (nI i) a = if nI i = nI p then L_X4_cloudsLeftOver_13 q o (nI p) r1 (nI (i + 1)) a else L_X4_cloudsLeftOver_13 q o (nI p) r1 (nI (i + 1)) (a - sumTo (fun j => if o (j + 7) 3 = nI i then 1 else 0) n) := fun q i r1 a hi => by
    simp only [L_X4_cloudsLeftOver_13, show ¬ (4 : Int32) ≤ nI i from nI_ge hi (by decide), cc i, Option.bind_some, ↓reduceIte, nI_succ]
  have fin : ∀ (q : Nat) (r1 a : Int32), L_X4_cloudsLeftOver_13 (q + 1) o (nI p) r1 (nI 4) a = some a := fun q r1 a => by
    simp only [L_X4_cloudsLeftOver_13, show (4 : Int32) ≤ nI 4 by decide, ↓reduceIte]
  show L_X4_cloudsLeftOver_13 (196 + 1 + 1 + 1 + 1) o (nI p) _ (nI 0) _ = _
  rw [st _ 0 _ _ (by omega)]
  generalize sumTo (fun j => if o (j + 7) 3 = -1 then 1 else 0) n = a0 at h5 ⊢
  rcases (show p = 0 ∨ p = 1 ∨ p = 2 ∨ p = 3 by omega) with rfl | rfl | rfl | rfl
  · rw [if_pos rfl, st _ 1 _ _ (by omega), if_neg (by decide), st _ 2 _ _ (by omega), if_neg (by decide), st _ 3 _ _ (by omega), if_neg (by decide), fin 195]
    congr 1
    grind only
  · rw [if_neg (by decide), st _ 1 _ _ (by omega), if_pos rfl, st _ 2 _ _ (by omega), if_neg (by decide), st _ 3 _ _ (by omega), if_neg (by decide), fin 195]
    congr 1
    grind only
  · rw [if_neg (by decide), st _ 1 _ _ (by omega), if_neg (by decide), st _ 2 _ _ (by omega), if_pos rfl, st _ 3 _ _ (by omega), if_neg (by decide), fin 195]
    congr 1
    grind only
  · rw [if_neg (by decide), st _ 1 _ _ (by omega), if_neg (by decide), st _ 2 _ _ (by omega), if_neg (by decide), st _ 3 _ _ (by omega), if_pos rfl, fin 195]
    congr 1
    grind only
theorem g_cloudsAgain : Good_cloudsAgain Inv := by
  intro k x m hk hI p1
  unfold OK_cloudsAgain D_X9_cloudsAgain D_X10_cloudsAgain D_X10_clouds
  obtain ⟨⟨⟨n, d, hR⟩, hF⟩, -⟩ := id hI
  rcases dem_cases p1 with ⟨e1, e2⟩ | ⟨e1, e2, p, hp, rfl⟩
  · rw [if_neg e1, if_pos e2, e2, it0]
    exact ⟨1, 0, 0, _, Or.inr rfl, rfl, rfl, th _ _, fun z => absurd z one_ne, rd hI 1⟩
  rw [if_pos e1, e2, if_neg one_ne, it1, left_eq hR.2.2.1 hR.1 (fun i hi => (hR.2.2.2.2.2.2.2.2.1 i hi).2) hp, oo_eq (m := va_up m 0 (upd (m 0) 0 0)) (cs := fun i => x 0 (i + 7)) hR.2.2.2.1 hR.1 hR.2.2.2.2.2.2.2.2.1]
  refine ⟨0, _, _, _, Or.inl rfl, rfl, rfl, th _ _, fun _ => rfl, rd hI 0⟩
theorem g_ownerOf : Good_ownerOf Inv := by
  intro k x m hk hI p1 p2
  unfold OK_ownerOf D_X9_ownerOf D_X10_ownerOf
  obtain ⟨⟨⟨n, d, hR⟩, hF⟩, -⟩ := id hI
  rcases dem_cases p1 with ⟨e1, e2⟩ | ⟨e1, e2, p, hp, rfl⟩
  · rw [if_neg e1, if_pos e2]
    exact ⟨1, 0, 0, _, Or.inr (Or.inl rfl), rfl, rfl, th _ _, fun z => absurd z one_ne, rd hI 1⟩
  rw [if_pos e1, e2, if_neg one_ne, in_wi (show (5 : Int32).toInt = (4 : Int32).toInt + 1 by decide)]
  rcases wi_cases p2 (n := 5) (by decide) with ⟨e3, -⟩ | ⟨e3, q, hq, rfl⟩
  · rw [show D_X9_isWithin p2 5 = 0 from e3, if_pos rfl, if_pos rfl]
    exact ⟨2, 0, 0, _, Or.inr (Or.inr rfl), rfl, rfl, th _ _, fun z => absurd z two_ne, rd hI 2⟩
  rw [show D_X9_isWithin (nI q) 5 = 1 from e3, if_neg one_ne, if_neg one_ne]
  unfold D_X4_tellOfOwner
  have g7 := hR.2.2.2.2.2.2.1
  have g8 := hR.2.2.2.2.2.2.2.1
  have fin : ∀ (u v : Int32), u = v → (∃ code r bb m', (code = 0 ∨ code = 1 ∨ code = 2) ∧ ((some u : Option Int32).bind fun r11 => some ((0 : Int32), r11)) = some (code, r) ∧ ((some v : Option Int32).bind fun r => some (r, va_up m 0 (upd (m 0) 0 0))) = some (bb, m') ∧ D_X10_thrown m' = code ∧ (code = 0 → r = bb) ∧ Inv (k + 1) x m') := fun u v huv => ⟨0, _, _, _, Or.inl rfl, rfl, rfl, th _ _, fun _ => huv, rd hI 0⟩
  by_cases h0 : q = 0
  · subst h0
    rw [if_pos (by decide), if_pos (by decide), pu_eq _ hp, co_eq _ hp]
    exact fin _ _ (by rw [va_up_1of0]; exact g7 p hp)
  rw [if_neg (nI_neZ (by omega) h0), if_neg (nI_neZ (by omega) h0)]
  by_cases h1 : q = 1
  · subst h1
    rw [if_pos (by decide), if_pos (by decide), vb_eq, vo_eq]
    refine fin _ _ (sumTo_cg (fun j hj => ?_))
    rw [va_up_1of0, (g8 j hj).1]
    by_cases hh : x 0 2 j = nI p
    · rw [if_pos hh, if_pos (by rw [hh])]
    · rw [if_neg hh, if_neg (fun z => hh (add1_inj.mp z))]
  rw [if_neg (nI_neO (by omega) h1), if_neg (nI_neO (by omega) h1), to_eq hR.2.2.1 hR.1, oo_eq (m := va_up m 0 (upd (m 0) 0 0)) (cs := fun i => x 0 (i + 7)) hR.2.2.2.1 hR.1 hR.2.2.2.2.2.2.2.2.1]
  refine fin _ _ (sumTo_cg (fun j hj => ?_))
  rcases (show q = 2 ∨ q = 3 ∨ q = 4 by omega) with rfl | rfl | rfl
  · simp only [show nI 2 = 2 from rfl, ↓reduceIte, ite_self]
  · simp only [show nI 3 = 3 from rfl, show ¬ (3 : Int32) = 2 by decide, show ¬ (3 : Int32) = 4 by decide, show ¬ (3 : Int32) = 5 by decide, ↓reduceIte, hPl]
  · simp only [show nI 4 = 4 from rfl, show ¬ (4 : Int32) = 2 by decide, show ¬ (4 : Int32) = 3 by decide, ↓reduceIte]
theorem g_vineyardOf : Good_vineyardOf Inv := by
  intro k x m hk hI p1 p2
  unfold OK_vineyardOf D_X9_vineyardOf D_X10_vineyardOf
  obtain ⟨⟨⟨n, d, hR⟩, hF⟩, -⟩ := id hI
  rw [mvi]
  rcases vi_cases p1 with ⟨e1, -⟩ | ⟨e1, v, hv, rfl⟩
  · rw [if_pos e1, if_pos e1]
    exact ⟨1, 0, 0, _, Or.inr (Or.inl rfl), rfl, rfl, th _ _, fun z => absurd z one_ne, rd hI 1⟩
  rw [e1, if_neg one_ne, if_neg one_ne, in_wi (show (3 : Int32).toInt = (2 : Int32).toInt + 1 by decide)]
  rcases wi_cases p2 (n := 3) (by decide) with ⟨e3, -⟩ | ⟨e3, q, hq, rfl⟩
  · rw [show D_X9_isWithin p2 3 = 0 from e3, if_pos rfl, if_pos rfl]
    exact ⟨2, 0, 0, _, Or.inr (Or.inr rfl), rfl, rfl, th _ _, fun z => absurd z two_ne, rd hI 2⟩
  rw [show D_X9_isWithin (nI q) 3 = 1 from e3, if_neg one_ne, if_neg one_ne]
  unfold D_X4_tellOfVineyard
  have g8 := hR.2.2.2.2.2.2.2.1
  by_cases h0 : q = 0
  · subst h0
    rw [if_pos (show nI 0 = 0 from rfl), if_pos (show nI 0 = 0 from rfl), e1, if_neg one_ne, if_pos (inb_nI hv (by decide)), nI_clamp (by omega), if_pos (m13 hv).1, (m13 hv).2, (g8 v hv).1, add1_sub1]
    exact ⟨0, _, _, _, Or.inl rfl, rfl, rfl, th _ _, fun _ => rfl, rd hI 0⟩
  · rw [if_neg (nI_neZ (by omega) h0), if_neg (nI_neZ (by omega) h0), tv_eq hR.2.2.1 hR.1, vy_eq (cs := fun i => x 0 (i + 7)) hR.2.2.2.1 hR.1 hR.2.2.2.2.2.2.2.2.1]
    exact ⟨0, _, _, _, Or.inl rfl, rfl, rfl, th _ _, fun _ => rfl, rd hI 0⟩
