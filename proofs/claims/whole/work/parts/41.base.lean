/-! the reference's small readings, over a cloud that the class has -/
theorem rf0 (m : Nat → Nat → Int32) (a b : Int32) : (D_X10_refuses m 0 a b).2 = m := rfl
theorem rf1 (m : Nat → Nat → Int32) (a b : Int32) : (D_X10_refuses m 1 a b).2 = va_up m 0 (upd (upd (upd (m 0) 5 a) 6 b) 7 0) := rfl
theorem it0 (m : Nat → Nat → Int32) : (D_X10_isThere m 0).2 = va_up m 0 (upd (m 0) 0 1) := rfl
theorem it1 (m : Nat → Nat → Int32) : (D_X10_isThere m 1).2 = va_up m 0 (upd (m 0) 0 0) := rfl
theorem cl0 : (0 : Int32).toNatClampNeg = 0 := by decide
theorem cl1 : (1 : Int32).toNatClampNeg = 1 := by decide
theorem cl2 : (2 : Int32).toNatClampNeg = 2 := by decide
theorem cl3 : (3 : Int32).toNatClampNeg = 3 := by decide
theorem cl4 : (4 : Int32).toNatClampNeg = 4 := by decide
theorem cl5 : (5 : Int32).toNatClampNeg = 5 := by decide
theorem cl6 : (6 : Int32).toNatClampNeg = 6 := by decide
theorem cl8 : (8 : Int32).toNatClampNeg = 8 := by decide
theorem cl9 : (9 : Int32).toNatClampNeg = 9 := by decide
theorem cl10 : (10 : Int32).toNatClampNeg = 10 := by decide
theorem cl11 : (11 : Int32).toNatClampNeg = 11 := by decide
theorem cl12 : (12 : Int32).toNatClampNeg = 12 := by decide
theorem cl61 : (61 : Int32).toNatClampNeg = 61 := by decide
theorem ib {i n : Nat} (h : i < n) (hn : n < 2 ^ 31) : inb (nI i) n = true := inb_nI h hn
theorem ib0 : inb 0 1152 = true := by decide
theorem ib1 : inb 1 1152 = true := by decide
theorem ib2 : inb 2 1152 = true := by decide
theorem ib3 : inb 3 1152 = true := by decide
theorem ib4 : inb 4 1152 = true := by decide
theorem ib5 : inb 5 1152 = true := by decide
theorem ib6 : inb 6 1152 = true := by decide
theorem ib8 : inb 8 1152 = true := by decide
theorem ib61 : inb 61 1152 = true := by decide
theorem upd_self (f : Nat → Int32) (k : Nat) (v : Int32) : upd f k v k = v := by simp [upd]
theorem upd_ne (f : Nat → Int32) {k j : Nat} (v : Int32) (h : j ≠ k) : upd f k v j = f j := by simp [upd, h]
theorem mxc {k j : Nat} (h : 19 + 7 * k + j < 1152) : inb ((19 + (7 * nI k)) + nI j) 1152 = true ∧ ((19 + (7 * nI k)) + nI j).toNatClampNeg = 19 + 7 * k + j := by
  have e : ((19 : Int32) + (7 * nI k)) + nI j = nI (19 + 7 * k + j) := by
    rw [show (19 : Int32) = nI 19 from rfl, show (7 : Int32) = nI 7 from rfl, pk_mul, nI_add, nI_add]
  rw [e]
  exact ⟨inb_nI h (by decide), nI_clamp (by omega)⟩
theorem mc_eq (m : Nat → Nat → Int32) {k j : Nat} (h : 19 + 7 * k + j < 1152) : D_X10_c m (nI k) (nI j) = some (mcl (m 1) k j) := by
  unfold D_X10_c mcl
  rw [(mxc h).1, (mxc h).2]
  rfl
theorem ms_eq (m : Nat → Nat → Int32) {k j : Nat} (v : Int32) (h : 19 + 7 * k + j < 1152) : D_X10_set m (nI k) (nI j) v = some (va_up m 1 (upd (m 1) (19 + 7 * k + j) v)) := by
  unfold D_X10_set
  rw [(mxc h).1, (mxc h).2]
  rfl
theorem co_eq (m : Nat → Nat → Int32) {k : Nat} (h : k < 4) : D_X10_coinsAt m (nI k) = some (m 1 (9 + k)) := by
  unfold D_X10_coinsAt
  rw [show (9 : Int32) = nI 9 from rfl, nI_add, inb_nI (by omega) (by decide), nI_clamp (by omega)]
  rfl
theorem pa_eq (m : Nat → Nat → Int32) {k : Nat} (v : Int32) (h : k < 4) : D_X10_pays m (nI k) v = some (va_up m 1 (upd (m 1) (9 + k) (m 1 (9 + k) - v))) := by
  unfold D_X10_pays
  rw [show (9 : Int32) = nI 9 from rfl, nI_add, inb_nI (by omega) (by decide), nI_clamp (by omega)]
  rfl
theorem le_toInt {x y : Int32} : x ≤ y ↔ x.toInt ≤ y.toInt := Int32.le_iff_toInt_le
theorem lt_toInt {x y : Int32} : x < y ↔ x.toInt < y.toInt := Int32.lt_iff_toInt_lt
theorem toInt_m1 : (-1 : Int32).toInt = -1 := by decide
theorem toInt_0 : (0 : Int32).toInt = 0 := by decide
theorem neg_m1 {x : Int32} {b : Int} (h : rng x (-1) b) : x < 0 ↔ x = -1 := by
  rw [lt_toInt, toInt_0]
  constructor
  · intro h1
    refine of_toInt ?_
    rw [toInt_m1]
    have := h.1
    omega
  · rintro rfl
    decide
theorem pos_m1 {x : Int32} {b : Int} (h : rng x (-1) b) : 0 ≤ x ↔ ¬ x = -1 := by
  rw [← neg_m1 h, le_toInt, lt_toInt, toInt_0]
  omega
section CL
variable {m : Nat → Nat → Int32} {c : Nat → Int32} {k : Nat}
theorem oA (h : CR c (mcl (m 1) k)) (hk : k < 100) : D_X10_ownerAt m (nI k) = some (c 3) := by
  unfold D_X10_ownerAt
  rw [show D_X10_c m (nI k) 3 = some (mcl (m 1) k 3) from mc_eq m (j := 3) (by omega), h.2.2.2.1]
  show some (c 3 + 1 - 1) = _
  rw [add1_sub1]
theorem lA (h : CR c (mcl (m 1) k)) (hk : k < 100) : D_X10_lenderAt m (nI k) = some (c 5) := by
  unfold D_X10_lenderAt
  rw [show D_X10_c m (nI k) 5 = some (mcl (m 1) k 5) from mc_eq m (j := 5) (by omega), h.2.2.2.2.2.2.1]
  show some (c 5 + 1 - 1) = _
  rw [add1_sub1]
theorem c0A (h : CR c (mcl (m 1) k)) (hk : k < 100) : D_X10_c m (nI k) 0 = some (c 0) := by
  rw [show D_X10_c m (nI k) 0 = some (mcl (m 1) k 0) from mc_eq m (j := 0) (by omega), h.1]
theorem c1A (h : CR c (mcl (m 1) k)) (hk : k < 100) : D_X10_c m (nI k) 1 = some (c 1) := by
  rw [show D_X10_c m (nI k) 1 = some (mcl (m 1) k 1) from mc_eq m (j := 1) (by omega), h.2.1]
theorem c2A (h : CR c (mcl (m 1) k)) (hk : k < 100) : D_X10_c m (nI k) 2 = some (c 2) := by
  rw [show D_X10_c m (nI k) 2 = some (mcl (m 1) k 2) from mc_eq m (j := 2) (by omega), h.2.2.1]
theorem iO (h : CR c (mcl (m 1) k)) (hb : CB c) (hk : k < 100) : D_X10_isOther m (nI k) = some (D_X1_hasTitleForOtherShape c) := by
  unfold D_X10_isOther D_X1_hasTitleForOtherShape D_X1_hasTitle
  rw [oA h hk]
  show (if c 3 < 0 then _ else _) = _
  by_cases h3 : c 3 = -1
  · rw [if_pos ((neg_m1 hb.2.2.2.1).mpr h3), if_pos h3]
    rfl
  · rw [if_neg (fun z => h3 ((neg_m1 hb.2.2.2.1).mp z)), if_neg h3, c1A h hk, show D_X10_c m (nI k) 4 = some (mcl (m 1) k 4) from mc_eq m (j := 4) (by omega), ← h.2.2.2.2.2.1 h3]
    show (if c 4 = c 1 then _ else _) = _
    rw [if_neg (show ¬ (1 : Int32) = 0 by decide)]
    split <;> rfl
theorem tR (h : CR c (mcl (m 1) k)) (hb : CB c) (hk : k < 100) : D_X10_toRedeem m (nI k) = some (D_X1_redemption c) := by
  unfold D_X10_toRedeem D_X1_redemption D_X1_isPledged
  rw [lA h hk]
  show (if 0 ≤ c 5 then _ else _) = _
  by_cases h5 : c 5 = -1
  · rw [if_neg (fun z => (pos_m1 hb.2.2.2.2.1).mp z h5), if_pos h5]
    rfl
  · rw [if_pos ((pos_m1 hb.2.2.2.2.1).mpr h5), if_neg h5, if_neg (show ¬ (1 : Int32) = 0 by decide), show D_X10_c m (nI k) 6 = some (mcl (m 1) k 6) from mc_eq m (j := 6) (by omega), ← h.2.2.2.2.2.2.2 h5]
    rfl
end CL
theorem in_iff {x a b : Int32} : D_X10_in x a b = if a.toInt ≤ x.toInt ∧ x.toInt ≤ b.toInt then 1 else 0 := by
  unfold D_X10_in
  by_cases h1 : x < a
  · rw [if_pos h1, if_neg (by rw [lt_toInt] at h1; omega)]
  · rw [if_neg h1]
    by_cases h2 : b < x
    · rw [if_pos h2, if_neg (by rw [lt_toInt] at h2; omega)]
    · rw [if_neg h2, if_pos (by rw [lt_toInt] at h1 h2; omega)]
theorem wi_iff {x b : Int32} : D_X9_isWithin x b = if 0 ≤ x.toInt ∧ x.toInt < b.toInt then 1 else 0 := by
  unfold D_X9_isWithin
  by_cases h1 : x < 0
  · rw [if_pos h1, if_neg (by rw [lt_toInt, toInt_0] at h1; omega)]
  · rw [if_neg h1]
    by_cases h2 : b ≤ x
    · rw [if_pos h2, if_neg (by rw [le_toInt] at h2; omega)]
    · rw [if_neg h2, if_pos (by rw [lt_toInt, toInt_0] at h1; rw [le_toInt] at h2; omega)]
theorem ow_iff {x : Int32} : D_X9_isOwner x = if 0 ≤ x.toInt ∧ x.toInt < 4 then 1 else 0 := (show D_X9_isOwner x = D_X9_isWithin x 4 from rfl).trans wi_iff
theorem vi_iff {x : Int32} : D_X9_isVineyard x = if 0 ≤ x.toInt ∧ x.toInt < 6 then 1 else 0 := (show D_X9_isVineyard x = D_X9_isWithin x 6 from rfl).trans wi_iff
theorem mow {x : Int32} : D_X10_isOwner x = D_X9_isOwner x := by
  rw [ow_iff, show D_X10_isOwner x = D_X10_in x 0 3 from rfl, in_iff, toInt_0, show (3 : Int32).toInt = 3 by decide]
  by_cases h : 0 ≤ x.toInt ∧ x.toInt < 4
  · rw [if_pos h, if_pos (by omega)]
  · rw [if_neg h, if_neg (by omega)]
theorem mvi {x : Int32} : D_X10_isVine x = D_X9_isVineyard x := by
  rw [vi_iff, show D_X10_isVine x = D_X10_in x 0 5 from rfl, in_iff, toInt_0, show (5 : Int32).toInt = 5 by decide]
  by_cases h : 0 ≤ x.toInt ∧ x.toInt < 6
  · rw [if_pos h, if_pos (by omega)]
  · rw [if_neg h, if_neg (by omega)]
/-- a number within bounds, or not -/
theorem wi_cases (x : Int32) {n : Nat} (hn : n < 2 ^ 31) : (D_X9_isWithin x (nI n) = 0 ∧ ¬ (0 ≤ x.toInt ∧ x.toInt < n)) ∨ (D_X9_isWithin x (nI n) = 1 ∧ ∃ k, k < n ∧ x = nI k) := by
  rw [wi_iff, nI_toInt hn]
  by_cases h : 0 ≤ x.toInt ∧ x.toInt < n
  · refine Or.inr ⟨if_pos h, x.toInt.toNat, by omega, of_toInt ?_⟩
    rw [nI_toInt (by omega)]
    omega
  · exact Or.inl ⟨if_neg h, h⟩
theorem ow_cases (x : Int32) : (D_X9_isOwner x = 0 ∧ ¬ (0 ≤ x.toInt ∧ x.toInt < 4)) ∨ (D_X9_isOwner x = 1 ∧ ∃ k, k < 4 ∧ x = nI k) := wi_cases x (n := 4) (by decide)
theorem vi_cases (x : Int32) : (D_X9_isVineyard x = 0 ∧ ¬ (0 ≤ x.toInt ∧ x.toInt < 6)) ∨ (D_X9_isVineyard x = 1 ∧ ∃ k, k < 6 ∧ x = nI k) := wi_cases x (n := 6) (by decide)
/-- whether there is such a cloud -/
theorem mcloud {o : Nat → Nat → Int32} {m : Nat → Nat → Int32} {n d : Nat} (h : RO o (m 1) n d) (x : Int32) : D_X10_isCloud m x = some (D_X4_hasCloud o x) := by
  obtain ⟨h6, -, ho, hr, -⟩ := h
  unfold D_X10_isCloud D_X4_hasCloud
  rw [ib0, cl0, ho, hr, wi_iff, in_iff]
  have e1 : (nI n).toInt = n := nI_toInt (by omega)
  have e2 : (nI n - 1).toInt = (n : Int) - 1 := pk_sub_toInt (a := n) (b := 1) (by omega) (by omega)
  rw [e1, e2, toInt_0]
  show some _ = some _
  by_cases hx : 0 ≤ x.toInt ∧ x.toInt < n
  · rw [if_pos hx, if_pos (by omega)]
  · rw [if_neg hx, if_neg (by omega)]
