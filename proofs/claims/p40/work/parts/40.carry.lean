section
/-! the class's office against the reference's row: loops, clouds -/
theorem inb_nI {k n : Nat} (h : k < n) (hn : n < 2 ^ 31) : inb (nI k) n = true := inb_iff.mpr (by
  have e := nI_toInt (n := k) (by omega)
  omega)
/-- a loop that goes up from 0 to n -/
theorem loop_up {S R : Type} {L : Nat → Int32 → S → Option R} (n : Nat) (Rel : Nat → S → Prop) (step : ∀ (q k : Nat) (s : S), k < n → Rel k s → ∃ s', L (q + 1) (nI k) s = L q (nI (k + 1)) s' ∧ Rel (k + 1) s') :
    ∀ (q : Nat) (s : S), n ≤ q → Rel 0 s → ∃ s', L q (nI 0) s = L (q - n) (nI n) s' ∧ Rel n s' := by
  have h : ∀ (d k q : Nat) (s : S), d + k = n → d ≤ q → Rel k s → ∃ s', L q (nI k) s = L (q - d) (nI n) s' ∧ Rel n s' := by
    intro d
    induction d with
    | zero =>
      intro k q s hk hq hR
      have hk : k = n := by omega
      subst hk
      exact ⟨s, rfl, hR⟩
    | succ d ih =>
      intro k q s hk hq hR
      obtain ⟨q, rfl⟩ : ∃ z, q = z + 1 := ⟨q - 1, by omega⟩
      obtain ⟨s1, e1, h1⟩ := step q k s (by omega) hR
      obtain ⟨s2, e2, h2⟩ := ih (k + 1) q s1 (by omega) (by omega) h1
      exact ⟨s2, by rw [e1, e2, Nat.add_sub_add_right], h2⟩
  intro q s hq hR
  exact h n 0 q s (by omega) hq hR
/-- a loop that goes down from n to 0 -/
theorem loop_dn {S R : Type} {L : Nat → Int32 → S → Option R} (n : Nat) (ix : Nat → Int32) (Rel : Nat → S → Prop) (step : ∀ (q k : Nat) (s : S), k < n → Rel (k + 1) s → ∃ s', L (q + 1) (ix (k + 1)) s = L q (ix k) s' ∧ Rel k s') :
    ∀ (q : Nat) (s : S), n ≤ q → Rel n s → ∃ s', L q (ix n) s = L (q - n) (ix 0) s' ∧ Rel 0 s' := by
  have h : ∀ (k q : Nat) (s : S), k ≤ n → k ≤ q → Rel k s → ∃ s', L q (ix k) s = L (q - k) (ix 0) s' ∧ Rel 0 s' := by
    intro k
    induction k with
    | zero => intro q s _ _ hR; exact ⟨s, rfl, hR⟩
    | succ k ih =>
      intro q s hk hq hR
      obtain ⟨q, rfl⟩ : ∃ z, q = z + 1 := ⟨q - 1, by omega⟩
      obtain ⟨s1, e1, h1⟩ := step q k s (by omega) hR
      obtain ⟨s2, e2, h2⟩ := ih q s1 (by omega) (by omega) h1
      exact ⟨s2, by rw [e1, e2, Nat.add_sub_add_right], h2⟩
  intro q s hq hR
  exact h n q s (Nat.le_refl _) hq hR
def sumTo (f : Nat → Int32) : Nat → Int32
  | 0 => 0
  | n + 1 => sumTo f n + f n
theorem sumTo_cg {f g : Nat → Int32} : ∀ {n : Nat}, (∀ j, j < n → f j = g j) → sumTo f n = sumTo g n
  | 0, _ => rfl
  | n + 1, h => by
    show sumTo f n + f n = sumTo g n + g n
    rw [sumTo_cg (fun j hj => h j (by omega)), h n (by omega)]
/-- a loop that adds up -/
theorem loop_sum {L : Nat → Int32 → Int32 → Option Int32} (n : Nat) (f : Nat → Int32) (h1 : ∀ (q k : Nat) (a : Int32), k < n → L (q + 1) (nI k) a = L q (nI (k + 1)) (a + f k)) (h2 : ∀ (q : Nat) (a : Int32), L (q + 1) (nI n) a = some a) (q : Nat) (hq : n < q) : L q 0 0 = some (sumTo f n) := by
  obtain ⟨s', e, h⟩ := loop_up (L := L) n (fun k a => a = sumTo f k) (fun q k s hk hR => ⟨s + f k, h1 q k s hk, by rw [hR]; rfl⟩) q 0 (by omega) rfl
  have e0 : nI 0 = 0 := nI_0
  rw [← e0]
  have e' : L q (nI 0) (nI 0) = L q (nI 0) 0 := by rw [e0]
  rw [e', e, h]
  obtain ⟨z, hz⟩ : ∃ z, q - n = z + 1 := ⟨q - n - 1, by omega⟩
  rw [hz]
  exact h2 z _
/-! small numbers -/
def rng (x : Int32) (a b : Int) : Prop := a ≤ x.toInt ∧ x.toInt ≤ b
theorem of_toInt {x y : Int32} (h : x.toInt = y.toInt) : x = y := Int32.toInt_inj.mp h
theorem rng_nI {x : Int32} {b : Nat} (h : rng x 0 b) (hb : b < 2 ^ 31) : ∃ k : Nat, k ≤ b ∧ x = nI k := by
  refine ⟨x.toInt.toNat, by have := h.1; have := h.2; omega, of_toInt ?_⟩
  have h1 := h.1
  have h2 := h.2
  rw [nI_toInt (by omega)]
  omega
theorem rng_m {x : Int32} {b : Nat} (h : rng x (-1) b) (hb : b < 2 ^ 31) : x = -1 ∨ ∃ k : Nat, k ≤ b ∧ x = nI k := by
  by_cases h0 : x.toInt = -1
  · exact Or.inl (of_toInt h0)
  · exact Or.inr (rng_nI (b := b) ⟨by have := h.1; omega, h.2⟩ hb)
theorem m1_lt : (-1 : Int32) < 0 := by decide
theorem nI_m1 (n : Nat) : nI n + 1 - 1 = nI n := by rw [Int32.add_sub_cancel]
theorem add1_sub1 (x : Int32) : x + 1 - 1 = x := Int32.add_sub_cancel _ _
theorem add1_inj {x y : Int32} : x + 1 = y + 1 ↔ x = y := ⟨fun h => by rw [← add1_sub1 x, h, add1_sub1], fun h => by rw [h]⟩
theorem add1_zero {x : Int32} : x + 1 = 0 ↔ x = -1 := by
  constructor
  · intro h
    rw [← add1_sub1 x, h]
    rfl
  · rintro rfl
    rfl
/-! a cloud of the class (7 numbers) against one of the reference's -/
def CR (c d : Nat → Int32) : Prop := c 0 = d 0 ∧ c 1 = d 1 ∧ c 2 = d 2 ∧ d 3 = c 3 + 1 ∧ (c 3 = -1 → c 4 = -1) ∧ (¬ c 3 = -1 → c 4 = d 4) ∧ d 5 = c 5 + 1 ∧ (¬ c 5 = -1 → c 6 = d 6)
def CB (c : Nat → Int32) : Prop := rng (c 0) 0 5 ∧ rng (c 1) 0 5 ∧ rng (c 2) 1 9 ∧ rng (c 3) (-1) 3 ∧ rng (c 5) (-1) 3 ∧ (¬ c 5 = -1 → ¬ c 3 = -1 ∧ rng (c 6) 1 9)
/-- cloud i of a row -/
def mcl (r : Nat → Int32) (i j : Nat) : Int32 := r (19 + 7 * i + j)
/-- row k of the reference's numbers -/
def row (m : Nat → Nat → Int32) (k j : Nat) : Int32 := m 1 (96 * k + j)
def RSc (o : Nat → Nat → Int32) (r : Nat → Int32) : Prop := o 0 5 = r 1 ∧ o 0 6 = r 2 ∧ o 0 7 = r 3 ∧ o 0 8 = r 4 ∧ o 0 9 = r 5 ∧ o 0 10 = r 6 ∧ o 0 11 = r 7
def RPu (o : Nat → Nat → Int32) (r : Nat → Int32) : Prop := ∀ k, k < 4 → o 3 k = r (9 + k)
def RVi (o : Nat → Nat → Int32) (r : Nat → Int32) : Prop := ∀ k, k < 6 → r (13 + k) = o 2 k + 1 ∧ rng (o 2 k) (-1) 3
def RCl (o : Nat → Nat → Int32) (r : Nat → Int32) (n : Nat) : Prop := ∀ i, i < n → CR (o (i + 7)) (mcl r i) ∧ CB (o (i + 7))
def RRc (o : Nat → Nat → Int32) (r : Nat → Int32) (d : Nat) : Prop := ∀ e, e < d → ∃ q : Nat, q ≤ 6 ∧ o 6 e = nI q ∧ r (61 + 7 * e) = nI q ∧ ∀ i, i < q → r (62 + 7 * e + i) = o 5 (6 * e + i) + 1 ∧ rng (o 5 (6 * e + i)) (-1) 3
def RBa (o : Nat → Nat → Int32) : Prop := o 3 0 + o 3 1 + o 3 2 + o 3 3 = 80 + o 0 11 - o 0 10
end
section
/-! the reference's small readings, over a cloud that the class has -/
theorem cl0 : (0 : Int32).toNatClampNeg = 0 := by decide
theorem cl1 : (1 : Int32).toNatClampNeg = 1 := by decide
theorem cl2 : (2 : Int32).toNatClampNeg = 2 := by decide
theorem cl3 : (3 : Int32).toNatClampNeg = 3 := by decide
theorem cl4 : (4 : Int32).toNatClampNeg = 4 := by decide
theorem cl5 : (5 : Int32).toNatClampNeg = 5 := by decide
theorem cl6 : (6 : Int32).toNatClampNeg = 6 := by decide
theorem cl8 : (8 : Int32).toNatClampNeg = 8 := by decide
theorem cl9 : (9 : Int32).toNatClampNeg = 9 := by decide
theorem cl10 : (10 : Int32).toNatClampNeg = 10 := by decide
theorem cl11 : (11 : Int32).toNatClampNeg = 11 := by decide
theorem cl12 : (12 : Int32).toNatClampNeg = 12 := by decide
theorem cl61 : (61 : Int32).toNatClampNeg = 61 := by decide
theorem ib {i n : Nat} (h : i < n) (hn : n < 2 ^ 31) : inb (nI i) n = true := inb_nI h hn
theorem ib0 : inb 0 1152 = true := by decide
theorem ib1 : inb 1 1152 = true := by decide
theorem ib2 : inb 2 1152 = true := by decide
theorem ib3 : inb 3 1152 = true := by decide
theorem ib4 : inb 4 1152 = true := by decide
theorem ib5 : inb 5 1152 = true := by decide
theorem ib6 : inb 6 1152 = true := by decide
theorem ib8 : inb 8 1152 = true := by decide
theorem ib61 : inb 61 1152 = true := by decide
theorem upd_self (f : Nat → Int32) (k : Nat) (v : Int32) : upd f k v k = v := by simp [upd]
theorem upd_ne (f : Nat → Int32) {k j : Nat} (v : Int32) (h : j ≠ k) : upd f k v j = f j := by simp [upd, h]
theorem mxc {k j : Nat} (h : 19 + 7 * k + j < 1152) : inb ((19 + (7 * nI k)) + nI j) 1152 = true ∧ ((19 + (7 * nI k)) + nI j).toNatClampNeg = 19 + 7 * k + j := by
  have e : ((19 : Int32) + (7 * nI k)) + nI j = nI (19 + 7 * k + j) := by
    rw [show (19 : Int32) = nI 19 from rfl, show (7 : Int32) = nI 7 from rfl, pk_mul, nI_add, nI_add]
  rw [e]
  exact ⟨inb_nI h (by decide), nI_clamp (by omega)⟩
theorem le_toInt {x y : Int32} : x ≤ y ↔ x.toInt ≤ y.toInt := Int32.le_iff_toInt_le
theorem lt_toInt {x y : Int32} : x < y ↔ x.toInt < y.toInt := Int32.lt_iff_toInt_lt
theorem toInt_m1 : (-1 : Int32).toInt = -1 := by decide
theorem toInt_0 : (0 : Int32).toInt = 0 := by decide
theorem neg_m1 {x : Int32} {b : Int} (h : rng x (-1) b) : x < 0 ↔ x = -1 := by
  rw [lt_toInt, toInt_0]
  constructor
  · intro h1
    refine of_toInt ?_
    rw [toInt_m1]
    have := h.1
    omega
  · rintro rfl
    decide
theorem pos_m1 {x : Int32} {b : Int} (h : rng x (-1) b) : 0 ≤ x ↔ ¬ x = -1 := by
  rw [← neg_m1 h, le_toInt, lt_toInt, toInt_0]
  omega
section CL
variable {m : Nat → Nat → Int32} {c : Nat → Int32} {k : Nat}
end CL
theorem wi_iff {x b : Int32} : D_X9_isWithin x b = if 0 ≤ x.toInt ∧ x.toInt < b.toInt then 1 else 0 := by
  unfold D_X9_isWithin
  by_cases h1 : x < 0
  · rw [if_pos h1, if_neg (by rw [lt_toInt, toInt_0] at h1; omega)]
  · rw [if_neg h1]
    by_cases h2 : b ≤ x
    · rw [if_pos h2, if_neg (by rw [le_toInt] at h2; omega)]
    · rw [if_neg h2, if_pos (by rw [lt_toInt, toInt_0] at h1; rw [le_toInt] at h2; omega)]
theorem ow_iff {x : Int32} : D_X9_isOwner x = if 0 ≤ x.toInt ∧ x.toInt < 4 then 1 else 0 := (show D_X9_isOwner x = D_X9_isWithin x 4 from rfl).trans wi_iff
theorem vi_iff {x : Int32} : D_X9_isVineyard x = if 0 ≤ x.toInt ∧ x.toInt < 6 then 1 else 0 := (show D_X9_isVineyard x = D_X9_isWithin x 6 from rfl).trans wi_iff
/-- a number within bounds, or not -/
theorem wi_cases (x : Int32) {n : Nat} (hn : n < 2 ^ 31) : (D_X9_isWithin x (nI n) = 0 ∧ ¬ (0 ≤ x.toInt ∧ x.toInt < n)) ∨ (D_X9_isWithin x (nI n) = 1 ∧ ∃ k, k < n ∧ x = nI k) := by
  rw [wi_iff, nI_toInt hn]
  by_cases h : 0 ≤ x.toInt ∧ x.toInt < n
  · refine Or.inr ⟨if_pos h, x.toInt.toNat, by omega, of_toInt ?_⟩
    rw [nI_toInt (by omega)]
    omega
  · exact Or.inl ⟨if_neg h, h⟩
theorem ow_cases (x : Int32) : (D_X9_isOwner x = 0 ∧ ¬ (0 ≤ x.toInt ∧ x.toInt < 4)) ∨ (D_X9_isOwner x = 1 ∧ ∃ k, k < 4 ∧ x = nI k) := wi_cases x (n := 4) (by decide)
theorem vi_cases (x : Int32) : (D_X9_isVineyard x = 0 ∧ ¬ (0 ≤ x.toInt ∧ x.toInt < 6)) ∨ (D_X9_isVineyard x = 1 ∧ ∃ k, k < 6 ∧ x = nI k) := wi_cases x (n := 6) (by decide)
end
section
/-! the counting loops, told as sums -/
theorem loop_sumG {R : Type} {L : Nat → Int32 → Int32 → Option R} (fin : Int32 → Option R) (n : Nat) (f : Nat → Int32) (h1 : ∀ (q k : Nat) (a : Int32), k < n → L (q + 1) (nI k) a = L q (nI (k + 1)) (a + f k)) (h2 : ∀ (q : Nat) (a : Int32), L (q + 1) (nI n) a = fin a) (q : Nat) (hq : n < q) : L q 0 0 = fin (sumTo f n) := by
  obtain ⟨s', e, h⟩ := loop_up (L := L) n (fun k a => a = sumTo f k) (fun q k s hk hR => ⟨s + f k, h1 q k s hk, by rw [hR]; rfl⟩) q 0 (by omega) rfl
  have e' : L q 0 0 = L q (nI 0) 0 := by rw [nI_0]
  rw [e', e, h]
  obtain ⟨z, hz⟩ : ∃ z, q - n = z + 1 := ⟨q - n - 1, by omega⟩
  rw [hz]
  exact h2 z _
section CNT
variable {o : Nat → Nat → Int32} {n : Nat}
theorem cc_eq (hn : o 0 1 = nI n) (h6 : n ≤ 6) (p : Int32) : D_X4_cloudsCounted o p = some (sumTo (fun j => if o (j + 7) 3 = p then 1 else 0) n) := by
  refine loop_sumG (L := fun q i a => L_X4_cloudsCounted_4 q o p i a) some n _ (fun q k a hk => ?_) (fun q a => ?_) 200 (by omega)
  · simp only [L_X4_cloudsCounted_4, hn, nI_ge hk (show n < 2 ^ 31 by omega), inb_nI (show k < 6 by omega) (show 6 < 2 ^ 31 by decide), nI_clamp (show k < 2 ^ 31 by omega), ↓reduceIte, nI_succ]
    split <;> simp only [Int32.add_zero]
  · simp only [L_X4_cloudsCounted_4, hn, nI_le (Nat.le_refl n) (show n < 2 ^ 31 by omega), ↓reduceIte]
theorem sz_eq (hn : o 0 1 = nI n) (h6 : n ≤ 6) : D_X4_sizes o = some (sumTo (fun j => o (j + 7) 2) n) := by
  refine loop_sumG (L := fun q i a => L_X4_sizes_4 q o i a) some n _ (fun q k a hk => ?_) (fun q a => ?_) 200 (by omega)
  · simp only [L_X4_sizes_4, hn, nI_ge hk (show n < 2 ^ 31 by omega), inb_nI (show k < 6 by omega) (show 6 < 2 ^ 31 by decide), nI_clamp (show k < 2 ^ 31 by omega), ↓reduceIte, nI_succ]
  · simp only [L_X4_sizes_4, hn, nI_le (Nat.le_refl n) (show n < 2 ^ 31 by omega), ↓reduceIte]
theorem pc_eq (hn : o 0 1 = nI n) (h6 : n ≤ 6) : D_X4_pledgedClouds o = some (sumTo (fun j => if D_X1_isPledged (o (j + 7)) = 0 then 0 else 1) n) := by
  refine loop_sumG (L := fun q i a => L_X4_pledgedClouds_4 q o i a) some n _ (fun q k a hk => ?_) (fun q a => ?_) 200 (by omega)
  · simp only [L_X4_pledgedClouds_4, hn, nI_ge hk (show n < 2 ^ 31 by omega), inb_nI (show k < 6 by omega) (show 6 < 2 ^ 31 by decide), nI_clamp (show k < 2 ^ 31 by omega), ↓reduceIte, nI_succ]
    split <;> simp only [Int32.add_zero]
  · simp only [L_X4_pledgedClouds_4, hn, nI_le (Nat.le_refl n) (show n < 2 ^ 31 by omega), ↓reduceIte]
theorem tv_eq (hn : o 0 1 = nI n) (h6 : n ≤ 6) (p w : Int32) : L_X4_tellOfVineyard_27 200 o p w 0 0 = some (sumTo (fun j => if o (j + 7) 0 = p then (if w = 1 then 1 else o (j + 7) 2) else 0) n) := by
  refine loop_sumG (L := fun q i a => L_X4_tellOfVineyard_27 q o p w i a) some n _ (fun q k a hk => ?_) (fun q a => ?_) 200 (by omega)
  · simp only [L_X4_tellOfVineyard_27, hn, nI_ge hk (show n < 2 ^ 31 by omega), inb_nI (show k < 6 by omega) (show 6 < 2 ^ 31 by decide), nI_clamp (show k < 2 ^ 31 by omega), ↓reduceIte, nI_succ]
    by_cases hp : o (k + 7) 0 = p <;> by_cases hw : w = 1 <;> simp only [hp, hw, ↓reduceIte, Int32.add_zero]
  · simp only [L_X4_tellOfVineyard_27, hn, nI_le (Nat.le_refl n) (show n < 2 ^ 31 by omega), ↓reduceIte]
theorem to_eq (hn : o 0 1 = nI n) (h6 : n ≤ 6) (p w : Int32) : L_X4_tellOfOwner_26 200 o p w 0 0 = some (sumTo (fun j => if w = 2 then (if o (j + 7) 5 = p then 1 else 0) else if w = 3 then (if o (j + 7) 3 = p then (if D_X1_isPledged (o (j + 7)) = 0 then 0 else 1) else 0) else if w = 4 then (if o (j + 7) 3 = p then o (j + 7) 2 else 0) else 0) n) := by
  refine loop_sumG (L := fun q i a => L_X4_tellOfOwner_26 q o p w i a) some n _ (fun q k a hk => ?_) (fun q a => ?_) 200 (by omega)
  · simp only [L_X4_tellOfOwner_26, hn, nI_ge hk (show n < 2 ^ 31 by omega), inb_nI (show k < 6 by omega) (show 6 < 2 ^ 31 by decide), nI_clamp (show k < 2 ^ 31 by omega), ↓reduceIte, nI_succ]
    have h23 : ¬ (2 : Int32) = 3 := by decide
    have h24 : ¬ (2 : Int32) = 4 := by decide
    have h34 : ¬ (3 : Int32) = 4 := by decide
    by_cases h2 : w = 2
    · subst h2
      by_cases h5 : o (k + 7) 5 = p <;> simp only [h5, h23, h24, ↓reduceIte, Int32.add_zero]
    · by_cases h3 : w = 3
      · subst h3
        by_cases ho : o (k + 7) 3 = p <;> by_cases hp : D_X1_isPledged (o (k + 7)) = 0 <;> simp only [h2, ho, hp, h34, ↓reduceIte, Int32.add_zero]
      · by_cases h4 : w = 4
        · subst h4
          by_cases ho : o (k + 7) 3 = p <;> simp only [h2, h3, ho, ↓reduceIte, Int32.add_zero]
        · simp only [h2, h3, h4, ↓reduceIte, Int32.add_zero]
  · simp only [L_X4_tellOfOwner_26, hn, nI_le (Nat.le_refl n) (show n < 2 ^ 31 by omega), ↓reduceIte]
end CNT
theorem vb_eq (o : Nat → Nat → Int32) (p : Int32) : D_X4_vineyardsBelongingTo o p = some (sumTo (fun j => if o 2 j = p then 1 else 0) 6) := by
  refine loop_sumG (L := fun q i a => L_X4_vineyardsBelongingTo_4 q o p i a) some 6 _ (fun q k a hk => ?_) (fun q a => ?_) 200 (by omega)
  · simp only [L_X4_vineyardsBelongingTo_4, show ¬ (6 : Int32) ≤ nI k from nI_ge hk (by decide), inb_nI hk (show 6 < 2 ^ 31 by decide), nI_clamp (show k < 2 ^ 31 by omega), ↓reduceIte, nI_succ]
    split <;> simp only [Int32.add_zero]
  · simp only [L_X4_vineyardsBelongingTo_4, show (6 : Int32) ≤ nI 6 by decide, ↓reduceIte]
theorem coi_eq (o : Nat → Nat → Int32) : D_X4_coinsCounted o = some (sumTo (fun j => o 3 j) 4) := by
  refine loop_sumG (L := fun q i a => L_X4_coinsCounted_4 q o i a) some 4 _ (fun q k a hk => ?_) (fun q a => ?_) 200 (by omega)
  · simp only [L_X4_coinsCounted_4, show ¬ (4 : Int32) ≤ nI k from nI_ge hk (by decide), inb_nI hk (show 4 < 2 ^ 31 by decide), nI_clamp (show k < 2 ^ 31 by omega), ↓reduceIte, nI_succ]
  · simp only [L_X4_coinsCounted_4, show (4 : Int32) ≤ nI 4 by decide, ↓reduceIte]
theorem mvo {k : Nat} (hk : k < 6) : (13 : Int32) + nI k = nI (13 + k) := by
  rw [show (13 : Int32) = nI 13 from rfl, nI_add]
section CNM
variable {m : Nat → Nat → Int32} {n : Nat} {cs : Nat → Nat → Int32}
end CNM
end
section
/-! what stays of the relation when one thing changes -/
theorem CR.cg {c c' d d' : Nat → Int32} (h : CR c d) (h1 : ∀ j, j < 7 → c' j = c j) (h2 : ∀ j, j < 7 → d' j = d j) : CR c' d' := by
  unfold CR at *
  rw [h1 0 (by omega), h1 1 (by omega), h1 2 (by omega), h1 3 (by omega), h1 4 (by omega), h1 5 (by omega), h1 6 (by omega), h2 0 (by omega), h2 1 (by omega), h2 2 (by omega), h2 3 (by omega), h2 4 (by omega), h2 5 (by omega), h2 6 (by omega)]
  exact h
theorem CB.cg {c c' : Nat → Int32} (h : CB c) (h1 : ∀ j, j < 7 → c' j = c j) : CB c' := by
  unfold CB at *
  rw [h1 0 (by omega), h1 1 (by omega), h1 2 (by omega), h1 3 (by omega), h1 5 (by omega), h1 6 (by omega)]
  exact h
theorem vur (o : Nat → Nat → Int32) (i : Nat) (c : Nat → Int32) {r : Nat} (h : r < 7) : va_up o (i + 7) c r = o r := va_up_ne _ _ (by omega)
theorem vun (o : Nat → Nat → Int32) (k : Nat) (c : Nat → Int32) {r : Nat} (h : r ≠ k) : va_up o k c r = o r := va_up_ne _ _ h
section KEEP
variable {o p : Nat → Nat → Int32} {r s : Nat → Int32} {n d : Nat}
theorem RSc.cg (h : RSc o r) (h1 : ∀ j, 5 ≤ j → j ≤ 11 → p 0 j = o 0 j) (h2 : ∀ k, 1 ≤ k → k ≤ 7 → s k = r k) : RSc p s := by
  unfold RSc at *
  rw [h1 5 (by omega) (by omega), h1 6 (by omega) (by omega), h1 7 (by omega) (by omega), h1 8 (by omega) (by omega), h1 9 (by omega) (by omega), h1 10 (by omega) (by omega), h1 11 (by omega) (by omega), h2 1 (by omega) (by omega), h2 2 (by omega) (by omega), h2 3 (by omega) (by omega), h2 4 (by omega) (by omega), h2 5 (by omega) (by omega), h2 6 (by omega) (by omega), h2 7 (by omega) (by omega)]
  exact h
theorem RPu.cg (h : RPu o r) (h1 : ∀ k, k < 4 → p 3 k = o 3 k) (h2 : ∀ k, 9 ≤ k → k < 13 → s k = r k) : RPu p s := fun k hk => by rw [h1 k hk, h2 _ (by omega) (by omega)]; exact h k hk
theorem RVi.cg (h : RVi o r) (h1 : ∀ k, k < 6 → p 2 k = o 2 k) (h2 : ∀ k, 13 ≤ k → k < 19 → s k = r k) : RVi p s := fun k hk => by rw [h1 k hk, h2 _ (by omega) (by omega)]; exact h k hk
theorem RCl.cg (h : RCl o r n) (h6 : n ≤ 6) (h1 : ∀ i, i < n → ∀ j, j < 7 → p (i + 7) j = o (i + 7) j) (h2 : ∀ k, 19 ≤ k → k < 61 → s k = r k) : RCl p s n := fun i hi => ⟨(h i hi).1.cg (h1 i hi) (fun j hj => h2 _ (by omega) (by omega)), (h i hi).2.cg (h1 i hi)⟩
theorem RRc.cg (h : RRc o r d) (h5 : d ≤ 5) (h1 : ∀ k, k < 30 → p 5 k = o 5 k) (h2 : ∀ k, k < 5 → p 6 k = o 6 k) (h3 : ∀ k, 61 ≤ k → k < 96 → s k = r k) : RRc p s d := fun e he => by
  obtain ⟨q, q1, q2, q3, q4⟩ := h e he
  refine ⟨q, q1, by rw [h2 e (by omega)]; exact q2, by rw [h3 _ (by omega) (by omega)]; exact q3, fun i hi => ?_⟩
  rw [h1 _ (by omega), h3 _ (by omega) (by omega)]
  exact q4 i hi
theorem RBa.cg (h : RBa o) (h1 : ∀ k, k < 4 → p 3 k = o 3 k) (h2 : p 0 11 = o 0 11) (h3 : p 0 10 = o 0 10) : RBa p := by
  unfold RBa at *
  rw [h1 0 (by omega), h1 1 (by omega), h1 2 (by omega), h1 3 (by omega), h2, h3]
  exact h
/-- two offices that say the same -/
def EqO (p o : Nat → Nat → Int32) : Prop := p 0 1 = o 0 1 ∧ (∀ j, 5 ≤ j → j ≤ 11 → p 0 j = o 0 j) ∧ (∀ j, j < 6 → p 2 j = o 2 j) ∧ (∀ j, j < 4 → p 3 j = o 3 j) ∧ p 4 2 = o 4 2 ∧ (∀ j, j < 30 → p 5 j = o 5 j) ∧ (∀ j, j < 5 → p 6 j = o 6 j) ∧ ∀ i, i < 6 → ∀ j, j < 7 → p (i + 7) j = o (i + 7) j
theorem EqO.refl (o : Nat → Nat → Int32) : EqO o o := ⟨rfl, fun _ _ _ => rfl, fun _ _ => rfl, fun _ _ => rfl, rfl, fun _ _ => rfl, fun _ _ => rfl, fun _ _ _ _ => rfl⟩
theorem EqO.trans {o p q : Nat → Nat → Int32} (h1 : EqO o p) (h2 : EqO p q) : EqO o q :=
  ⟨h1.1.trans h2.1, fun j a b => (h1.2.1 j a b).trans (h2.2.1 j a b), fun j a => (h1.2.2.1 j a).trans (h2.2.2.1 j a), fun j a => (h1.2.2.2.1 j a).trans (h2.2.2.2.1 j a), h1.2.2.2.2.1.trans h2.2.2.2.2.1, fun j a => (h1.2.2.2.2.2.1 j a).trans (h2.2.2.2.2.2.1 j a), fun j a => (h1.2.2.2.2.2.2.1 j a).trans (h2.2.2.2.2.2.2.1 j a), fun i hi j a => (h1.2.2.2.2.2.2.2 i hi j a).trans (h2.2.2.2.2.2.2.2 i hi j a)⟩
/-- what a refusal writes is no part of the relation -/
theorem EqO.refuse (o : Nat → Nat → Int32) (a b : Int32) : EqO (va_up o 0 (upd (upd (o 0) 12 a) 13 b)) o := by
  refine ⟨?_, fun j h1 h2 => ?_, fun _ _ => rfl, fun _ _ => rfl, rfl, fun _ _ => rfl, fun _ _ => rfl, fun i hi j hj => ?_⟩
  · rw [va_up_self, upd_ne _ _ (by omega), upd_ne _ _ (by omega)]
  · rw [va_up_self, upd_ne _ _ (by omega), upd_ne _ _ (by omega)]
  · rw [vun _ _ _ (by omega)]
end KEEP
end
section
/-! copies: the class's of an office, the reference's of a row -/
theorem cp_ix {a k : Nat} : (96 * nI a) + nI k = nI (96 * a + k) := by
  rw [show (96 : Int32) = nI 96 from rfl, pk_mul, nI_add]
theorem cpy_in (f g : Nat → Int32) {n j : Nat} (h : j < n) : va_cpy f g 0 0 n j = f j := by
  unfold va_cpy
  simp [h]
theorem c1cp (u v : Nat → Int32) {j : Nat} (h : j < 7) : D_X1_copyFrom u v j = v j := by
  unfold D_X1_copyFrom
  rcases (show j = 0 ∨ j = 1 ∨ j = 2 ∨ j = 3 ∨ j = 4 ∨ j = 5 ∨ j = 6 by omega) with rfl | rfl | rfl | rfl | rfl | rfl | rfl <;> rfl
/-- the class's copy of an office -/
theorem ccp (o p : Nat → Nat → Int32) : ∃ o' : Nat → Nat → Int32, D_X4_copyFrom o p = some o' ∧ EqO o' p := by
  obtain ⟨s', e, h1⟩ := loop_up (L := fun q i s => L_X4_copyFrom_2 q o p i s) 6 (fun k s => ∀ i, i < k → ∀ j, j < 7 → s (i + 7) j = p (i + 7) j)
    (fun q k s hk hR => by
      refine ⟨va_up s (k + 7) (D_X1_copyFrom (s (k + 7)) (p (k + 7))), ?_, fun i hi j hj => ?_⟩
      · simp only [L_X4_copyFrom_2, show ¬ (6 : Int32) ≤ nI k from nI_ge hk (by decide), inb_nI hk (show 6 < 2 ^ 31 by decide), nI_clamp (show k < 2 ^ 31 by omega), ↓reduceIte, nI_succ]
      · by_cases hik : i = k
        · subst hik
          rw [va_up_self]
          exact c1cp _ _ hj
        · rw [vun _ _ _ (by omega)]
          exact hR i (by omega) j hj) 200 o (by decide) (fun i hi => absurd hi (Nat.not_lt_zero _))
  have e0 : D_X4_copyFrom o p = L_X4_copyFrom_2 200 o p (nI 0) o := rfl
  rw [e0.trans e]
  show ∃ o', L_X4_copyFrom_2 (193 + 1) o p (nI 6) s' = some o' ∧ _
  simp only [L_X4_copyFrom_2, show (6 : Int32) ≤ nI 6 by decide, ↓reduceIte]
  refine ⟨_, rfl, ?_⟩
  refine ⟨rfl, fun j h5 h11 => ?_, fun j hj => cpy_in _ _ hj, fun j hj => cpy_in _ _ hj, rfl, fun j hj => cpy_in _ _ hj, fun j hj => cpy_in _ _ hj, fun i hi j hj => ?_⟩
  · rcases (show j = 5 ∨ j = 6 ∨ j = 7 ∨ j = 8 ∨ j = 9 ∨ j = 10 ∨ j = 11 by omega) with rfl | rfl | rfl | rfl | rfl | rfl | rfl <;> rfl
  · show (va_up _ 0 _ : Nat → Nat → Int32) (i + 7) j = _
    rw [vun _ _ _ (by omega)]
    unfold D_X7_copyFrom
    rw [vun _ _ _ (by omega), vun _ _ _ (by omega), vun _ _ _ (by omega), vun _ _ _ (by omega), vun _ _ _ (by omega), vun _ _ _ (by omega)]
    exact h1 i hi j hj
end
section
/-! what the purses hold: never below nothing, together at most B -/
def PF (g : Nat → Int32) (B : Nat) : Prop := ∃ f : Nat → Nat, (∀ k, k < 4 → g k = nI (f k)) ∧ f 0 + f 1 + f 2 + f 3 ≤ B
theorem PF.mono {g : Nat → Int32} {B C : Nat} (h : PF g B) (hc : B ≤ C) : PF g C := by
  obtain ⟨f, h1, h2⟩ := h
  exact ⟨f, h1, by omega⟩
theorem PF.cg {g g' : Nat → Int32} {B : Nat} (h : PF g B) (he : ∀ k, k < 4 → g' k = g k) : PF g' B := by
  obtain ⟨f, h1, h2⟩ := h
  exact ⟨f, fun k hk => (he k hk).trans (h1 k hk), h2⟩
theorem PF.at {g : Nat → Int32} {B p : Nat} (h : PF g B) (hp : p < 4) : ∃ z, z ≤ B ∧ g p = nI z := by
  obtain ⟨f, h1, h2⟩ := h
  refine ⟨f p, ?_, h1 p hp⟩
  rcases (show p = 0 ∨ p = 1 ∨ p = 2 ∨ p = 3 by omega) with rfl | rfl | rfl | rfl <;> omega
theorem nI_sub {a c : Nat} (h : c ≤ a) : nI a - nI c = nI (a - c) := by
  have e : nI (a - c) + nI c = nI a := by rw [nI_add, Nat.sub_add_cancel h]
  grind
theorem PF.set {g : Nat → Int32} {B p v C : Nat} {f : Nat → Nat} (h1 : ∀ k, k < 4 → g k = nI (f k)) (h2 : f 0 + f 1 + f 2 + f 3 ≤ B) (hp : p < 4) (hC : B + v ≤ C + f p) : PF (upd g p (nI v)) C := by
  refine ⟨fun k => if k = p then v else f k, fun k hk => ?_, ?_⟩
  · show upd g p (nI v) k = nI (if k = p then v else f k)
    by_cases e : k = p
    · subst e; rw [upd_self, if_pos rfl]
    · rw [upd_ne _ _ e, if_neg e]; exact h1 k hk
  · rcases (show p = 0 ∨ p = 1 ∨ p = 2 ∨ p = 3 by omega) with rfl | rfl | rfl | rfl <;> simp <;> omega
theorem PF.sub {g : Nat → Int32} {B p c : Nat} (h : PF g B) (hB : B < 2 ^ 30) (hp : p < 4) (hc : c < 2 ^ 30) (hle : nI c ≤ g p) : c ≤ B ∧ PF (upd g p (g p - nI c)) (B - c) ∧ ∃ z, z ≤ B ∧ g p - nI c = nI z := by
  obtain ⟨z, hz, e⟩ := h.at hp
  obtain ⟨f, h1, h2⟩ := h
  have ez : f p ≤ B := by
    rcases (show p = 0 ∨ p = 1 ∨ p = 2 ∨ p = 3 by omega) with rfl | rfl | rfl | rfl <;> omega
  rw [h1 p hp, le_toInt, nI_toInt (by omega), nI_toInt (by omega)] at hle
  have hcf : c ≤ f p := by omega
  refine ⟨by omega, ?_, f p - c, by omega, by rw [h1 p hp, nI_sub hcf]⟩
  rw [h1 p hp, nI_sub hcf]
  exact PF.set h1 h2 hp (by omega)
theorem PF.add {g : Nat → Int32} {B p : Nat} (c : Nat) (h : PF g B) (hp : p < 4) : PF (upd g p (g p + nI c)) (B + c) := by
  obtain ⟨f, h1, h2⟩ := h
  rw [h1 p hp, nI_add]
  exact PF.set h1 h2 hp (by omega)
/-! a change of the class's office against the reference's: refused alike, or done alike -/
theorem one_ne : ¬ (1 : Int32) = 0 := by decide
theorem nI_eqI {a b : Nat} (ha : a < 2 ^ 31) (hb : b < 2 ^ 31) (h : nI a = nI b) : a = b := (nI_eq ha hb).mp h
theorem nn1 {n : Nat} (h : n < 2 ^ 31) : ¬ nI n = -1 := by
  intro e
  have e2 := nI_toInt h
  rw [e, toInt_m1] at e2
  omega
theorem co3 (u : Nat → Int32) (a b c : Int32) : D_X1_comeOver u a b c 3 = -1 := rfl
theorem co5 (u : Nat → Int32) (a b c : Int32) : D_X1_comeOver u a b c 5 = -1 := rfl
theorem rng_m1 {b : Int} (h : -1 ≤ b) : rng (-1) (-1) b := ⟨by rw [toInt_m1]; omega, by rw [toInt_m1]; exact h⟩
end
section
/-! helpers for the changes -/
theorem va_up_up (m : Nat → Nat → Int32) (k : Nat) (f g : Nat → Int32) : va_up (va_up m k f) k g = va_up m k g := by
  funext r
  by_cases h : r = k
  · subst h; rw [va_up_self, va_up_self]
  · rw [vun _ _ _ h, vun _ _ _ h, vun _ _ _ h]
theorem va_up_01 (m : Nat → Nat → Int32) (f g : Nat → Int32) : va_up (va_up m 0 f) 1 g = va_up (va_up m 1 g) 0 f := by
  funext r
  by_cases h0 : r = 0
  · subst h0; rw [va_up_self, vun _ _ _ (by omega), va_up_self]
  · rw [vun (va_up m 1 g) 0 f h0]
    by_cases h1 : r = 1
    · subst h1; rw [va_up_self, va_up_self]
    · rw [vun _ _ _ h1, vun _ _ _ h0, vun _ _ _ h1]
theorem va_up_1of0 (m : Nat → Nat → Int32) (f : Nat → Int32) : va_up m 0 f 1 = m 1 := vun _ _ _ (by omega)
theorem va_up_0of1 (m : Nat → Nat → Int32) (f : Nat → Int32) : va_up m 1 f 0 = m 0 := vun _ _ _ (by omega)
theorem upd_upd (f : Nat → Int32) (k : Nat) (a b : Int32) : upd (upd f k a) k b = upd f k b := by
  funext j
  by_cases h : j = k
  · subst h; rw [upd_self, upd_self]
  · rw [upd_ne _ _ h, upd_ne _ _ h, upd_ne _ _ h]
theorem sumTo_two {f g : Nat → Int32} : ∀ {n : Nat}, (∀ j, j < n → f j + g j = 1) → sumTo f n + sumTo g n = nI n
  | 0, _ => rfl
  | n + 1, h => by
    show (sumTo f n + f n) + (sumTo g n + g n) = nI (n + 1)
    have h1 := sumTo_two (f := f) (g := g) (n := n) (fun j hj => h j (by omega))
    have h2 := h n (by omega)
    rw [nI_succ, ← h1, ← h2]
    grind
theorem sumTo_cnt {f : Nat → Int32} : ∀ {n : Nat}, (∀ j, j < n → f j = 0 ∨ f j = 1) → ∃ k, k ≤ n ∧ sumTo f n = nI k
  | 0, _ => ⟨0, Nat.le_refl 0, rfl⟩
  | n + 1, h => by
    obtain ⟨k, hk, e⟩ := sumTo_cnt (f := f) (n := n) (fun j hj => h j (by omega))
    rcases h n (by omega) with h0 | h1
    · exact ⟨k, by omega, by show sumTo f n + f n = _; rw [e, h0, Int32.add_zero]⟩
    · exact ⟨k + 1, by omega, by show sumTo f n + f n = _; rw [e, h1, nI_succ]⟩
theorem m1_cases {x : Int32} (h : rng x (-1) 3) : x + 1 ≤ 0 ↔ x = -1 := by
  rcases rng_m (b := 3) h (by decide) with rfl | ⟨k, hk, rfl⟩
  · exact ⟨fun _ => rfl, fun _ => by decide⟩
  · rw [← nI_succ]
    refine ⟨fun hh => ?_, fun hh => absurd hh (nn1 (by omega))⟩
    rw [le_toInt, toInt_0, nI_toInt (by omega)] at hh
    omega
section PART
variable {o o' : Nat → Nat → Int32} {r s : Nat → Int32} {n d : Nat}
theorem RCl.one (h : RCl o r n) {i : Nat} (h1 : ∀ j, j < n → j ≠ i → o' (j + 7) = o (j + 7)) (hs : ∀ j, j < n → j ≠ i → ∀ k, k < 7 → mcl s j k = mcl r j k) (hC : CR (o' (i + 7)) (mcl s i)) (hB : CB (o' (i + 7))) : RCl o' s n := fun j hj => by
  by_cases e : j = i
  · subst e; exact ⟨hC, hB⟩
  · exact ⟨(h j hj).1.cg (fun k _ => by rw [h1 j hj e]) (fun k hk => hs j hj e k hk), (h j hj).2.cg (fun k _ => by rw [h1 j hj e])⟩
end PART
/-- the sum of four purses when one changes -/
theorem sum4 (f : Nat → Int32) {p : Nat} (hp : p < 4) (v : Int32) : upd f p v 0 + upd f p v 1 + upd f p v 2 + upd f p v 3 = f 0 + f 1 + f 2 + f 3 - f p + v := by
  rcases (show p = 0 ∨ p = 1 ∨ p = 2 ∨ p = 3 by omega) with rfl | rfl | rfl | rfl <;> simp only [upd_self, upd_ne _ _ (show 0 ≠ 1 by omega), upd_ne _ _ (show 0 ≠ 2 by omega), upd_ne _ _ (show 0 ≠ 3 by omega), upd_ne _ _ (show 1 ≠ 0 by omega), upd_ne _ _ (show 1 ≠ 2 by omega), upd_ne _ _ (show 1 ≠ 3 by omega), upd_ne _ _ (show 2 ≠ 0 by omega), upd_ne _ _ (show 2 ≠ 1 by omega), upd_ne _ _ (show 2 ≠ 3 by omega), upd_ne _ _ (show 3 ≠ 0 by omega), upd_ne _ _ (show 3 ≠ 1 by omega), upd_ne _ _ (show 3 ≠ 2 by omega)] <;> grind
end
section
/-! vineyards, titles, sales, pledges -/
theorem rng_ow {k : Nat} (h : k < 4) : rng (nI k) (-1) 3 := by
  have := nI_toInt (n := k) (by omega)
  exact ⟨by omega, by omega⟩
end
section
theorem vu2 (o : Nat → Nat → Int32) (r : Nat) (f : Nat → Int32) (s j : Nat) : va_up o r f s j = if s = r then f j else o s j := by
  by_cases h : s = r
  · subst h; rw [va_up_self, if_pos rfl]
  · rw [vun _ _ _ h, if_neg h]
theorem up2 (f : Nat → Int32) (k : Nat) (v : Int32) (j : Nat) : upd f k v j = if j = k then v else f j := by
  by_cases h : j = k
  · subst h; rw [upd_self, if_pos rfl]
  · rw [upd_ne _ _ h, if_neg h]
theorem hT (c : Nat → Int32) : D_X1_hasTitle c = 0 ↔ c 3 = -1 := by
  unfold D_X1_hasTitle
  by_cases h : c 3 = -1
  · rw [if_pos h]; exact ⟨fun _ => h, fun _ => rfl⟩
  · rw [if_neg h]; exact ⟨fun z => absurd z one_ne, fun z => absurd z h⟩
theorem hPl (c : Nat → Int32) : D_X1_isPledged c = 0 ↔ c 5 = -1 := by
  unfold D_X1_isPledged
  by_cases h : c 5 = -1
  · rw [if_pos h]; exact ⟨fun _ => h, fun _ => rfl⟩
  · rw [if_neg h]; exact ⟨fun z => absurd z one_ne, fun z => absurd z h⟩
theorem en0 (c : Nat → Int32) (q : Int32) : D_X1_entitle c q 0 = c 0 := rfl
theorem en1 (c : Nat → Int32) (q : Int32) : D_X1_entitle c q 1 = c 1 := rfl
theorem en2 (c : Nat → Int32) (q : Int32) : D_X1_entitle c q 2 = c 2 := rfl
theorem en3 (c : Nat → Int32) (q : Int32) : D_X1_entitle c q 3 = q := rfl
theorem en4 (c : Nat → Int32) (q : Int32) : D_X1_entitle c q 4 = c 1 := rfl
theorem en5 (c : Nat → Int32) (q : Int32) : D_X1_entitle c q 5 = -1 := rfl
theorem en6 (c : Nat → Int32) (q : Int32) : D_X1_entitle c q 6 = 0 := rfl
theorem entB {c : Nat → Int32} (hB : CB c) {q : Int32} (hq : rng q (-1) 3) : CB (D_X1_entitle c q) :=
  ⟨hB.1, hB.2.1, hB.2.2.1, hq, rng_m1 (by decide), fun z => absurd rfl z⟩
/-- a cloud that is entitled, both ways; d5: what the reference has of its lender -/
theorem entC {c e e' : Nat → Int32} (hC : CR c e) {q : Int32} (hq : ¬ q = -1) (h0 : e' 0 = e 0) (h1 : e' 1 = e 1) (h2 : e' 2 = e 2) (h3 : e' 3 = q + 1) (h4 : e' 4 = e 1) (h5 : e' 5 = 0) : CR (D_X1_entitle c q) e' := by
  refine ⟨?_, ?_, ?_, ?_, fun z => absurd z hq, fun _ => ?_, ?_, fun z => absurd rfl z⟩
  · rw [en0, h0]; exact hC.1
  · rw [en1, h1]; exact hC.2.1
  · rw [en2, h2]; exact hC.2.2.1
  · rw [en3, h3]
  · rw [en4, h4]; exact hC.2.1
  · rw [en5, h5]; rfl
theorem ib7 : inb 7 1152 = true := by decide
theorem cl7 : (7 : Int32).toNatClampNeg = 7 := by decide
end
section
/-! sales, pledges, redemptions -/
theorem ow1 {p : Nat} (hp : p < 4) : D_X9_isOwner (nI p) = 1 := by
  rw [ow_iff, nI_toInt (by omega), if_pos (by omega)]
theorem pu_eq (o : Nat → Nat → Int32) {p : Nat} (hp : p < 4) : D_X4_purseOf o (nI p) = some (o 3 p) := by
  unfold D_X4_purseOf
  rw [ow1 hp, if_neg one_ne, if_pos (inb_nI hp (by decide)), nI_clamp (by omega)]
theorem pay_eq (o : Nat → Nat → Int32) {p q : Nat} (hp : p < 4) (hq : q < 4) (x : Int32) : D_X4_pay o (nI p) (nI q) x = some (va_up o 3 (upd (upd (o 3) p (o 3 p - x)) q (upd (o 3) p (o 3 p - x) q + x))) := by
  unfold D_X4_pay
  rw [ow1 hp, ow1 hq, if_neg one_ne, if_neg one_ne]
  simp only [inb_nI hp (show 4 < 2 ^ 31 by decide), inb_nI hq (show 4 < 2 ^ 31 by decide), nI_clamp (show p < 2 ^ 31 by omega), nI_clamp (show q < 2 ^ 31 by omega), ↓reduceIte]
theorem CB.own {c : Nat → Int32} (h : CB c) (h3 : ¬ c 3 = -1) : ∃ q, q < 4 ∧ c 3 = nI q := by
  rcases rng_m (b := 3) h.2.2.2.1 (by decide) with e | ⟨q, hq, e⟩
  · exact absurd e h3
  · exact ⟨q, by omega, e⟩
theorem CB.len {c : Nat → Int32} (h : CB c) (h3 : ¬ c 5 = -1) : ∃ q, q < 4 ∧ c 5 = nI q := by
  rcases rng_m (b := 3) h.2.2.2.2.1 (by decide) with e | ⟨q, hq, e⟩
  · exact absurd e h3
  · exact ⟨q, by omega, e⟩
theorem toI99 {x : Int32} (h0 : ¬ x < 0) (h1 : x ≤ 99) : ∃ c, c ≤ 99 ∧ x = nI c := by
  rw [lt_toInt, toInt_0] at h0
  rw [le_toInt, show (99 : Int32).toInt = 99 by decide] at h1
  exact rng_nI (b := 99) ⟨by omega, by omega⟩ (by decide)
end
section
/-! pledges and redemptions -/
theorem two_nI (c : Nat) : (2 : Int32) * nI c = nI (2 * c) := by rw [show (2 : Int32) = nI 2 from rfl, pk_mul]
theorem CB.size {c : Nat → Int32} (h : CB c) : ∃ q, 1 ≤ q ∧ q ≤ 9 ∧ c 2 = nI q := by
  obtain ⟨q, hq, e⟩ := rng_nI (b := 9) ⟨by have := h.2.2.1.1; omega, h.2.2.1.2⟩ (by decide)
  refine ⟨q, ?_, hq, e⟩
  have h1 := h.2.2.1.1
  rw [e, nI_toInt (by omega)] at h1
  omega
theorem CB.psize {c : Nat → Int32} (h : CB c) (h5 : ¬ c 5 = -1) : ∃ q, 1 ≤ q ∧ q ≤ 9 ∧ c 6 = nI q := by
  have h6 := (h.2.2.2.2.2 h5).2
  obtain ⟨q, hq, e⟩ := rng_nI (b := 9) ⟨by have := h6.1; omega, h6.2⟩ (by decide)
  refine ⟨q, ?_, hq, e⟩
  have h1 := h6.1
  rw [e, nI_toInt (by omega)] at h1
  omega
theorem mcl56 {r : Nat → Int32} {p q k j : Nat} {a b u v : Int32} (hp : p < 4) (hq : q < 4) (hj : j < 7) : mcl (upd (upd (upd (upd r (9 + p) a) (9 + q) b) (19 + 7 * k + 5) u) (19 + 7 * k + 6) v) k j = upd (upd (mcl r k) 5 u) 6 v j := by
  grind only [up2, mcl]
theorem CR56 {c e : Nat → Int32} (h : CR c e) {x y u v : Int32} (h5 : u = x + 1) (h6 : ¬ x = -1 → y = v) : CR (upd (upd c 5 x) 6 y) (upd (upd e 5 u) 6 v) :=
  ⟨h.1, h.2.1, h.2.2.1, h.2.2.2.1, h.2.2.2.2.1, h.2.2.2.2.2.1, h5, h6⟩
end
section
/-! winds -/
def dv (x w : Int32) : Int32 := ((x + w) + 6) - ((x + w) + 6) / 6 * 6
def ds (x w : Int32) : Int32 := if 0 ≤ w then ((x + w) - (x + w) / 6 * 6) else ((x + (-w)) - (x + (-w)) / 6 * 6)
def drf (c : Nat → Int32) (w : Int32) : Nat → Int32 := upd (upd c 0 (dv (c 0) w)) 1 (ds (c 1) w)
theorem fin_w : ∀ (a : Fin 6) (b : Fin 7), D_J9_floorMod_7cf53 (nI a.val + (nI b.val - 3)) 6 = some (dv (nI a.val) (nI b.val - 3)) ∧ (0 ≤ (dv (nI a.val) (nI b.val - 3)).toInt ∧ (dv (nI a.val) (nI b.val - 3)).toInt ≤ 5) ∧
    D_J9_floorMod_7cf53 (nI a.val + (if 0 ≤ (nI b.val - 3) then (nI b.val - 3) else 0 - (nI b.val - 3))) 6 = some (ds (nI a.val) (nI b.val - 3)) ∧ (0 ≤ (ds (nI a.val) (nI b.val - 3)).toInt ∧ (ds (nI a.val) (nI b.val - 3)).toInt ≤ 5) := by decide +kernel
theorem fin_0 : ∀ (a : Fin 6), dv (nI a.val) 0 = nI a.val ∧ ds (nI a.val) 0 = nI a.val := by decide +kernel
theorem rng_w {w : Int32} (h : rng w (-3) 3) : ∃ b : Nat, b < 7 ∧ w = nI b - 3 := by
  refine ⟨(w.toInt + 3).toNat, by have := h.1; have := h.2; omega, of_toInt ?_⟩
  have h1 := h.1
  have h2 := h.2
  rw [show (nI (w.toInt + 3).toNat - 3).toInt = ((w.toInt + 3).toNat : Int) - 3 from pk_sub_toInt (a := (w.toInt + 3).toNat) (b := 3) (by omega) (by omega)]
  omega
theorem dv_ok {x w : Int32} (hx : rng x 0 5) (hw : rng w (-3) 3) : D_J9_floorMod_7cf53 (x + w) 6 = some (dv x w) ∧ rng (dv x w) 0 5 ∧ D_J9_floorMod_7cf53 (x + (if 0 ≤ w then w else 0 - w)) 6 = some (ds x w) ∧ rng (ds x w) 0 5 := by
  obtain ⟨a, ha, rfl⟩ := rng_nI (b := 5) hx (by decide)
  obtain ⟨b, hb, rfl⟩ := rng_w hw
  exact fin_w ⟨a, by omega⟩ ⟨b, hb⟩
theorem dv_0 {x : Int32} (hx : rng x 0 5) : dv x 0 = x ∧ ds x 0 = x := by
  obtain ⟨a, ha, rfl⟩ := rng_nI (b := 5) hx (by decide)
  exact fin_0 ⟨a, by omega⟩
theorem dr_eq {c : Nat → Int32} {w : Int32} (h0 : rng (c 0) 0 5) (h1 : rng (c 1) 0 5) (hw : rng w (-3) 3) : D_X1_drift c w = some (drf c w) := by
  unfold D_X1_drift D_X1_vineyardAfter
  rw [(dv_ok h0 hw).1, (dv_ok h1 hw).2.2.1]
  rfl
theorem drC {c e : Nat → Int32} (h : CR c e) (w : Int32) : CR (drf c w) (drf e w) := by
  refine ⟨?_, ?_, h.2.2.1, h.2.2.2.1, h.2.2.2.2.1, h.2.2.2.2.2.1, h.2.2.2.2.2.2.1, h.2.2.2.2.2.2.2⟩
  · show dv (c 0) w = dv (e 0) w
    rw [h.1]
  · show ds (c 1) w = ds (e 1) w
    rw [h.2.1]
theorem drB {c : Nat → Int32} (h : CB c) {w : Int32} (hw : rng w (-3) 3) : CB (drf c w) := ⟨(dv_ok h.1 hw).2.1, (dv_ok h.2.1 hw).2.2.2, h.2.2⟩
/-- the class's clouds drift -/
theorem blow_eq {o : Nat → Nat → Int32} {n : Nat} (hn : o 0 1 = nI n) (h6 : n ≤ 6) {w : Int32} (hw : rng w (-3) 3) (hb : ∀ i, i < n → CB (o (i + 7))) :
    ∃ o' : Nat → Nat → Int32, L_X4_blow_26 200 o w 0 0 o = some (sumTo (fun j => if D_X1_hasTitleForOtherShape (drf (o (j + 7)) w) = 0 then 0 else 1) n, o') ∧ (∀ r, r < 7 → o' r = o r) ∧ ∀ i, i < n → o' (i + 7) = drf (o (i + 7)) w := by
  obtain ⟨s', e, h1, h2, h3, -⟩ := loop_up (L := fun q i (s : Int32 × (Nat → Nat → Int32)) => L_X4_blow_26 q o w i s.1 s.2) n
    (fun k s => s.1 = sumTo (fun j => if D_X1_hasTitleForOtherShape (drf (o (j + 7)) w) = 0 then 0 else 1) k ∧ (∀ r, r < 7 → s.2 r = o r) ∧ (∀ i, i < k → s.2 (i + 7) = drf (o (i + 7)) w) ∧ ∀ i, k ≤ i → s.2 (i + 7) = o (i + 7))
    (fun q k s hk hR => by
      obtain ⟨h1, h2, h3, h4⟩ := hR
      refine ⟨(if D_X1_hasTitleForOtherShape (drf (o (k + 7)) w) = 0 then s.1 else s.1 + 1, va_up s.2 (k + 7) (drf (o (k + 7)) w)), ?_, ?_, fun r hr => ?_, fun i hi => ?_, fun i hi => ?_⟩
      · simp only [L_X4_blow_26, h2 0 (by omega), hn, nI_ge hk (show n < 2 ^ 31 by omega), inb_nI (show k < 6 by omega) (show 6 < 2 ^ 31 by decide), nI_clamp (show k < 2 ^ 31 by omega), h4 k (Nat.le_refl k), dr_eq (hb k hk).1 (hb k hk).2.1 hw, Option.bind_some, ↓reduceIte, nI_succ]
        split <;> rfl
      · show (if D_X1_hasTitleForOtherShape (drf (o (k + 7)) w) = 0 then s.1 else s.1 + 1) = sumTo _ k + (if D_X1_hasTitleForOtherShape (drf (o (k + 7)) w) = 0 then 0 else 1)
        rw [h1]
        by_cases hz : D_X1_hasTitleForOtherShape (drf (o (k + 7)) w) = 0
        · rw [if_pos hz, if_pos hz, Int32.add_zero]
        · rw [if_neg hz, if_neg hz]
      · show va_up s.2 _ _ r = _
        rw [vun _ _ _ (by omega)]; exact h2 r hr
      · show va_up s.2 _ _ (i + 7) = _
        by_cases hik : i = k
        · subst hik; rw [va_up_self]
        · rw [vun _ _ _ (by omega)]; exact h3 i (by omega)
      · show va_up s.2 _ _ (i + 7) = _
        rw [vun _ _ _ (by omega)]; exact h4 i (by omega)) 200 (0, o) (by omega) ⟨rfl, fun _ _ => rfl, fun i hi => absurd hi (Nat.not_lt_zero _), fun _ _ => rfl⟩
  have e0 : L_X4_blow_26 200 o w 0 0 o = L_X4_blow_26 200 o w (nI 0) 0 o := rfl
  refine ⟨s'.2, ?_, h2, h3⟩
  rw [e0]
  refine Eq.trans e ?_
  obtain ⟨z, hz⟩ : ∃ z, 200 - n = z + 1 := ⟨199 - n, by omega⟩
  rw [hz]
  simp only [L_X4_blow_26, h2 0 (by omega), hn, nI_le (Nat.le_refl n) (show n < 2 ^ 31 by omega), ↓reduceIte, h1]
end
section
/-! dawns: the class -/
def lps (c : Nat → Int32) : Nat → Int32 := if D_X1_hasTitleForOtherShape c = 0 then c else D_X1_loseTitle c
def lpf (c : Nat → Int32) : Int32 := if D_X1_hasTitleForOtherShape c = 0 then 0 else 1
def clm (c : Nat → Int32) (v : Int32) : Nat → Int32 := if c 3 = -1 then (if v = -1 then c else D_X1_entitle c v) else c
def clf (c : Nat → Int32) (v : Int32) : Int32 := if c 3 = -1 then (if v = -1 then 0 else 1) else 0
def pyw (c : Nat → Int32) (v : Int32) : Int32 := if c 3 = -1 then -1 else if c 3 = v then v else -1
def pyf (w : Int32) : Int32 := if w = -1 then 0 else 1
def payP (f : Nat → Int32) (w : Nat → Int32) : Nat → (Nat → Int32)
  | 0 => f
  | k + 1 => if w k = -1 then payP f w k else upd (payP f w k) (w k).toNatClampNeg (payP f w k (w k).toNatClampNeg + 1)
theorem lps0 (c : Nat → Int32) : lps c 0 = c 0 := by
  unfold lps; split <;> rfl
theorem clm0 (c : Nat → Int32) (v : Int32) : clm c v 0 = c 0 := by
  unfold clm
  split
  · split <;> rfl
  · rfl
theorem lpsB {c : Nat → Int32} (h : CB c) : CB (lps c) := by
  unfold lps
  split
  · exact h
  · exact ⟨h.1, h.2.1, h.2.2.1, rng_m1 (by decide), rng_m1 (by decide), fun z => absurd rfl z⟩
theorem clmB {c : Nat → Int32} (h : CB c) {v : Int32} (hv : rng v (-1) 3) : CB (clm c v) := by
  unfold clm
  split
  · split
    · exact h
    · exact entB h hv
  · exact h
theorem sumTo_s (f : Nat → Int32) (k : Nat) : sumTo f (k + 1) = sumTo f k + f k := rfl
theorem vy_of {x : Int32} (h : rng x 0 5) : D_X9_isVineyard x = 1 ∧ inb x 6 = true ∧ x.toNatClampNeg < 6 := by
  obtain ⟨a, ha, rfl⟩ := rng_nI (b := 5) h (by decide)
  refine ⟨?_, inb_nI (by omega) (by decide), by rw [nI_clamp (by omega)]; omega⟩
  rw [vi_iff, nI_toInt (by omega), if_pos (by omega)]
theorem ob_eq {o : Nat → Nat → Int32} {k : Nat} (h : rng (o (k + 7) 0) 0 5) : D_X4_ownerBelow o k = some (o 2 (o (k + 7) 0).toNatClampNeg) := by
  unfold D_X4_ownerBelow
  rw [(vy_of h).1, if_neg one_ne, if_pos (vy_of h).2.1]
/-- the class lapses titles -/
theorem lapse_eq {o : Nat → Nat → Int32} {n : Nat} (hn : o 0 1 = nI n) (h6 : n ≤ 6) :
    ∃ o' : Nat → Nat → Int32, D_X4_lapseTitles o = some o' ∧ (∀ r, 1 ≤ r → r < 7 → o' r = o r) ∧ (∀ j, j ≠ 6 → o' 0 j = o 0 j) ∧ o' 0 6 = o 0 6 + sumTo (fun j => lpf (o (j + 7))) n ∧ ∀ i, i < n → o' (i + 7) = lps (o (i + 7)) := by
  obtain ⟨s', e, h1, h2, h3, h4, -⟩ := loop_up (L := fun q i (s : Nat → Nat → Int32) => L_X4_lapseTitles_2 q o i s) n
    (fun k s => (∀ r, 1 ≤ r → r < 7 → s r = o r) ∧ (∀ j, j ≠ 6 → s 0 j = o 0 j) ∧ s 0 6 = o 0 6 + sumTo (fun j => lpf (o (j + 7))) k ∧ (∀ i, i < k → s (i + 7) = lps (o (i + 7))) ∧ ∀ i, k ≤ i → s (i + 7) = o (i + 7))
    (fun q k s hk hR => by
      obtain ⟨h1, h2, h3, h4, h5⟩ := hR
      have hs : L_X4_lapseTitles_2 (q + 1) o (nI k) s = (if D_X1_hasTitleForOtherShape (o (k + 7)) = 0 then L_X4_lapseTitles_2 q o (nI (k + 1)) s else L_X4_lapseTitles_2 q o (nI (k + 1)) (va_up (va_up s (k + 7) (D_X1_loseTitle (o (k + 7)))) 0 (upd (s 0) 6 (s 0 6 + 1)))) := by
        simp only [L_X4_lapseTitles_2, h2 1 (by omega), hn, nI_ge hk (show n < 2 ^ 31 by omega), inb_nI (show k < 6 by omega) (show 6 < 2 ^ 31 by decide), nI_clamp (show k < 2 ^ 31 by omega), h5 k (Nat.le_refl k), ↓reduceIte, nI_succ]
      rw [hs]
      by_cases hz : D_X1_hasTitleForOtherShape (o (k + 7)) = 0
      · rw [if_pos hz]
        refine ⟨s, rfl, h1, h2, ?_, fun i hi => ?_, fun i hi => h5 i (by omega)⟩
        · rw [sumTo_s, h3]
          simp only [lpf, if_pos hz, Int32.add_zero]
        · by_cases hik : i = k
          · subst hik
            rw [h5 i (Nat.le_refl i)]; unfold lps; rw [if_pos hz]
          · exact h4 i (by omega)
      · rw [if_neg hz]
        refine ⟨_, rfl, fun r h0 h7 => ?_, fun j hj => ?_, ?_, fun i hi => ?_, fun i hi => ?_⟩
        · rw [vun _ _ _ (by omega), vun _ _ _ (by omega)]; exact h1 r h0 h7
        · rw [va_up_self, upd_ne _ _ hj]; exact h2 j hj
        · rw [va_up_self, upd_self, sumTo_s, h3]
          simp only [lpf, if_neg hz, Int32.add_assoc]
        · rw [vun _ _ _ (by omega)]
          by_cases hik : i = k
          · subst hik
            rw [va_up_self]; unfold lps; rw [if_neg hz]
          · rw [vun _ _ _ (by omega)]; exact h4 i (by omega)
        · rw [vun _ _ _ (by omega), vun _ _ _ (by omega)]; exact h5 i (by omega)) 200 o (by omega) ⟨fun _ _ _ => rfl, fun _ _ => rfl, by simp only [sumTo, Int32.add_zero], fun i hi => absurd hi (Nat.not_lt_zero _), fun _ _ => rfl⟩
  refine ⟨s', ?_, h1, h2, h3, h4⟩
  show L_X4_lapseTitles_2 200 o (nI 0) o = _
  refine Eq.trans e ?_
  obtain ⟨z, hz⟩ : ∃ z, 200 - n = z + 1 := ⟨199 - n, by omega⟩
  rw [hz]
  simp only [L_X4_lapseTitles_2, h2 1 (by omega), hn, nI_le (Nat.le_refl n) (show n < 2 ^ 31 by omega), ↓reduceIte]
/-- the class's vines claim -/
theorem claim_eq {o : Nat → Nat → Int32} {n : Nat} (hn : o 0 1 = nI n) (h6 : n ≤ 6) (hv : ∀ i, i < n → rng (o (i + 7) 0) 0 5) (V : Nat → Int32) (hV : ∀ i, i < n → o 2 (o (i + 7) 0).toNatClampNeg = V i) :
    ∃ o' : Nat → Nat → Int32, D_X4_claimClouds o = some (sumTo (fun j => clf (o (j + 7)) (V j)) n, o') ∧ (∀ r, 1 ≤ r → r < 7 → o' r = o r) ∧ (∀ j, j ≠ 7 → o' 0 j = o 0 j) ∧ o' 0 7 = o 0 7 + sumTo (fun j => clf (o (j + 7)) (V j)) n ∧ ∀ i, i < n → o' (i + 7) = clm (o (i + 7)) (V i) := by
  obtain ⟨s', e, h1, h2, h4, -⟩ := loop_up (L := fun q i (s : Int32 × (Nat → Nat → Int32)) => L_X4_claimClouds_4 q o i s.1 s.2) n
    (fun k s => s.1 = sumTo (fun j => clf (o (j + 7)) (V j)) k ∧ (∀ r, r < 7 → s.2 r = o r) ∧ (∀ i, i < k → s.2 (i + 7) = clm (o (i + 7)) (V i)) ∧ ∀ i, k ≤ i → s.2 (i + 7) = o (i + 7))
    (fun q k s hk hR => by
      obtain ⟨h1, h2, h4, h5⟩ := hR
      have ob := ob_eq (o := s.2) (k := k) (by rw [h5 k (Nat.le_refl k)]; exact hv k hk)
      rw [h2 2 (by omega), h5 k (Nat.le_refl k), hV k hk] at ob
      have hs : L_X4_claimClouds_4 (q + 1) o (nI k) s.1 s.2 = (if o (k + 7) 3 = -1 then (if V k = -1 then L_X4_claimClouds_4 q o (nI (k + 1)) s.1 s.2 else L_X4_claimClouds_4 q o (nI (k + 1)) (s.1 + 1) (va_up s.2 (k + 7) (D_X1_entitle (o (k + 7)) (V k)))) else L_X4_claimClouds_4 q o (nI (k + 1)) s.1 s.2) := by
        simp only [L_X4_claimClouds_4, h2 0 (by omega), hn, nI_ge hk (show n < 2 ^ 31 by omega), inb_nI (show k < 6 by omega) (show 6 < 2 ^ 31 by decide), nI_clamp (show k < 2 ^ 31 by omega), h5 k (Nat.le_refl k), ob, Option.bind_some, hT, ↓reduceIte, nI_succ]
      by_cases h3 : o (k + 7) 3 = -1
      · by_cases hv0 : V k = -1
        · refine ⟨s, by simp only [hs, if_pos h3, if_pos hv0], ?_, h2, fun i hi => ?_, fun i hi => h5 i (by omega)⟩
          · rw [sumTo_s, h1]
            simp only [clf, if_pos h3, if_pos hv0, Int32.add_zero]
          · by_cases hik : i = k
            · subst hik
              rw [h5 i (Nat.le_refl i)]; unfold clm; rw [if_pos h3, if_pos hv0]
            · exact h4 i (by omega)
        · refine ⟨(s.1 + 1, va_up s.2 (k + 7) (D_X1_entitle (o (k + 7)) (V k))), by simp only [hs, if_pos h3, if_neg hv0], ?_, fun r hr => ?_, fun i hi => ?_, fun i hi => ?_⟩
          · rw [sumTo_s, h1]
            simp only [clf, if_pos h3, if_neg hv0]
          · show va_up s.2 _ _ r = _
            rw [vun _ _ _ (by omega)]; exact h2 r hr
          · show va_up s.2 _ _ (i + 7) = _
            by_cases hik : i = k
            · subst hik
              rw [va_up_self]; unfold clm; rw [if_pos h3, if_neg hv0]
            · rw [vun _ _ _ (by omega)]; exact h4 i (by omega)
          · show va_up s.2 _ _ (i + 7) = _
            rw [vun _ _ _ (by omega)]; exact h5 i (by omega)
      · refine ⟨s, by simp only [hs, if_neg h3], ?_, h2, fun i hi => ?_, fun i hi => h5 i (by omega)⟩
        · rw [sumTo_s, h1]
          simp only [clf, if_neg h3, Int32.add_zero]
        · by_cases hik : i = k
          · subst hik
            rw [h5 i (Nat.le_refl i)]; unfold clm; rw [if_neg h3]
          · exact h4 i (by omega)) 200 (0, o) (by omega) ⟨rfl, fun _ _ => rfl, fun i hi => absurd hi (Nat.not_lt_zero _), fun _ _ => rfl⟩
  refine ⟨va_up s'.2 0 (upd (s'.2 0) 7 (s'.2 0 7 + s'.1)), ?_, fun r h0 h7 => by rw [vun _ _ _ (by omega)]; exact h2 r h7, fun j hj => by rw [va_up_self, upd_ne _ _ hj, h2 0 (by omega)], by rw [va_up_self, upd_self, h1, h2 0 (by omega)], fun i hi => by rw [vun _ _ _ (by omega)]; exact h4 i hi⟩
  show L_X4_claimClouds_4 200 o (nI 0) 0 o = _
  refine Eq.trans e ?_
  obtain ⟨z, hz⟩ : ∃ z, 200 - n = z + 1 := ⟨199 - n, by omega⟩
  rw [hz]
  simp only [L_X4_claimClouds_4, h2 0 (by omega), hn, nI_le (Nat.le_refl n) (show n < 2 ^ 31 by omega), ↓reduceIte, h1]
/-- the class pays -/
theorem pay2_eq {o : Nat → Nat → Int32} {n : Nat} (hn : o 0 1 = nI n) (h6 : n ≤ 6) (hB : ∀ i, i < n → CB (o (i + 7))) (V : Nat → Int32) (hV : ∀ i, i < n → o 2 (o (i + 7) 0).toNatClampNeg = V i) :
    ∃ o' : Nat → Nat → Int32, D_X4_payForClouds o = some o' ∧ (∀ r, 1 ≤ r → r ≠ 3 → o' r = o r) ∧ (∀ j, j ≠ 11 → o' 0 j = o 0 j) ∧ o' 0 11 = o 0 11 + sumTo (fun j => pyf (pyw (o (j + 7)) (V j))) n ∧ o' 3 = payP (o 3) (fun j => pyw (o (j + 7)) (V j)) n := by
  obtain ⟨s', e, h1, h2, h3, h4⟩ := loop_up (L := fun q i (s : Nat → Nat → Int32) => L_X4_payForClouds_2 q o i s) n
    (fun k s => (∀ r, 1 ≤ r → r ≠ 3 → s r = o r) ∧ (∀ j, j ≠ 11 → s 0 j = o 0 j) ∧ s 0 11 = o 0 11 + sumTo (fun j => pyf (pyw (o (j + 7)) (V j))) k ∧ s 3 = payP (o 3) (fun j => pyw (o (j + 7)) (V j)) k)
    (fun q k s hk hR => by
      obtain ⟨h1, h2, h3, h4⟩ := hR
      have hc := h1 (k + 7) (by omega) (by omega)
      have ob := ob_eq (o := s) (k := k) (by rw [hc]; exact (hB k hk).1)
      rw [h1 2 (by omega) (by omega), hc, hV k hk] at ob
      by_cases h30 : o (k + 7) 3 = -1
      · have hw : pyw (o (k + 7)) (V k) = -1 := by unfold pyw; rw [if_pos h30]
        refine ⟨s, ?_, h1, h2, ?_, ?_⟩
        · simp only [L_X4_payForClouds_2, h2 1 (by omega), hn, nI_ge hk (show n < 2 ^ 31 by omega), inb_nI (show k < 6 by omega) (show 6 < 2 ^ 31 by decide), nI_clamp (show k < 2 ^ 31 by omega), hc, h30, show D_X9_isOwner (-1) = 0 from rfl, ↓reduceIte, nI_succ]
        · rw [sumTo_s, h3]
          simp only [hw, pyf, ↓reduceIte, Int32.add_zero]
        · show _ = (if pyw (o (k + 7)) (V k) = -1 then _ else _)
          rw [if_pos hw]; exact h4
      · obtain ⟨p, hp, ep⟩ := (hB k hk).own h30
        by_cases hv : nI p = V k
        · have hw : pyw (o (k + 7)) (V k) = nI p := by unfold pyw; rw [if_neg h30, ep, if_pos hv, hv]
          have hne : ¬ nI p = -1 := nn1 (by omega)
          refine ⟨va_up (va_up s 3 (upd (s 3) p (s 3 p + 1))) 0 (upd (s 0) 11 (s 0 11 + 1)), ?_, fun r a b => ?_, fun j hj => ?_, ?_, ?_⟩
          · simp only [L_X4_payForClouds_2, h2 1 (by omega), hn, nI_ge hk (show n < 2 ^ 31 by omega), inb_nI (show k < 6 by omega) (show 6 < 2 ^ 31 by decide), nI_clamp (show k < 2 ^ 31 by omega), hc, ep, ow1 hp, if_neg one_ne, ob, Option.bind_some, if_pos hv, inb_nI hp (show 4 < 2 ^ 31 by decide), nI_clamp (show p < 2 ^ 31 by omega), ↓reduceIte, nI_succ]
          · rw [vun _ _ _ (by omega), vun _ _ _ b]; exact h1 r a b
          · rw [va_up_self, upd_ne _ _ hj]; exact h2 j hj
          · rw [va_up_self, upd_self, sumTo_s, h3]
            simp only [hw, pyf, if_neg hne, Int32.add_assoc]
          · show va_up s 3 _ 3 = (if pyw (o (k + 7)) (V k) = -1 then _ else _)
            simp only [hw, if_neg hne, va_up_self, nI_clamp (show p < 2 ^ 31 by omega), h4]
        · have hw : pyw (o (k + 7)) (V k) = -1 := by unfold pyw; rw [if_neg h30, ep, if_neg hv]
          refine ⟨s, ?_, h1, h2, ?_, ?_⟩
          · simp only [L_X4_payForClouds_2, h2 1 (by omega), hn, nI_ge hk (show n < 2 ^ 31 by omega), inb_nI (show k < 6 by omega) (show 6 < 2 ^ 31 by decide), nI_clamp (show k < 2 ^ 31 by omega), hc, ep, ow1 hp, if_neg one_ne, ob, Option.bind_some, if_neg hv, ↓reduceIte, nI_succ]
          · rw [sumTo_s, h3]
            simp only [hw, pyf, ↓reduceIte, Int32.add_zero]
          · show _ = (if pyw (o (k + 7)) (V k) = -1 then _ else _)
            rw [if_pos hw]; exact h4) 200 o (by omega) ⟨fun _ _ _ => rfl, fun _ _ => rfl, by simp only [sumTo, Int32.add_zero], rfl⟩
  refine ⟨s', ?_, h1, h2, h3, h4⟩
  show L_X4_payForClouds_2 200 o (nI 0) o = _
  refine Eq.trans e ?_
  obtain ⟨z, hz⟩ : ∃ z, 200 - n = z + 1 := ⟨199 - n, by omega⟩
  rw [hz]
  simp only [L_X4_payForClouds_2, h2 1 (by omega), hn, nI_le (Nat.le_refl n) (show n < 2 ^ 31 by omega), ↓reduceIte]
theorem payP_F {f : Nat → Int32} {B : Nat} (hF : PF f B) (w : Nat → Int32) : ∀ n : Nat, (∀ j, j < n → w j = -1 ∨ ∃ p, p < 4 ∧ w j = nI p) → PF (payP f w n) (B + n)
  | 0, _ => hF
  | n + 1, h => by
    have ih := payP_F hF w n (fun j hj => h j (by omega))
    show PF (if w n = -1 then _ else _) _
    rcases h n (by omega) with e | ⟨p, hp, e⟩
    · rw [if_pos e]; exact ih.mono (by omega)
    · rw [e, if_neg (nn1 (by omega)), nI_clamp (by omega)]
      exact ih.add 1 hp
theorem payP_sum (f : Nat → Int32) (w : Nat → Int32) : ∀ n : Nat, (∀ j, j < n → w j = -1 ∨ ∃ p, p < 4 ∧ w j = nI p) → payP f w n 0 + payP f w n 1 + payP f w n 2 + payP f w n 3 = f 0 + f 1 + f 2 + f 3 + sumTo (fun j => pyf (w j)) n
  | 0, _ => by simp only [payP, sumTo, Int32.add_zero]
  | n + 1, h => by
    have ih := payP_sum f w n (fun j hj => h j (by omega))
    rw [sumTo_s]
    show (if w n = -1 then payP f w n else _) 0 + (if w n = -1 then payP f w n else _) 1 + (if w n = -1 then payP f w n else _) 2 + (if w n = -1 then payP f w n else _) 3 = _
    rcases h n (by omega) with e | ⟨p, hp, e⟩
    · simp only [e, ↓reduceIte, ih, pyf, Int32.add_zero]
    · have hne : ¬ nI p = -1 := nn1 (by omega)
      have e2 : pyf (nI p) = 1 := by unfold pyf; rw [if_neg hne]
      simp only [e, if_neg hne, nI_clamp (show p < 2 ^ 31 by omega), e2]
      have e1 := sum4 (payP f w n) hp (payP f w n p + 1)
      grind only
end
section
/-! dawns: the reference -/
theorem lossC {c e e' : Nat → Int32} (hC : CR c e) (h0 : e' 0 = e 0) (h1 : e' 1 = e 1) (h2 : e' 2 = e 2) (h3 : e' 3 = 0) (h5 : e' 5 = 0) : CR (D_X1_loseTitle c) e' :=
  ⟨hC.1.trans h0.symm, hC.2.1.trans h1.symm, hC.2.2.1.trans h2.symm, h3.trans (by decide : (0 : Int32) = -1 + 1), fun _ => rfl, fun z => absurd rfl z, h5.trans (by decide : (0 : Int32) = -1 + 1), fun z => absurd rfl z⟩
theorem mcl5 {r : Nat → Int32} {k j : Nat} {a b c d e : Int32} (hj : j < 7) : mcl (upd (upd (upd (upd (upd r (19 + 7 * k + 3) a) (19 + 7 * k + 4) b) (19 + 7 * k + 5) c) (19 + 7 * k + 6) d) 2 e) k j = upd (upd (upd (upd (mcl r k) 3 a) 4 b) 5 c) 6 d j := by
  grind only [up2, mcl]
theorem mcl7 {r : Nat → Int32} {p k j : Nat} {a b c d : Int32} (hp : p < 4) (hj : j < 7) : mcl (upd (upd (upd (upd r (19 + 7 * k + 3) a) (19 + 7 * k + 4) b) (9 + p) c) 7 d) k j = upd (upd (mcl r k) 3 a) 4 b j := by
  grind only [up2, mcl]
theorem payP_s (f w : Nat → Int32) (k : Nat) : payP f w (k + 1) = if w k = -1 then payP f w k else upd (payP f w k) (w k).toNatClampNeg (payP f w k (w k).toNatClampNeg + 1) := rfl
theorem m9 {p : Nat} (hp : p < 4) : inb (9 + nI p) 1152 = true ∧ ((9 : Int32) + nI p).toNatClampNeg = 9 + p := by
  rw [show (9 : Int32) = nI 9 from rfl, nI_add]
  exact ⟨inb_nI (by omega) (by decide), nI_clamp (by omega)⟩
theorem m13 {a : Nat} (ha : a < 6) : inb (13 + nI a) 1152 = true ∧ ((13 : Int32) + nI a).toNatClampNeg = 13 + a := by
  rw [show (13 : Int32) = nI 13 from rfl, nI_add]
  exact ⟨inb_nI (by omega) (by decide), nI_clamp (by omega)⟩
end
section
/-! what a dawn records, both ways -/
theorem nI_pm (k : Nat) : nI (k + 1) + -1 = nI k := by
  rw [nI_succ]
  grind only
theorem nI_p6 (k : Nat) : nI (k + 6) - 6 = nI k := by
  rw [show (6 : Int32) = nI 6 from rfl, ← nI_add]
  grind only
theorem nI_p7 (k : Nat) : nI (k + 7) - 7 = nI k := by
  rw [show (7 : Int32) = nI 7 from rfl, ← nI_add]
  grind only
theorem nI_ltJ {a b : Nat} (ha : a < 2 ^ 31) (hb : b < 2 ^ 31) : nI a < nI b ↔ a < b := by
  rw [lt_toInt, nI_toInt ha, nI_toInt hb]; omega
theorem nI_leJ {a b : Nat} (ha : a < 2 ^ 31) (hb : b < 2 ^ 31) : nI a ≤ nI b ↔ a ≤ b := by
  rw [le_toInt, nI_toInt ha, nI_toInt hb]; omega
theorem room_eq (o : Nat → Nat → Int32) : ∃ o' : Nat → Nat → Int32, D_X7_makeRoom o = some o' ∧ (∀ r, r ≠ 5 → r ≠ 6 → o' r = o r) ∧ (∀ z, 6 ≤ z → z < 30 → o' 5 z = o 5 (z - 6)) ∧ ∀ z, 1 ≤ z → z < 5 → o' 6 z = o 6 (z - 1) := by
  obtain ⟨s, e, h1, h2⟩ := loop_dn (L := fun q i (s : Nat → Nat → Int32) => L_X7_makeRoom_8 q o i s) 24 (fun k => nI (k + 5))
    (fun k s => (∀ r, r ≠ 5 → s r = o r) ∧ (∀ z, ¬ (6 + k ≤ z ∧ z < 30) → s 5 z = o 5 z) ∧ ∀ z, 6 + k ≤ z → z < 30 → s 5 z = o 5 (z - 6))
    (fun q k s hk hR => by
      obtain ⟨h1, h2, h3⟩ := hR
      refine ⟨va_up s 5 (upd (s 5) (k + 6) (s 5 k)), ?_, fun r hr => by rw [vun _ _ _ hr]; exact h1 r hr, fun z hz => ?_, fun z a b => ?_⟩
      · simp only [L_X7_makeRoom_8, show k + 1 + 5 = k + 6 by omega, show ¬ nI (k + 6) < 6 from fun z => by have := (nI_ltJ (b := 6) (by omega) (by omega)).mp z; omega, nI_p6, inb_nI (show k < 30 by omega) (show 30 < 2 ^ 31 by decide), inb_nI (show k + 6 < 30 by omega) (show 30 < 2 ^ 31 by decide), nI_clamp (show k < 2 ^ 31 by omega), nI_clamp (show k + 6 < 2 ^ 31 by omega), ↓reduceIte, show nI (k + 6) + -1 = nI (k + 5) from nI_pm (k + 5)]
      · rw [va_up_self, upd_ne _ _ (by omega)]; exact h2 z (by omega)
      · rw [va_up_self]
        by_cases hz : z = k + 6
        · subst hz
          rw [upd_self, h2 k (by omega), show k + 6 - 6 = k by omega]
        · rw [upd_ne _ _ hz]; exact h3 z (by omega) b) 200 o (by decide) ⟨fun _ _ => rfl, fun _ _ => rfl, fun z a b => by omega⟩
  obtain ⟨s2, e2, h4, h5⟩ := loop_dn (L := fun q i (t : Nat → Nat → Int32) => L_X7_makeRoom_43 q o (nI 5) s i t) 4 (fun k => nI k)
    (fun k t => (∀ r, r ≠ 6 → t r = s r) ∧ (∀ z, ¬ (1 + k ≤ z ∧ z < 5) → t 6 z = s 6 z) ∧ ∀ z, 1 + k ≤ z → z < 5 → t 6 z = s 6 (z - 1))
    (fun q k t hk hR => by
      obtain ⟨h1, h2, h3⟩ := hR
      refine ⟨va_up t 6 (upd (t 6) (k + 1) (t 6 k)), ?_, fun r hr => by rw [vun _ _ _ hr]; exact h1 r hr, fun z hz => ?_, fun z a b => ?_⟩
      · simp only [L_X7_makeRoom_43, show ¬ nI (k + 1) < 1 from fun z => by have := (nI_ltJ (b := 1) (by omega) (by omega)).mp z; omega, show nI (k + 1) - 1 = nI k by rw [nI_succ, add1_sub1], inb_nI (show k < 5 by omega) (show 5 < 2 ^ 31 by decide), inb_nI (show k + 1 < 5 by omega) (show 5 < 2 ^ 31 by decide), nI_clamp (show k < 2 ^ 31 by omega), nI_clamp (show k + 1 < 2 ^ 31 by omega), ↓reduceIte, nI_pm]
      · rw [va_up_self, upd_ne _ _ (by omega)]; exact h2 z (by omega)
      · rw [va_up_self]
        by_cases hz : z = k + 1
        · subst hz
          rw [upd_self, h2 k (by omega), Nat.add_sub_cancel]
        · rw [upd_ne _ _ hz]; exact h3 z (by omega) b) 200 s (by decide) ⟨fun _ _ => rfl, fun _ _ => rfl, fun z a b => by omega⟩
  refine ⟨s2, ?_, fun r a b => (h4 r b).trans (h1 r a), fun z a b => by rw [h4 5 (by omega)]; exact h2.2 z a b, fun z a b => by rw [h5.2 z a b, h1 6 (by omega)]⟩
  have e3 : D_X7_makeRoom o = L_X7_makeRoom_8 200 o (nI 29) o := rfl
  rw [e3]
  refine Eq.trans e ?_
  show L_X7_makeRoom_8 (175 + 1) o (nI 5) s = some s2
  simp only [L_X7_makeRoom_8, show nI 5 < 6 by decide, ↓reduceIte]
  have e4 : (5 : Int32) - 1 = nI 4 := by decide
  rw [e4]
  refine Eq.trans e2 ?_
  show L_X7_makeRoom_43 (195 + 1) o (nI 5) s (nI 0) s2 = some s2
  simp only [L_X7_makeRoom_43, show nI 0 < 1 by decide, ↓reduceIte]
theorem min5 {d : Nat} (hd : d ≤ 5) : (if (5 : Int32) < nI d + 1 then 5 else nI d + 1) = nI (if d = 5 then 5 else d + 1) := by
  rcases (show d = 0 ∨ d = 1 ∨ d = 2 ∨ d = 3 ∨ d = 4 ∨ d = 5 by omega) with rfl | rfl | rfl | rfl | rfl | rfl <;> decide
theorem min5m {d : Nat} (hd : d ≤ 5) : (if (5 : Int32) ≤ nI d then 5 else nI d + 1) = nI (if d = 5 then 5 else d + 1) := by
  rcases (show d = 0 ∨ d = 1 ∨ d = 2 ∨ d = 3 ∨ d = 4 ∨ d = 5 by omega) with rfl | rfl | rfl | rfl | rfl | rfl <;> decide
/-- the class records a dawn -/
theorem rec_eq {o : Nat → Nat → Int32} {n d : Nat} (h6 : n ≤ 6) (hd : d ≤ 5) (h4 : o 4 2 = nI d) :
    ∃ o' : Nat → Nat → Int32, D_X7_record o (nI n) = some o' ∧ (∀ r, r ≠ 4 → r ≠ 5 → r ≠ 6 → o' r = o r) ∧ (∀ z, 6 ≤ z → z < 30 → o' 5 z = o 5 (z - 6)) ∧ (∀ i, i < n → o' 5 i = o (i + 7) 3) ∧ o' 6 0 = nI n ∧ (∀ z, 1 ≤ z → z < 5 → o' 6 z = o 6 (z - 1)) ∧ o' 4 2 = nI (if d = 5 then 5 else d + 1) := by
  obtain ⟨t, e, h1, h2, h3⟩ := room_eq o
  obtain ⟨s, e2, k1, k2, k3⟩ := loop_up (L := fun q i (s : Nat → Nat → Int32) => L_X7_record_6 q o (nI n) t i s) n
    (fun k s => (∀ r, r ≠ 5 → s r = t r) ∧ (∀ z, k ≤ z → s 5 z = t 5 z) ∧ ∀ z, z < k → s 5 z = o (z + 7) 3)
    (fun q k s hk hR => by
      obtain ⟨k1, k2, k3⟩ := hR
      refine ⟨va_up s 5 (upd (s 5) k (o (k + 7) 3)), ?_, fun r hr => by rw [vun _ _ _ hr]; exact k1 r hr, fun z hz => ?_, fun z hz => ?_⟩
      · simp only [L_X7_record_6, nI_ge hk (show n < 2 ^ 31 by omega), show ¬ (6 : Int32) ≤ nI k from fun z => by have := (nI_leJ (a := 6) (by omega) (by omega)).mp z; omega, inb_nI (show k < 6 by omega) (show 6 < 2 ^ 31 by decide), inb_nI (show k < 30 by omega) (show 30 < 2 ^ 31 by decide), nI_clamp (show k < 2 ^ 31 by omega), k1 (k + 7) (by omega), h1 (k + 7) (by omega) (by omega), ↓reduceIte, nI_succ]
      · rw [va_up_self, upd_ne _ _ (by omega)]; exact k2 z (by omega)
      · rw [va_up_self]
        by_cases hz2 : z = k
        · subst hz2; rw [upd_self]
        · rw [upd_ne _ _ hz2]; exact k3 z (by omega)) 200 t (by omega) ⟨fun _ _ => rfl, fun _ _ => rfl, fun z hz => absurd hz (Nat.not_lt_zero _)⟩
  have h42 : s 4 2 = nI d := by rw [k1 4 (by omega), h1 4 (by omega) (by omega)]; exact h4
  refine ⟨va_up (va_up s 6 (upd (s 6) 0 (nI n))) 4 (upd (s 4) 2 (if 5 < s 4 2 + 1 then 5 else s 4 2 + 1)), ?_, fun r a b c => ?_, fun z a b => ?_, fun i hi => ?_, ?_, fun z a b => ?_, ?_⟩
  · unfold D_X7_record
    rw [e]
    show L_X7_record_6 200 o (nI n) t (nI 0) t = _
    refine Eq.trans e2 ?_
    obtain ⟨z, hz⟩ : ∃ z, 200 - n = z + 1 := ⟨199 - n, by omega⟩
    rw [hz]
    simp only [L_X7_record_6, nI_le (Nat.le_refl n) (show n < 2 ^ 31 by omega), show inb 0 5 = true by decide, cl0, ↓reduceIte]
  · rw [vun _ _ _ a, vun _ _ _ c, k1 r b, h1 r b c]
  · rw [vun _ _ _ (by omega), vun _ _ _ (by omega), k2 z (by omega), h2 z a b]
  · rw [vun _ _ _ (by omega), vun _ _ _ (by omega), k3 i hi]
  · rw [vun _ _ _ (by omega), va_up_self, upd_self]
  · rw [vun _ _ _ (by omega), va_up_self, upd_ne _ _ (by omega), k1 6 (by omega), h3 z a b]
  · rw [va_up_self, upd_self, h42]
    exact min5 hd
theorem a61 {k : Nat} (hk : k < 500) : ((61 : Int32) + nI k) = nI (61 + k) := by rw [show (61 : Int32) = nI 61 from rfl, nI_add]
theorem a62 {k : Nat} (hk : k < 500) : ((62 : Int32) + nI k) = nI (62 + k) := by rw [show (62 : Int32) = nI 62 from rfl, nI_add]
end
section
/-! a dawn, both ways -/
theorem payP_cg {f g w v : Nat → Int32} : ∀ {n : Nat}, f = g → (∀ j, j < n → w j = v j) → payP f w n = payP g v n
  | 0, hf, _ => hf
  | n + 1, hf, h => by
    rw [payP_s, payP_s, payP_cg hf (fun j hj => h j (by omega)), h n (by omega)]
theorem dawnC {o : Nat → Nat → Int32} {n d : Nat} (hn : o 0 1 = nI n) (h6 : n ≤ 6) (hd : d ≤ 5) (h4 : o 4 2 = nI d) (hB : ∀ i, i < n → CB (o (i + 7))) (V : Nat → Int32) (hV : ∀ i, i < n → o 2 (o (i + 7) 0).toNatClampNeg = V i ∧ rng (V i) (-1) 3) :
    ∃ o' : Nat → Nat → Int32, D_X4_letDawn o = some (sumTo (fun j => clf (lps (o (j + 7))) (V j)) n, o') ∧ o' 0 1 = nI n ∧ o' 0 5 = o 0 5 + 1 ∧ o' 0 6 = o 0 6 + sumTo (fun j => lpf (o (j + 7))) n ∧ o' 0 7 = o 0 7 + sumTo (fun j => clf (lps (o (j + 7))) (V j)) n ∧ o' 0 8 = o 0 8 ∧ o' 0 9 = o 0 9 ∧ o' 0 10 = o 0 10 ∧ o' 0 11 = o 0 11 + sumTo (fun j => pyf (pyw (clm (lps (o (j + 7))) (V j)) (V j))) n ∧
      o' 2 = o 2 ∧ o' 3 = payP (o 3) (fun j => pyw (clm (lps (o (j + 7))) (V j)) (V j)) n ∧ o' 4 2 = nI (if d = 5 then 5 else d + 1) ∧ (∀ i, i < n → o' (i + 7) = clm (lps (o (i + 7))) (V i)) ∧ (∀ z, 6 ≤ z → z < 30 → o' 5 z = o 5 (z - 6)) ∧ (∀ i, i < n → o' 5 i = clm (lps (o (i + 7))) (V i) 3) ∧ o' 6 0 = nI n ∧ ∀ z, 1 ≤ z → z < 5 → o' 6 z = o 6 (z - 1) := by
  obtain ⟨o2, a1, a2, a3, a4, a5⟩ := lapse_eq hn h6
  have hc2 : ∀ i, i < n → o2 (i + 7) 0 = o (i + 7) 0 := fun i hi => by rw [a5 i hi, lps0]
  obtain ⟨o5, b1, b2, b3, b4, b5⟩ := claim_eq (o := o2) ((a3 1 (by omega)).trans hn) h6 (fun i hi => by rw [hc2 i hi]; exact (hB i hi).1) V (fun i hi => by rw [hc2 i hi, a2 2 (by omega) (by omega)]; exact (hV i hi).1)
  have hc5 : ∀ i, i < n → o5 (i + 7) = clm (lps (o (i + 7))) (V i) := fun i hi => by rw [b5 i hi, a5 i hi]
  have hs5 : sumTo (fun j => clf (o2 (j + 7)) (V j)) n = sumTo (fun j => clf (lps (o (j + 7))) (V j)) n := sumTo_cg (fun j hj => by rw [a5 j hj])
  rw [hs5] at b1 b4
  have e51 : o5 0 1 = nI n := by rw [b3 1 (by omega), a3 1 (by omega)]; exact hn
  obtain ⟨o8, c1, c2, c3, c4, c5⟩ := pay2_eq (o := o5) e51 h6 (fun i hi => by rw [hc5 i hi]; exact clmB (lpsB (hB i hi)) (hV i hi).2) V (fun i hi => by
    rw [hc5 i hi, clm0, lps0, b2 2 (by omega) (by omega), a2 2 (by omega) (by omega)]; exact (hV i hi).1)
  have hs8 : sumTo (fun j => pyf (pyw (o5 (j + 7)) (V j))) n = sumTo (fun j => pyf (pyw (clm (lps (o (j + 7))) (V j)) (V j))) n := sumTo_cg (fun j hj => by rw [hc5 j hj])
  have hp8 : payP (o5 3) (fun j => pyw (o5 (j + 7)) (V j)) n = payP (o 3) (fun j => pyw (clm (lps (o (j + 7))) (V j)) (V j)) n := payP_cg (by rw [b2 3 (by omega) (by omega), a2 3 (by omega) (by omega)]) (fun j hj => by rw [hc5 j hj])
  have e81 : o8 0 1 = nI n := (c3 1 (by omega)).trans e51
  obtain ⟨o11, d1, d2, d3, d4, d5, d6, d7⟩ := rec_eq (o := o8) h6 hd (by rw [c2 4 (by omega) (by omega), b2 4 (by omega) (by omega), a2 4 (by omega) (by omega)]; exact h4)
  have e0 : o11 0 = o8 0 := d2 0 (by omega) (by omega) (by omega)
  refine ⟨va_up o11 0 (upd (o11 0) 5 (o11 0 5 + 1)), ?_, ?_, ?_, ?_, ?_, ?_, ?_, ?_, ?_, ?_, ?_, ?_, fun i hi => ?_, fun z a b => ?_, fun i hi => ?_, ?_, fun z a b => ?_⟩
  · unfold D_X4_letDawn
    rw [a1]
    simp only [Option.bind_some, b1, c1, e81, d1]
  · rw [va_up_self, upd_ne _ _ (by omega), e0]; exact e81
  · rw [va_up_self, upd_self, e0, c3 5 (by omega), b3 5 (by omega), a3 5 (by omega)]
  · rw [va_up_self, upd_ne _ _ (by omega), e0, c3 6 (by omega), b3 6 (by omega), a4]
  · rw [va_up_self, upd_ne _ _ (by omega), e0, c3 7 (by omega), b4, a3 7 (by omega)]
  · rw [va_up_self, upd_ne _ _ (by omega), e0, c3 8 (by omega), b3 8 (by omega), a3 8 (by omega)]
  · rw [va_up_self, upd_ne _ _ (by omega), e0, c3 9 (by omega), b3 9 (by omega), a3 9 (by omega)]
  · rw [va_up_self, upd_ne _ _ (by omega), e0, c3 10 (by omega), b3 10 (by omega), a3 10 (by omega)]
  · rw [va_up_self, upd_ne _ _ (by omega), e0, c4, b3 11 (by omega), a3 11 (by omega), hs8]
  · rw [vun _ _ _ (by omega), d2 2 (by omega) (by omega) (by omega), c2 2 (by omega) (by omega), b2 2 (by omega) (by omega), a2 2 (by omega) (by omega)]
  · rw [vun _ _ _ (by omega), d2 3 (by omega) (by omega) (by omega), c5, hp8]
  · rw [vun _ _ _ (by omega), d7]
  · rw [vun _ _ _ (by omega), d2 (i + 7) (by omega) (by omega) (by omega), c2 (i + 7) (by omega) (by omega), hc5 i hi]
  · rw [vun _ _ _ (by omega), d3 z a b, c2 5 (by omega) (by omega), b2 5 (by omega) (by omega), a2 5 (by omega) (by omega)]
  · rw [vun _ _ _ (by omega), d4 i hi, c2 (i + 7) (by omega) (by omega), hc5 i hi]
  · rw [vun _ _ _ (by omega), d5]
  · rw [vun _ _ _ (by omega), d6 z a b, c2 6 (by omega) (by omega), b2 6 (by omega) (by omega), a2 6 (by omega) (by omega)]
end
section
/-! hail: the class -/
def hl (c : Nat → Int32) (p : Int32) : Nat → Int32 := if c 0 = p then (if c 5 = -1 then upd c 2 (c 2 - 1) else D_X1_entitle c (c 5)) else c
def hlf (c : Nat → Int32) (p : Int32) : Int32 := if c 0 = p then (if c 5 = -1 then 0 else 1) else 0
theorem hail_eq {o : Nat → Nat → Int32} {n : Nat} (hn : o 0 1 = nI n) (h6 : n ≤ 6) (p : Int32) :
    ∃ s : Nat → Nat → Int32, L_X4_hailDown_18 200 o p 0 0 o = (D_X4_removeGone (va_up s 0 (upd (s 0) 8 (s 0 8 + sumTo (fun j => hlf (o (j + 7)) p) n)))).bind (fun o7 => some (sumTo (fun j => hlf (o (j + 7)) p) n, o7)) ∧ (∀ r, r < 7 → s r = o r) ∧ ∀ i, i < n → s (i + 7) = hl (o (i + 7)) p := by
  obtain ⟨s', e, h1, h2, h3, -⟩ := loop_up (L := fun q i (s : Int32 × (Nat → Nat → Int32)) => L_X4_hailDown_18 q o p i s.1 s.2) n
    (fun k s => s.1 = sumTo (fun j => hlf (o (j + 7)) p) k ∧ (∀ r, r < 7 → s.2 r = o r) ∧ (∀ i, i < k → s.2 (i + 7) = hl (o (i + 7)) p) ∧ ∀ i, k ≤ i → s.2 (i + 7) = o (i + 7))
    (fun q k s hk hR => by
      obtain ⟨h1, h2, h3, h4⟩ := hR
      refine ⟨(s.1 + hlf (o (k + 7)) p, if o (k + 7) 0 = p then va_up s.2 (k + 7) (hl (o (k + 7)) p) else s.2), ?_, ?_, fun r hr => ?_, fun i hi => ?_, fun i hi => ?_⟩ <;> try dsimp only
      · simp only [L_X4_hailDown_18, h2 0 (by omega), hn, nI_ge hk (show n < 2 ^ 31 by omega), inb_nI (show k < 6 by omega) (show 6 < 2 ^ 31 by decide), nI_clamp (show k < 2 ^ 31 by omega), h4 k (Nat.le_refl k), hPl, ↓reduceIte, nI_succ, hl, hlf]
        by_cases h0 : o (k + 7) 0 = p
        · by_cases h5 : o (k + 7) 5 = -1
          · simp only [if_pos h0, if_pos h5, Int32.add_zero]
          · simp only [if_pos h0, if_neg h5]
        · simp only [if_neg h0, Int32.add_zero]
      · rw [sumTo_s, h1]
      · split
        · rw [vun _ _ _ (by omega)]; exact h2 r hr
        · exact h2 r hr
      · by_cases hik : i = k
        · subst hik
          split
          · rw [va_up_self]
          · rename_i h0
            rw [h4 i (Nat.le_refl i)]; unfold hl; rw [if_neg h0]
        · split
          · rw [vun _ _ _ (by omega)]; exact h3 i (by omega)
          · exact h3 i (by omega)
      · split
        · rw [vun _ _ _ (by omega)]; exact h4 i (by omega)
        · exact h4 i (by omega)) 200 (0, o) (by omega) ⟨rfl, fun _ _ => rfl, fun i hi => absurd hi (Nat.not_lt_zero _), fun _ _ => rfl⟩
  refine ⟨s'.2, ?_, h2, h3⟩
  show L_X4_hailDown_18 200 o p (nI 0) 0 o = _
  refine Eq.trans e ?_
  obtain ⟨z, hz⟩ : ∃ z, 200 - n = z + 1 := ⟨199 - n, by omega⟩
  rw [hz]
  simp only [L_X4_hailDown_18, h2 0 (by omega), hn, nI_le (Nat.le_refl n) (show n < 2 ^ 31 by omega), ↓reduceIte, h1]
theorem c1cpS (u : Nat → Int32) {j : Nat} (h : j < 7) : D_X1_copyFromS u j = u j := by
  unfold D_X1_copyFromS
  rcases (show j = 0 ∨ j = 1 ∨ j = 2 ∨ j = 3 ∨ j = 4 ∨ j = 5 ∨ j = 6 by omega) with rfl | rfl | rfl | rfl | rfl | rfl | rfl <;> rfl
theorem range_fs (keep : Nat → Bool) (k : Nat) : (List.range (k + 1)).filter keep = if keep k then (List.range k).filter keep ++ [k] else (List.range k).filter keep := by
  rw [List.range_succ, List.filter_append]
  by_cases h : keep k = true
  · rw [if_pos h, List.filter_cons_of_pos h]; rfl
  · rw [if_neg h, List.filter_cons_of_neg h]; simp
theorem flen (keep : Nat → Bool) (k : Nat) : ((List.range k).filter keep).length ≤ k := by
  have := List.length_filter_le keep (List.range k)
  rwa [List.length_range] at this
/-- the class takes out what is gone -/
theorem gone_eq {o : Nat → Nat → Int32} {n : Nat} (hn : o 0 1 = nI n) (h6 : n ≤ 6) (keep : Nat → Bool) (hk : ∀ i, i < n → (keep i = true ↔ ¬ o (i + 7) 2 ≤ 0)) :
    ∃ o' : Nat → Nat → Int32, D_X4_removeGone o = some o' ∧ (∀ r, 1 ≤ r → r < 7 → o' r = o r) ∧ (∀ j, j ≠ 1 → j ≠ 9 → o' 0 j = o 0 j) ∧ o' 0 1 = nI ((List.range n).filter keep).length ∧ o' 0 9 = o 0 9 + (nI n - nI ((List.range n).filter keep).length) ∧ ∀ j i, ((List.range n).filter keep)[j]? = some i → ∀ f, f < 7 → o' (j + 7) f = o (i + 7) f := by
  obtain ⟨s', e, h1, h2, h3, h4⟩ := loop_up (L := fun q i (s : Int32 × (Nat → Nat → Int32)) => L_X4_removeGone_4 q o i s.1 s.2) n
    (fun k s => s.1 = nI ((List.range k).filter keep).length ∧ (∀ r, r < 7 → s.2 r = o r) ∧ (∀ i, k ≤ i → s.2 (i + 7) = o (i + 7)) ∧ ∀ j i, ((List.range k).filter keep)[j]? = some i → ∀ f, f < 7 → s.2 (j + 7) f = o (i + 7) f)
    (fun q k s hkn hR => by
      obtain ⟨h1, h2, h3, h4⟩ := hR
      obtain ⟨lf, t⟩ := s
      simp only at h1 h2 h3 h4 ⊢
      have hlen := flen keep k
      generalize hl : ((List.range k).filter keep).length = len at h1 hlen
      subst h1
      by_cases hkeep : keep k = true
      · have hz : ¬ o (k + 7) 2 ≤ 0 := (hk k hkn).mp hkeep
        refine ⟨(nI (len + 1), va_up t (len + 7) (if len + 7 = k + 7 then D_X1_copyFromS (o (k + 7)) else D_X1_copyFrom (t (len + 7)) (o (k + 7)))), ?_, ?_, fun r hr => ?_, fun i hi => ?_, fun j i hji f hf => ?_⟩ <;> try dsimp only
        · simp only [L_X4_removeGone_4, h2 0 (by omega), hn, nI_ge hkn (show n < 2 ^ 31 by omega), inb_nI (show k < 6 by omega) (show 6 < 2 ^ 31 by decide), inb_nI (show len < 6 by omega) (show 6 < 2 ^ 31 by decide), nI_clamp (show k < 2 ^ 31 by omega), nI_clamp (show len < 2 ^ 31 by omega), h3 k (Nat.le_refl k), hz, ↓reduceIte, nI_succ]
          by_cases hlk : len + 7 = k + 7
          · rw [if_pos hlk, if_pos hlk, hlk, h3 k (Nat.le_refl k)]
          · rw [if_neg hlk, if_neg hlk]
        · rw [range_fs, if_pos hkeep, List.length_append, hl]; rfl
        · rw [vun _ _ _ (by omega)]; exact h2 r hr
        · rw [vun _ _ _ (by omega)]; exact h3 i (by omega)
        · rw [range_fs, if_pos hkeep] at hji
          rcases Nat.lt_or_ge j len with hj | hj
          · rw [List.getElem?_append_left (by omega)] at hji
            rw [vun _ _ _ (by omega)]
            exact h4 j i hji f hf
          · rw [List.getElem?_append_right (by omega), hl] at hji
            have hj2 : j - len = 0 := by
              rcases Nat.eq_zero_or_pos (j - len) with h0 | h0
              · exact h0
              · rw [List.getElem?_eq_none (show [k].length ≤ j - len from h0)] at hji
                exact absurd hji (by simp)
            rw [hj2] at hji
            have hi : k = i := by simpa using hji
            subst hi
            have hjl : j = len := by omega
            subst hjl
            rw [va_up_self]
            split
            · exact c1cpS _ hf
            · exact c1cp _ _ hf
      · have hz : o (k + 7) 2 ≤ 0 := Classical.byContradiction fun z => hkeep ((hk k hkn).mpr z)
        refine ⟨(nI len, t), ?_, ?_, h2, fun i hi => h3 i (by omega), fun j i hji f hf => ?_⟩ <;> try dsimp only
        · simp only [L_X4_removeGone_4, h2 0 (by omega), hn, nI_ge hkn (show n < 2 ^ 31 by omega), inb_nI (show k < 6 by omega) (show 6 < 2 ^ 31 by decide), nI_clamp (show k < 2 ^ 31 by omega), h3 k (Nat.le_refl k), hz, ↓reduceIte, nI_succ]
        · rw [range_fs, if_neg hkeep, hl]
        · rw [range_fs, if_neg hkeep] at hji
          exact h4 j i hji f hf) 200 (0, o) (by omega) ⟨rfl, fun _ _ => rfl, fun _ _ => rfl, fun j i h => absurd h (by simp)⟩
  refine ⟨va_up s'.2 0 (upd (upd (s'.2 0) 9 (s'.2 0 9 + (s'.2 0 1 - s'.1))) 1 s'.1), ?_, fun r a b => by rw [vun _ _ _ (by omega)]; exact h2 r b, fun j a b => by rw [va_up_self, upd_ne _ _ a, upd_ne _ _ b, h2 0 (by omega)], by rw [va_up_self, upd_self, h1], by rw [va_up_self, upd_ne _ _ (by omega), upd_self, h1, h2 0 (by omega), hn], fun j i hji f hf => by rw [vun _ _ _ (by omega)]; exact h4 j i hji f hf⟩
  show L_X4_removeGone_4 200 o (nI 0) 0 o = _
  refine Eq.trans e ?_
  obtain ⟨z, hz⟩ : ∃ z, 200 - n = z + 1 := ⟨199 - n, by omega⟩
  rw [hz]
  simp only [L_X4_removeGone_4, h2 0 (by omega), hn, nI_le (Nat.le_refl n) (show n < 2 ^ 31 by omega), ↓reduceIte]
end
section
/-! hail: the reference -/
/-- the indices from the last t that are kept -/
def fl (keep : Nat → Bool) (n : Nat) : Nat → List Nat
  | 0 => []
  | t + 1 => if keep (n - (t + 1)) then (n - (t + 1)) :: fl keep n t else fl keep n t
theorem fl_eq (keep : Nat → Bool) (n : Nat) : ∀ t, t ≤ n → fl keep n t = (List.range' (n - t) t).filter keep
  | 0, _ => rfl
  | t + 1, h => by
    have ih := fl_eq keep n t (by omega)
    have e : List.range' (n - (t + 1)) (t + 1) = (n - (t + 1)) :: List.range' (n - t) t := by
      rw [List.range'_succ, show n - (t + 1) + 1 = n - t by omega]
    rw [e]
    show (if keep (n - (t + 1)) then _ else _) = _
    by_cases hk : keep (n - (t + 1)) = true
    · rw [if_pos hk, List.filter_cons_of_pos hk, ih]
    · rw [if_neg hk, List.filter_cons_of_neg hk, ih]
theorem fl_all (keep : Nat → Bool) (n : Nat) : fl keep n n = (List.range n).filter keep := by
  rw [fl_eq keep n n (Nat.le_refl n), Nat.sub_self, List.range_eq_range']
theorem fl_len (keep : Nat → Bool) (n : Nat) : ∀ t, (fl keep n t).length ≤ t
  | 0 => Nat.le_refl 0
  | t + 1 => by
    have ih := fl_len keep n t
    show (if keep (n - (t + 1)) then (n - (t + 1)) :: fl keep n t else fl keep n t).length ≤ t + 1
    split
    · simp only [List.length_cons]; omega
    · omega
end
section
/-! hail, both ways -/
theorem hl0 (c : Nat → Int32) (p : Int32) : hl c p 0 = c 0 := by
  unfold hl
  split
  · split <;> rfl
  · rfl
theorem fl_s (keep : Nat → Bool) (n t : Nat) : fl keep n (t + 1) = if keep (n - (t + 1)) then (n - (t + 1)) :: fl keep n t else fl keep n t := rfl
theorem sub_len {a b : Nat} (h : b ≤ a) : nI a - nI b = nI (a - b) := nI_sub h
theorem hentC {c e : Nat → Int32} (hC : CR c e) {q : Nat} (hq : q < 4) (hc : c 5 = nI q) {e' : Nat → Int32} (h0 : e' 0 = e 0) (h1 : e' 1 = e 1) (h2 : e' 2 = e 2) (h3 : e' 3 = nI q + 1) (h4 : e' 4 = e 1) (h5 : e' 5 = 0) : CR (D_X1_entitle c (c 5)) e' := by
  rw [hc]
  exact entC hC (nn1 (by omega)) h0 h1 h2 h3 h4 h5
theorem mcl4 {r : Nat → Int32} {k j : Nat} {a b : Int32} (hj : j < 7) : mcl (upd (upd (upd (upd r (19 + 7 * k + 3) a) (19 + 7 * k + 4) b) (19 + 7 * k + 5) 0) (19 + 7 * k + 6) 0) k j = upd (upd (upd (upd (mcl r k) 3 a) 4 b) 5 0) 6 0 j := by
  grind only [up2, mcl]
theorem nI_m1x (k : Nat) : nI (k + 1) - 1 = nI k := by rw [nI_succ, add1_sub1]
theorem CR2 {c e : Nat → Int32} (h : CR c e) (x : Int32) : CR (upd c 2 x) (upd e 2 x) := ⟨h.1, h.2.1, rfl, h.2.2.2⟩
theorem mcl2 {r : Nat → Int32} {k j : Nat} {a : Int32} (hj : j < 7) : mcl (upd r (19 + 7 * k + 2) a) k j = upd (mcl r k) 2 a j := by
  grind only [up2, mcl]
theorem nI_le0 {a : Nat} (ha : a < 2 ^ 31) : nI a ≤ 0 ↔ a = 0 := by
  rw [le_toInt, toInt_0, nI_toInt ha]; omega
theorem nI_predx {a : Nat} (h : 1 ≤ a) : nI a - 1 = nI (a - 1) := by
  have e := nI_succ (a - 1)
  rw [show a - 1 + 1 = a by omega] at e
  rw [e, add1_sub1]
theorem step_c {x y z w : Int32} (h : x + (y + z) = w) (hz : z = 0) : x + y = w := by
  rw [hz, Int32.add_zero] at h; exact h
theorem hlB {c : Nat → Int32} (h : CB c) (p : Int32) (hk : ¬ hl c p 2 ≤ 0) : CB (hl c p) := by
  unfold hl at hk ⊢
  split at hk
  · rename_i h0
    rw [if_pos h0]
    split at hk
    · rename_i h5
      rw [if_pos h5]
      refine ⟨h.1, h.2.1, ?_, h.2.2.2.1, h.2.2.2.2.1, fun z => absurd h5 z⟩
      obtain ⟨q, q1, q9, e⟩ := h.size
      rw [upd_self, e, nI_predx q1, nI_le0 (by omega)] at hk
      rw [upd_self, e, nI_predx q1]
      exact ⟨by rw [nI_toInt (by omega)]; omega, by rw [nI_toInt (by omega)]; omega⟩
    · rename_i h5
      rw [if_neg h5]
      exact entB h h.2.2.2.2.1
  · rename_i h0
    rw [if_neg h0]; exact h
end
section
/-! what holds between two calls -/
def SB (k : Nat) : Nat := 80 + 72 * k
theorem SB_lt {k : Nat} (h : k ≤ 513) : SB k < 2 ^ 20 := by unfold SB; omega
def hix (nx c i : Nat) : Nat := 4 + (nx + 7 - (c - i)) % 8
def IRea (x : Mem) (m : Nat → Nat → Int32) : Prop := x 12 3 0 = m 0 5 ∧ (¬ m 0 5 = 0 → x 12 3 1 = m 0 6) ∧ x 12 3 2 = m 0 7 ∧ (¬ m 0 7 = 0 → x 12 3 3 = m 0 8)
def ITap (x : Mem) (m : Nat → Nat → Int32) : Prop := ∃ l : Nat, l ≤ 60 ∧ x 12 4 1 = nI l ∧ m 0 10 = nI l ∧ ∀ j, j < l → x 12 5 j = m 2 j
def ITxt (x : Mem) (m : Nat → Nat → Int32) : Prop := ∃ l : Nat, l ≤ 16 ∧ x 12 31 1 = 0 ∧ x 12 31 3 = nI l ∧ m 0 17 = nI l ∧ ∀ j, j < l → x 12 32 j = m 4 j ∧ rng (m 4 j) 0 127
section CG
variable {k : Nat} {x x' : Mem} {m m' : Nat → Nat → Int32}
theorem hix_lt (nx c i : Nat) : 4 ≤ hix nx c i ∧ hix nx c i < 12 := by unfold hix; omega
theorem IRea.cg (h : IRea x m) (h1 : x' 12 3 = x 12 3) (h2 : ∀ j, 5 ≤ j → j ≤ 8 → m' 0 j = m 0 j) : IRea x' m' := by
  unfold IRea
  rw [h1, h2 5 (by omega) (by omega), h2 6 (by omega) (by omega), h2 7 (by omega) (by omega), h2 8 (by omega) (by omega)]
  exact h
theorem ITap.cg (h : ITap x m) (h1 : x' 12 4 1 = x 12 4 1) (h2 : x' 12 5 = x 12 5) (h3 : m' 0 10 = m 0 10) (h4 : m' 2 = m 2) : ITap x' m' := by
  unfold ITap
  rw [h1, h2, h3, h4]; exact h
theorem ITxt.cg (h : ITxt x m) (h1 : x' 12 31 = x 12 31) (h2 : x' 12 32 = x 12 32) (h3 : m' 0 17 = m 0 17) (h4 : m' 4 = m 4) : ITxt x' m' := by
  unfold ITxt
  rw [h1, h2, h3, h4]; exact h
end CG
/-! the reference's frame about a change -/
end
section
/-! the class's frame about a change -/
theorem flm8 {a : Nat} (ha : a < 9) : D_J9_floorMod_7cf53 (nI a) 8 = some (nI (a % 8)) := by
  rcases (show a = 0 ∨ a = 1 ∨ a = 2 ∨ a = 3 ∨ a = 4 ∨ a = 5 ∨ a = 6 ∨ a = 7 ∨ a = 8 by omega) with rfl | rfl | rfl | rfl | rfl | rfl | rfl | rfl | rfl <;> decide +kernel
theorem min8 {c : Nat} (hc : c ≤ 8) : (if (8 : Int32) < nI c + 1 then 8 else nI c + 1) = nI (if c = 8 then 8 else c + 1) := by
  rcases (show c = 0 ∨ c = 1 ∨ c = 2 ∨ c = 3 ∨ c = 4 ∨ c = 5 ∨ c = 6 ∨ c = 7 ∨ c = 8 by omega) with rfl | rfl | rfl | rfl | rfl | rfl | rfl | rfl | rfl <;> decide
theorem wi8 {a : Nat} (ha : a < 8) : D_X9_isWithin (nI a) 8 = 1 := by
  rw [wi_iff, nI_toInt (by omega), show (8 : Int32).toInt = 8 by decide, if_pos (by omega)]
theorem xs_ne {x : Mem} {k : Nat} {o : Nat → Nat → Int32} {q : Nat} (h : q ≠ k) : va_up x k o q = x q := va_up_ne _ _ h
theorem xs_self {x : Mem} {k : Nat} {o : Nat → Nat → Int32} : va_up x k o k = o := va_up_self _ _ _
theorem push_eq (x : Mem) {c nx : Nat} (hc : c ≤ 8) (hn : nx < 8) (h1 : x 12 1 1 = nI nx) (h2 : x 12 1 2 = nI c) (p : Nat) :
    ∃ x' : Mem, D_X2_push x p = some x' ∧ (∀ q, q ≠ nx + 4 → q ≠ 12 → x' q = x q) ∧ (∀ r, r ≠ 1 → x' 12 r = x 12 r) ∧ x' 12 1 1 = nI ((nx + 1) % 8) ∧ x' 12 1 2 = nI (if c = 8 then 8 else c + 1) ∧ EqO (x' (nx + 4)) (x p) := by
  obtain ⟨o', e, he⟩ := ccp (x (nx + 4)) (x p)
  refine ⟨va_up (va_up x (nx + 4) o') 12 (va_up (x 12) 1 (upd (upd (x 12 1) 1 (nI ((nx + 1) % 8))) 2 (nI (if c = 8 then 8 else c + 1)))), ?_, fun q a b => ?_, fun r hr => ?_, ?_, ?_, ?_⟩
  · unfold D_X2_push
    simp only [h1, h2, wi8 hn, if_neg one_ne, inb_nI hn (show 8 < 2 ^ 31 by decide), nI_clamp (show nx < 2 ^ 31 by omega), e, ← nI_succ nx, flm8 (show nx + 1 < 9 by omega), min8 hc, Option.bind_some, ↓reduceIte]
  · rw [xs_ne b, xs_ne a]
  · rw [xs_self, vun _ _ _ hr]
  · rw [xs_self, va_up_self, upd_ne _ _ (by omega), upd_self]
  · rw [xs_self, va_up_self, upd_self]
  · rw [xs_ne (by omega), xs_self]; exact he
theorem is0 : is01 0 = true := by decide
theorem is1 : is01 1 = true := by decide
end
section
/-! the eight changes that may be refused -/
theorem bind_pair {A B : Type} (v : Option (A × B)) : (v.bind (fun (a, b) => some (a, b))) = v := by
  cases v with
  | none => rfl
  | some p => rfl
theorem co_dawn (o : Nat → Nat → Int32) (p2 p3 p4 : Int32) : D_X4_carryOut o 8 p2 p3 p4 = D_X4_letDawn o := by
  unfold D_X4_carryOut
  rw [if_neg (by decide), if_neg (by decide), if_neg (by decide), if_neg (by decide), if_neg (by decide), if_neg (by decide), if_neg (by decide), if_neg (by decide)]
  exact bind_pair _
theorem ch_r0 {x : Mem} {kd : Nat} {p1 p2 p3 r : Int32} {x' : Mem} (h : D_X9_change x kd p1 p2 p3 = some (1, r, x')) : r = 0 := by
  unfold D_X9_change at h
  obtain ⟨o2, -, h⟩ := bind_some h
  obtain ⟨⟨r4, o5⟩, -, h⟩ := bind_some h
  by_cases hr : r4 = -1
  · simp only [hr, ↓reduceIte, Option.some.injEq, Prod.mk.injEq] at h
    exact h.2.1.symm
  · simp only [hr, ↓reduceIte] at h
    obtain ⟨o9, -, h⟩ := bind_some h
    simp only [Option.some.injEq, Prod.mk.injEq] at h
    exact absurd h.1.symm one_ne
theorem co_cloud (o : Nat → Nat → Int32) (p2 p3 p4 : Int32) : D_X4_carryOut o 0 p2 p3 p4 = D_X4_letCome o p2 p3 p4 := by
  unfold D_X4_carryOut
  rw [if_pos (by decide)]
  exact bind_pair _
theorem co_vine (o : Nat → Nat → Int32) (p2 p3 p4 : Int32) : D_X4_carryOut o 1 p2 p3 p4 = D_X4_giveVineyard o p2 p3 := by
  unfold D_X4_carryOut
  rw [if_neg (by decide), if_pos (by decide)]
  exact bind_pair _
theorem co_title (o : Nat → Nat → Int32) (p2 p3 p4 : Int32) : D_X4_carryOut o 2 p2 p3 p4 = D_X4_giveTitle o p2 p3 := by
  unfold D_X4_carryOut
  rw [if_neg (by decide), if_neg (by decide), if_pos (by decide)]
  exact bind_pair _
theorem co_sell (o : Nat → Nat → Int32) (p2 p3 p4 : Int32) : D_X4_carryOut o 3 p2 p3 p4 = D_X4_sellTo o p2 p3 p4 := by
  unfold D_X4_carryOut
  rw [if_neg (by decide), if_neg (by decide), if_neg (by decide), if_pos (by decide)]
  exact bind_pair _
theorem co_pledge (o : Nat → Nat → Int32) (p2 p3 p4 : Int32) : D_X4_carryOut o 4 p2 p3 p4 = D_X4_pledgeTo o p2 p3 := by
  unfold D_X4_carryOut
  rw [if_neg (by decide), if_neg (by decide), if_neg (by decide), if_neg (by decide), if_pos (by decide)]
  exact bind_pair _
theorem co_redeem (o : Nat → Nat → Int32) (p2 p3 p4 : Int32) : D_X4_carryOut o 5 p2 p3 p4 = D_X4_redeemPledge o p2 := by
  unfold D_X4_carryOut
  rw [if_neg (by decide), if_neg (by decide), if_neg (by decide), if_neg (by decide), if_neg (by decide), if_pos (by decide)]
  exact bind_pair _
theorem co_wind (o : Nat → Nat → Int32) (p2 p3 p4 : Int32) : D_X4_carryOut o 6 p2 p3 p4 = D_X4_blow o p2 := by
  unfold D_X4_carryOut
  rw [if_neg (by decide), if_neg (by decide), if_neg (by decide), if_neg (by decide), if_neg (by decide), if_neg (by decide), if_pos (by decide)]
  exact bind_pair _
theorem co_hail (o : Nat → Nat → Int32) (p2 p3 p4 : Int32) : D_X4_carryOut o 7 p2 p3 p4 = D_X4_hailDown o p2 := by
  unfold D_X4_carryOut
  rw [if_neg (by decide), if_neg (by decide), if_neg (by decide), if_neg (by decide), if_neg (by decide), if_neg (by decide), if_neg (by decide), if_pos (by decide)]
  exact bind_pair _
end
section
/-! dawns, and what a wind would bring -/
theorem clm3 (c : Nat → Int32) (v : Int32) : clm (lps c) v 3 = if c 3 = -1 then v else if c 4 = c 1 then c 3 else v := by
  unfold clm lps D_X1_hasTitleForOtherShape
  simp only [hT]
  by_cases h3 : c 3 = -1
  · simp only [h3, ↓reduceIte]
    by_cases hv : v = -1
    · simp only [hv, ↓reduceIte, h3]
    · simp only [if_neg hv]; rfl
  · by_cases h4 : c 4 = c 1
    · simp only [h3, h4, ↓reduceIte]
    · simp only [h3, h4, ↓reduceIte, if_neg one_ne, show D_X1_loseTitle c 3 = -1 from rfl]
      by_cases hv : v = -1
      · simp only [hv, ↓reduceIte]; rfl
      · simp only [if_neg hv]; rfl
/-- who has cloud j behind the wind w and a dawn -/
def ow3 (o : Nat → Nat → Int32) (w : Int32) (j : Nat) : Int32 := if o (j + 7) 3 = -1 then o 2 (dv (o (j + 7) 0) w).toNatClampNeg else if o (j + 7) 4 = ds (o (j + 7) 1) w then o (j + 7) 3 else o 2 (dv (o (j + 7) 0) w).toNatClampNeg
def wval (o : Nat → Nat → Int32) (n : Nat) (p w : Int32) : Int32 := sumTo (fun j => if ow3 o w j = p then 1 else 0) n
end
section
/-! would, bestWind -/
theorem dem_iff (x : Int32) : D_X9_demandOwner x = 0 ↔ D_X9_isOwner x = 1 := by
  unfold D_X9_demandOwner
  rcases ow_cases x with ⟨e, -⟩ | ⟨e, -⟩
  · rw [if_pos e, e]; exact ⟨fun z => absurd z one_ne, fun z => absurd z.symm one_ne⟩
  · rw [if_neg (by rw [e]; exact one_ne)]; exact ⟨fun _ => e, fun _ => rfl⟩
/-- the best wind of the first t + 1 -/
def bestN (v : Int32 → Int32) : Nat → Int32
  | 0 => -3
  | t + 1 => if v (nI (t + 1) - 3) ≤ v (bestN v t) then bestN v t else nI (t + 1) - 3
theorem best_rng (v : Int32 → Int32) : ∀ t, t ≤ 6 → rng (bestN v t) (-3) 3
  | 0, _ => show rng (-3) (-3) 3 from ⟨by decide, by decide⟩
  | t + 1, h => by
    unfold bestN
    split
    · exact best_rng v t (by omega)
    · have e : (nI (t + 1) - 3).toInt = ((t + 1 : Nat) : Int) - 3 := pk_sub_toInt (a := t + 1) (b := 3) (by omega) (by omega)
      exact ⟨by rw [e]; omega, by rw [e]; omega⟩
theorem rng_t {t : Nat} (h : t ≤ 6) : rng (nI t - 3) (-3) 3 := by
  have e : (nI t - 3).toInt = (t : Int) - 3 := pk_sub_toInt (a := t) (b := 3) (by omega) (by omega)
  exact ⟨by rw [e]; omega, by rw [e]; omega⟩
theorem nI_3s (t : Nat) : nI t - 3 + 1 = nI (t + 1) - 3 := by rw [nI_succ]; grind only
theorem wval_cnt (o : Nat → Nat → Int32) (n : Nat) (p w : Int32) : ∃ c, c ≤ n ∧ wval o n p w = nI c := sumTo_cnt (fun j _ => by split <;> simp)
theorem bw_s (q : Nat) (x s : Mem) (p1 i3 i2 i : Int32) : L_X9_bestWind_12 (q + 1) x p1 i i3 i2 s = if 3 < i then (some (0, i2, s)) else ((D_X9_cloudsImagined s p1 i).bind (fun (r8, o9) => if r8 ≤ i3 then (L_X9_bestWind_12 q x p1 (i + 1) i3 i2 o9) else (L_X9_bestWind_12 q x p1 (i + 1) r8 i o9))) := rfl
end
section
/-! undo, save, restore -/
theorem flp8 {a : Nat} (ha : a < 8) : D_J9_floorMod_7cf53 (nI a - 1) 8 = some (nI ((a + 7) % 8)) := by
  rcases (show a = 0 ∨ a = 1 ∨ a = 2 ∨ a = 3 ∨ a = 4 ∨ a = 5 ∨ a = 6 ∨ a = 7 by omega) with rfl | rfl | rfl | rfl | rfl | rfl | rfl | rfl <;> decide +kernel
end
section
/-! readings: clouds, owners, vineyards -/
theorem two_ne : ¬ (2 : Int32) = 0 := by decide
theorem nI_ne {a b : Nat} (ha : a < 2 ^ 31) (hb : b < 2 ^ 31) (h : a ≠ b) : ¬ nI a = nI b := fun e => h (nI_eqI ha hb e)
theorem nI_neZ {a : Nat} (ha : a < 2 ^ 31) (h : a ≠ 0) : ¬ nI a = 0 := nI_ne (b := 0) ha (by omega) h
theorem nI_neO {a : Nat} (ha : a < 2 ^ 31) (h : a ≠ 1) : ¬ nI a = 1 := nI_ne (b := 1) ha (by omega) h
/-- each cloud has one owner, or none -/
theorem five {v : Int32} (h : rng v (-1) 3) : (if v = -1 then (1 : Int32) else 0) + (if v = nI 0 then 1 else 0) + (if v = nI 1 then 1 else 0) + (if v = nI 2 then 1 else 0) + (if v = nI 3 then 1 else 0) = 1 := by
  rcases rng_m (b := 3) h (by decide) with rfl | ⟨q, hq, rfl⟩
  · decide
  · rcases (show q = 0 ∨ q = 1 ∨ q = 2 ∨ q = 3 by omega) with rfl | rfl | rfl | rfl <;> decide
theorem add10 (a b c d e x y z u v : Int32) : (a + x) + (b + y) + (c + z) + (d + u) + (e + v) = (a + b + c + d + e) + (x + y + z + u + v) := by grind only
theorem sumTo_five (f : Nat → Int32) : ∀ n : Nat, (∀ j, j < n → rng (f j) (-1) 3) → sumTo (fun j => if f j = -1 then 1 else 0) n + sumTo (fun j => if f j = nI 0 then 1 else 0) n + sumTo (fun j => if f j = nI 1 then 1 else 0) n + sumTo (fun j => if f j = nI 2 then 1 else 0) n + sumTo (fun j => if f j = nI 3 then 1 else 0) n = nI n
  | 0, _ => rfl
  | n + 1, h => by
    have ih := sumTo_five f n (fun j hj => h j (by omega))
    have h5 := five (h n (by omega))
    rw [sumTo_s, sumTo_s, sumTo_s, sumTo_s, sumTo_s, add10, ih, nI_succ n]
    exact congrArg (nI n + ·) h5
theorem left_eq {o : Nat → Nat → Int32} {n : Nat} (hn : o 0 1 = nI n) (h6 : n ≤ 6) (hB : ∀ i, i < n → CB (o (i + 7))) {p : Nat} (hp : p < 4) : D_X4_cloudsLeftOver o (nI p) = some (sumTo (fun j => if o (j + 7) 3 = nI p then 1 else 0) n) := by
  have h5 := sumTo_five (fun j => o (j + 7) 3) n (fun j hj => (hB j hj).2.2.2.1)
  unfold D_X4_cloudsLeftOver
  rw [cc_eq hn h6]
  simp only [Option.bind_some, hn]
  have cc : ∀ q : Nat, D_X4_cloudsCounted o (nI q) = some (sumTo (fun j => if o (j + 7) 3 = nI q then 1 else 0) n) := fun q => cc_eq hn h6 _
  have st : ∀ (q i : Nat) (r1 a : Int32), i < 4 → L_X4_cloudsLeftOver_13 (q + 1) o (nI p) r1 (nI i) a = if nI i = nI p then L_X4_cloudsLeftOver_13 q o (nI p) r1 (nI (i + 1)) a else L_X4_cloudsLeftOver_13 q o (nI p) r1 (nI (i + 1)) (a - sumTo (fun j => if o (j + 7) 3 = nI i then 1 else 0) n) := fun q i r1 a hi => by
    simp only [L_X4_cloudsLeftOver_13, show ¬ (4 : Int32) ≤ nI i from nI_ge hi (by decide), cc i, Option.bind_some, ↓reduceIte, nI_succ]
  have fin : ∀ (q : Nat) (r1 a : Int32), L_X4_cloudsLeftOver_13 (q + 1) o (nI p) r1 (nI 4) a = some a := fun q r1 a => by
    simp only [L_X4_cloudsLeftOver_13, show (4 : Int32) ≤ nI 4 by decide, ↓reduceIte]
  show L_X4_cloudsLeftOver_13 (196 + 1 + 1 + 1 + 1) o (nI p) _ (nI 0) _ = _
  rw [st _ 0 _ _ (by omega)]
  generalize sumTo (fun j => if o (j + 7) 3 = -1 then 1 else 0) n = a0 at h5 ⊢
  rcases (show p = 0 ∨ p = 1 ∨ p = 2 ∨ p = 3 by omega) with rfl | rfl | rfl | rfl
  · rw [if_pos rfl, st _ 1 _ _ (by omega), if_neg (by decide), st _ 2 _ _ (by omega), if_neg (by decide), st _ 3 _ _ (by omega), if_neg (by decide), fin 195]
    congr 1
    grind only
  · rw [if_neg (by decide), st _ 1 _ _ (by omega), if_pos rfl, st _ 2 _ _ (by omega), if_neg (by decide), st _ 3 _ _ (by omega), if_neg (by decide), fin 195]
    congr 1
    grind only
  · rw [if_neg (by decide), st _ 1 _ _ (by omega), if_neg (by decide), st _ 2 _ _ (by omega), if_pos rfl, st _ 3 _ _ (by omega), if_neg (by decide), fin 195]
    congr 1
    grind only
  · rw [if_neg (by decide), st _ 1 _ _ (by omega), if_neg (by decide), st _ 2 _ _ (by omega), if_neg (by decide), st _ 3 _ _ (by omega), if_pos rfl, fin 195]
    congr 1
    grind only
end
section
/-! readings: winds, records, coins, reasons, accounts -/
def wdist (a b : Int32) : Int32 := if (((b - a) + 6) - ((b - a) + 6) / 6 * 6) ≤ 3 then ((b - a) + 6) - ((b - a) + 6) / 6 * 6 else (((b - a) + 6) - ((b - a) + 6) / 6 * 6) - 6
theorem wbt_cg {u v : Nat → Int32} (h : u 0 = v 0) (p : Int32) : ∀ (q : Nat) (i : Int32), L_X1_windByTrying_2 q u p i = L_X1_windByTrying_2 q v p i
  | 0, _ => rfl
  | q + 1, i => by
    have ih := wbt_cg h p q
    simp only [L_X1_windByTrying_2, D_X1_vineyardAfter, h, ih]
theorem fin_wind : ∀ (a b : Fin 6), D_X1_windByTrying (fun _ => nI a.val) (nI b.val) = some (wdist (nI a.val) (nI b.val)) ∧ D_X1_windByDistance (fun _ => nI a.val) (nI b.val) = some (wdist (nI a.val) (nI b.val)) := by decide +kernel
theorem wbt_eq {u : Nat → Int32} (h : rng (u 0) 0 5) {b : Nat} (hb : b < 6) : D_X1_windByTrying u (nI b) = some (wdist (u 0) (nI b)) ∧ D_X1_windByDistance u (nI b) = some (wdist (u 0) (nI b)) := by
  obtain ⟨a, ha, ea⟩ := rng_nI (b := 5) h (by decide)
  have hf := fin_wind ⟨a, by omega⟩ ⟨b, hb⟩
  refine ⟨?_, ?_⟩
  · have e : D_X1_windByTrying u (nI b) = D_X1_windByTrying (fun _ => nI a) (nI b) := wbt_cg (v := fun _ => nI a) ea (nI b) 200 0
    rw [e, hf.1, ea]
  · have e : D_X1_windByDistance u (nI b) = D_X1_windByDistance (fun _ => nI a) (nI b) := by unfold D_X1_windByDistance; rw [ea]
    rw [e, hf.2, ea]
theorem cl9' : (9 : Int32).toNatClampNeg = 9 := by decide
theorem sum4z (f : Nat → Int32) : sumTo (fun j => f j) 4 = f 0 + f 1 + f 2 + f 3 := by
  simp only [sumTo]
  grind only
theorem titled_eq {o : Nat → Nat → Int32} {n : Nat} (hn : o 0 1 = nI n) (h6 : n ≤ 6) : D_X4_titledClouds o = some (sumTo (fun j => if o (j + 7) 3 = -1 then 0 else 1) n) := by
  unfold D_X4_titledClouds
  rw [cc_eq hn h6]
  simp only [Option.bind_some, hn]
  have h := sumTo_two (f := fun j => if o (j + 7) 3 = -1 then 1 else 0) (g := fun j => if o (j + 7) 3 = -1 then 0 else 1) (n := n) (fun j _ => by
    by_cases h : o (j + 7) 3 = -1
    · simp only [if_pos h, Int32.add_zero]
    · simp only [if_neg h, Int32.zero_add])
  rw [← h]
  congr 1
  grind only
end
section
/-! means and shares: finitely many quotients -/
theorem fin_mean : ∀ (a : Fin 55) (b : Fin 6), n64b (FP.ddiv (FP.i2d (nI a.val)) (FP.i2d (nI (b.val + 1)))) = true ∧ Op.cmpValue (FP.dcmp (FP.ddiv (FP.i2d (nI a.val)) (FP.i2d (nI (b.val + 1)))) (FP.ddiv (FP.i2d (nI a.val)) (FP.i2d (nI (b.val + 1))))) .l = 0 := by decide +kernel
theorem fin_share : ∀ (a : Fin 7) (b : Fin 6), n32b (FP.fdiv (FP.i2f (nI a.val)) (FP.i2f (nI (b.val + 1)))) = true ∧ n64b (FP.f2d (FP.fdiv (FP.i2f (nI a.val)) (FP.i2f (nI (b.val + 1))))) = true ∧ Op.cmpValue (FP.dcmp (FP.f2d (FP.fdiv (FP.i2f (nI a.val)) (FP.i2f (nI (b.val + 1))))) (FP.f2d (FP.fdiv (FP.i2f (nI a.val)) (FP.i2f (nI (b.val + 1)))))) .l = 0 := by decide +kernel
theorem sumTo_max {f : Nat → Int32} {b : Nat} : ∀ {n : Nat}, (∀ j, j < n → ∃ q, q ≤ b ∧ f j = nI q) → ∃ s, s ≤ b * n ∧ sumTo f n = nI s
  | 0, _ => ⟨0, Nat.le_refl 0, rfl⟩
  | n + 1, h => by
    obtain ⟨s, hs, e⟩ := sumTo_max (f := f) (b := b) (n := n) (fun j hj => h j (by omega))
    obtain ⟨q, hq, e2⟩ := h n (by omega)
    exact ⟨s + q, by rw [Nat.mul_succ]; omega, by rw [sumTo_s, e, e2, nI_add]⟩
end
section
/-! places in an order -/
theorem php : ∀ (n : Nat) (f : Nat → Nat), (∀ i, i < n → f i < n) → (∀ i, i < n → ∀ j, j < n → f i = f j → i = j) → ∀ p, p < n → ∃ i, i < n ∧ f i = p
  | 0, _, _, _, p, hp => absurd hp (Nat.not_lt_zero p)
  | n + 1, f, hf, hi, p, hp => by
    have ih := php n (fun i => if f i = n then f n else f i) (fun i h => by
      show (if f i = n then f n else f i) < n
      have h1 := hf i (by omega)
      have h2 := hf n (by omega)
      split
      · rename_i he
        have : f n ≠ n := fun z => by have := hi i (by omega) n (by omega) (by rw [he, z]); omega
        omega
      · omega) (fun i h j h2 e => by
      have e : (if f i = n then f n else f i) = (if f j = n then f n else f j) := e
      split at e
      · rename_i a
        split at e
        · rename_i b
          exact hi i (by omega) j (by omega) (by rw [a, b])
        · have := hi n (by omega) j (by omega) e; omega
      · split at e
        · have := hi i (by omega) n (by omega) e; omega
        · exact hi i (by omega) j (by omega) e)
    by_cases ha : p = f n
    · exact ⟨n, by omega, ha.symm⟩
    · by_cases hpn : p = n
      · obtain ⟨i, h1, h2⟩ := ih (f n) (by have := hf n (by omega); omega)
        have h2 : (if f i = n then f n else f i) = f n := h2
        split at h2
        · rename_i a
          exact ⟨i, by omega, by rw [a, hpn]⟩
        · have := hi i (by omega) n (by omega) h2; omega
      · obtain ⟨i, h1, h2⟩ := ih p (by omega)
        have h2 : (if f i = n then f n else f i) = p := h2
        split at h2
        · exact absurd h2.symm ha
        · exact ⟨i, by omega, h2⟩
def cnt (f : Nat → Nat) (v : Nat) : Nat → Nat
  | 0 => 0
  | n + 1 => cnt f v n + (if f n < v then 1 else 0)
theorem cnt_le (f : Nat → Nat) (v : Nat) : ∀ n, cnt f v n ≤ n
  | 0 => Nat.le_refl 0
  | n + 1 => by
    have := cnt_le f v n
    show cnt f v n + (if f n < v then 1 else 0) ≤ n + 1
    split <;> omega
theorem cnt_mono (f : Nat → Nat) {v w : Nat} (h : v ≤ w) : ∀ n, cnt f v n ≤ cnt f w n
  | 0 => Nat.le_refl 0
  | n + 1 => by
    have := cnt_mono f h n
    show cnt f v n + (if f n < v then 1 else 0) ≤ cnt f w n + (if f n < w then 1 else 0)
    split <;> split <;> omega
/-- a number between counts for the greater one alone -/
theorem cnt_lt (f : Nat → Nat) {v w : Nat} (h : v ≤ w) : ∀ (n i : Nat), i < n → v ≤ f i → f i < w → cnt f v n < cnt f w n
  | 0, i, hi, _, _ => absurd hi (Nat.not_lt_zero i)
  | n + 1, i, hi, h1, h2 => by
    show cnt f v n + (if f n < v then 1 else 0) < cnt f w n + (if f n < w then 1 else 0)
    by_cases e : i = n
    · subst e
      have := cnt_mono f h i
      rw [if_neg (by omega), if_pos h2]; omega
    · have := cnt_lt f h n i (by omega) h1 h2
      split <;> split <;> omega
theorem cnt_top (f : Nat → Nat) {n i : Nat} (hi : i < n) : cnt f (f i) n < n := by
  have h1 : cnt f (f i) n < cnt f (f i + 1) n := cnt_lt f (Nat.le_succ (f i)) n i hi (Nat.le_refl _) (Nat.lt_succ_self _)
  have h2 := cnt_le f (f i + 1) n
  omega
/-- each place is somebody's -/
theorem place_ex (f : Nat → Nat) {n : Nat} (hf : ∀ i, i < n → ∀ j, j < n → f i = f j → i = j) {p : Nat} (hp : p < n) : ∃ i, i < n ∧ cnt f (f i) n = p := by
  refine php n (fun i => cnt f (f i) n) (fun i hi => cnt_top f hi) (fun i hi j hj e => ?_) p hp
  have e : cnt f (f i) n = cnt f (f j) n := e
  rcases Nat.lt_trichotomy (f i) (f j) with h | h | h
  · have := cnt_lt f (Nat.le_of_lt h) n i hi (Nat.le_refl _) h; omega
  · exact hf i hi j hj h
  · have := cnt_lt f (Nat.le_of_lt h) n j hj (Nat.le_refl _) h; omega
theorem place_un (f : Nat → Nat) {n : Nat} (hf : ∀ i, i < n → ∀ j, j < n → f i = f j → i = j) {i j : Nat} (hi : i < n) (hj : j < n) (e : cnt f (f i) n = cnt f (f j) n) : i = j := by
  rcases Nat.lt_trichotomy (f i) (f j) with h | h | h
  · have := cnt_lt f (Nat.le_of_lt h) n i hi (Nat.le_refl _) h; omega
  · exact hf i hi j hj h
  · have := cnt_lt f (Nat.le_of_lt h) n j hj (Nat.le_refl _) h; omega
theorem sumTo_lt (f : Nat → Nat) (v : Nat) : ∀ n, sumTo (fun j => if f j < v then (1 : Int32) else 0) n = nI (cnt f v n)
  | 0 => rfl
  | n + 1 => by
    rw [sumTo_s, sumTo_lt f v n]
    show _ = nI (cnt f v n + (if f n < v then 1 else 0))
    by_cases h : f n < v
    · simp only [if_pos h, nI_succ]
    · simp only [if_neg h, Int32.add_zero, Nat.add_zero]
/-- the order of clouds, as a number: the less, the more ahead -/
def kc (c : Nat → Int32) (i : Nat) : Nat := ((9 - (c 2).toInt.toNat) * 2 + (if c 3 = -1 then 1 else 0)) * 8 + i
theorem kc_inj (cs : Nat → Nat → Int32) {n : Nat} (h6 : n ≤ 6) : ∀ i, i < n → ∀ j, j < n → kc (cs i) i = kc (cs j) j → i = j := by
  intro i hi j hj e
  unfold kc at e
  omega
theorem kc_lt {c d : Nat → Int32} {i j s t : Nat} (hi : i < 6) (hj : j < 6) (hs : s ≤ 9) (ht : t ≤ 9) (es : c 2 = nI s) (et : d 2 = nI t) :
    kc c i < kc d j ↔ (t < s ∨ (t = s ∧ (¬ c 3 = -1 ∧ d 3 = -1 ∨ ((c 3 = -1 ↔ d 3 = -1) ∧ i < j)))) := by
  unfold kc
  rw [es, et, nI_toInt (by omega), nI_toInt (by omega)]
  by_cases h1 : c 3 = -1 <;> by_cases h2 : d 3 = -1 <;> simp [h1, h2] <;> omega
theorem ahead_eq {c d : Nat → Int32} {s t : Nat} (hs : s ≤ 9) (ht : t ≤ 9) (es : c 2 = nI s) (et : d 2 = nI t) : D_X1_isAheadOf c d = if t < s ∨ (t = s ∧ ¬ c 3 = -1 ∧ d 3 = -1) then 1 else 0 := by
  unfold D_X1_isAheadOf
  rw [es, et]
  simp only [hT]
  by_cases h : s = t
  · subst h
    rw [if_pos rfl]
    by_cases h1 : c 3 = -1
    · rw [if_pos h1, if_neg (by grind)]
    · rw [if_neg h1]
      by_cases h2 : d 3 = -1
      · rw [if_pos h2, if_pos (by grind)]
      · rw [if_neg h2, if_neg (by grind)]
  · rw [if_neg (nI_ne (by omega) (by omega) h)]
    by_cases h1 : s ≤ t
    · rw [if_pos ((nI_leJ (by omega) (by omega)).mpr h1), if_neg (by grind)]
    · rw [if_neg (fun z => h1 ((nI_leJ (by omega) (by omega)).mp z)), if_pos (by grind)]
theorem cahead_eq {o : Nat → Nat → Int32} {n : Nat} (hn : o 0 1 = nI n) (h6 : n ≤ 6) (hB : ∀ i, i < n → CB (o (i + 7))) {i j : Nat} (hi : i < n) (hj : j < n) : D_X4_isCloudAhead o (nI j) (nI i) = some (if kc (o (j + 7)) j < kc (o (i + 7)) i then 1 else 0) := by
  have hc : ∀ q : Nat, q < n → D_X4_hasCloud o (nI q) = 1 := fun q hq => by
    unfold D_X4_hasCloud
    rw [hn, wi_iff, nI_toInt (by omega), nI_toInt (by omega), if_pos (by grind)]
  obtain ⟨s, -, hs, es⟩ := (hB j hj).size
  obtain ⟨t, -, ht, et⟩ := (hB i hi).size
  unfold D_X4_isCloudAhead
  rw [hc j hj, hc i hi, if_neg one_ne, if_neg one_ne, if_pos (inb_nI (show j < 6 by omega) (by decide)), if_pos (inb_nI (show i < 6 by omega) (by decide)), nI_clamp (show j < 2 ^ 31 by omega), nI_clamp (show i < 2 ^ 31 by omega), ahead_eq hs ht es et, ahead_eq ht hs et es, if_pos (inb_nI (show i < 6 by omega) (by decide)), if_pos (inb_nI (show j < 6 by omega) (by decide))]
  have key := kc_lt (c := o (j + 7)) (d := o (i + 7)) (show j < 6 by omega) (show i < 6 by omega) hs ht es et
  have hle : nI i ≤ nI j ↔ i ≤ j := nI_leJ (by omega) (by omega)
  by_cases c1 : t < s ∨ (t = s ∧ ¬ o (j + 7) 3 = -1 ∧ o (i + 7) 3 = -1)
  · rw [if_pos c1, if_neg one_ne, if_pos (key.mpr (by grind))]
  · rw [if_neg c1, if_pos rfl]
    by_cases c2 : i ≤ j
    · rw [if_pos (hle.mpr c2), if_neg (fun z => by have := key.mp z; grind)]
    · rw [if_neg (fun z => c2 (hle.mp z))]
      by_cases c3 : s < t ∨ (s = t ∧ ¬ o (i + 7) 3 = -1 ∧ o (j + 7) 3 = -1)
      · rw [if_pos c3, if_neg one_ne, if_neg (fun z => by have := key.mp z; grind)]
      · rw [if_neg c3, if_pos rfl, if_pos (key.mpr (by grind))]
end
section
/-! the greatest clouds -/
theorem sub9 : ∀ s t : Fin 10, ((0 : Int32) < nI s.val - nI t.val ↔ t.val < s.val) ∧ (nI s.val - nI t.val = 0 ↔ s.val = t.val) := by decide
theorem sub9' {s t : Nat} (hs : s ≤ 9) (ht : t ≤ 9) : ((0 : Int32) < nI s - nI t ↔ t < s) ∧ (nI s - nI t = 0 ↔ s = t) := sub9 ⟨s, by omega⟩ ⟨t, by omega⟩
theorem cahead_all {o : Nat → Nat → Int32} {n : Nat} (hn : o 0 1 = nI n) (h6 : n ≤ 6) (hB : ∀ i, i < n → CB (o (i + 7))) {i : Nat} (hi : i < n) : D_X4_cloudsAheadOf o (nI i) = some (nI (cnt (fun j => kc (o (j + 7)) j) (kc (o (i + 7)) i) n)) := by
  rw [← sumTo_lt]
  refine loop_sumG (L := fun q j a => L_X4_cloudsAheadOf_4 q o (nI i) j a) some n _ (fun q j a hj => ?_) (fun q a => ?_) 200 (by omega)
  · simp only [L_X4_cloudsAheadOf_4, hn, nI_ge hj (show n < 2 ^ 31 by omega), cahead_eq hn h6 hB hi hj, Option.bind_some, ↓reduceIte, nI_succ]
    by_cases hk : kc (o (j + 7)) j < kc (o (i + 7)) i
    · simp only [if_pos hk, if_neg one_ne]
    · simp only [if_neg hk, ↓reduceIte, Int32.add_zero]
  · simp only [L_X4_cloudsAheadOf_4, hn, nI_le (Nat.le_refl n) (show n < 2 ^ 31 by omega), ↓reduceIte]
/-- a search that finds its first hit -/
theorem loop_find {S R : Type} {L : Nat → Int32 → S → Option R} (n : Nat) (Rel : S → Prop) (step : ∀ (q k : Nat) (s : S), k < n → Rel s → ∃ s', L (q + 1) (nI k) s = L q (nI (k + 1)) s' ∧ Rel s') (q : Nat) (s : S) (hq : n < q) (hR : Rel s) : ∃ (z : Nat) (s' : S), L q (nI 0) s = L (z + 1) (nI n) s' ∧ Rel s' := by
  obtain ⟨s', e, h⟩ := loop_up (L := L) n (fun _ s => Rel s) (fun q k s hk h => step q k s hk h) q s (by omega) hR
  exact ⟨q - n - 1, s', by rw [e]; congr 1; omega, h⟩
theorem cplace_eq {o : Nat → Nat → Int32} {n : Nat} (hn : o 0 1 = nI n) (h6 : n ≤ 6) (hB : ∀ i, i < n → CB (o (i + 7))) {p i : Nat} (hp : p < n) (hi : i < n) (e : cnt (fun j => kc (o (j + 7)) j) (kc (o (i + 7)) i) n = p) : D_X4_cloudAtPlace o (nI p) = some (nI i) := by
  obtain ⟨z, s', e1, -⟩ := loop_find (L := fun q j (_ : Unit) => L_X4_cloudAtPlace_2 q o (nI p) j) i (fun _ => True) (fun q j s hj _ => ⟨(), by
    have hne : ¬ nI (cnt (fun j => kc (o (j + 7)) j) (kc (o (j + 7)) j) n) = nI p := fun z => by
      have hc := cnt_le (fun j => kc (o (j + 7)) j) (kc (o (j + 7)) j) n
      have := nI_eqI (by omega) (by omega) z
      have := place_un (fun j => kc (o (j + 7)) j) (kc_inj (fun j => o (j + 7)) h6) (show j < n by omega) hi (by rw [e]; exact this)
      omega
    simp only [L_X4_cloudAtPlace_2, hn, nI_ge (show j < n by omega) (show n < 2 ^ 31 by omega), cahead_all hn h6 hB (show j < n by omega), Option.bind_some, if_neg hne, ↓reduceIte, nI_succ], trivial⟩) 200 () (by omega) trivial
  show L_X4_cloudAtPlace_2 200 o (nI p) (nI 0) = _
  refine Eq.trans e1 ?_
  simp only [L_X4_cloudAtPlace_2, hn, nI_ge hi (show n < 2 ^ 31 by omega), cahead_all hn h6 hB hi, Option.bind_some, e, ↓reduceIte]
end
section
/-! the owners in their order -/
theorem subN {a b : Nat} (ha : a < 2 ^ 30) (hb : b < 2 ^ 30) : ((0 : Int32) < nI a - nI b ↔ b < a) ∧ (nI a - nI b = 0 ↔ a = b) ∧ (nI a - nI b ≤ 0 ↔ a ≤ b) := by
  have e : (nI a - nI b).toInt = (a : Int) - b := pk_sub_toInt (a := a) (b := b) (by omega) (by omega)
  refine ⟨?_, ⟨fun h => ?_, fun h => ?_⟩, ?_⟩
  · rw [lt_toInt, toInt_0, e]; omega
  · have : (nI a - nI b).toInt = 0 := by rw [h, toInt_0]
    rw [e] at this; omega
  · refine of_toInt ?_
    rw [e, toInt_0]; omega
  · rw [le_toInt, toInt_0, e]; omega
def kr (c f i : Nat) : Nat := ((6 - c) * 2 ^ 20 + (2 ^ 20 - 1 - f)) * 4 + i
theorem kr_lt {c d f g i j : Nat} (hc : c ≤ 6) (hd : d ≤ 6) (hf : f < 2 ^ 20) (hg : g < 2 ^ 20) (hi : i < 4) (hj : j < 4) : kr c f i < kr d g j ↔ (d < c ∨ (d = c ∧ (g < f ∨ (g = f ∧ i < j)))) := by
  unfold kr; omega
theorem kr_inj (C F : Nat → Nat) : ∀ i, i < 4 → ∀ j, j < 4 → kr (C i) (F i) i = kr (C j) (F j) j → i = j := by
  intro i hi j hj e
  unfold kr at e
  omega
section RK
variable {o : Nat → Nat → Int32} {n : Nat} {C F K : Nat → Nat}
theorem oahead_eq (hn : o 0 1 = nI n) (h6 : n ≤ 6) (hC : ∀ j, j < 4 → sumTo (fun i => if o (i + 7) 3 = nI j then 1 else 0) n = nI (C j) ∧ C j ≤ 6) (hF : ∀ j, j < 4 → o 3 j = nI (F j) ∧ F j < 2 ^ 20) (hK : ∀ i, i < 4 → ∀ j, j < 4 → (K j < K i ↔ (C i < C j ∨ (C i = C j ∧ (F i < F j ∨ (F i = F j ∧ j < i)))))) {i j : Nat} (hi : i < 4) (hj : j < 4) : D_X4_isOwnerAhead o (nI j) (nI i) = some (if K j < K i then 1 else 0) := by
  unfold D_X4_isOwnerAhead
  rw [cc_eq hn h6, cc_eq hn h6, (hC j hj).1, (hC i hi).1, pu_eq o hj, pu_eq o hi, (hF j hj).1, (hF i hi).1]
  have hCj := (hC j hj).2
  have hCi := (hC i hi).2
  have hFj := (hF j hj).2
  have hFi := (hF i hi).2
  have s1 := subN (a := C j) (b := C i) (by omega) (by omega)
  have key := hK i hi j hj
  simp only [Option.bind_some, s1.2.1, s1.2.2, nI_leJ (show i < 2 ^ 31 by omega) (show j < 2 ^ 31 by omega), nI_leJ (show F j < 2 ^ 31 by omega) (show F i < 2 ^ 31 by omega), nI_eq (show F j < 2 ^ 31 by omega) (show F i < 2 ^ 31 by omega)]
  by_cases hk : K j < K i
  · rw [if_pos hk]
    have hk := key.mp hk
    clear key
    grind only
  · rw [if_neg hk]
    have hk : ¬ _ := fun z => hk (key.mpr z)
    clear key
    grind only
theorem oahead_all (hn : o 0 1 = nI n) (h6 : n ≤ 6) (hC : ∀ j, j < 4 → sumTo (fun i => if o (i + 7) 3 = nI j then 1 else 0) n = nI (C j) ∧ C j ≤ 6) (hF : ∀ j, j < 4 → o 3 j = nI (F j) ∧ F j < 2 ^ 20) (hK : ∀ i, i < 4 → ∀ j, j < 4 → (K j < K i ↔ (C i < C j ∨ (C i = C j ∧ (F i < F j ∨ (F i = F j ∧ j < i)))))) {i : Nat} (hi : i < 4) : D_X4_ownersAheadOf o (nI i) = some (nI (cnt K (K i) 4)) := by
  rw [← sumTo_lt]
  refine loop_sumG (L := fun q j a => L_X4_ownersAheadOf_4 q o (nI i) j a) some 4 _ (fun q j a hj => ?_) (fun q a => ?_) 200 (by omega)
  · simp only [L_X4_ownersAheadOf_4, show ¬ (4 : Int32) ≤ nI j from nI_ge hj (by decide), oahead_eq hn h6 hC hF hK hi hj, Option.bind_some, ↓reduceIte, nI_succ]
    by_cases hk : K j < K i
    · simp only [if_pos hk, if_neg one_ne]
    · simp only [if_neg hk, ↓reduceIte, Int32.add_zero]
  · simp only [L_X4_ownersAheadOf_4, show (4 : Int32) ≤ nI 4 by decide, ↓reduceIte]
theorem oplace_eq (hinj : ∀ i, i < 4 → ∀ j, j < 4 → K i = K j → i = j) (hn : o 0 1 = nI n) (h6 : n ≤ 6) (hC : ∀ j, j < 4 → sumTo (fun i => if o (i + 7) 3 = nI j then 1 else 0) n = nI (C j) ∧ C j ≤ 6) (hF : ∀ j, j < 4 → o 3 j = nI (F j) ∧ F j < 2 ^ 20) (hK : ∀ i, i < 4 → ∀ j, j < 4 → (K j < K i ↔ (C i < C j ∨ (C i = C j ∧ (F i < F j ∨ (F i = F j ∧ j < i)))))) {p i : Nat} (hp : p < 4) (hi : i < 4) (e : cnt K (K i) 4 = p) : D_X4_ownerAtPlace o (nI p) = some (nI i) := by
  obtain ⟨z, s', e1, -⟩ := loop_find (L := fun q j (_ : Unit) => L_X4_ownerAtPlace_2 q o (nI p) j) i (fun _ => True) (fun q j s hj _ => ⟨(), by
    have hne : ¬ nI (cnt K (K j) 4) = nI p := fun z => by
      have hc := cnt_le K (K j) 4
      have := nI_eqI (by omega) (by omega) z
      have := place_un K hinj (show j < 4 by omega) hi (by rw [e]; exact this)
      omega
    simp only [L_X4_ownerAtPlace_2, show ¬ (4 : Int32) ≤ nI j from nI_ge (show j < 4 by omega) (by decide), oahead_all hn h6 hC hF hK (show j < 4 by omega), Option.bind_some, if_neg hne, ↓reduceIte, nI_succ], trivial⟩) 200 () (by omega) trivial
  show L_X4_ownerAtPlace_2 200 o (nI p) (nI 0) = _
  refine Eq.trans e1 ?_
  simp only [L_X4_ownerAtPlace_2, show ¬ (4 : Int32) ≤ nI i from nI_ge hi (by decide), oahead_all hn h6 hC hF hK hi, Option.bind_some, e, ↓reduceIte]
end RK
end
section
/-! what is fed, and the text -/
end
section
/-! signs behind signs, both ways -/
theorem fin_ch : ∀ v : Fin 128, vp_nar .byte ((nI v.val).toInt8.toInt32) = nI v.val ∧ ¬ D_J1_canEncode_fc78d (nI v.val) = 0 ∧ vp_nar .char (((nI v.val).toUInt32 % 65536).toInt32) = nI v.val ∧ isCh ((((nI v.val) &&& 255).toUInt32 % 65536).toInt32) = true ∧ ((((nI v.val) &&& 255).toUInt32 % 65536).toInt32) = nI v.val ∧ isCh (nI v.val) = true ∧ vp_nar .byte (nI v.val) = nI v.val := by decide +kernel
theorem fin_dg : ∀ v : Fin 10, D_J6_stringSize_0f7a4 (nI v.val) = some 1 ∧ (0 : Int32) ≤ nI v.val ∧ (-100 : Int32) < -nI v.val ∧ inb (-(-nI v.val)) 100 = true ∧ (-9 : Int32) ≤ -nI v.val ∧ (-(-nI v.val)).toNatClampNeg % 10 = v.val ∧ (48 : Int32) + nI v.val = nI (48 + v.val) := by decide +kernel
theorem fin_cap : ∀ l : Fin 16, nI l.val + 1 - ((16 : Int32) >>> ((0 : Int32) &&& 31)) ≤ 0 ∧ inb (nI l.val) 16 = true ∧ inb (nI l.val) 24 = true ∧ nI l.val + 1 + -1 = nI l.val := by decide +kernel
def TT (l : Nat) (x : Mem) (m : Nat → Nat → Int32) : Prop := x 12 31 1 = 0 ∧ x 12 31 3 = nI l ∧ m 0 17 = nI l ∧ ∀ j, j < l → x 12 32 j = m 4 j ∧ rng (m 4 j) 0 127
def FX (x x' : Mem) : Prop := (∀ q, q ≠ 12 → x' q = x q) ∧ ∀ r, r ≠ 31 → r ≠ 32 → x' 12 r = x 12 r
def FM (m m' : Nat → Nat → Int32) : Prop := (∀ r, r ≠ 0 → r ≠ 4 → m' r = m r) ∧ ∀ j, j ≠ 17 → m' 0 j = m 0 j
theorem FX.trans {x y z : Mem} (h : FX x y) (g : FX y z) : FX x z := ⟨fun q a => (g.1 q a).trans (h.1 q a), fun r a b => (g.2 r a b).trans (h.2 r a b)⟩
theorem FM.trans {x y z : Nat → Nat → Int32} (h : FM x y) (g : FM y z) : FM x z := ⟨fun q a b => (g.1 q a b).trans (h.1 q a b), fun r a => (g.2 r a).trans (h.2 r a)⟩
theorem FX.refl (x : Mem) : FX x x := ⟨fun _ _ => rfl, fun _ _ _ => rfl⟩
theorem FM.refl (m : Nat → Nat → Int32) : FM m m := ⟨fun _ _ _ => rfl, fun _ _ => rfl⟩
theorem rng_v {v : Nat} (h : v < 128) : rng (nI v) 0 127 := by
  have := nI_toInt (n := v) (by omega)
  exact ⟨by omega, by omega⟩
theorem mwrF (m : Nat → Nat → Int32) (l v : Nat) : FM m (va_up (va_up m 4 (upd (m 4) l (nI v))) 0 (upd (m 0) 17 (nI (l + 1)))) := ⟨fun r a b => by rw [vun _ _ _ a, vun _ _ _ b], fun j a => by rw [va_up_self, upd_ne _ _ a]⟩
theorem len0 {k : Nat} {x : Mem} {m : Nat → Nat → Int32} (h : ITxt x m) : ∃ x' : Mem, D_J4_setLength_d00df x 0 = some x' ∧ TT 0 x' (va_up (va_up m 0 (upd (m 0) 0 0)) 0 (upd (va_up m 0 (upd (m 0) 0 0) 0) 17 0)) ∧ FX x x' := by
  obtain ⟨l, h0, h1, h2, h3, h4⟩ := h
  have hc : (0 : Int32) - ((16 : Int32) >>> ((0 : Int32) &&& 31)) ≤ 0 := by decide
  have hle : (0 : Int32) ≤ nI l := by rw [le_toInt, toInt_0, nI_toInt (by omega)]; omega
  unfold D_J4_setLength_d00df D_J5_setLength_d00df D_J5_ensureCapacityInternal_d00df
  rw [h1, if_pos (by decide), if_pos hc]
  simp only [Option.bind_some, h2, if_pos hle]
  by_cases hl : nI l ≤ 0
  · rw [if_pos hl]
    refine ⟨_, rfl, ⟨?_, ?_, ?_, fun j hj => absurd hj (Nat.not_lt_zero j)⟩, fun q a => xs_ne a, fun r a b => by rw [xs_self, vun _ _ _ a]⟩
    · rw [xs_self, va_up_self, upd_ne _ _ (by omega)]; exact h1
    · rw [xs_self, va_up_self, upd_self]; rfl
    · rw [va_up_self, upd_self]; rfl
  · rw [if_neg hl]
    refine ⟨_, rfl, ⟨?_, ?_, ?_, fun j hj => absurd hj (Nat.not_lt_zero j)⟩, fun q a => xs_ne a, fun r a b => by rw [xs_self, vun _ _ _ a]⟩
    · rw [xs_self, va_up_self, upd_ne _ _ (by omega), upd_ne _ _ (by omega)]; exact h1
    · rw [xs_self, va_up_self, upd_self]; rfl
    · rw [va_up_self, upd_self]; rfl
end
section
/-! lines, characters -/
theorem CB.v {c : Nat → Int32} (h : CB c) : ∃ v, v < 6 ∧ c 0 = nI v := by
  obtain ⟨a, ha, ea⟩ := rng_nI (b := 5) h.1 (by decide)
  exact ⟨a, by omega, ea⟩
theorem CB.s {c : Nat → Int32} (h : CB c) : ∃ v, v < 6 ∧ c 1 = nI v := by
  obtain ⟨a, ha, ea⟩ := rng_nI (b := 5) h.2.1 (by decide)
  exact ⟨a, by omega, ea⟩
end
section
/-! lines about dawns, characters -/
end
