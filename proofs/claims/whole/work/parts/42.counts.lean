/-! the counting loops, told as sums -/
theorem loop_sumG {R : Type} {L : Nat → Int32 → Int32 → Option R} (fin : Int32 → Option R) (n : Nat) (f : Nat → Int32) (h1 : ∀ (q k : Nat) (a : Int32), k < n → L (q + 1) (nI k) a = L q (nI (k + 1)) (a + f k)) (h2 : ∀ (q : Nat) (a : Int32), L (q + 1) (nI n) a = fin a) (q : Nat) (hq : n < q) : L q 0 0 = fin (sumTo f n) := by
  obtain ⟨s', e, h⟩ := loop_up (L := L) n (fun k a => a = sumTo f k) (fun q k s hk hR => ⟨s + f k, h1 q k s hk, by rw [hR]; rfl⟩) q 0 (by omega) rfl
  have e' : L q 0 0 = L q (nI 0) 0 := by rw [nI_0]
  rw [e', e, h]
  obtain ⟨z, hz⟩ : ∃ z, q - n = z + 1 := ⟨q - n - 1, by omega⟩
  rw [hz]
  exact h2 z _
section CNT
variable {o : Nat → Nat → Int32} {n : Nat}
theorem cc_eq (hn : o 0 1 = nI n) (h6 : n ≤ 6) (p : Int32) : D_X4_cloudsCounted o p = some (sumTo (fun j => if o (j + 7) 3 = p then 1 else 0) n) := by
  refine loop_sumG (L := fun q i a => L_X4_cloudsCounted_4 q o p i a) some n _ (fun q k a hk => ?_) (fun q a => ?_) 200 (by omega)
  · simp only [L_X4_cloudsCounted_4, hn, nI_ge hk (show n < 2 ^ 31 by omega), inb_nI (show k < 6 by omega) (show 6 < 2 ^ 31 by decide), nI_clamp (show k < 2 ^ 31 by omega), ↓reduceIte, nI_succ]
    split <;> simp only [Int32.add_zero]
  · simp only [L_X4_cloudsCounted_4, hn, nI_le (Nat.le_refl n) (show n < 2 ^ 31 by omega), ↓reduceIte]
theorem sz_eq (hn : o 0 1 = nI n) (h6 : n ≤ 6) : D_X4_sizes o = some (sumTo (fun j => o (j + 7) 2) n) := by
  refine loop_sumG (L := fun q i a => L_X4_sizes_4 q o i a) some n _ (fun q k a hk => ?_) (fun q a => ?_) 200 (by omega)
  · simp only [L_X4_sizes_4, hn, nI_ge hk (show n < 2 ^ 31 by omega), inb_nI (show k < 6 by omega) (show 6 < 2 ^ 31 by decide), nI_clamp (show k < 2 ^ 31 by omega), ↓reduceIte, nI_succ]
  · simp only [L_X4_sizes_4, hn, nI_le (Nat.le_refl n) (show n < 2 ^ 31 by omega), ↓reduceIte]
theorem pc_eq (hn : o 0 1 = nI n) (h6 : n ≤ 6) : D_X4_pledgedClouds o = some (sumTo (fun j => if D_X1_isPledged (o (j + 7)) = 0 then 0 else 1) n) := by
  refine loop_sumG (L := fun q i a => L_X4_pledgedClouds_4 q o i a) some n _ (fun q k a hk => ?_) (fun q a => ?_) 200 (by omega)
  · simp only [L_X4_pledgedClouds_4, hn, nI_ge hk (show n < 2 ^ 31 by omega), inb_nI (show k < 6 by omega) (show 6 < 2 ^ 31 by decide), nI_clamp (show k < 2 ^ 31 by omega), ↓reduceIte, nI_succ]
    split <;> simp only [Int32.add_zero]
  · simp only [L_X4_pledgedClouds_4, hn, nI_le (Nat.le_refl n) (show n < 2 ^ 31 by omega), ↓reduceIte]
theorem tv_eq (hn : o 0 1 = nI n) (h6 : n ≤ 6) (p w : Int32) : L_X4_tellOfVineyard_27 200 o p w 0 0 = some (sumTo (fun j => if o (j + 7) 0 = p then (if w = 1 then 1 else o (j + 7) 2) else 0) n) := by
  refine loop_sumG (L := fun q i a => L_X4_tellOfVineyard_27 q o p w i a) some n _ (fun q k a hk => ?_) (fun q a => ?_) 200 (by omega)
  · simp only [L_X4_tellOfVineyard_27, hn, nI_ge hk (show n < 2 ^ 31 by omega), inb_nI (show k < 6 by omega) (show 6 < 2 ^ 31 by decide), nI_clamp (show k < 2 ^ 31 by omega), ↓reduceIte, nI_succ]
    by_cases hp : o (k + 7) 0 = p <;> by_cases hw : w = 1 <;> simp only [hp, hw, ↓reduceIte, Int32.add_zero]
  · simp only [L_X4_tellOfVineyard_27, hn, nI_le (Nat.le_refl n) (show n < 2 ^ 31 by omega), ↓reduceIte]
theorem to_eq (hn : o 0 1 = nI n) (h6 : n ≤ 6) (p w : Int32) : L_X4_tellOfOwner_26 200 o p w 0 0 = some (sumTo (fun j => if w = 2 then (if o (j + 7) 5 = p then 1 else 0) else if w = 3 then (if o (j + 7) 3 = p then (if D_X1_isPledged (o (j + 7)) = 0 then 0 else 1) else 0) else if w = 4 then (if o (j + 7) 3 = p then o (j + 7) 2 else 0) else 0) n) := by
  refine loop_sumG (L := fun q i a => L_X4_tellOfOwner_26 q o p w i a) some n _ (fun q k a hk => ?_) (fun q a => ?_) 200 (by omega)
  · simp only [L_X4_tellOfOwner_26, hn, nI_ge hk (show n < 2 ^ 31 by omega), inb_nI (show k < 6 by omega) (show 6 < 2 ^ 31 by decide), nI_clamp (show k < 2 ^ 31 by omega), ↓reduceIte, nI_succ]
    have h23 : ¬ (2 : Int32) = 3 := by decide
    have h24 : ¬ (2 : Int32) = 4 := by decide
    have h34 : ¬ (3 : Int32) = 4 := by decide
    by_cases h2 : w = 2
    · subst h2
      by_cases h5 : o (k + 7) 5 = p <;> simp only [h5, h23, h24, ↓reduceIte, Int32.add_zero]
    · by_cases h3 : w = 3
      · subst h3
        by_cases ho : o (k + 7) 3 = p <;> by_cases hp : D_X1_isPledged (o (k + 7)) = 0 <;> simp only [h2, ho, hp, h34, ↓reduceIte, Int32.add_zero]
      · by_cases h4 : w = 4
        · subst h4
          by_cases ho : o (k + 7) 3 = p <;> simp only [h2, h3, ho, ↓reduceIte, Int32.add_zero]
        · simp only [h2, h3, h4, ↓reduceIte, Int32.add_zero]
  · simp only [L_X4_tellOfOwner_26, hn, nI_le (Nat.le_refl n) (show n < 2 ^ 31 by omega), ↓reduceIte]
end CNT
theorem vb_eq (o : Nat → Nat → Int32) (p : Int32) : D_X4_vineyardsBelongingTo o p = some (sumTo (fun j => if o 2 j = p then 1 else 0) 6) := by
  refine loop_sumG (L := fun q i a => L_X4_vineyardsBelongingTo_4 q o p i a) some 6 _ (fun q k a hk => ?_) (fun q a => ?_) 200 (by omega)
  · simp only [L_X4_vineyardsBelongingTo_4, show ¬ (6 : Int32) ≤ nI k from nI_ge hk (by decide), inb_nI hk (show 6 < 2 ^ 31 by decide), nI_clamp (show k < 2 ^ 31 by omega), ↓reduceIte, nI_succ]
    split <;> simp only [Int32.add_zero]
  · simp only [L_X4_vineyardsBelongingTo_4, show (6 : Int32) ≤ nI 6 by decide, ↓reduceIte]
theorem coi_eq (o : Nat → Nat → Int32) : D_X4_coinsCounted o = some (sumTo (fun j => o 3 j) 4) := by
  refine loop_sumG (L := fun q i a => L_X4_coinsCounted_4 q o i a) some 4 _ (fun q k a hk => ?_) (fun q a => ?_) 200 (by omega)
  · simp only [L_X4_coinsCounted_4, show ¬ (4 : Int32) ≤ nI k from nI_ge hk (by decide), inb_nI hk (show 4 < 2 ^ 31 by decide), nI_clamp (show k < 2 ^ 31 by omega), ↓reduceIte, nI_succ]
  · simp only [L_X4_coinsCounted_4, show (4 : Int32) ≤ nI 4 by decide, ↓reduceIte]
theorem mvo {k : Nat} (hk : k < 6) : (13 : Int32) + nI k = nI (13 + k) := by
  rw [show (13 : Int32) = nI 13 from rfl, nI_add]
theorem own_eq (m : Nat → Nat → Int32) : D_X10_owned m = some (sumTo (fun j => if m 1 (13 + j) ≤ 0 then 0 else 1) 6) := by
  refine loop_sumG (L := fun q i a => L_X10_owned_4 q m i a) some 6 _ (fun q k a hk => ?_) (fun q a => ?_) 200 (by omega)
  · simp only [L_X10_owned_4, show ¬ (6 : Int32) ≤ nI k from nI_ge hk (by decide), mvo hk, inb_nI (show 13 + k < 1152 by omega) (show 1152 < 2 ^ 31 by decide), nI_clamp (show 13 + k < 2 ^ 31 by omega), ↓reduceIte, nI_succ]
    split <;> simp only [Int32.add_zero]
  · simp only [L_X10_owned_4, show (6 : Int32) ≤ nI 6 by decide, ↓reduceIte]
theorem vo_eq (m : Nat → Nat → Int32) (p : Int32) : D_X10_vinesOf m p = some (sumTo (fun j => if m 1 (13 + j) = p + 1 then 1 else 0) 6) := by
  refine loop_sumG (L := fun q i a => L_X10_vinesOf_4 q m p i a) some 6 _ (fun q k a hk => ?_) (fun q a => ?_) 200 (by omega)
  · simp only [L_X10_vinesOf_4, show ¬ (6 : Int32) ≤ nI k from nI_ge hk (by decide), mvo hk, inb_nI (show 13 + k < 1152 by omega) (show 1152 < 2 ^ 31 by decide), nI_clamp (show 13 + k < 2 ^ 31 by omega), ↓reduceIte, nI_succ]
    split <;> simp only [Int32.add_zero]
  · simp only [L_X10_vinesOf_4, show (6 : Int32) ≤ nI 6 by decide, ↓reduceIte]
section CNM
variable {m : Nat → Nat → Int32} {n : Nat} {cs : Nat → Nat → Int32}
theorem oo_eq (hn : m 1 0 = nI n) (h6 : n ≤ 6) (hc : ∀ i, i < n → CR (cs i) (mcl (m 1) i) ∧ CB (cs i)) (p w : Int32) : D_X10_ofOwner m p w = some (sumTo (fun j => if cs j 3 = p then (if w = 2 then (if cs j 5 = p then 1 else 0) else if w = 4 then cs j 2 else if w = 5 then 1 else if cs j 5 = -1 then 0 else 1) else if w = 2 then (if cs j 5 = p then 1 else 0) else 0) n) := by
  refine loop_sumG (L := fun q i a => L_X10_ofOwner_5 q m p w i a) some n _ (fun q k a hk => ?_) (fun q a => ?_) 200 (by omega)
  · obtain ⟨hr, hb⟩ := hc k hk
    have hl := neg_m1 hb.2.2.2.2.1
    simp only [L_X10_ofOwner_5, ib0, cl0, hn, nI_ge hk (show n < 2 ^ 31 by omega), oA hr (show k < 100 by omega), lA hr (show k < 100 by omega), c2A hr (show k < 100 by omega), Option.bind_some, hl, ↓reduceIte, nI_succ]
    clear hl hr hb hc
    have hz := Int32.add_zero a
    repeat' split
    all_goals first | rfl | (rw [hz]) | simp_all
  · simp only [L_X10_ofOwner_5, ib0, cl0, hn, nI_le (Nat.le_refl n) (show n < 2 ^ 31 by omega), ↓reduceIte]
theorem oc_eq (hn : m 1 0 = nI n) (h6 : n ≤ 6) (hc : ∀ i, i < n → CR (cs i) (mcl (m 1) i) ∧ CB (cs i)) (w : Int32) : D_X10_ofClouds m w = some (sumTo (fun j => if w = 0 then cs j 2 else if w = 1 then (if cs j 3 = -1 then 0 else 1) else (if cs j 5 = -1 then 0 else 1)) n) := by
  refine loop_sumG (L := fun q i a => L_X10_ofClouds_4 q m w i a) some n _ (fun q k a hk => ?_) (fun q a => ?_) 200 (by omega)
  · obtain ⟨hr, hb⟩ := hc k hk
    have hl := neg_m1 hb.2.2.2.2.1
    have ho := neg_m1 hb.2.2.2.1
    simp only [L_X10_ofClouds_4, ib0, cl0, hn, nI_ge hk (show n < 2 ^ 31 by omega), oA hr (show k < 100 by omega), lA hr (show k < 100 by omega), c2A hr (show k < 100 by omega), Option.bind_some, hl, ho, ↓reduceIte, nI_succ]
    clear hl hr hb hc ho
    have hz := Int32.add_zero a
    repeat' split
    all_goals first | rfl | (rw [hz]) | simp_all
  · simp only [L_X10_ofClouds_4, ib0, cl0, hn, nI_le (Nat.le_refl n) (show n < 2 ^ 31 by omega), ↓reduceIte]
theorem vy_eq (hn : m 1 0 = nI n) (h6 : n ≤ 6) (hc : ∀ i, i < n → CR (cs i) (mcl (m 1) i) ∧ CB (cs i)) (p w : Int32) : L_X10_vineyardOf_59 200 m p w 0 0 = some (sumTo (fun j => if cs j 0 = p then (if w = 1 then 1 else cs j 2) else 0) n, va_up m 0 (upd (m 0) 0 0)) := by
  refine loop_sumG (L := fun q i a => L_X10_vineyardOf_59 q m p w i a) (fun a => some (a, va_up m 0 (upd (m 0) 0 0))) n _ (fun q k a hk => ?_) (fun q a => ?_) 200 (by omega)
  · obtain ⟨hr, hb⟩ := hc k hk
    have hr' : CR (cs k) (mcl ((va_up m 0 (upd (m 0) 0 0)) 1) k) := hr
    simp only [L_X10_vineyardOf_59, ib0, cl0, hn, nI_ge hk (show n < 2 ^ 31 by omega), c0A hr' (show k < 100 by omega), c2A hr' (show k < 100 by omega), Option.bind_some, ↓reduceIte, nI_succ]
    clear hr hb hc hr'
    have hz := Int32.add_zero a
    repeat' split
    all_goals first | rfl | (rw [hz]) | simp_all
  · simp only [L_X10_vineyardOf_59, ib0, cl0, hn, nI_le (Nat.le_refl n) (show n < 2 ^ 31 by omega), ↓reduceIte]
end CNM
