/-! dawns: the class -/
def lps (c : Nat → Int32) : Nat → Int32 := if D_X1_hasTitleForOtherShape c = 0 then c else D_X1_loseTitle c
def lpf (c : Nat → Int32) : Int32 := if D_X1_hasTitleForOtherShape c = 0 then 0 else 1
def clm (c : Nat → Int32) (v : Int32) : Nat → Int32 := if c 3 = -1 then (if v = -1 then c else D_X1_entitle c v) else c
def clf (c : Nat → Int32) (v : Int32) : Int32 := if c 3 = -1 then (if v = -1 then 0 else 1) else 0
def pyw (c : Nat → Int32) (v : Int32) : Int32 := if c 3 = -1 then -1 else if c 3 = v then v else -1
def pyf (w : Int32) : Int32 := if w = -1 then 0 else 1
def payP (f : Nat → Int32) (w : Nat → Int32) : Nat → (Nat → Int32)
  | 0 => f
  | k + 1 => if w k = -1 then payP f w k else upd (payP f w k) (w k).toNatClampNeg (payP f w k (w k).toNatClampNeg + 1)
theorem lps0 (c : Nat → Int32) : lps c 0 = c 0 := by
  unfold lps; split <;> rfl
theorem clm0 (c : Nat → Int32) (v : Int32) : clm c v 0 = c 0 := by
  unfold clm
  split
  · split <;> rfl
  · rfl
theorem lpsB {c : Nat → Int32} (h : CB c) : CB (lps c) := by
  unfold lps
  split
  · exact h
  · exact ⟨h.1, h.2.1, h.2.2.1, rng_m1 (by decide), rng_m1 (by decide), fun z => absurd rfl z⟩
theorem clmB {c : Nat → Int32} (h : CB c) {v : Int32} (hv : rng v (-1) 3) : CB (clm c v) := by
  unfold clm
  split
  · split
    · exact h
    · exact entB h hv
  · exact h
theorem sumTo_s (f : Nat → Int32) (k : Nat) : sumTo f (k + 1) = sumTo f k + f k := rfl
theorem vy_of {x : Int32} (h : rng x 0 5) : D_X9_isVineyard x = 1 ∧ inb x 6 = true ∧ x.toNatClampNeg < 6 := by
  obtain ⟨a, ha, rfl⟩ := rng_nI (b := 5) h (by decide)
  refine ⟨?_, inb_nI (by omega) (by decide), by rw [nI_clamp (by omega)]; omega⟩
  rw [vi_iff, nI_toInt (by omega), if_pos (by omega)]
theorem ob_eq {o : Nat → Nat → Int32} {k : Nat} (h : rng (o (k + 7) 0) 0 5) : D_X4_ownerBelow o k = some (o 2 (o (k + 7) 0).toNatClampNeg) := by
  unfold D_X4_ownerBelow
  rw [(vy_of h).1, if_neg one_ne, if_pos (vy_of h).2.1]
/-- the class lapses titles -/
theorem lapse_eq {o : Nat → Nat → Int32} {n : Nat} (hn : o 0 1 = nI n) (h6 : n ≤ 6) :
    ∃ o' : Nat → Nat → Int32, D_X4_lapseTitles o = some o' ∧ (∀ r, 1 ≤ r → r < 7 → o' r = o r) ∧ (∀ j, j ≠ 6 → o' 0 j = o 0 j) ∧ o' 0 6 = o 0 6 + sumTo (fun j => lpf (o (j + 7))) n ∧ ∀ i, i < n → o' (i + 7) = lps (o (i + 7)) := by
  obtain ⟨s', e, h1, h2, h3, h4, -⟩ := loop_up (L := fun q i (s : Nat → Nat → Int32) => L_X4_lapseTitles_2 q o i s) n
    (fun k s => (∀ r, 1 ≤ r → r < 7 → s r = o r) ∧ (∀ j, j ≠ 6 → s 0 j = o 0 j) ∧ s 0 6 = o 0 6 + sumTo (fun j => lpf (o (j + 7))) k ∧ (∀ i, i < k → s (i + 7) = lps (o (i + 7))) ∧ ∀ i, k ≤ i → s (i + 7) = o (i + 7))
    (fun q k s hk hR => by
      obtain ⟨h1, h2, h3, h4, h5⟩ := hR
      have hs : L_X4_lapseTitles_2 (q + 1) o (nI k) s = (if D_X1_hasTitleForOtherShape (o (k + 7)) = 0 then L_X4_lapseTitles_2 q o (nI (k + 1)) s else L_X4_lapseTitles_2 q o (nI (k + 1)) (va_up (va_up s (k + 7) (D_X1_loseTitle (o (k + 7)))) 0 (upd (s 0) 6 (s 0 6 + 1)))) := by
        simp only [L_X4_lapseTitles_2, h2 1 (by omega), hn, nI_ge hk (show n < 2 ^ 31 by omega), inb_nI (show k < 6 by omega) (show 6 < 2 ^ 31 by decide), nI_clamp (show k < 2 ^ 31 by omega), h5 k (Nat.le_refl k), ↓reduceIte, nI_succ]
      rw [hs]
      by_cases hz : D_X1_hasTitleForOtherShape (o (k + 7)) = 0
      · rw [if_pos hz]
        refine ⟨s, rfl, h1, h2, ?_, fun i hi => ?_, fun i hi => h5 i (by omega)⟩
        · rw [sumTo_s, h3]
          simp only [lpf, if_pos hz, Int32.add_zero]
        · by_cases hik : i = k
          · subst hik
            rw [h5 i (Nat.le_refl i)]; unfold lps; rw [if_pos hz]
          · exact h4 i (by omega)
      · rw [if_neg hz]
        refine ⟨_, rfl, fun r h0 h7 => ?_, fun j hj => ?_, ?_, fun i hi => ?_, fun i hi => ?_⟩
        · rw [vun _ _ _ (by omega), vun _ _ _ (by omega)]; exact h1 r h0 h7
        · rw [va_up_self, upd_ne _ _ hj]; exact h2 j hj
        · rw [va_up_self, upd_self, sumTo_s, h3]
          simp only [lpf, if_neg hz, Int32.add_assoc]
        · rw [vun _ _ _ (by omega)]
          by_cases hik : i = k
          · subst hik
            rw [va_up_self]; unfold lps; rw [if_neg hz]
          · rw [vun _ _ _ (by omega)]; exact h4 i (by omega)
        · rw [vun _ _ _ (by omega), vun _ _ _ (by omega)]; exact h5 i (by omega)) 200 o (by omega) ⟨fun _ _ _ => rfl, fun _ _ => rfl, by simp only [sumTo, Int32.add_zero], fun i hi => absurd hi (Nat.not_lt_zero _), fun _ _ => rfl⟩
  refine ⟨s', ?_, h1, h2, h3, h4⟩
  show L_X4_lapseTitles_2 200 o (nI 0) o = _
  refine Eq.trans e ?_
  obtain ⟨z, hz⟩ : ∃ z, 200 - n = z + 1 := ⟨199 - n, by omega⟩
  rw [hz]
  simp only [L_X4_lapseTitles_2, h2 1 (by omega), hn, nI_le (Nat.le_refl n) (show n < 2 ^ 31 by omega), ↓reduceIte]
/-- the class's vines claim -/
theorem claim_eq {o : Nat → Nat → Int32} {n : Nat} (hn : o 0 1 = nI n) (h6 : n ≤ 6) (hv : ∀ i, i < n → rng (o (i + 7) 0) 0 5) (V : Nat → Int32) (hV : ∀ i, i < n → o 2 (o (i + 7) 0).toNatClampNeg = V i) :
    ∃ o' : Nat → Nat → Int32, D_X4_claimClouds o = some (sumTo (fun j => clf (o (j + 7)) (V j)) n, o') ∧ (∀ r, 1 ≤ r → r < 7 → o' r = o r) ∧ (∀ j, j ≠ 7 → o' 0 j = o 0 j) ∧ o' 0 7 = o 0 7 + sumTo (fun j => clf (o (j + 7)) (V j)) n ∧ ∀ i, i < n → o' (i + 7) = clm (o (i + 7)) (V i) := by
  obtain ⟨s', e, h1, h2, h4, -⟩ := loop_up (L := fun q i (s : Int32 × (Nat → Nat → Int32)) => L_X4_claimClouds_4 q o i s.1 s.2) n
    (fun k s => s.1 = sumTo (fun j => clf (o (j + 7)) (V j)) k ∧ (∀ r, r < 7 → s.2 r = o r) ∧ (∀ i, i < k → s.2 (i + 7) = clm (o (i + 7)) (V i)) ∧ ∀ i, k ≤ i → s.2 (i + 7) = o (i + 7))
    (fun q k s hk hR => by
      obtain ⟨h1, h2, h4, h5⟩ := hR
      have ob := ob_eq (o := s.2) (k := k) (by rw [h5 k (Nat.le_refl k)]; exact hv k hk)
      rw [h2 2 (by omega), h5 k (Nat.le_refl k), hV k hk] at ob
      have hs : L_X4_claimClouds_4 (q + 1) o (nI k) s.1 s.2 = (if o (k + 7) 3 = -1 then (if V k = -1 then L_X4_claimClouds_4 q o (nI (k + 1)) s.1 s.2 else L_X4_claimClouds_4 q o (nI (k + 1)) (s.1 + 1) (va_up s.2 (k + 7) (D_X1_entitle (o (k + 7)) (V k)))) else L_X4_claimClouds_4 q o (nI (k + 1)) s.1 s.2) := by
        simp only [L_X4_claimClouds_4, h2 0 (by omega), hn, nI_ge hk (show n < 2 ^ 31 by omega), inb_nI (show k < 6 by omega) (show 6 < 2 ^ 31 by decide), nI_clamp (show k < 2 ^ 31 by omega), h5 k (Nat.le_refl k), ob, Option.bind_some, hT, ↓reduceIte, nI_succ]
      by_cases h3 : o (k + 7) 3 = -1
      · by_cases hv0 : V k = -1
        · refine ⟨s, by simp only [hs, if_pos h3, if_pos hv0], ?_, h2, fun i hi => ?_, fun i hi => h5 i (by omega)⟩
          · rw [sumTo_s, h1]
            simp only [clf, if_pos h3, if_pos hv0, Int32.add_zero]
          · by_cases hik : i = k
            · subst hik
              rw [h5 i (Nat.le_refl i)]; unfold clm; rw [if_pos h3, if_pos hv0]
            · exact h4 i (by omega)
        · refine ⟨(s.1 + 1, va_up s.2 (k + 7) (D_X1_entitle (o (k + 7)) (V k))), by simp only [hs, if_pos h3, if_neg hv0], ?_, fun r hr => ?_, fun i hi => ?_, fun i hi => ?_⟩
          · rw [sumTo_s, h1]
            simp only [clf, if_pos h3, if_neg hv0]
          · show va_up s.2 _ _ r = _
            rw [vun _ _ _ (by omega)]; exact h2 r hr
          · show va_up s.2 _ _ (i + 7) = _
            by_cases hik : i = k
            · subst hik
              rw [va_up_self]; unfold clm; rw [if_pos h3, if_neg hv0]
            · rw [vun _ _ _ (by omega)]; exact h4 i (by omega)
          · show va_up s.2 _ _ (i + 7) = _
            rw [vun _ _ _ (by omega)]; exact h5 i (by omega)
      · refine ⟨s, by simp only [hs, if_neg h3], ?_, h2, fun i hi => ?_, fun i hi => h5 i (by omega)⟩
        · rw [sumTo_s, h1]
          simp only [clf, if_neg h3, Int32.add_zero]
        · by_cases hik : i = k
          · subst hik
            rw [h5 i (Nat.le_refl i)]; unfold clm; rw [if_neg h3]
          · exact h4 i (by omega)) 200 (0, o) (by omega) ⟨rfl, fun _ _ => rfl, fun i hi => absurd hi (Nat.not_lt_zero _), fun _ _ => rfl⟩
  refine ⟨va_up s'.2 0 (upd (s'.2 0) 7 (s'.2 0 7 + s'.1)), ?_, fun r h0 h7 => by rw [vun _ _ _ (by omega)]; exact h2 r h7, fun j hj => by rw [va_up_self, upd_ne _ _ hj, h2 0 (by omega)], by rw [va_up_self, upd_self, h1, h2 0 (by omega)], fun i hi => by rw [vun _ _ _ (by omega)]; exact h4 i hi⟩
  show L_X4_claimClouds_4 200 o (nI 0) 0 o = _
  refine Eq.trans e ?_
  obtain ⟨z, hz⟩ : ∃ z, 200 - n = z + 1 := ⟨199 - n, by omega⟩
  rw [hz]
  simp only [L_X4_claimClouds_4, h2 0 (by omega), hn, nI_le (Nat.le_refl n) (show n < 2 ^ 31 by omega), ↓reduceIte, h1]
/-- the class pays -/
theorem pay2_eq {o : Nat → Nat → Int32} {n : Nat} (hn : o 0 1 = nI n) (h6 : n ≤ 6) (hB : ∀ i, i < n → CB (o (i + 7))) (V : Nat → Int32) (hV : ∀ i, i < n → o 2 (o (i + 7) 0).toNatClampNeg = V i) :
    ∃ o' : Nat → Nat → Int32, D_X4_payForClouds o = some o' ∧ (∀ r, 1 ≤ r → r ≠ 3 → o' r = o r) ∧ (∀ j, j ≠ 11 → o' 0 j = o 0 j) ∧ o' 0 11 = o 0 11 + sumTo (fun j => pyf (pyw (o (j + 7)) (V j))) n ∧ o' 3 = payP (o 3) (fun j => pyw (o (j + 7)) (V j)) n := by
  obtain ⟨s', e, h1, h2, h3, h4⟩ := loop_up (L := fun q i (s : Nat → Nat → Int32) => L_X4_payForClouds_2 q o i s) n
    (fun k s => (∀ r, 1 ≤ r → r ≠ 3 → s r = o r) ∧ (∀ j, j ≠ 11 → s 0 j = o 0 j) ∧ s 0 11 = o 0 11 + sumTo (fun j => pyf (pyw (o (j + 7)) (V j))) k ∧ s 3 = payP (o 3) (fun j => pyw (o (j + 7)) (V j)) k)
    (fun q k s hk hR => by
      obtain ⟨h1, h2, h3, h4⟩ := hR
      have hc := h1 (k + 7) (by omega) (by omega)
      have ob := ob_eq (o := s) (k := k) (by rw [hc]; exact (hB k hk).1)
      rw [h1 2 (by omega) (by omega), hc, hV k hk] at ob
      by_cases h30 : o (k + 7) 3 = -1
      · have hw : pyw (o (k + 7)) (V k) = -1 := by unfold pyw; rw [if_pos h30]
        refine ⟨s, ?_, h1, h2, ?_, ?_⟩
        · simp only [L_X4_payForClouds_2, h2 1 (by omega), hn, nI_ge hk (show n < 2 ^ 31 by omega), inb_nI (show k < 6 by omega) (show 6 < 2 ^ 31 by decide), nI_clamp (show k < 2 ^ 31 by omega), hc, h30, show D_X9_isOwner (-1) = 0 from rfl, ↓reduceIte, nI_succ]
        · rw [sumTo_s, h3]
          simp only [hw, pyf, ↓reduceIte, Int32.add_zero]
        · show _ = (if pyw (o (k + 7)) (V k) = -1 then _ else _)
          rw [if_pos hw]; exact h4
      · obtain ⟨p, hp, ep⟩ := (hB k hk).own h30
        by_cases hv : nI p = V k
        · have hw : pyw (o (k + 7)) (V k) = nI p := by unfold pyw; rw [if_neg h30, ep, if_pos hv, hv]
          have hne : ¬ nI p = -1 := nn1 (by omega)
          refine ⟨va_up (va_up s 3 (upd (s 3) p (s 3 p + 1))) 0 (upd (s 0) 11 (s 0 11 + 1)), ?_, fun r a b => ?_, fun j hj => ?_, ?_, ?_⟩
          · simp only [L_X4_payForClouds_2, h2 1 (by omega), hn, nI_ge hk (show n < 2 ^ 31 by omega), inb_nI (show k < 6 by omega) (show 6 < 2 ^ 31 by decide), nI_clamp (show k < 2 ^ 31 by omega), hc, ep, ow1 hp, if_neg one_ne, ob, Option.bind_some, if_pos hv, inb_nI hp (show 4 < 2 ^ 31 by decide), nI_clamp (show p < 2 ^ 31 by omega), ↓reduceIte, nI_succ]
          · rw [vun _ _ _ (by omega), vun _ _ _ b]; exact h1 r a b
          · rw [va_up_self, upd_ne _ _ hj]; exact h2 j hj
          · rw [va_up_self, upd_self, sumTo_s, h3]
            simp only [hw, pyf, if_neg hne, Int32.add_assoc]
          · show va_up s 3 _ 3 = (if pyw (o (k + 7)) (V k) = -1 then _ else _)
            simp only [hw, if_neg hne, va_up_self, nI_clamp (show p < 2 ^ 31 by omega), h4]
        · have hw : pyw (o (k + 7)) (V k) = -1 := by unfold pyw; rw [if_neg h30, ep, if_neg hv]
          refine ⟨s, ?_, h1, h2, ?_, ?_⟩
          · simp only [L_X4_payForClouds_2, h2 1 (by omega), hn, nI_ge hk (show n < 2 ^ 31 by omega), inb_nI (show k < 6 by omega) (show 6 < 2 ^ 31 by decide), nI_clamp (show k < 2 ^ 31 by omega), hc, ep, ow1 hp, if_neg one_ne, ob, Option.bind_some, if_neg hv, ↓reduceIte, nI_succ]
          · rw [sumTo_s, h3]
            simp only [hw, pyf, ↓reduceIte, Int32.add_zero]
          · show _ = (if pyw (o (k + 7)) (V k) = -1 then _ else _)
            rw [if_pos hw]; exact h4) 200 o (by omega) ⟨fun _ _ _ => rfl, fun _ _ => rfl, by simp only [sumTo, Int32.add_zero], rfl⟩
  refine ⟨s', ?_, h1, h2, h3, h4⟩
  show L_X4_payForClouds_2 200 o (nI 0) o = _
  refine Eq.trans e ?_
  obtain ⟨z, hz⟩ : ∃ z, 200 - n = z + 1 := ⟨199 - n, by omega⟩
  rw [hz]
  simp only [L_X4_payForClouds_2, h2 1 (by omega), hn, nI_le (Nat.le_refl n) (show n < 2 ^ 31 by omega), ↓reduceIte]
theorem payP_F {f : Nat → Int32} {B : Nat} (hF : PF f B) (w : Nat → Int32) : ∀ n : Nat, (∀ j, j < n → w j = -1 ∨ ∃ p, p < 4 ∧ w j = nI p) → PF (payP f w n) (B + n)
  | 0, _ => hF
  | n + 1, h => by
    have ih := payP_F hF w n (fun j hj => h j (by omega))
    show PF (if w n = -1 then _ else _) _
    rcases h n (by omega) with e | ⟨p, hp, e⟩
    · rw [if_pos e]; exact ih.mono (by omega)
    · rw [e, if_neg (nn1 (by omega)), nI_clamp (by omega)]
      exact ih.add 1 hp
theorem payP_sum (f : Nat → Int32) (w : Nat → Int32) : ∀ n : Nat, (∀ j, j < n → w j = -1 ∨ ∃ p, p < 4 ∧ w j = nI p) → payP f w n 0 + payP f w n 1 + payP f w n 2 + payP f w n 3 = f 0 + f 1 + f 2 + f 3 + sumTo (fun j => pyf (w j)) n
  | 0, _ => by simp only [payP, sumTo, Int32.add_zero]
  | n + 1, h => by
    have ih := payP_sum f w n (fun j hj => h j (by omega))
    rw [sumTo_s]
    show (if w n = -1 then payP f w n else _) 0 + (if w n = -1 then payP f w n else _) 1 + (if w n = -1 then payP f w n else _) 2 + (if w n = -1 then payP f w n else _) 3 = _
    rcases h n (by omega) with e | ⟨p, hp, e⟩
    · simp only [e, ↓reduceIte, ih, pyf, Int32.add_zero]
    · have hne : ¬ nI p = -1 := nn1 (by omega)
      have e2 : pyf (nI p) = 1 := by unfold pyf; rw [if_neg hne]
      simp only [e, if_neg hne, nI_clamp (show p < 2 ^ 31 by omega), e2]
      have e1 := sum4 (payP f w n) hp (payP f w n p + 1)
      grind only
