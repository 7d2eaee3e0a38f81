/-! hail: the class -/
def hl (c : Nat → Int32) (p : Int32) : Nat → Int32 := if c 0 = p then (if c 5 = -1 then upd c 2 (c 2 - 1) else D_X1_entitle c (c 5)) else c
def hlf (c : Nat → Int32) (p : Int32) : Int32 := if c 0 = p then (if c 5 = -1 then 0 else 1) else 0
theorem hail_eq {o : Nat → Nat → Int32} {n : Nat} (hn : o 0 1 = nI n) (h6 : n ≤ 6) (p : Int32) :
    ∃ s : Nat → Nat → Int32, L_X4_hailDown_18 200 o p 0 0 o = (D_X4_removeGone (va_up s 0 (upd (s 0) 8 (s 0 8 + sumTo (fun j => hlf (o (j + 7)) p) n)))).bind (fun o7 => some (sumTo (fun j => hlf (o (j + 7)) p) n, o7)) ∧ (∀ r, r < 7 → s r = o r) ∧ ∀ i, i < n → s (i + 7) = hl (o (i + 7)) p := by
  obtain ⟨s', e, h1, h2, h3, -⟩ := loop_up (L := fun q i (s : Int32 × (Nat → Nat → Int32)) => L_X4_hailDown_18 q o p i s.1 s.2) n
    (fun k s => s.1 = sumTo (fun j => hlf (o (j + 7)) p) k ∧ (∀ r, r < 7 → s.2 r = o r) ∧ (∀ i, i < k → s.2 (i + 7) = hl (o (i + 7)) p) ∧ ∀ i, k ≤ i → s.2 (i + 7) = o (i + 7))
    (fun q k s hk hR => by
      obtain ⟨h1, h2, h3, h4⟩ := hR
      refine ⟨(s.1 + hlf (o (k + 7)) p, if o (k + 7) 0 = p then va_up s.2 (k + 7) (hl (o (k + 7)) p) else s.2), ?_, ?_, fun r hr => ?_, fun i hi => ?_, fun i hi => ?_⟩ <;> try dsimp only
      · simp only [L_X4_hailDown_18, h2 0 (by omega), hn, nI_ge hk (show n < 2 ^ 31 by omega), inb_nI (show k < 6 by omega) (show 6 < 2 ^ 31 by decide), nI_clamp (show k < 2 ^ 31 by omega), h4 k (Nat.le_refl k), hPl, ↓reduceIte, nI_succ, hl, hlf]
        by_cases h0 : o (k + 7) 0 = p
        · by_cases h5 : o (k + 7) 5 = -1
          · simp only [if_pos h0, if_pos h5, Int32.add_zero]
          · simp only [if_pos h0, if_neg h5]
        · simp only [if_neg h0, Int32.add_zero]
      · rw [sumTo_s, h1]
      · split
        · rw [vun _ _ _ (by omega)]; exact h2 r hr
        · exact h2 r hr
      · by_cases hik : i = k
        · subst hik
          split
          · rw [va_up_self]
          · rename_i h0
            rw [h4 i (Nat.le_refl i)]; unfold hl; rw [if_neg h0]
        · split
          · rw [vun _ _ _ (by omega)]; exact h3 i (by omega)
          · exact h3 i (by omega)
      · split
        · rw [vun _ _ _ (by omega)]; exact h4 i (by omega)
        · exact h4 i (by omega)) 200 (0, o) (by omega) ⟨rfl, fun _ _ => rfl, fun i hi => absurd hi (Nat.not_lt_zero _), fun _ _ => rfl⟩
  refine ⟨s'.2, ?_, h2, h3⟩
  show L_X4_hailDown_18 200 o p (nI 0) 0 o = _
  refine Eq.trans e ?_
  obtain ⟨z, hz⟩ : ∃ z, 200 - n = z + 1 := ⟨199 - n, by omega⟩
  rw [hz]
  simp only [L_X4_hailDown_18, h2 0 (by omega), hn, nI_le (Nat.le_refl n) (show n < 2 ^ 31 by omega), ↓reduceIte, h1]
theorem c1cpS (u : Nat → Int32) {j : Nat} (h : j < 7) : D_X1_copyFromS u j = u j := by
  unfold D_X1_copyFromS
  rcases (show j = 0 ∨ j = 1 ∨ j = 2 ∨ j = 3 ∨ j = 4 ∨ j = 5 ∨ j = 6 by omega) with rfl | rfl | rfl | rfl | rfl | rfl | rfl <;> rfl
theorem range_fs (keep : Nat → Bool) (k : Nat) : (List.range (k + 1)).filter keep = if keep k then (List.range k).filter keep ++ [k] else (List.range k).filter keep := by
  rw [List.range_succ, List.filter_append]
  by_cases h : keep k = true
  · rw [if_pos h, List.filter_cons_of_pos h]; rfl
  · rw [if_neg h, List.filter_cons_of_neg h]; simp
theorem flen (keep : Nat → Bool) (k : Nat) : ((List.range k).filter keep).length ≤ k := by
  have := List.length_filter_le keep (List.range k)
  rwa [List.length_range] at this
/-- the class takes out what is gone -/
theorem gone_eq {o : Nat → Nat → Int32} {n : Nat} (hn : o 0 1 = nI n) (h6 : n ≤ 6) (keep : Nat → Bool) (hk : ∀ i, i < n → (keep i = true ↔ ¬ o (i + 7) 2 ≤ 0)) :
    ∃ o' : Nat → Nat → Int32, D_X4_removeGone o = some o' ∧ (∀ r, 1 ≤ r → r < 7 → o' r = o r) ∧ (∀ j, j ≠ 1 → j ≠ 9 → o' 0 j = o 0 j) ∧ o' 0 1 = nI ((List.range n).filter keep).length ∧ o' 0 9 = o 0 9 + (nI n - nI ((List.range n).filter keep).length) ∧ ∀ j i, ((List.range n).filter keep)[j]? = some i → ∀ f, f < 7 → o' (j + 7) f = o (i + 7) f := by
  obtain ⟨s', e, h1, h2, h3, h4⟩ := loop_up (L := fun q i (s : Int32 × (Nat → Nat → Int32)) => L_X4_removeGone_4 q o i s.1 s.2) n
    (fun k s => s.1 = nI ((List.range k).filter keep).length ∧ (∀ r, r < 7 → s.2 r = o r) ∧ (∀ i, k ≤ i → s.2 (i + 7) = o (i + 7)) ∧ ∀ j i, ((List.range k).filter keep)[j]? = some i → ∀ f, f < 7 → s.2 (j + 7) f = o (i + 7) f)
    (fun q k s hkn hR => by
      obtain ⟨h1, h2, h3, h4⟩ := hR
      obtain ⟨lf, t⟩ := s
      simp only at h1 h2 h3 h4 ⊢
      have hlen := flen keep k
      generalize hl : ((List.range k).filter keep).length = len at h1 hlen
      subst h1
      by_cases hkeep : keep k = true
      · have hz : ¬ o (k + 7) 2 ≤ 0 := (hk k hkn).mp hkeep
        refine ⟨(nI (len + 1), va_up t (len + 7) (if len + 7 = k + 7 then D_X1_copyFromS (o (k + 7)) else D_X1_copyFrom (t (len + 7)) (o (k + 7)))), ?_, ?_, fun r hr => ?_, fun i hi => ?_, fun j i hji f hf => ?_⟩ <;> try dsimp only
        · simp only [L_X4_removeGone_4, h2 0 (by omega), hn, nI_ge hkn (show n < 2 ^ 31 by omega), inb_nI (show k < 6 by omega) (show 6 < 2 ^ 31 by decide), inb_nI (show len < 6 by omega) (show 6 < 2 ^ 31 by decide), nI_clamp (show k < 2 ^ 31 by omega), nI_clamp (show len < 2 ^ 31 by omega), h3 k (Nat.le_refl k), hz, ↓reduceIte, nI_succ]
          by_cases hlk : len + 7 = k + 7
          · rw [if_pos hlk, if_pos hlk, hlk, h3 k (Nat.le_refl k)]
          · rw [if_neg hlk, if_neg hlk]
        · rw [range_fs, if_pos hkeep, List.length_append, hl]; rfl
        · rw [vun _ _ _ (by omega)]; exact h2 r hr
        · rw [vun _ _ _ (by omega)]; exact h3 i (by omega)
        · rw [range_fs, if_pos hkeep] at hji
          rcases Nat.lt_or_ge j len with hj | hj
          · rw [List.getElem?_append_left (by omega)] at hji
            rw [vun _ _ _ (by omega)]
            exact h4 j i hji f hf
          · rw [List.getElem?_append_right (by omega), hl] at hji
            have hj2 : j - len = 0 := by
              rcases Nat.eq_zero_or_pos (j - len) with h0 | h0
              · exact h0
              · rw [List.getElem?_eq_none (show [k].length ≤ j - len from h0)] at hji
                exact absurd hji (by simp)
            rw [hj2] at hji
            have hi : k = i := by simpa using hji
            subst hi
            have hjl : j = len := by omega
            subst hjl
            rw [va_up_self]
            split
            · exact c1cpS _ hf
            · exact c1cp _ _ hf
      · have hz : o (k + 7) 2 ≤ 0 := Classical.byContradiction fun z => hkeep ((hk k hkn).mpr z)
        refine ⟨(nI len, t), ?_, ?_, h2, fun i hi => h3 i (by omega), fun j i hji f hf => ?_⟩ <;> try dsimp only
        · simp only [L_X4_removeGone_4, h2 0 (by omega), hn, nI_ge hkn (show n < 2 ^ 31 by omega), inb_nI (show k < 6 by omega) (show 6 < 2 ^ 31 by decide), nI_clamp (show k < 2 ^ 31 by omega), h3 k (Nat.le_refl k), hz, ↓reduceIte, nI_succ]
        · rw [range_fs, if_neg hkeep, hl]
        · rw [range_fs, if_neg hkeep] at hji
          exact h4 j i hji f hf) 200 (0, o) (by omega) ⟨rfl, fun _ _ => rfl, fun _ _ => rfl, fun j i h => absurd h (by simp)⟩
  refine ⟨va_up s'.2 0 (upd (upd (s'.2 0) 9 (s'.2 0 9 + (s'.2 0 1 - s'.1))) 1 s'.1), ?_, fun r a b => by rw [vun _ _ _ (by omega)]; exact h2 r b, fun j a b => by rw [va_up_self, upd_ne _ _ a, upd_ne _ _ b, h2 0 (by omega)], by rw [va_up_self, upd_self, h1], by rw [va_up_self, upd_ne _ _ (by omega), upd_self, h1, h2 0 (by omega), hn], fun j i hji f hf => by rw [vun _ _ _ (by omega)]; exact h4 j i hji f hf⟩
  show L_X4_removeGone_4 200 o (nI 0) 0 o = _
  refine Eq.trans e ?_
  obtain ⟨z, hz⟩ : ∃ z, 200 - n = z + 1 := ⟨199 - n, by omega⟩
  rw [hz]
  simp only [L_X4_removeGone_4, h2 0 (by omega), hn, nI_le (Nat.le_refl n) (show n < 2 ^ 31 by omega), ↓reduceIte]
