/-! what a dawn records, both ways -/
theorem nI_pm (k : Nat) : nI (k + 1) + -1 = nI k := by
  rw [nI_succ]
  grind only
theorem nI_p6 (k : Nat) : nI (k + 6) - 6 = nI k := by
  rw [show (6 : Int32) = nI 6 from rfl, ← nI_add]
  grind only
theorem nI_p7 (k : Nat) : nI (k + 7) - 7 = nI k := by
  rw [show (7 : Int32) = nI 7 from rfl, ← nI_add]
  grind only
theorem nI_ltJ {a b : Nat} (ha : a < 2 ^ 31) (hb : b < 2 ^ 31) : nI a < nI b ↔ a < b := by
  rw [lt_toInt, nI_toInt ha, nI_toInt hb]; omega
theorem nI_leJ {a b : Nat} (ha : a < 2 ^ 31) (hb : b < 2 ^ 31) : nI a ≤ nI b ↔ a ≤ b := by
  rw [le_toInt, nI_toInt ha, nI_toInt hb]; omega
theorem room_eq (o : Nat → Nat → Int32) : ∃ o' : Nat → Nat → Int32, D_X7_makeRoom o = some o' ∧ (∀ r, r ≠ 5 → r ≠ 6 → o' r = o r) ∧ (∀ z, 6 ≤ z → z < 30 → o' 5 z = o 5 (z - 6)) ∧ ∀ z, 1 ≤ z → z < 5 → o' 6 z = o 6 (z - 1) := by
  obtain ⟨s, e, h1, h2⟩ := loop_dn (L := fun q i (s : Nat → Nat → Int32) => L_X7_makeRoom_8 q o i s) 24 (fun k => nI (k + 5))
    (fun k s => (∀ r, r ≠ 5 → s r = o r) ∧ (∀ z, ¬ (6 + k ≤ z ∧ z < 30) → s 5 z = o 5 z) ∧ ∀ z, 6 + k ≤ z → z < 30 → s 5 z = o 5 (z - 6))
    (fun q k s hk hR => by
      obtain ⟨h1, h2, h3⟩ := hR
      refine ⟨va_up s 5 (upd (s 5) (k + 6) (s 5 k)), ?_, fun r hr => by rw [vun _ _ _ hr]; exact h1 r hr, fun z hz => ?_, fun z a b => ?_⟩
      · simp only [L_X7_makeRoom_8, show k + 1 + 5 = k + 6 by omega, show ¬ nI (k + 6) < 6 from fun z => by have := (nI_ltJ (b := 6) (by omega) (by omega)).mp z; omega, nI_p6, inb_nI (show k < 30 by omega) (show 30 < 2 ^ 31 by decide), inb_nI (show k + 6 < 30 by omega) (show 30 < 2 ^ 31 by decide), nI_clamp (show k < 2 ^ 31 by omega), nI_clamp (show k + 6 < 2 ^ 31 by omega), ↓reduceIte, show nI (k + 6) + -1 = nI (k + 5) from nI_pm (k + 5)]
      · rw [va_up_self, upd_ne _ _ (by omega)]; exact h2 z (by omega)
      · rw [va_up_self]
        by_cases hz : z = k + 6
        · subst hz
          rw [upd_self, h2 k (by omega), show k + 6 - 6 = k by omega]
        · rw [upd_ne _ _ hz]; exact h3 z (by omega) b) 200 o (by decide) ⟨fun _ _ => rfl, fun _ _ => rfl, fun z a b => by omega⟩
  obtain ⟨s2, e2, h4, h5⟩ := loop_dn (L := fun q i (t : Nat → Nat → Int32) => L_X7_makeRoom_43 q o (nI 5) s i t) 4 (fun k => nI k)
    (fun k t => (∀ r, r ≠ 6 → t r = s r) ∧ (∀ z, ¬ (1 + k ≤ z ∧ z < 5) → t 6 z = s 6 z) ∧ ∀ z, 1 + k ≤ z → z < 5 → t 6 z = s 6 (z - 1))
    (fun q k t hk hR => by
      obtain ⟨h1, h2, h3⟩ := hR
      refine ⟨va_up t 6 (upd (t 6) (k + 1) (t 6 k)), ?_, fun r hr => by rw [vun _ _ _ hr]; exact h1 r hr, fun z hz => ?_, fun z a b => ?_⟩
      · simp only [L_X7_makeRoom_43, show ¬ nI (k + 1) < 1 from fun z => by have := (nI_ltJ (b := 1) (by omega) (by omega)).mp z; omega, show nI (k + 1) - 1 = nI k by rw [nI_succ, add1_sub1], inb_nI (show k < 5 by omega) (show 5 < 2 ^ 31 by decide), inb_nI (show k + 1 < 5 by omega) (show 5 < 2 ^ 31 by decide), nI_clamp (show k < 2 ^ 31 by omega), nI_clamp (show k + 1 < 2 ^ 31 by omega), ↓reduceIte, nI_pm]
      · rw [va_up_self, upd_ne _ _ (by omega)]; exact h2 z (by omega)
      · rw [va_up_self]
        by_cases hz : z = k + 1
        · subst hz
          rw [upd_self, h2 k (by omega), Nat.add_sub_cancel]
        · rw [upd_ne _ _ hz]; exact h3 z (by omega) b) 200 s (by decide) ⟨fun _ _ => rfl, fun _ _ => rfl, fun z a b => by omega⟩
  refine ⟨s2, ?_, fun r a b => (h4 r b).trans (h1 r a), fun z a b => by rw [h4 5 (by omega)]; exact h2.2 z a b, fun z a b => by rw [h5.2 z a b, h1 6 (by omega)]⟩
  have e3 : D_X7_makeRoom o = L_X7_makeRoom_8 200 o (nI 29) o := rfl
  rw [e3]
  refine Eq.trans e ?_
  show L_X7_makeRoom_8 (175 + 1) o (nI 5) s = some s2
  simp only [L_X7_makeRoom_8, show nI 5 < 6 by decide, ↓reduceIte]
  have e4 : (5 : Int32) - 1 = nI 4 := by decide
  rw [e4]
  refine Eq.trans e2 ?_
  show L_X7_makeRoom_43 (195 + 1) o (nI 5) s (nI 0) s2 = some s2
  simp only [L_X7_makeRoom_43, show nI 0 < 1 by decide, ↓reduceIte]
theorem min5 {d : Nat} (hd : d ≤ 5) : (if (5 : Int32) < nI d + 1 then 5 else nI d + 1) = nI (if d = 5 then 5 else d + 1) := by
  rcases (show d = 0 ∨ d = 1 ∨ d = 2 ∨ d = 3 ∨ d = 4 ∨ d = 5 by omega) with rfl | rfl | rfl | rfl | rfl | rfl <;> decide
theorem min5m {d : Nat} (hd : d ≤ 5) : (if (5 : Int32) ≤ nI d then 5 else nI d + 1) = nI (if d = 5 then 5 else d + 1) := by
  rcases (show d = 0 ∨ d = 1 ∨ d = 2 ∨ d = 3 ∨ d = 4 ∨ d = 5 by omega) with rfl | rfl | rfl | rfl | rfl | rfl <;> decide
/-- the class records a dawn -/
theorem rec_eq {o : Nat → Nat → Int32} {n d : Nat} (h6 : n ≤ 6) (hd : d ≤ 5) (h4 : o 4 2 = nI d) :
    ∃ o' : Nat → Nat → Int32, D_X7_record o (nI n) = some o' ∧ (∀ r, r ≠ 4 → r ≠ 5 → r ≠ 6 → o' r = o r) ∧ (∀ z, 6 ≤ z → z < 30 → o' 5 z = o 5 (z - 6)) ∧ (∀ i, i < n → o' 5 i = o (i + 7) 3) ∧ o' 6 0 = nI n ∧ (∀ z, 1 ≤ z → z < 5 → o' 6 z = o 6 (z - 1)) ∧ o' 4 2 = nI (if d = 5 then 5 else d + 1) := by
  obtain ⟨t, e, h1, h2, h3⟩ := room_eq o
  obtain ⟨s, e2, k1, k2, k3⟩ := loop_up (L := fun q i (s : Nat → Nat → Int32) => L_X7_record_6 q o (nI n) t i s) n
    (fun k s => (∀ r, r ≠ 5 → s r = t r) ∧ (∀ z, k ≤ z → s 5 z = t 5 z) ∧ ∀ z, z < k → s 5 z = o (z + 7) 3)
    (fun q k s hk hR => by
      obtain ⟨k1, k2, k3⟩ := hR
      refine ⟨va_up s 5 (upd (s 5) k (o (k + 7) 3)), ?_, fun r hr => by rw [vun _ _ _ hr]; exact k1 r hr, fun z hz => ?_, fun z hz => ?_⟩
      · simp only [L_X7_record_6, nI_ge hk (show n < 2 ^ 31 by omega), show ¬ (6 : Int32) ≤ nI k from fun z => by have := (nI_leJ (a := 6) (by omega) (by omega)).mp z; omega, inb_nI (show k < 6 by omega) (show 6 < 2 ^ 31 by decide), inb_nI (show k < 30 by omega) (show 30 < 2 ^ 31 by decide), nI_clamp (show k < 2 ^ 31 by omega), k1 (k + 7) (by omega), h1 (k + 7) (by omega) (by omega), ↓reduceIte, nI_succ]
      · rw [va_up_self, upd_ne _ _ (by omega)]; exact k2 z (by omega)
      · rw [va_up_self]
        by_cases hz2 : z = k
        · subst hz2; rw [upd_self]
        · rw [upd_ne _ _ hz2]; exact k3 z (by omega)) 200 t (by omega) ⟨fun _ _ => rfl, fun _ _ => rfl, fun z hz => absurd hz (Nat.not_lt_zero _)⟩
  have h42 : s 4 2 = nI d := by rw [k1 4 (by omega), h1 4 (by omega) (by omega)]; exact h4
  refine ⟨va_up (va_up s 6 (upd (s 6) 0 (nI n))) 4 (upd (s 4) 2 (if 5 < s 4 2 + 1 then 5 else s 4 2 + 1)), ?_, fun r a b c => ?_, fun z a b => ?_, fun i hi => ?_, ?_, fun z a b => ?_, ?_⟩
  · unfold D_X7_record
    rw [e]
    show L_X7_record_6 200 o (nI n) t (nI 0) t = _
    refine Eq.trans e2 ?_
    obtain ⟨z, hz⟩ : ∃ z, 200 - n = z + 1 := ⟨199 - n, by omega⟩
    rw [hz]
    simp only [L_X7_record_6, nI_le (Nat.le_refl n) (show n < 2 ^ 31 by omega), show inb 0 5 = true by decide, cl0, ↓reduceIte]
  · rw [vun _ _ _ a, vun _ _ _ c, k1 r b, h1 r b c]
  · rw [vun _ _ _ (by omega), vun _ _ _ (by omega), k2 z (by omega), h2 z a b]
  · rw [vun _ _ _ (by omega), vun _ _ _ (by omega), k3 i hi]
  · rw [vun _ _ _ (by omega), va_up_self, upd_self]
  · rw [vun _ _ _ (by omega), va_up_self, upd_ne _ _ (by omega), k1 6 (by omega), h3 z a b]
  · rw [va_up_self, upd_self, h42]
    exact min5 hd
theorem a61 {k : Nat} (hk : k < 500) : ((61 : Int32) + nI k) = nI (61 + k) := by rw [show (61 : Int32) = nI 61 from rfl, nI_add]
theorem a62 {k : Nat} (hk : k < 500) : ((62 : Int32) + nI k) = nI (62 + k) := by rw [show (62 : Int32) = nI 62 from rfl, nI_add]
/-- the reference records a dawn -/
theorem mrec_eq {m : Nat → Nat → Int32} {n d : Nat} (hn : m 1 0 = nI n) (h6 : n ≤ 6) (hd : d ≤ 5) (h8 : m 1 8 = nI d) :
    ∃ s : Nat → Nat → Int32, D_X10_records m = some s ∧ (∀ r, r ≠ 1 → s r = m r) ∧ (∀ z, z ≠ 8 → ¬ (61 ≤ z ∧ z < 96) → s 1 z = m 1 z) ∧ (∀ z, 68 ≤ z → z < 96 → s 1 z = m 1 (z - 7)) ∧ s 1 61 = nI n ∧ (∀ i, i < n → s 1 (62 + i) = mcl (m 1) i 3) ∧ s 1 8 = nI (if d = 5 then 5 else d + 1) := by
  obtain ⟨t, e, h1, h2, h3⟩ := loop_dn (L := fun q i (s : Nat → Nat → Int32) => L_X10_records_3 q m i s) 28 (fun k => nI (k + 6))
    (fun k s => (∀ r, r ≠ 1 → s r = m r) ∧ (∀ z, ¬ (68 + k ≤ z ∧ z < 96) → s 1 z = m 1 z) ∧ ∀ z, 68 + k ≤ z → z < 96 → s 1 z = m 1 (z - 7))
    (fun q k s hk hR => by
      obtain ⟨h1, h2, h3⟩ := hR
      refine ⟨va_up s 1 (upd (s 1) (68 + k) (s 1 (61 + k))), ?_, fun r hr => by rw [vun _ _ _ hr]; exact h1 r hr, fun z hz => ?_, fun z a b => ?_⟩
      · have e7 : nI (68 + k) - 7 = nI (61 + k) := by rw [show 68 + k = 61 + k + 7 by omega]; exact nI_p7 _
        simp only [L_X10_records_3, show k + 1 + 6 = k + 7 by omega, show ¬ nI (k + 7) < 7 from fun z => by have := (nI_ltJ (b := 7) (by omega) (by omega)).mp z; omega, a61 (show k + 7 < 500 by omega), e7, inb_nI (show 61 + k < 1152 by omega) (show 1152 < 2 ^ 31 by decide), inb_nI (show 68 + k < 1152 by omega) (show 1152 < 2 ^ 31 by decide), nI_clamp (show 61 + k < 2 ^ 31 by omega), nI_clamp (show 68 + k < 2 ^ 31 by omega), ↓reduceIte, show nI (k + 7) + -1 = nI (k + 6) from nI_pm (k + 6), show 61 + (k + 7) = 68 + k by omega]
      · rw [va_up_self, upd_ne _ _ (by omega)]; exact h2 z (by omega)
      · rw [va_up_self]
        by_cases hz : z = 68 + k
        · subst hz
          rw [upd_self, h2 (61 + k) (by omega), show 68 + k - 7 = 61 + k by omega]
        · rw [upd_ne _ _ hz]; exact h3 z (by omega) b) 200 m (by decide) ⟨fun _ _ => rfl, fun _ _ => rfl, fun z a b => by omega⟩
  have hz : t 1 0 = nI n := (h2 0 (by omega)).trans hn
  obtain ⟨s, e2, k1, k2, k3⟩ := loop_up (L := fun q i (s : Nat → Nat → Int32) => L_X10_records_51 q m (nI 6) t i s) 6
    (fun k s => (∀ r, r ≠ 1 → s r = t r) ∧ (∀ z, z ≠ 61 → ¬ (62 ≤ z ∧ z < 62 + k) → s 1 z = t 1 z) ∧ s 1 61 = nI n ∧ ∀ i, i < k → i < n → s 1 (62 + i) = mcl (t 1) i 3)
    (fun q k s hk hR => by
      obtain ⟨k1, k2, k3, k4⟩ := hR
      have hz2 : s 1 0 = nI n := (k2 0 (by omega) (by omega)).trans hz
      have h6k : ¬ (6 : Int32) ≤ nI k := fun z => by have := (nI_leJ (a := 6) (by omega) (by omega)).mp z; omega
      by_cases hkn : k < n
      · refine ⟨va_up s 1 (upd (s 1) (62 + k) (mcl (s 1) k 3)), ?_, fun r hr => by rw [vun _ _ _ hr]; exact k1 r hr, fun z a b => ?_, ?_, fun i hi hin => ?_⟩
        · simp only [L_X10_records_51, ib0, cl0, hz2, h6k, nI_ge hkn (show n < 2 ^ 31 by omega), show D_X10_c s (nI k) 3 = some (mcl (s 1) k 3) from mc_eq s (j := 3) (by omega), Option.bind_some, a62 (show k < 500 by omega), inb_nI (show 62 + k < 1152 by omega) (show 1152 < 2 ^ 31 by decide), nI_clamp (show 62 + k < 2 ^ 31 by omega), ↓reduceIte, nI_succ]
        · rw [va_up_self, upd_ne _ _ (by omega)]; exact k2 z a (by omega)
        · rw [va_up_self, upd_ne _ _ (by omega)]; exact k3
        · rw [va_up_self]
          by_cases hik : i = k
          · subst hik
            rw [upd_self]; exact k2 _ (by omega) (by omega)
          · rw [upd_ne _ _ (by omega)]; exact k4 i (by omega) hin
      · refine ⟨va_up s 1 (upd (s 1) (62 + k) 0), ?_, fun r hr => by rw [vun _ _ _ hr]; exact k1 r hr, fun z a b => ?_, ?_, fun i hi hin => ?_⟩
        · simp only [L_X10_records_51, ib0, cl0, hz2, h6k, nI_le (show n ≤ k by omega) (show k < 2 ^ 31 by omega), a62 (show k < 500 by omega), inb_nI (show 62 + k < 1152 by omega) (show 1152 < 2 ^ 31 by decide), nI_clamp (show 62 + k < 2 ^ 31 by omega), ↓reduceIte, nI_succ]
        · rw [va_up_self, upd_ne _ _ (by omega)]; exact k2 z a (by omega)
        · rw [va_up_self, upd_ne _ _ (by omega)]; exact k3
        · rw [va_up_self, upd_ne _ _ (by omega)]; exact k4 i (by omega) hin) 200 (va_up t 1 (upd (t 1) 61 (nI n))) (by decide) ⟨fun r hr => vun _ _ _ hr, fun z a b => by rw [va_up_self, upd_ne _ _ a], by rw [va_up_self, upd_self], fun i hi => absurd hi (Nat.not_lt_zero _)⟩
  have h8s : s 1 8 = nI d := by rw [k2 8 (by omega) (by omega), h2 8 (by omega)]; exact h8
  refine ⟨va_up s 1 (upd (s 1) 8 (if 5 ≤ s 1 8 then 5 else s 1 8 + 1)), ?_, fun r hr => by rw [vun _ _ _ hr, k1 r hr, h1 r hr], fun z a b => ?_, fun z a b => ?_, ?_, fun i hi => ?_, ?_⟩
  · have e3 : D_X10_records m = L_X10_records_3 200 m (nI 34) m := rfl
    rw [e3]
    refine Eq.trans e ?_
    show L_X10_records_3 (171 + 1) m (nI 6) t = _
    simp only [L_X10_records_3, show nI 6 < 7 by decide, ib0, cl0, ib61, cl61, hz, ↓reduceIte]
    refine Eq.trans e2 ?_
    show L_X10_records_51 (193 + 1) m (nI 6) t (nI 6) s = _
    simp only [L_X10_records_51, show (6 : Int32) ≤ nI 6 by decide, ib8, cl8, ↓reduceIte]
    split <;> rfl
  · rw [va_up_self, upd_ne _ _ a, k2 z (by omega) (by omega), h2 z (by omega)]
  · rw [va_up_self, upd_ne _ _ (by omega), k2 z (by omega) (by omega), h3 z a b]
  · rw [va_up_self, upd_ne _ _ (by omega)]; exact k3.1
  · rw [va_up_self, upd_ne _ _ (by omega), k3.2 i (by omega) hi]
    exact h2 _ (by omega)
  · rw [va_up_self, upd_self, h8s]
    exact min5m hd
