/-! hail: the reference -/
theorem mgoes {m : Nat → Nat → Int32} {N k : Nat} (hN : m 1 0 = nI N) (h6 : N ≤ 6) (hk : k < N) :
    ∃ s : Nat → Nat → Int32, D_X10_goes m (nI k) = some s ∧ (∀ r, r ≠ 1 → s r = m r) ∧ s 1 0 = nI (N - 1) ∧ s 1 5 = m 1 5 + 1 ∧ (∀ z, z ≠ 0 → z ≠ 5 → ¬ (19 + 7 * k ≤ z ∧ z < 19 + 7 * N) → s 1 z = m 1 z) ∧ ∀ i, k ≤ i → i + 1 < N → ∀ j, j < 7 → mcl (s 1) i j = mcl (m 1) (i + 1) j := by
  have hm1 : nI N - 1 = nI (N - 1) := by
    have e := nI_succ (N - 1)
    rw [show N - 1 + 1 = N by omega] at e
    rw [e, add1_sub1]
  have e7k : (7 : Int32) * nI k = nI (7 * k) := by rw [show (7 : Int32) = nI 7 from rfl, pk_mul]
  have e7N : (7 : Int32) * nI (N - 1) = nI (7 * (N - 1)) := by rw [show (7 : Int32) = nI 7 from rfl, pk_mul]
  let m1 : Nat → Nat → Int32 := va_up m 1 (upd (upd (m 1) 0 (nI (N - 1))) 5 (m 1 5 + 1))
  have hm1v : m1 = va_up m 1 (upd (upd (m 1) 0 (nI (N - 1))) 5 (m 1 5 + 1)) := rfl
  have q0 : m1 1 0 = nI (N - 1) := by rw [hm1v, va_up_self, upd_ne _ _ (by omega), upd_self]
  have q5 : m1 1 5 = m 1 5 + 1 := by rw [hm1v, va_up_self, upd_self]
  have qz : ∀ z, z ≠ 0 → z ≠ 5 → m1 1 z = m 1 z := fun z a b => by rw [hm1v, va_up_self, upd_ne _ _ b, upd_ne _ _ a]
  have qr : ∀ r, r ≠ 1 → m1 r = m r := fun r a => by rw [hm1v, vun _ _ _ a]
  have e0 : D_X10_goes m (nI k) = L_X10_goes_25 200 m (nI k) (nI (7 * k)) m1 := by
    unfold D_X10_goes
    simp only [ib0, cl0, ib5, cl5, e7k, hN, hm1, ↓reduceIte, upd_ne _ _ (show 5 ≠ 0 by omega)]
    rfl
  clear_value m1
  obtain ⟨s, e, h1, h2, h3⟩ := loop_up (L := fun q x (s : Nat → Nat → Int32) => L_X10_goes_25 q m (nI k) (nI (7 * k) + x) s) (7 * (N - 1) - 7 * k)
    (fun t s => (∀ r, r ≠ 1 → s r = m1 r) ∧ (∀ z, ¬ (19 + 7 * k ≤ z ∧ z < 19 + 7 * k + t) → s 1 z = m1 1 z) ∧ ∀ z, 19 + 7 * k ≤ z → z < 19 + 7 * k + t → s 1 z = m1 1 (z + 7))
    (fun q t s ht hR => by
      obtain ⟨h1, h2, h3⟩ := hR
      have hs0 : s 1 0 = nI (N - 1) := (h2 0 (by omega)).trans q0
      have ea : (19 : Int32) + nI (7 * k + t) = nI (19 + 7 * k + t) := by rw [show (19 : Int32) = nI 19 from rfl, nI_add]; congr 1; omega
      have eb : nI (19 + 7 * k + t) + 7 = nI (19 + 7 * k + t + 7) := by rw [show (7 : Int32) = nI 7 from rfl, nI_add]
      refine ⟨va_up s 1 (upd (s 1) (19 + 7 * k + t) (s 1 (19 + 7 * k + t + 7))), ?_, fun r hr => by rw [vun _ _ _ hr]; exact h1 r hr, fun z hz => ?_, fun z a b => ?_⟩
      · simp only [L_X10_goes_25, ib0, cl0, hs0, e7N, nI_add, nI_ge (show 7 * k + t < 7 * (N - 1) by omega) (show 7 * (N - 1) < 2 ^ 31 by omega), ea, eb, inb_nI (show 19 + 7 * k + t + 7 < 1152 by omega) (show 1152 < 2 ^ 31 by decide), inb_nI (show 19 + 7 * k + t < 1152 by omega) (show 1152 < 2 ^ 31 by decide), nI_clamp (show 19 + 7 * k + t + 7 < 2 ^ 31 by omega), nI_clamp (show 19 + 7 * k + t < 2 ^ 31 by omega), ↓reduceIte, ← nI_succ]
        rfl
      · rw [va_up_self, upd_ne _ _ (by omega)]; exact h2 z (by omega)
      · rw [va_up_self]
        by_cases hz : z = 19 + 7 * k + t
        · subst hz
          rw [upd_self]; exact h2 _ (by omega)
        · rw [upd_ne _ _ hz]; exact h3 z a (by omega)) 200 m1 (by omega) ⟨fun _ _ => rfl, fun _ _ => rfl, fun z a b => by omega⟩
  have hs0 : s 1 0 = nI (N - 1) := (h2 0 (by omega)).trans q0
  obtain ⟨u, e2, k1, k2⟩ := loop_up (L := fun q x (u : Nat → Nat → Int32) => L_X10_goes_67 q m (nI k) (nI (7 * (N - 1))) s x u) 7
    (fun t u => (∀ r, r ≠ 1 → u r = s r) ∧ ∀ z, ¬ (19 + 7 * (N - 1) ≤ z ∧ z < 19 + 7 * (N - 1) + t) → u 1 z = s 1 z)
    (fun q t u ht hR => by
      obtain ⟨k1, k2⟩ := hR
      have hu0 : u 1 0 = nI (N - 1) := (k2 0 (by omega)).trans hs0
      refine ⟨va_up u 1 (upd (u 1) (19 + 7 * (N - 1) + t) 0), ?_, fun r hr => by rw [vun _ _ _ hr]; exact k1 r hr, fun z hz => ?_⟩
      · simp only [L_X10_goes_67, show ¬ (7 : Int32) ≤ nI t from nI_ge ht (by decide), ib0, cl0, hu0, ms_eq u (k := N - 1) (j := t) 0 (by omega), Option.bind_some, ↓reduceIte, nI_succ]
      · rw [va_up_self, upd_ne _ _ (by omega)]; exact k2 z (by omega)) 200 s (by decide) ⟨fun _ _ => rfl, fun _ _ => rfl⟩
  refine ⟨u, ?_, fun r hr => by rw [k1 r hr, h1 r hr, qr r hr], (k2 0 (by omega)).trans hs0, by rw [k2 5 (by omega), h2 5 (by omega), q5], fun z a b c => by rw [k2 z (by omega), h2 z (by omega), qz z a b], fun i hi hiN j hj => ?_⟩
  · rw [e0]
    have e3 : L_X10_goes_25 200 m (nI k) (nI (7 * k)) m1 = L_X10_goes_25 200 m (nI k) (nI (7 * k) + nI 0) m1 := by rw [nI_add]; rfl
    rw [e3]
    refine Eq.trans e ?_
    obtain ⟨z, hz⟩ : ∃ z, 200 - (7 * (N - 1) - 7 * k) = z + 1 := ⟨199 - (7 * (N - 1) - 7 * k), by omega⟩
    rw [hz, nI_add, show 7 * k + (7 * (N - 1) - 7 * k) = 7 * (N - 1) by omega]
    simp only [L_X10_goes_25, ib0, cl0, hs0, e7N, nI_le (Nat.le_refl (7 * (N - 1))) (show 7 * (N - 1) < 2 ^ 31 by omega), ↓reduceIte]
    refine Eq.trans e2 ?_
    show L_X10_goes_67 (192 + 1) m (nI k) (nI (7 * (N - 1))) s (nI 7) u = some u
    simp only [L_X10_goes_67, show (7 : Int32) ≤ nI 7 by decide, ↓reduceIte]
  · unfold mcl
    rw [k2 _ (by omega), h3 _ (by omega) (by omega), qz _ (by omega) (by omega)]
    congr 1
    omega
/-- the indices from the last t that are kept -/
def fl (keep : Nat → Bool) (n : Nat) : Nat → List Nat
  | 0 => []
  | t + 1 => if keep (n - (t + 1)) then (n - (t + 1)) :: fl keep n t else fl keep n t
theorem fl_eq (keep : Nat → Bool) (n : Nat) : ∀ t, t ≤ n → fl keep n t = (List.range' (n - t) t).filter keep
  | 0, _ => rfl
  | t + 1, h => by
    have ih := fl_eq keep n t (by omega)
    have e : List.range' (n - (t + 1)) (t + 1) = (n - (t + 1)) :: List.range' (n - t) t := by
      rw [List.range'_succ, show n - (t + 1) + 1 = n - t by omega]
    rw [e]
    show (if keep (n - (t + 1)) then _ else _) = _
    by_cases hk : keep (n - (t + 1)) = true
    · rw [if_pos hk, List.filter_cons_of_pos hk, ih]
    · rw [if_neg hk, List.filter_cons_of_neg hk, ih]
theorem fl_all (keep : Nat → Bool) (n : Nat) : fl keep n n = (List.range n).filter keep := by
  rw [fl_eq keep n n (Nat.le_refl n), Nat.sub_self, List.range_eq_range']
theorem fl_len (keep : Nat → Bool) (n : Nat) : ∀ t, (fl keep n t).length ≤ t
  | 0 => Nat.le_refl 0
  | t + 1 => by
    have ih := fl_len keep n t
    show (if keep (n - (t + 1)) then (n - (t + 1)) :: fl keep n t else fl keep n t).length ≤ t + 1
    split
    · simp only [List.length_cons]; omega
    · omega
