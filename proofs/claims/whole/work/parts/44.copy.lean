/-! copies: the class's of an office, the reference's of a row -/
theorem cp_ix {a k : Nat} : (96 * nI a) + nI k = nI (96 * a + k) := by
  rw [show (96 : Int32) = nI 96 from rfl, pk_mul, nI_add]
theorem cp_eq (m : Nat → Nat → Int32) {a b : Nat} (ha : a < 12) (hb : b < 12) (hab : a ≠ b) :
    ∃ m' : Nat → Nat → Int32, D_X10_copies m (nI a) (nI b) = some m' ∧ (∀ r, r ≠ 1 → m' r = m r) ∧ (∀ q, ¬ (96 * b ≤ q ∧ q < 96 * b + 96) → m' 1 q = m 1 q) ∧ ∀ j, j < 96 → m' 1 (96 * b + j) = m 1 (96 * a + j) := by
  obtain ⟨s', e, h1, h2, h3⟩ := loop_up (L := fun q i s => L_X10_copies_2 q m (nI a) (nI b) i s) 96
    (fun k s => (∀ r, r ≠ 1 → s r = m r) ∧ (∀ q, ¬ (96 * b ≤ q ∧ q < 96 * b + k) → s 1 q = m 1 q) ∧ ∀ j, j < k → s 1 (96 * b + j) = m 1 (96 * a + j))
    (fun q k s hk hR => by
      obtain ⟨h1, h2, h3⟩ := hR
      refine ⟨va_up s 1 (upd (s 1) (96 * b + k) (s 1 (96 * a + k))), ?_, fun r hr => ?_, fun z hz => ?_, fun j hj => ?_⟩
      · simp only [L_X10_copies_2, show ¬ (96 : Int32) ≤ nI k from nI_ge hk (by decide), cp_ix, inb_nI (show 96 * a + k < 1152 by omega) (show 1152 < 2 ^ 31 by decide), inb_nI (show 96 * b + k < 1152 by omega) (show 1152 < 2 ^ 31 by decide), nI_clamp (show 96 * a + k < 2 ^ 31 by omega), nI_clamp (show 96 * b + k < 2 ^ 31 by omega), ↓reduceIte, nI_succ]
      · rw [vun _ _ _ hr]; exact h1 r hr
      · rw [va_up_self, upd_ne _ _ (by omega)]; exact h2 z (by omega)
      · rw [va_up_self]
        by_cases hjk : j = k
        · subst hjk
          rw [upd_self]
          exact h2 _ (by omega)
        · rw [upd_ne _ _ (by omega)]; exact h3 j (by omega)) 200 m (by decide) ⟨fun _ _ => rfl, fun _ _ => rfl, fun j hj => absurd hj (Nat.not_lt_zero _)⟩
  refine ⟨s', ?_, h1, h2, h3⟩
  have e0 : D_X10_copies m (nI a) (nI b) = L_X10_copies_2 200 m (nI a) (nI b) (nI 0) m := rfl
  rw [e0]
  refine e.trans ?_
  show L_X10_copies_2 (103 + 1) m (nI a) (nI b) (nI 96) s' = some s'
  simp only [L_X10_copies_2, show (96 : Int32) ≤ nI 96 by decide, ↓reduceIte]
theorem cpy_in (f g : Nat → Int32) {n j : Nat} (h : j < n) : va_cpy f g 0 0 n j = f j := by
  unfold va_cpy
  simp [h]
theorem c1cp (u v : Nat → Int32) {j : Nat} (h : j < 7) : D_X1_copyFrom u v j = v j := by
  unfold D_X1_copyFrom
  rcases (show j = 0 ∨ j = 1 ∨ j = 2 ∨ j = 3 ∨ j = 4 ∨ j = 5 ∨ j = 6 by omega) with rfl | rfl | rfl | rfl | rfl | rfl | rfl <;> rfl
/-- the class's copy of an office -/
theorem ccp (o p : Nat → Nat → Int32) : ∃ o' : Nat → Nat → Int32, D_X4_copyFrom o p = some o' ∧ EqO o' p := by
  obtain ⟨s', e, h1⟩ := loop_up (L := fun q i s => L_X4_copyFrom_2 q o p i s) 6 (fun k s => ∀ i, i < k → ∀ j, j < 7 → s (i + 7) j = p (i + 7) j)
    (fun q k s hk hR => by
      refine ⟨va_up s (k + 7) (D_X1_copyFrom (s (k + 7)) (p (k + 7))), ?_, fun i hi j hj => ?_⟩
      · simp only [L_X4_copyFrom_2, show ¬ (6 : Int32) ≤ nI k from nI_ge hk (by decide), inb_nI hk (show 6 < 2 ^ 31 by decide), nI_clamp (show k < 2 ^ 31 by omega), ↓reduceIte, nI_succ]
      · by_cases hik : i = k
        · subst hik
          rw [va_up_self]
          exact c1cp _ _ hj
        · rw [vun _ _ _ (by omega)]
          exact hR i (by omega) j hj) 200 o (by decide) (fun i hi => absurd hi (Nat.not_lt_zero _))
  have e0 : D_X4_copyFrom o p = L_X4_copyFrom_2 200 o p (nI 0) o := rfl
  rw [e0.trans e]
  show ∃ o', L_X4_copyFrom_2 (193 + 1) o p (nI 6) s' = some o' ∧ _
  simp only [L_X4_copyFrom_2, show (6 : Int32) ≤ nI 6 by decide, ↓reduceIte]
  refine ⟨_, rfl, ?_⟩
  refine ⟨rfl, fun j h5 h11 => ?_, fun j hj => cpy_in _ _ hj, fun j hj => cpy_in _ _ hj, rfl, fun j hj => cpy_in _ _ hj, fun j hj => cpy_in _ _ hj, fun i hi j hj => ?_⟩
  · rcases (show j = 5 ∨ j = 6 ∨ j = 7 ∨ j = 8 ∨ j = 9 ∨ j = 10 ∨ j = 11 by omega) with rfl | rfl | rfl | rfl | rfl | rfl | rfl <;> rfl
  · show (va_up _ 0 _ : Nat → Nat → Int32) (i + 7) j = _
    rw [vun _ _ _ (by omega)]
    unfold D_X7_copyFrom
    rw [vun _ _ _ (by omega), vun _ _ _ (by omega), vun _ _ _ (by omega), vun _ _ _ (by omega), vun _ _ _ (by omega), vun _ _ _ (by omega)]
    exact h1 i hi j hj
