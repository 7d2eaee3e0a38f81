/-! helpers for the changes -/
theorem va_up_up (m : Nat → Nat → Int32) (k : Nat) (f g : Nat → Int32) : va_up (va_up m k f) k g = va_up m k g := by
  funext r
  by_cases h : r = k
  · subst h; rw [va_up_self, va_up_self]
  · rw [vun _ _ _ h, vun _ _ _ h, vun _ _ _ h]
theorem va_up_01 (m : Nat → Nat → Int32) (f g : Nat → Int32) : va_up (va_up m 0 f) 1 g = va_up (va_up m 1 g) 0 f := by
  funext r
  by_cases h0 : r = 0
  · subst h0; rw [va_up_self, vun _ _ _ (by omega), va_up_self]
  · rw [vun (va_up m 1 g) 0 f h0]
    by_cases h1 : r = 1
    · subst h1; rw [va_up_self, va_up_self]
    · rw [vun _ _ _ h1, vun _ _ _ h0, vun _ _ _ h1]
theorem va_up_1of0 (m : Nat → Nat → Int32) (f : Nat → Int32) : va_up m 0 f 1 = m 1 := vun _ _ _ (by omega)
theorem va_up_0of1 (m : Nat → Nat → Int32) (f : Nat → Int32) : va_up m 1 f 0 = m 0 := vun _ _ _ (by omega)
theorem upd_upd (f : Nat → Int32) (k : Nat) (a b : Int32) : upd (upd f k a) k b = upd f k b := by
  funext j
  by_cases h : j = k
  · subst h; rw [upd_self, upd_self]
  · rw [upd_ne _ _ h, upd_ne _ _ h, upd_ne _ _ h]
theorem sumTo_two {f g : Nat → Int32} : ∀ {n : Nat}, (∀ j, j < n → f j + g j = 1) → sumTo f n + sumTo g n = nI n
  | 0, _ => rfl
  | n + 1, h => by
    show (sumTo f n + f n) + (sumTo g n + g n) = nI (n + 1)
    have h1 := sumTo_two (f := f) (g := g) (n := n) (fun j hj => h j (by omega))
    have h2 := h n (by omega)
    rw [nI_succ, ← h1, ← h2]
    grind
theorem sumTo_cnt {f : Nat → Int32} : ∀ {n : Nat}, (∀ j, j < n → f j = 0 ∨ f j = 1) → ∃ k, k ≤ n ∧ sumTo f n = nI k
  | 0, _ => ⟨0, Nat.le_refl 0, rfl⟩
  | n + 1, h => by
    obtain ⟨k, hk, e⟩ := sumTo_cnt (f := f) (n := n) (fun j hj => h j (by omega))
    rcases h n (by omega) with h0 | h1
    · exact ⟨k, by omega, by show sumTo f n + f n = _; rw [e, h0, Int32.add_zero]⟩
    · exact ⟨k + 1, by omega, by show sumTo f n + f n = _; rw [e, h1, nI_succ]⟩
theorem m1_cases {x : Int32} (h : rng x (-1) 3) : x + 1 ≤ 0 ↔ x = -1 := by
  rcases rng_m (b := 3) h (by decide) with rfl | ⟨k, hk, rfl⟩
  · exact ⟨fun _ => rfl, fun _ => by decide⟩
  · rw [← nI_succ]
    refine ⟨fun hh => ?_, fun hh => absurd hh (nn1 (by omega))⟩
    rw [le_toInt, toInt_0, nI_toInt (by omega)] at hh
    omega
/-- the vineyards that belong to somebody, told both ways -/
theorem owned_eq {o m : Nat → Nat → Int32} (h : RVi o (m 1)) : ∃ k, k ≤ 6 ∧ D_X4_ownedVineyards o = some (nI k) ∧ D_X10_owned m = some (nI k) := by
  obtain ⟨k, hk, e⟩ := sumTo_cnt (f := fun j => if m 1 (13 + j) ≤ 0 then 0 else 1) (n := 6) (fun j _ => by split <;> simp)
  refine ⟨k, hk, ?_, by rw [own_eq, e]⟩
  unfold D_X4_ownedVineyards
  rw [vb_eq]
  simp only [Option.bind_some]
  have h2 := sumTo_two (f := fun j => if o 2 j = -1 then 1 else 0) (g := fun j => if m 1 (13 + j) ≤ 0 then 0 else 1) (n := 6) (fun j hj => by
    have h1 := h j hj
    rw [h1.1]
    by_cases hh : o 2 j = -1
    · rw [if_pos hh, if_pos ((m1_cases h1.2).mpr hh)]; rfl
    · rw [if_neg hh, if_neg (fun z => hh ((m1_cases h1.2).mp z))]; rfl)
  rw [e] at h2
  rw [show (6 : Int32) = nI 6 from rfl, ← h2]
  congr 1
  grind
section PART
variable {o o' : Nat → Nat → Int32} {r s : Nat → Int32} {n d : Nat}
/-- vineyards change -/
theorem RO.vines (h : RO o r n d) {f : Nat → Int32} (hs : ∀ k, k < 96 → ¬ (13 ≤ k ∧ k < 19) → s k = r k) (hf : ∀ k, k < 6 → s (13 + k) = f k + 1 ∧ rng (f k) (-1) 3) : RO (va_up o 2 f) s n d := by
  obtain ⟨h1, h2, h3, h4, h5, h6, h7, h8, h9, h10, h11⟩ := h
  refine ⟨h1, h2, h3, ?_, h5.cg (fun j _ _ => rfl) (fun k _ _ => hs k (by omega) (by omega)), ⟨h6.1, ?_⟩, h7.cg (fun k _ => rfl) (fun k _ _ => hs k (by omega) (by omega)), fun k hk => ?_, h9.cg h1 (fun i hi j hj => ?_) (fun k _ _ => hs k (by omega) (by omega)), h10.cg h2 (fun k _ => rfl) (fun k _ => rfl) (fun k _ _ => hs k (by omega) (by omega)), h11⟩
  · rw [hs 0 (by omega) (by omega)]; exact h4
  · rw [hs 8 (by omega) (by omega)]; exact h6.2
  · rw [va_up_self]; exact hf k hk
  · rw [vun _ _ _ (by omega)]
/-- scalars, purses and clouds change -/
theorem RO.part (h : RO o r n d) (e1 : o' 0 1 = o 0 1) (e2 : o' 2 = o 2) (e4 : o' 4 2 = o 4 2) (e5 : o' 5 = o 5) (e6 : o' 6 = o 6) (hs : ∀ k, k < 96 → ¬ (1 ≤ k ∧ k < 8) → ¬ (9 ≤ k ∧ k < 13) → ¬ (19 ≤ k ∧ k < 61) → s k = r k)
    (h5 : RSc o' s) (h7 : RPu o' s) (h9 : RCl o' s n) (h11 : RBa o') : RO o' s n d := by
  obtain ⟨g1, g2, g3, g4, -, g6, -, g8, -, g10, -⟩ := h
  refine ⟨g1, g2, e1.trans g3, ?_, h5, ⟨e4.trans g6.1, ?_⟩, h7, g8.cg (fun k _ => by rw [e2]) (fun k _ _ => hs k (by omega) (by omega) (by omega) (by omega)), h9, g10.cg g2 (fun k _ => by rw [e5]) (fun k _ => by rw [e6]) (fun k _ _ => hs k (by omega) (by omega) (by omega) (by omega)), h11⟩
  · rw [hs 0 (by omega) (by omega) (by omega) (by omega)]; exact g4
  · rw [hs 8 (by omega) (by omega) (by omega) (by omega)]; exact g6.2
theorem RCl.one (h : RCl o r n) {i : Nat} (h1 : ∀ j, j < n → j ≠ i → o' (j + 7) = o (j + 7)) (hs : ∀ j, j < n → j ≠ i → ∀ k, k < 7 → mcl s j k = mcl r j k) (hC : CR (o' (i + 7)) (mcl s i)) (hB : CB (o' (i + 7))) : RCl o' s n := fun j hj => by
  by_cases e : j = i
  · subst e; exact ⟨hC, hB⟩
  · exact ⟨(h j hj).1.cg (fun k _ => by rw [h1 j hj e]) (fun k hk => hs j hj e k hk), (h j hj).2.cg (fun k _ => by rw [h1 j hj e])⟩
end PART
theorem gets_eq (m : Nat → Nat → Int32) {k : Nat} (q : Int32) (hk : k < 100) : D_X10_gets m (nI k) q = some (va_up m 1 (upd (upd (m 1) (19 + 7 * k + 3) (q + 1)) (19 + 7 * k + 4) (mcl (m 1) k 1))) := by
  unfold D_X10_gets
  rw [show D_X10_set m (nI k) 3 (q + 1) = _ from ms_eq m (j := 3) (q + 1) (by omega)]
  simp only [Option.bind_some]
  rw [show D_X10_c _ (nI k) 1 = _ from mc_eq _ (j := 1) (by omega)]
  simp only [Option.bind_some]
  rw [show D_X10_set _ (nI k) 4 _ = _ from ms_eq _ (j := 4) _ (by omega)]
  simp only [Option.bind_some, va_up_up, va_up_self, mcl]
  rw [upd_ne _ _ (show 19 + 7 * k + 1 ≠ 19 + 7 * k + 3 by omega)]
theorem frees_eq (m : Nat → Nat → Int32) {k : Nat} (hk : k < 100) : D_X10_frees m (nI k) = some (va_up m 1 (upd (upd (m 1) (19 + 7 * k + 5) 0) (19 + 7 * k + 6) 0)) := by
  unfold D_X10_frees
  rw [show D_X10_set m (nI k) 5 0 = _ from ms_eq m (j := 5) 0 (by omega)]
  simp only [Option.bind_some]
  rw [show D_X10_set _ (nI k) 6 0 = _ from ms_eq _ (j := 6) 0 (by omega)]
  simp only [Option.bind_some, va_up_up, va_up_self]
/-- the sum of four purses when one changes -/
theorem sum4 (f : Nat → Int32) {p : Nat} (hp : p < 4) (v : Int32) : upd f p v 0 + upd f p v 1 + upd f p v 2 + upd f p v 3 = f 0 + f 1 + f 2 + f 3 - f p + v := by
  rcases (show p = 0 ∨ p = 1 ∨ p = 2 ∨ p = 3 by omega) with rfl | rfl | rfl | rfl <;> simp only [upd_self, upd_ne _ _ (show 0 ≠ 1 by omega), upd_ne _ _ (show 0 ≠ 2 by omega), upd_ne _ _ (show 0 ≠ 3 by omega), upd_ne _ _ (show 1 ≠ 0 by omega), upd_ne _ _ (show 1 ≠ 2 by omega), upd_ne _ _ (show 1 ≠ 3 by omega), upd_ne _ _ (show 2 ≠ 0 by omega), upd_ne _ _ (show 2 ≠ 1 by omega), upd_ne _ _ (show 2 ≠ 3 by omega), upd_ne _ _ (show 3 ≠ 0 by omega), upd_ne _ _ (show 3 ≠ 1 by omega), upd_ne _ _ (show 3 ≠ 2 by omega)] <;> grind
