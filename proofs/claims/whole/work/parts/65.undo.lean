/-! undo, save, restore -/
theorem flp8 {a : Nat} (ha : a < 8) : D_J9_floorMod_7cf53 (nI a - 1) 8 = some (nI ((a + 7) % 8)) := by
  rcases (show a = 0 ∨ a = 1 ∨ a = 2 ∨ a = 3 ∨ a = 4 ∨ a = 5 ∨ a = 6 ∨ a = 7 by omega) with rfl | rfl | rfl | rfl | rfl | rfl | rfl | rfl <;> decide +kernel
theorem g_undo : Good_undo Inv := by
  intro k x m hk hI
  unfold OK_undo D_X9_undo D_X10_undo
  have hI0 := hI
  obtain ⟨hO, ⟨c, nx, h1, h2, h3, h4, h5, h6⟩, hS, hE, hT, hFa, hX⟩ := hI
  by_cases h0 : c = 0
  · subst h0
    rw [h3, h4, if_pos (show nI 0 = 0 from rfl), if_pos (show nI 0 ≤ 0 by decide), it0]
    exact ⟨1, 0, x, 0, _, Or.inr rfl, rfl, rfl, by show upd (m 0) 0 1 0 = 1; rw [upd_self], fun z => absurd z one_ne, (hI0.thr 1).mono (Nat.le_succ k)⟩
  · have hc0 : ¬ nI c = 0 := fun z => h0 (nI_eqI (b := 0) (by omega) (by omega) z)
    rw [h3, h4, if_neg hc0, if_neg (by rw [nI_le0 (by omega)]; exact h0), it1]
    obtain ⟨o', e, he⟩ := ccp (x 0) (x ((nx + 7) % 8 + 4))
    obtain ⟨m', em, g1, g2, g3⟩ := cpr (va_up m 0 (upd (m 0) 0 0)) (a := c) (b := 0) (by omega) (by omega) (by omega) (u := nI c) (v := 0) rfl rfl
    have hcm : nI c - 1 = nI (c - 1) := nI_predx (by omega)
    have xe : hix nx c c = (nx + 7) % 8 + 4 := by unfold hix; omega
    have hK := h6 c (by omega) (Nat.le_refl c)
    rw [xe] at hK
    refine ⟨0, nI (c - 1), va_up (va_up x 12 (va_up (x 12) 1 (upd (upd (x 12 1) 1 (nI ((nx + 7) % 8))) 2 (nI (c - 1))))) 0 o', nI (c - 1), va_up m' 0 (upd (m' 0) 2 (nI (c - 1))), Or.inl rfl, ?_, ?_, ?_, fun _ => rfl, ?_⟩
    · unfold D_X2_popInto
      simp only [h5, h3, flp8 h2, Option.bind_some, wi8 (show (nx + 7) % 8 < 8 by omega), if_neg one_ne, inb_nI (show (nx + 7) % 8 < 8 by omega) (show 8 < 2 ^ 31 by decide), nI_clamp (show (nx + 7) % 8 < 2 ^ 31 by omega), e, hcm, ↓reduceIte]
      rw [xs_ne (by omega), xs_self, va_up_self, upd_self]
    · rw [va_up_self, upd_ne _ _ (by omega), h4, em]
      simp only [Option.bind_some]
      rw [g1 0 (by omega), va_up_self, upd_ne _ _ (by omega), h4, hcm]
    · show va_up m' 0 _ 0 0 = 0
      rw [va_up_self, upd_ne _ _ (by omega), g1 0 (by omega), va_up_self, upd_self]
    · have m0 : ∀ j, j ≠ 0 → j ≠ 2 → va_up m' 0 (upd (m' 0) 2 (nI (c - 1))) 0 j = m 0 j := fun j a b => by rw [va_up_self, upd_ne _ _ b, g1 0 (by omega), va_up_self, upd_ne _ _ a]
      have mr : ∀ r, 2 ≤ r → va_up m' 0 (upd (m' 0) 2 (nI (c - 1))) r = m r := fun r hr => by rw [vun _ _ _ (by omega), g1 r (by omega), vun _ _ _ (by omega)]
      have mz : ∀ z, 96 ≤ z → va_up m' 0 (upd (m' 0) 2 (nI (c - 1))) 1 z = m 1 z := fun z hz => by rw [va_up_1of0, g2 z (by omega), va_up_1of0]
      have x0 : (va_up (va_up x 12 (va_up (x 12) 1 (upd (upd (x 12 1) 1 (nI ((nx + 7) % 8))) 2 (nI (c - 1))))) 0 o') 0 = o' := xs_self
      have xq : ∀ q, 1 ≤ q → q ≠ 12 → (va_up (va_up x 12 (va_up (x 12) 1 (upd (upd (x 12 1) 1 (nI ((nx + 7) % 8))) 2 (nI (c - 1))))) 0 o') q = x q := fun q a b => by rw [xs_ne (by omega), xs_ne b]
      have x12 : ∀ r, r ≠ 1 → (va_up (va_up x 12 (va_up (x 12) 1 (upd (upd (x 12 1) 1 (nI ((nx + 7) % 8))) 2 (nI (c - 1))))) 0 o') 12 r = x 12 r := fun r hr => by rw [xs_ne (by omega), xs_self, vun _ _ _ hr]
      have x121 : (va_up (va_up x 12 (va_up (x 12) 1 (upd (upd (x 12 1) 1 (nI ((nx + 7) % 8))) 2 (nI (c - 1))))) 0 o') 12 1 = upd (upd (x 12 1) 1 (nI ((nx + 7) % 8))) 2 (nI (c - 1)) := by rw [xs_ne (by omega), xs_self, va_up_self]
      refine Inv.mono (k := k) ⟨?_, ⟨c - 1, (nx + 7) % 8, by omega, by omega, by rw [x121, upd_self], by rw [va_up_self, upd_self], by rw [x121, upd_ne _ _ (by omega), upd_self], fun i a b => ?_⟩, hS.cg (xq 3 (by omega) (by omega)) (by rw [x12 0 (by omega)]) (m0 3 (by omega) (by omega)) (fun z p q => mz z (by omega)), hE.cg (x12 3 (by omega)) (fun j p q => m0 j (by omega) (by omega)), hT.cg (by rw [x12 4 (by omega)]) (x12 5 (by omega)) (m0 10 (by omega) (by omega)) (mr 2 (by omega)), by rw [x12 0 (by omega), m0 13 (by omega) (by omega)]; exact hFa, hX.cg (x12 31 (by omega)) (x12 32 (by omega)) (m0 17 (by omega) (by omega)) (mr 4 (by omega))⟩ (Nat.le_succ k)
      · rw [x0]
        exact hK.cg he (fun z hz => by
          have := g3 z hz
          rw [show 96 * 0 + z = z by omega, va_up_1of0] at this
          rw [va_up_1of0, this]; rfl)
      · have e9 : hix ((nx + 7) % 8) (c - 1) i = hix nx c i := by unfold hix; omega
        rw [e9, xq _ (by have := hix_lt nx c i; omega) (by have := hix_lt nx c i; omega)]
        exact (h6 i a (by omega)).cg (EqO.refl _) (fun z hz => mz _ (by omega))
theorem g_save : Good_save Inv := by
  intro k x m hk hI
  unfold OK_save D_X9_save D_X10_save
  obtain ⟨hO, hH, hS, hE, hT, hFa, hX⟩ := hI
  obtain ⟨o', e, he⟩ := ccp (x 3) (x 0)
  obtain ⟨m', em, g1, g2, g3⟩ := cpr (va_up m 0 (upd (upd (m 0) 0 0) 3 1)) (a := 0) (b := 9) (by omega) (by omega) (by omega) (u := 0) (v := 9) rfl rfl
  have m0 : ∀ j, j ≠ 0 → j ≠ 3 → m' 0 j = m 0 j := fun j a b => by rw [g1 0 (by omega), va_up_self, upd_ne _ _ b, upd_ne _ _ a]
  have mr : ∀ r, 2 ≤ r → m' r = m r := fun r hr => by rw [g1 r (by omega), vun _ _ _ (by omega)]
  have mz : ∀ z, ¬ (864 ≤ z ∧ z < 960) → m' 1 z = m 1 z := fun z hz => by rw [g2 z (by omega), va_up_1of0]
  obtain ⟨⟨n, d, hR⟩, hF⟩ := id hO
  rw [e, em]
  simp only [Option.bind_some, ib0, cl0, ↓reduceIte]
  refine ⟨_, _, _, m', rfl, rfl, ?_, Inv.mono (k := k) ⟨?_, hH.cg (fun q a b => by rw [xs_ne (by omega), xs_ne (by omega)]) (by rw [xs_self, vun _ _ _ (by omega)]) (by rw [xs_self, vun _ _ _ (by omega)]) (m0 2 (by omega) (by omega)) (fun z a b => mz z (by omega)), Or.inr ⟨by rw [xs_self, va_up_self, upd_self], by rw [g1 0 (by omega), va_up_self, upd_self], ?_⟩, hE.cg (by rw [xs_self, vun _ _ _ (by omega)]) (fun j a b => m0 j (by omega) (by omega)), hT.cg (by rw [xs_self, vun _ _ _ (by omega)]) (by rw [xs_self, vun _ _ _ (by omega)]) (m0 10 (by omega) (by omega)) (mr 2 (by omega)), by rw [xs_self, va_up_self, upd_ne _ _ (by omega), m0 13 (by omega) (by omega)]; exact hFa, hX.cg (by rw [xs_self, vun _ _ _ (by omega)]) (by rw [xs_self, vun _ _ _ (by omega)]) (m0 17 (by omega) (by omega)) (mr 4 (by omega))⟩ (Nat.le_succ k)⟩
  · rw [hR.2.2.1, mz 0 (by omega), hR.2.2.2.1]
  · rw [xs_ne (by omega), xs_ne (by omega)]
    exact hO.cg (EqO.refl _) (fun z hz => mz z (by omega))
  · rw [xs_ne (by omega), xs_self]
    exact hO.cg he (fun z hz => by
      have := g3 z hz
      rw [show 96 * 0 + z = z by omega, va_up_1of0] at this
      unfold row
      exact this)
theorem g_restore : Good_restore Inv := by
  intro k x m hk hI
  unfold OK_restore D_X9_restore D_X10_restore
  have hI0 := hI
  obtain ⟨hO, ⟨c, nx, h1, h2, h3, h4, h5, h6⟩, hS, hE, hT, hFa, hX⟩ := hI
  rcases hS with ⟨s1, s2⟩ | ⟨s1, s2, hK⟩
  · rw [s1, s2, if_pos rfl, if_pos is0, if_pos rfl, it0]
    exact ⟨1, 0, x, 0, _, Or.inr rfl, rfl, rfl, by show upd (m 0) 0 1 0 = 1; rw [upd_self], fun z => absurd z one_ne, (hI0.thr 1).mono (Nat.le_succ k)⟩
  · rw [s1, s2, if_neg one_ne, if_pos is1, if_neg one_ne, it1]
    obtain ⟨o', e, he⟩ := ccp (x 0) (x 3)
    obtain ⟨m', em, g1, g2, g3⟩ := cpr (va_up m 0 (upd (m 0) 0 0)) (a := 9) (b := 0) (by omega) (by omega) (by omega) (u := 9) (v := 0) rfl rfl
    have m0 : ∀ j, j ≠ 0 → j ≠ 2 → va_up m' 0 (upd (m' 0) 2 0) 0 j = m 0 j := fun j a b => by rw [va_up_self, upd_ne _ _ b, g1 0 (by omega), va_up_self, upd_ne _ _ a]
    have mr : ∀ r, 2 ≤ r → va_up m' 0 (upd (m' 0) 2 0) r = m r := fun r hr => by rw [vun _ _ _ (by omega), g1 r (by omega), vun _ _ _ (by omega)]
    have mz : ∀ z, 96 ≤ z → va_up m' 0 (upd (m' 0) 2 0) 1 z = m 1 z := fun z hz => by rw [va_up_1of0, g2 z (by omega), va_up_1of0]
    have mlo : ∀ z, z < 96 → m' 1 z = row m 9 z := fun z hz => by
      have := g3 z hz
      rw [show 96 * 0 + z = z by omega, va_up_1of0] at this
      exact this
    have x0 : (D_X2_clear (va_up x 0 o')) 0 = o' := by unfold D_X2_clear; rw [xs_ne (by omega), xs_self]
    have xq : ∀ q, 1 ≤ q → q ≠ 12 → (D_X2_clear (va_up x 0 o')) q = x q := fun q a b => by unfold D_X2_clear; rw [xs_ne b, xs_ne (by omega)]
    have x12 : ∀ r, r ≠ 1 → (D_X2_clear (va_up x 0 o')) 12 r = x 12 r := fun r hr => by unfold D_X2_clear; rw [xs_self, vun _ _ _ hr, xs_ne (by omega)]
    have x121 : (D_X2_clear (va_up x 0 o')) 12 1 = upd (x 12 1) 2 0 := by unfold D_X2_clear; rw [xs_self, va_up_self, xs_ne (by omega)]
    obtain ⟨⟨n, d, hR⟩, hF⟩ := id hK
    have hR' := hR.cg (p := o') (s := m' 1) he mlo
    rw [e, em]
    simp only [Option.bind_some, ib0, cl0, ↓reduceIte]
    refine ⟨0, _, _, _, _, Or.inl rfl, rfl, rfl, ?_, fun _ => ?_, Inv.mono (k := k) ⟨?_, ⟨0, nx, by omega, h2, by rw [x121, upd_self]; rfl, by rw [va_up_self, upd_self]; rfl, by rw [x121, upd_ne _ _ (by omega)]; exact h5, fun i a b => by omega⟩, Or.inr ⟨by rw [x12 0 (by omega)]; exact s1, by rw [m0 3 (by omega) (by omega)]; exact s2, ?_⟩, hE.cg (x12 3 (by omega)) (fun j p q => m0 j (by omega) (by omega)), hT.cg (by rw [x12 4 (by omega)]) (x12 5 (by omega)) (m0 10 (by omega) (by omega)) (mr 2 (by omega)), by rw [x12 0 (by omega), m0 13 (by omega) (by omega)]; exact hFa, hX.cg (x12 31 (by omega)) (x12 32 (by omega)) (m0 17 (by omega) (by omega)) (mr 4 (by omega))⟩ (Nat.le_succ k)⟩
    · show va_up m' 0 _ 0 0 = 0
      rw [va_up_self, upd_ne _ _ (by omega), g1 0 (by omega), va_up_self, upd_self]
    · rw [x0, hR'.2.2.1, hR'.2.2.2.1]
    · rw [x0]
      exact hK.cg he (fun z hz => by rw [va_up_1of0]; exact mlo z hz)
    · rw [xq 3 (by omega) (by omega)]
      exact hK.cg (EqO.refl _) (fun z hz => mz _ (by omega))
