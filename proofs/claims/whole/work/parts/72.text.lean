/-! what is fed, and the text -/
theorem g_feed : Good_feed Inv := by
  intro k x m hk hI p1
  generalize ((p1.toUInt32 % 65536).toInt32) = p
  unfold OK_feed D_X9_feed D_X10_feed D_X8_isFull D_X8_append
  obtain ⟨hO, hH, hS, hE, ⟨l, l1, l2, l3, l4⟩, hFa, hX⟩ := id hI
  rw [l2, l3, wi_iff, nI_toInt (by omega), show (60 : Int32).toInt = 60 by decide]
  by_cases h : l = 60
  · subst h
    rw [if_neg (show ¬ (0 ≤ ((60 : Nat) : Int) ∧ ((60 : Nat) : Int) < 60) by omega), if_pos rfl, if_neg one_ne, if_pos (show (60 : Int32) ≤ nI 60 by decide), it0]
    exact ⟨1, 0, x, 0, _, Or.inr rfl, rfl, rfl, th _ _, fun z => absurd z one_ne, rd hI 1⟩
  · rw [if_pos (show 0 ≤ (l : Int) ∧ (l : Int) < 60 by omega), if_neg one_ne, if_neg one_ne, if_pos rfl, if_pos (inb_nI (show l < 60 by omega) (by decide)), nI_clamp (show l < 2 ^ 31 by omega), if_neg (show ¬ (60 : Int32) ≤ nI l from nI_ge (show l < 60 by omega) (by decide)), it1, va_up_self, upd_ne _ _ (show 10 ≠ 0 by omega), l3, if_pos (inb_nI (show l < 60 by omega) (by decide)), nI_clamp (show l < 2 ^ 31 by omega)]
    have m0 : ∀ j, j ≠ 0 → j ≠ 10 → va_up (va_up (va_up m 0 (upd (m 0) 0 0)) 2 (upd (va_up m 0 (upd (m 0) 0 0) 2) l (vp_nar .char p))) 0 (upd (upd (m 0) 0 0) 10 (nI l + 1)) 0 j = m 0 j := fun j a b => by rw [va_up_self, upd_ne _ _ b, upd_ne _ _ a]
    have mr : ∀ r, r ≠ 0 → r ≠ 2 → va_up (va_up (va_up m 0 (upd (m 0) 0 0)) 2 (upd (va_up m 0 (upd (m 0) 0 0) 2) l (vp_nar .char p))) 0 (upd (upd (m 0) 0 0) 10 (nI l + 1)) r = m r := fun r a b => by rw [vun _ _ _ a, vun _ _ _ b, vun _ _ _ a]
    have m2 : va_up (va_up (va_up m 0 (upd (m 0) 0 0)) 2 (upd (va_up m 0 (upd (m 0) 0 0) 2) l (vp_nar .char p))) 0 (upd (upd (m 0) 0 0) 10 (nI l + 1)) 2 = upd (m 2) l (vp_nar .char p) := by rw [vun _ _ _ (by omega), va_up_self, vun _ _ _ (by omega)]
    refine ⟨0, _, _, _, _, Or.inl rfl, rfl, rfl, ?_, fun _ => rfl, Inv.mono (k := k) ⟨?_, hH.cg (fun q a b => by rw [xs_ne (by omega)]) (by rw [xs_self, vun _ _ _ (by omega), vun _ _ _ (by omega)]) (by rw [xs_self, vun _ _ _ (by omega), vun _ _ _ (by omega)]) (m0 2 (by omega) (by omega)) (fun z _ _ => by rw [mr 1 (by omega) (by omega)]), hS.cg (xs_ne (by omega)) (by rw [xs_self, vun _ _ _ (by omega), vun _ _ _ (by omega)]) (m0 3 (by omega) (by omega)) (fun z _ _ => by rw [mr 1 (by omega) (by omega)]), hE.cg (by rw [xs_self, vun _ _ _ (by omega), vun _ _ _ (by omega)]) (fun j a b => m0 j (by omega) (by omega)), ⟨l + 1, by omega, ?_, ?_, fun j hj => ?_⟩, ?_, hX.cg (by rw [xs_self, vun _ _ _ (by omega), vun _ _ _ (by omega)]) (by rw [xs_self, vun _ _ _ (by omega), vun _ _ _ (by omega)]) (m0 17 (by omega) (by omega)) (mr 4 (by omega) (by omega))⟩ (Nat.le_succ k)⟩
    · show upd (upd (m 0) 0 0) 10 (nI l + 1) 0 = 0
      rw [upd_ne _ _ (by omega), upd_self]
    · rw [xs_ne (by omega), mr 1 (by omega) (by omega)]; exact hO
    · rw [xs_self, va_up_self, upd_self, nI_succ]
    · rw [va_up_self, upd_self, nI_succ]
    · rw [m2, xs_self, vun _ _ _ (by omega), va_up_self]
      by_cases hjl : j = l
      · subst hjl; rw [upd_self, upd_self]
      · rw [upd_ne _ _ hjl, upd_ne _ _ hjl]; exact l4 j (by omega)
    · rw [xs_self, vun _ _ _ (by omega), vun _ _ _ (by omega), m0 13 (by omega) (by omega)]; exact hFa
