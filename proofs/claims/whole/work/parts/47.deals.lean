/-! vineyards, titles, sales, pledges -/
theorem ow_in (x : Int32) : D_X10_isOwner x = D_X9_isOwner x := mow
theorem in_m13 (x : Int32) : D_X10_in x (-1) 3 = 0 ∧ ¬ x = -1 ∧ D_X9_isOwner x = 0 ∨ D_X10_in x (-1) 3 = 1 ∧ x = -1 ∨ D_X10_in x (-1) 3 = 1 ∧ ¬ x = -1 ∧ D_X9_isOwner x = 1 ∧ ∃ k, k < 4 ∧ x = nI k := by
  rw [in_iff, toInt_m1, show (3 : Int32).toInt = 3 by decide]
  by_cases h : x = -1
  · subst h
    exact Or.inr (Or.inl ⟨by decide, rfl⟩)
  · have hne : ¬ x.toInt = -1 := fun e => h (of_toInt (e.trans toInt_m1.symm))
    rcases ow_cases x with ⟨e, h2⟩ | ⟨e, k, hk, rfl⟩
    · exact Or.inl ⟨if_neg (by omega), h, e⟩
    · have e2 := nI_toInt (n := k) (by omega)
      exact Or.inr (Or.inr ⟨if_pos (by omega), h, e, k, hk, rfl⟩)
theorem vine_tail {B : Nat} {o m : Nat → Nat → Int32} {n d : Nat} (h : RO o (m 1) n d) (hF : PF (o 3) B) {v : Nat} (hv : v < 6) {p2 : Int32} (hp : rng p2 (-1) 3) :
    Ch B o m (if inb (nI v) 6 then (if ((o 2) (nI v).toNatClampNeg) = p2 then (some ((D_X4_refuse o 4 p2).1, (D_X4_refuse o 4 p2).2)) else (if inb (nI v) 6 then ((D_X4_ownedVineyards (va_up o 2 (upd (o 2) ((nI v).toNatClampNeg) p2))).bind (fun r9 => some (r9, (va_up o 2 (upd (o 2) ((nI v).toNatClampNeg) p2))))) else none)) else none)
      (if inb (13 + nI v) 1152 then (if (m 1 (13 + nI v).toNatClampNeg) = (p2 + 1) then (some (0, (D_X10_refuses m 1 4 p2).2)) else (if inb (13 + nI v) 1152 then ((D_X10_owned (va_up m 1 (upd (m 1) ((13 + nI v).toNatClampNeg) (p2 + 1)))).bind (fun r24 => some (1, (va_up (va_up m 1 (upd (m 1) ((13 + nI v).toNatClampNeg) (p2 + 1))) 0 (upd (m 0) 4 r24))))) else none)) else none) := by
  have hV := h.2.2.2.2.2.2.2.1
  rw [mvo hv, if_pos (inb_nI hv (by decide)), if_pos (inb_nI (show 13 + v < 1152 by omega) (by decide)), nI_clamp (show v < 2 ^ 31 by omega), nI_clamp (show 13 + v < 2 ^ 31 by omega), (hV v hv).1]
  by_cases e : o 2 v = p2
  · subst e
    rw [if_pos rfl, if_pos rfl]
    exact Ch.ref 4 (o 2 v) (by decide) rfl rfl
  · rw [if_neg e, if_neg (fun z => e (add1_inj.mp z)), if_pos (inb_nI hv (by decide)), if_pos (inb_nI (show 13 + v < 1152 by omega) (by decide))]
    have hR : RO (va_up o 2 (upd (o 2) v p2)) (va_up m 1 (upd (m 1) (13 + v) (p2 + 1)) 1) n d := by
      refine h.vines (fun k _ hk => ?_) (fun k hk => ?_)
      · rw [va_up_self, upd_ne _ _ (by omega)]
      · rw [va_up_self]
        by_cases ek : k = v
        · subst ek; rw [upd_self, upd_self]; exact ⟨rfl, hp⟩
        · rw [upd_ne _ _ (by omega), upd_ne _ _ ek]; exact hV k hk
    obtain ⟨q, hq, e1, e2⟩ := owned_eq (o := va_up o 2 (upd (o 2) v p2)) (m := va_up m 1 (upd (m 1) (13 + v) (p2 + 1))) hR.2.2.2.2.2.2.2.1
    rw [e1, e2]
    refine ⟨_, _, _, _, rfl, rfl, fun r hr => by rw [vun _ _ _ (by omega), vun _ _ _ (by omega)], fun k hk => ?_, fun j a _ _ _ => by rw [va_up_self, upd_ne _ _ a], Or.inr ⟨rfl, nn1 (by omega), by rw [va_up_self, upd_self], by rw [va_up_self]; rfl, by rw [va_up_self]; rfl, by rw [va_up_self]; rfl, (hF.cg (fun k _ => rfl)).mono (by omega), n, d, ?_⟩⟩
    · rw [va_up_1of0, va_up_self, upd_ne _ _ (by omega)]
    · rw [va_up_1of0]; exact hR
theorem rng_ow {k : Nat} (h : k < 4) : rng (nI k) (-1) 3 := by
  have := nI_toInt (n := k) (by omega)
  exact ⟨by omega, by omega⟩
/-- a vineyard is given -/
theorem ch_vine {B : Nat} {o m : Nat → Nat → Int32} {n d : Nat} (h : RO o (m 1) n d) (hF : PF (o 3) B) (p1 p2 : Int32) : Ch B o m (D_X4_giveVineyard o p1 p2) (D_X10_belongs m p1 p2) := by
  unfold D_X4_giveVineyard D_X10_belongs
  rw [mvi]
  rcases vi_cases p1 with ⟨e1, -⟩ | ⟨e1, v, hv, rfl⟩
  · rw [if_pos e1, if_pos e1]; exact Ch.ref 2 p1 (by decide) rfl rfl
  rw [e1, if_neg one_ne, if_neg one_ne]
  rcases in_m13 p2 with ⟨e2, e3, e4⟩ | ⟨e2, rfl⟩ | ⟨e2, e3, e4, k, hk, rfl⟩
  · rw [if_pos e2, if_neg e3, if_pos e4]; exact Ch.ref 2 p2 (by decide) rfl rfl
  · rw [e2, if_neg one_ne, if_pos rfl]
    exact vine_tail h hF hv ⟨by decide, by decide⟩
  · rw [e2, if_neg one_ne, if_neg e3, e4, if_neg one_ne]
    exact vine_tail h hF hv (rng_ow hk)
