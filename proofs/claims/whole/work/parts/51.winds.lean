/-! winds -/
def dv (x w : Int32) : Int32 := ((x + w) + 6) - ((x + w) + 6) / 6 * 6
def ds (x w : Int32) : Int32 := if 0 ≤ w then ((x + w) - (x + w) / 6 * 6) else ((x + (-w)) - (x + (-w)) / 6 * 6)
def drf (c : Nat → Int32) (w : Int32) : Nat → Int32 := upd (upd c 0 (dv (c 0) w)) 1 (ds (c 1) w)
theorem fin_w : ∀ (a : Fin 6) (b : Fin 7), D_J9_floorMod_7cf53 (nI a.val + (nI b.val - 3)) 6 = some (dv (nI a.val) (nI b.val - 3)) ∧ (0 ≤ (dv (nI a.val) (nI b.val - 3)).toInt ∧ (dv (nI a.val) (nI b.val - 3)).toInt ≤ 5) ∧
    D_J9_floorMod_7cf53 (nI a.val + (if 0 ≤ (nI b.val - 3) then (nI b.val - 3) else 0 - (nI b.val - 3))) 6 = some (ds (nI a.val) (nI b.val - 3)) ∧ (0 ≤ (ds (nI a.val) (nI b.val - 3)).toInt ∧ (ds (nI a.val) (nI b.val - 3)).toInt ≤ 5) := by decide +kernel
theorem fin_0 : ∀ (a : Fin 6), dv (nI a.val) 0 = nI a.val ∧ ds (nI a.val) 0 = nI a.val := by decide +kernel
theorem rng_w {w : Int32} (h : rng w (-3) 3) : ∃ b : Nat, b < 7 ∧ w = nI b - 3 := by
  refine ⟨(w.toInt + 3).toNat, by have := h.1; have := h.2; omega, of_toInt ?_⟩
  have h1 := h.1
  have h2 := h.2
  rw [show (nI (w.toInt + 3).toNat - 3).toInt = ((w.toInt + 3).toNat : Int) - 3 from pk_sub_toInt (a := (w.toInt + 3).toNat) (b := 3) (by omega) (by omega)]
  omega
theorem dv_ok {x w : Int32} (hx : rng x 0 5) (hw : rng w (-3) 3) : D_J9_floorMod_7cf53 (x + w) 6 = some (dv x w) ∧ rng (dv x w) 0 5 ∧ D_J9_floorMod_7cf53 (x + (if 0 ≤ w then w else 0 - w)) 6 = some (ds x w) ∧ rng (ds x w) 0 5 := by
  obtain ⟨a, ha, rfl⟩ := rng_nI (b := 5) hx (by decide)
  obtain ⟨b, hb, rfl⟩ := rng_w hw
  exact fin_w ⟨a, by omega⟩ ⟨b, hb⟩
theorem dv_0 {x : Int32} (hx : rng x 0 5) : dv x 0 = x ∧ ds x 0 = x := by
  obtain ⟨a, ha, rfl⟩ := rng_nI (b := 5) hx (by decide)
  exact fin_0 ⟨a, by omega⟩
theorem dr_eq {c : Nat → Int32} {w : Int32} (h0 : rng (c 0) 0 5) (h1 : rng (c 1) 0 5) (hw : rng w (-3) 3) : D_X1_drift c w = some (drf c w) := by
  unfold D_X1_drift D_X1_vineyardAfter
  rw [(dv_ok h0 hw).1, (dv_ok h1 hw).2.2.1]
  rfl
theorem drC {c e : Nat → Int32} (h : CR c e) (w : Int32) : CR (drf c w) (drf e w) := by
  refine ⟨?_, ?_, h.2.2.1, h.2.2.2.1, h.2.2.2.2.1, h.2.2.2.2.2.1, h.2.2.2.2.2.2.1, h.2.2.2.2.2.2.2⟩
  · show dv (c 0) w = dv (e 0) w
    rw [h.1]
  · show ds (c 1) w = ds (e 1) w
    rw [h.2.1]
theorem drB {c : Nat → Int32} (h : CB c) {w : Int32} (hw : rng w (-3) 3) : CB (drf c w) := ⟨(dv_ok h.1 hw).2.1, (dv_ok h.2.1 hw).2.2.2, h.2.2⟩
/-- the class's clouds drift -/
theorem blow_eq {o : Nat → Nat → Int32} {n : Nat} (hn : o 0 1 = nI n) (h6 : n ≤ 6) {w : Int32} (hw : rng w (-3) 3) (hb : ∀ i, i < n → CB (o (i + 7))) :
    ∃ o' : Nat → Nat → Int32, L_X4_blow_26 200 o w 0 0 o = some (sumTo (fun j => if D_X1_hasTitleForOtherShape (drf (o (j + 7)) w) = 0 then 0 else 1) n, o') ∧ (∀ r, r < 7 → o' r = o r) ∧ ∀ i, i < n → o' (i + 7) = drf (o (i + 7)) w := by
  obtain ⟨s', e, h1, h2, h3, -⟩ := loop_up (L := fun q i (s : Int32 × (Nat → Nat → Int32)) => L_X4_blow_26 q o w i s.1 s.2) n
    (fun k s => s.1 = sumTo (fun j => if D_X1_hasTitleForOtherShape (drf (o (j + 7)) w) = 0 then 0 else 1) k ∧ (∀ r, r < 7 → s.2 r = o r) ∧ (∀ i, i < k → s.2 (i + 7) = drf (o (i + 7)) w) ∧ ∀ i, k ≤ i → s.2 (i + 7) = o (i + 7))
    (fun q k s hk hR => by
      obtain ⟨h1, h2, h3, h4⟩ := hR
      refine ⟨(if D_X1_hasTitleForOtherShape (drf (o (k + 7)) w) = 0 then s.1 else s.1 + 1, va_up s.2 (k + 7) (drf (o (k + 7)) w)), ?_, ?_, fun r hr => ?_, fun i hi => ?_, fun i hi => ?_⟩
      · simp only [L_X4_blow_26, h2 0 (by omega), hn, nI_ge hk (show n < 2 ^ 31 by omega), inb_nI (show k < 6 by omega) (show 6 < 2 ^ 31 by decide), nI_clamp (show k < 2 ^ 31 by omega), h4 k (Nat.le_refl k), dr_eq (hb k hk).1 (hb k hk).2.1 hw, Option.bind_some, ↓reduceIte, nI_succ]
        split <;> rfl
      · show (if D_X1_hasTitleForOtherShape (drf (o (k + 7)) w) = 0 then s.1 else s.1 + 1) = sumTo _ k + (if D_X1_hasTitleForOtherShape (drf (o (k + 7)) w) = 0 then 0 else 1)
        rw [h1]
        by_cases hz : D_X1_hasTitleForOtherShape (drf (o (k + 7)) w) = 0
        · rw [if_pos hz, if_pos hz, Int32.add_zero]
        · rw [if_neg hz, if_neg hz]
      · show va_up s.2 _ _ r = _
        rw [vun _ _ _ (by omega)]; exact h2 r hr
      · show va_up s.2 _ _ (i + 7) = _
        by_cases hik : i = k
        · subst hik; rw [va_up_self]
        · rw [vun _ _ _ (by omega)]; exact h3 i (by omega)
      · show va_up s.2 _ _ (i + 7) = _
        rw [vun _ _ _ (by omega)]; exact h4 i (by omega)) 200 (0, o) (by omega) ⟨rfl, fun _ _ => rfl, fun i hi => absurd hi (Nat.not_lt_zero _), fun _ _ => rfl⟩
  have e0 : L_X4_blow_26 200 o w 0 0 o = L_X4_blow_26 200 o w (nI 0) 0 o := rfl
  refine ⟨s'.2, ?_, h2, h3⟩
  rw [e0]
  refine Eq.trans e ?_
  obtain ⟨z, hz⟩ : ∃ z, 200 - n = z + 1 := ⟨199 - n, by omega⟩
  rw [hz]
  simp only [L_X4_blow_26, h2 0 (by omega), hn, nI_le (Nat.le_refl n) (show n < 2 ^ 31 by omega), ↓reduceIte, h1]
/-- the reference's -/
theorem carries_eq {m : Nat → Nat → Int32} {n : Nat} (hn : m 1 0 = nI n) (h6 : n ≤ 6) (w : Int32) :
    ∃ s : Nat → Nat → Int32, D_X10_carries m w = some s ∧ (∀ r, r ≠ 1 → s r = m r) ∧ (∀ z, ¬ (19 ≤ z ∧ z < 19 + 7 * n) → s 1 z = m 1 z) ∧ ∀ i, i < n → ∀ j, j < 7 → mcl (s 1) i j = drf (mcl (m 1) i) w j := by
  obtain ⟨s', e, h1, h2, h3⟩ := loop_up (L := fun q i (s : Nat → Nat → Int32) => L_X10_carries_2 q m w i s) n
    (fun k s => (∀ r, r ≠ 1 → s r = m r) ∧ (∀ z, ¬ (19 ≤ z ∧ z < 19 + 7 * k) → s 1 z = m 1 z) ∧ ∀ i, i < k → ∀ j, j < 7 → mcl (s 1) i j = drf (mcl (m 1) i) w j)
    (fun q k s hk hR => by
      obtain ⟨h1, h2, h3⟩ := hR
      have a0 : mcl (s 1) k 0 = mcl (m 1) k 0 := h2 _ (by omega)
      have a1 : mcl (s 1) k 1 = mcl (m 1) k 1 := h2 _ (by omega)
      refine ⟨va_up s 1 (upd (upd (s 1) (19 + 7 * k + 0) (dv (mcl (m 1) k 0) w)) (19 + 7 * k + 1) (ds (mcl (m 1) k 1) w)), ?_, fun r hr => by rw [vun _ _ _ hr]; exact h1 r hr, fun z hz => ?_, fun i hi j hj => ?_⟩
      · have hz : s 1 0 = nI n := (h2 0 (by omega)).trans hn
        simp only [L_X10_carries_2, ib0, cl0, hz, nI_ge hk (show n < 2 ^ 31 by omega), ↓reduceIte]
        rw [show D_X10_c s (nI k) 0 = _ from mc_eq s (j := 0) (by omega)]
        simp only [Option.bind_some]
        rw [show D_X10_set s (nI k) 0 _ = _ from ms_eq s (j := 0) _ (by omega)]
        simp only [Option.bind_some]
        rw [show D_X10_c _ (nI k) 1 = _ from mc_eq _ (j := 1) (by omega)]
        simp only [Option.bind_some, va_up_self]
        have b1 : ∀ v, mcl (upd (s 1) (19 + 7 * k + 0) v) k 1 = mcl (m 1) k 1 := fun v => by unfold mcl; rw [upd_ne _ _ (by omega)]; exact a1
        rw [b1, a0]
        by_cases hw : 0 ≤ w
        · rw [if_pos hw, show D_X10_set _ (nI k) 1 _ = _ from ms_eq _ (j := 1) _ (by omega)]
          simp only [Option.bind_some, va_up_up, va_up_self, nI_succ, ds, if_pos hw]
          rfl
        · rw [if_neg hw, show D_X10_set _ (nI k) 1 _ = _ from ms_eq _ (j := 1) _ (by omega)]
          simp only [Option.bind_some, va_up_up, va_up_self, nI_succ, ds, if_neg hw]
          rfl
      · rw [va_up_self, upd_ne _ _ (by omega), upd_ne _ _ (by omega)]; exact h2 z (by omega)
      · unfold mcl drf
        rw [va_up_self]
        by_cases hik : i = k
        · subst hik
          have a2 := h2 (19 + 7 * i + j) (by omega)
          rcases (show j = 0 ∨ j = 1 ∨ (j ≠ 0 ∧ j ≠ 1) by omega) with rfl | rfl | ⟨hj0, hj1⟩
          · rw [upd_ne _ _ (by omega), upd_self, upd_ne _ _ (by omega), upd_self]
          · rw [upd_self, upd_self]
          · rw [upd_ne _ _ (by omega), upd_ne _ _ (by omega), upd_ne _ _ hj1, upd_ne _ _ hj0]; exact a2
        · rw [upd_ne _ _ (by omega), upd_ne _ _ (by omega)]
          exact h3 i (by omega) j hj) 200 m (by omega) ⟨fun _ _ => rfl, fun _ _ => rfl, fun i hi => absurd hi (Nat.not_lt_zero _)⟩
  refine ⟨s', ?_, h1, h2, h3⟩
  have e0 : D_X10_carries m w = L_X10_carries_2 200 m w (nI 0) m := rfl
  rw [e0]
  refine Eq.trans e ?_
  obtain ⟨z, hz⟩ : ∃ z, 200 - n = z + 1 := ⟨199 - n, by omega⟩
  have hz2 : s' 1 0 = nI n := (h2 0 (by omega)).trans hn
  show L_X10_carries_2 (200 - n) m w (nI n) s' = some s'
  rw [hz]
  simp only [L_X10_carries_2, ib0, cl0, hz2, nI_le (Nat.le_refl n) (show n < 2 ^ 31 by omega), ↓reduceIte]
theorem blows_eq {m m0 o15 : Nat → Nat → Int32} {n : Nat} {cs : Nat → Nat → Int32} (p1 : Int32) (hn : o15 1 0 = nI n) (h6 : n ≤ 6) (hc : ∀ i, i < n → CR (cs i) (mcl (o15 1) i) ∧ CB (cs i)) :
    L_X10_blows_42 200 m0 p1 m 0 (va_up o15 0 (upd (o15 0) 4 0)) = some (1, va_up o15 0 (upd (o15 0) 4 (sumTo (fun j => if D_X1_hasTitleForOtherShape (cs j) = 0 then 0 else 1) n))) := by
  obtain ⟨s', e, h1⟩ := loop_up (L := fun q i (s : Nat → Nat → Int32) => L_X10_blows_42 q m0 p1 m i s) n
    (fun k s => s = va_up o15 0 (upd (o15 0) 4 (sumTo (fun j => if D_X1_hasTitleForOtherShape (cs j) = 0 then 0 else 1) k)))
    (fun q k s hk hR => by
      subst hR
      obtain ⟨hr, hb⟩ := hc k hk
      refine ⟨_, ?_, rfl⟩
      simp only [L_X10_blows_42, ib0, cl0, va_up_1of0, hn, nI_ge hk (show n < 2 ^ 31 by omega), ↓reduceIte]
      rw [iO (m := va_up o15 0 _) (c := cs k) hr hb (by omega)]
      simp only [Option.bind_some, va_up_self, va_up_up, upd_self, upd_upd, nI_succ, sumTo]
      split <;> rfl) 200 _ (by omega) rfl
  have e0 : ∀ s, L_X10_blows_42 200 m0 p1 m 0 s = L_X10_blows_42 200 m0 p1 m (nI 0) s := fun _ => rfl
  rw [e0]
  refine Eq.trans e ?_
  obtain ⟨z, hz⟩ : ∃ z, 200 - n = z + 1 := ⟨199 - n, by omega⟩
  subst h1
  show L_X10_blows_42 (200 - n) m0 p1 m (nI n) _ = _
  rw [hz]
  simp only [L_X10_blows_42, ib0, cl0, va_up_1of0, hn, nI_le (Nat.le_refl n) (show n < 2 ^ 31 by omega), ↓reduceIte]
/-- only clouds change -/
theorem RO.clouds {o o' : Nat → Nat → Int32} {r s : Nat → Int32} {n d : Nat} (h : RO o r n d) (he : ∀ k, k < 7 → o' k = o k) (hs : ∀ k, k < 96 → ¬ (19 ≤ k ∧ k < 61) → s k = r k) (h9 : RCl o' s n) : RO o' s n d := by
  obtain ⟨g1, g2, g3, g4, g5, g6, g7, g8, -, g10, g11⟩ := h
  refine ⟨g1, g2, ?_, ?_, g5.cg (fun j _ _ => by rw [he 0 (by omega)]) (fun k _ _ => hs k (by omega) (by omega)), ⟨?_, ?_⟩, g7.cg (fun k _ => by rw [he 3 (by omega)]) (fun k _ _ => hs k (by omega) (by omega)), g8.cg (fun k _ => by rw [he 2 (by omega)]) (fun k _ _ => hs k (by omega) (by omega)), h9, g10.cg g2 (fun k _ => by rw [he 5 (by omega)]) (fun k _ => by rw [he 6 (by omega)]) (fun k _ _ => hs k (by omega) (by omega)), g11.cg (fun k _ => by rw [he 3 (by omega)]) (by rw [he 0 (by omega)]) (by rw [he 0 (by omega)])⟩
  · rw [he 0 (by omega)]; exact g3
  · rw [hs 0 (by omega) (by omega)]; exact g4
  · rw [he 4 (by omega)]; exact g6.1
  · rw [hs 8 (by omega) (by omega)]; exact g6.2
theorem in33 (w : Int32) : (D_X10_in w (-3) 3 = 0 ∧ (w < -3 ∨ ¬ w ≤ 3)) ∨ (D_X10_in w (-3) 3 = 1 ∧ ¬ w < -3 ∧ w ≤ 3 ∧ rng w (-3) 3) := by
  rw [in_iff, lt_toInt, le_toInt, show (-3 : Int32).toInt = -3 by decide, show (3 : Int32).toInt = 3 by decide]
  by_cases h : -3 ≤ w.toInt ∧ w.toInt ≤ 3
  · exact Or.inr ⟨if_pos h, by omega, h.2, h⟩
  · exact Or.inl ⟨if_neg h, by omega⟩
/-- a wind blows -/
theorem ch_wind {B : Nat} {o m : Nat → Nat → Int32} {n d : Nat} (h : RO o (m 1) n d) (hF : PF (o 3) B) (w : Int32) : Ch B o m (D_X4_blow o w) (D_X10_blows m w) := by
  unfold D_X4_blow D_X10_blows
  simp only [rf0]
  by_cases h0 : w = 0
  · subst h0
    rw [if_pos rfl, if_neg (show ¬ D_X10_in 0 (-3) 3 = 0 by decide), if_pos rfl]; exact Ch.ref 3 0 (by decide) rfl rfl
  rw [if_neg h0, if_neg h0]
  rcases in33 w with ⟨e1, e2⟩ | ⟨e1, e2, e3, hw⟩
  · rw [if_pos e1]
    by_cases hl : w < -3
    · rw [if_pos hl]; exact Ch.ref 3 w (by decide) rfl rfl
    · rw [if_neg hl, if_neg (e2.elim (fun z => absurd z hl) id)]; exact Ch.ref 3 w (by decide) rfl rfl
  rw [e1, if_neg one_ne, if_neg e2, if_pos e3]
  have h6 := h.1
  have h9 := h.2.2.2.2.2.2.2.2.1
  obtain ⟨o', a1, a2, a3⟩ := blow_eq h.2.2.1 h6 hw (fun i hi => (h9 i hi).2)
  obtain ⟨s, b1, b2, b3, b4⟩ := carries_eq h.2.2.2.1 h6 w
  rw [a1, b1]
  simp only [Option.bind_some]
  have hc : ∀ i, i < n → CR (drf (o (i + 7)) w) (mcl (s 1) i) ∧ CB (drf (o (i + 7)) w) := fun i hi => ⟨(drC (h9 i hi).1 w).cg (fun _ _ => rfl) (b4 i hi), drB (h9 i hi).2 hw⟩
  rw [blows_eq w ((b3 0 (by omega)).trans h.2.2.2.1) h6 hc]
  obtain ⟨k, hk, ek⟩ := sumTo_cnt (f := fun j => if D_X1_hasTitleForOtherShape (drf (o (j + 7)) w) = 0 then 0 else 1) (n := n) (fun j _ => by split <;> simp)
  refine ⟨_, _, _, _, rfl, rfl, fun r hr => ?_, fun j hj => ?_, fun j a _ _ _ => ?_, Or.inr ⟨rfl, ?_, ?_, ?_, ?_, ?_, ?_, n, d, ?_⟩⟩
  · rw [vun _ _ _ (by omega)]; exact b2 r (by omega)
  · rw [va_up_1of0]; exact b3 j (by omega)
  · rw [va_up_self, upd_ne _ _ a, b2 0 (by omega)]
  · rw [ek]; exact nn1 (by omega)
  · rw [va_up_self, upd_self]
  · rw [va_up_self, upd_ne _ _ (by omega), b2 0 (by omega)]
  · rw [va_up_self, upd_ne _ _ (by omega), b2 0 (by omega)]
  · rw [va_up_self, upd_ne _ _ (by omega), b2 0 (by omega)]
  · rw [a2 3 (by omega)]; exact hF.mono (by omega)
  · rw [va_up_1of0]
    exact h.clouds a2 (fun k h1 h2 => b3 k (by omega)) (fun i hi => by rw [a3 i hi]; exact hc i hi)
