/-! pledges and redemptions -/
theorem two_nI (c : Nat) : (2 : Int32) * nI c = nI (2 * c) := by rw [show (2 : Int32) = nI 2 from rfl, pk_mul]
theorem CB.size {c : Nat → Int32} (h : CB c) : ∃ q, 1 ≤ q ∧ q ≤ 9 ∧ c 2 = nI q := by
  obtain ⟨q, hq, e⟩ := rng_nI (b := 9) ⟨by have := h.2.2.1.1; omega, h.2.2.1.2⟩ (by decide)
  refine ⟨q, ?_, hq, e⟩
  have h1 := h.2.2.1.1
  rw [e, nI_toInt (by omega)] at h1
  omega
theorem CB.psize {c : Nat → Int32} (h : CB c) (h5 : ¬ c 5 = -1) : ∃ q, 1 ≤ q ∧ q ≤ 9 ∧ c 6 = nI q := by
  have h6 := (h.2.2.2.2.2 h5).2
  obtain ⟨q, hq, e⟩ := rng_nI (b := 9) ⟨by have := h6.1; omega, h6.2⟩ (by decide)
  refine ⟨q, ?_, hq, e⟩
  have h1 := h6.1
  rw [e, nI_toInt (by omega)] at h1
  omega
theorem mcl56 {r : Nat → Int32} {p q k j : Nat} {a b u v : Int32} (hp : p < 4) (hq : q < 4) (hj : j < 7) : mcl (upd (upd (upd (upd r (9 + p) a) (9 + q) b) (19 + 7 * k + 5) u) (19 + 7 * k + 6) v) k j = upd (upd (mcl r k) 5 u) 6 v j := by
  grind only [up2, mcl]
theorem CR56 {c e : Nat → Int32} (h : CR c e) {x y u v : Int32} (h5 : u = x + 1) (h6 : ¬ x = -1 → y = v) : CR (upd (upd c 5 x) 6 y) (upd (upd e 5 u) 6 v) :=
  ⟨h.1, h.2.1, h.2.2.1, h.2.2.2.1, h.2.2.2.2.1, h.2.2.2.2.2.1, h5, h6⟩
/-- a cloud is pledged -/
theorem ch_pledge {B : Nat} {o m : Nat → Nat → Int32} {n d : Nat} (h : RO o (m 1) n d) (hF : PF (o 3) B) (hBB : B < 2 ^ 20) (p1 p2 : Int32) : Ch B o m (D_X4_pledgeTo o p1 p2) (D_X10_pledges m p1 p2) := by
  unfold D_X4_pledgeTo D_X10_pledges
  rw [mcloud h, mow]
  simp only [Option.bind_some, rf0]
  rcases hc_cases h p1 with e1 | ⟨e1, k, hk, rfl⟩
  · rw [if_pos e1, if_pos e1]; exact Ch.ref 2 p1 (by decide) rfl rfl
  rw [e1, if_neg one_ne, if_neg one_ne]
  rcases ow_cases p2 with ⟨e2, -⟩ | ⟨e2, p, hp, rfl⟩
  · rw [if_pos e2, if_pos e2]; exact Ch.ref 2 p2 (by decide) rfl rfl
  rw [e2, if_neg one_ne, if_neg one_ne]
  have h6 := h.1
  obtain ⟨hC, hB⟩ := h.2.2.2.2.2.2.2.2.1 k hk
  have g7 := h.2.2.2.2.2.2.1
  obtain ⟨s, hs1, hs9, es⟩ := hB.size
  rw [if_pos (inb_nI (show k < 6 by omega) (by decide)), nI_clamp (show k < 2 ^ 31 by omega)]
  simp only [c2A hC (show k < 100 by omega), Option.bind_some, D_X1_loan, es, two_nI]
  rcases held h hk hp (nI (2 * s)) with ⟨a1, a2, ⟨q, hq, eq, hqp⟩, a4, a5⟩ | ⟨w, dt, hw, a1, a2⟩
  · rw [a1, a2]
    have hC' : CR (o (k + 7)) (mcl ((va_up m 0 (upd (m 0) 4 (nI (2 * s)))) 1) k) := hC
    have hv := g7 p hp
    have hvq := g7 q hq
    simp only [Option.bind_some, if_neg (show ¬ (0 : Int32) = -1 by decide), eq, pay_eq o hp hq, pa_eq _ _ hp, pa_eq _ _ hq, c2A hC (show k < 100 by omega), va_up_1of0, es, two_nI, va_up_up, va_up_self, va_up_0of1, va_up_01, upd_self, ↓reduceIte]
    have o1 : D_X10_ownerAt (va_up (va_up m 1 (upd (m 1) (9 + p) (m 1 (9 + p) - nI (2 * s)))) 0 (upd (m 0) 4 (nI (2 * s)))) (nI k) = some (nI q) := by
      rw [← eq]
      exact oA (hC.cg (fun _ _ => rfl) (fun j hj => by rw [va_up_1of0, va_up_self]; unfold mcl; rw [upd_ne _ _ (by omega)])) (by omega)
    rw [o1]
    simp only [Option.bind_some, pa_eq _ _ hq, va_up_1of0, va_up_up, va_up_self, va_up_0of1, va_up_01, upd_self]
    rw [show D_X10_set _ (nI k) 5 _ = _ from ms_eq _ (j := 5) _ (by omega)]
    simp only [Option.bind_some, va_up_1of0, va_up_up, va_up_self, va_up_0of1, va_up_01, upd_self]
    rw [show D_X10_c _ (nI k) 2 = _ from mc_eq _ (j := 2) (by omega)]
    simp only [Option.bind_some]
    rw [show D_X10_set _ (nI k) 6 _ = _ from ms_eq _ (j := 6) _ (by omega)]
    simp only [Option.bind_some, va_up_1of0, va_up_up, va_up_self, va_up_0of1, va_up_01, upd_self]
    obtain ⟨hcB, hP, -⟩ := hF.sub (by omega) hp (show 2 * s < 2 ^ 30 by omega) a5
    have hP2 := hP.add (2 * s) hq
    have e1 := sum4 (o 3) hp (o 3 p - nI (2 * s))
    have e2 := sum4 (upd (o 3) p (o 3 p - nI (2 * s))) hq (upd (o 3) p (o 3 p - nI (2 * s)) q + nI (2 * s))
    refine ⟨_, _, _, _, rfl, rfl, fun r hr => by rw [vun _ _ _ (by omega), vun _ _ _ (by omega)], fun j hj => ?_, fun j a _ _ _ => by rw [va_up_self, upd_ne _ _ a], Or.inr ⟨rfl, nn1 (by omega), ?_, by rw [va_up_self]; rfl, by rw [va_up_self]; rfl, by rw [va_up_self]; rfl, ?_, n, d, ?_⟩⟩
    · rw [va_up_1of0, va_up_self, upd_ne _ _ (by omega), upd_ne _ _ (by omega), upd_ne _ _ (by omega), upd_ne _ _ (by omega)]
    · rw [va_up_self, upd_self]
    · refine (hP2.mono (show B - 2 * s + 2 * s ≤ B + 6 by omega)).cg (fun j _ => ?_)
      rw [vun _ _ _ (by omega), va_up_self]
    · rw [va_up_1of0, va_up_self]
      rw [vun _ 3 _ (show k + 7 ≠ 3 by omega)]
      have hC2 := hC.2.2.1
      refine dealt h hk ?_ ?_ ?_ ?_ ?_
      · grind only
      · intro j hj
        have hvj := g7 j hj
        clear e1 e2
        grind only [up2]
      · intro j h1 h2 h3
        rw [upd_ne _ _ (by omega), upd_ne _ _ (by omega), upd_ne _ _ (by omega), upd_ne _ _ (by omega)]
      · clear e1 e2
        exact (CR56 hC (x := nI p) (y := o (k + 7) 2) (u := nI p + 1) rfl (fun _ => by unfold mcl; rw [upd_ne _ _ (by omega), upd_ne _ _ (by omega), upd_ne _ _ (by omega)]; exact hC2)).cg (fun _ _ => rfl) (fun j hj => mcl56 hp hq hj)
      · unfold CB at hB ⊢
        unfold D_X1_pledgeTo
        have hr := rng_ow hp
        have h3 := nn1 (show q < 2 ^ 31 by omega)
        refine ⟨hB.1, hB.2.1, hB.2.2.1, hB.2.2.2.1, hr, fun _ => ⟨by show ¬ o (k + 7) 3 = -1; rw [eq]; exact h3, hB.2.2.1⟩⟩
  · rw [a1, a2]
    simp only [Option.bind_some, ↓reduceIte, if_neg one_ne]
    exact Ch.ref w dt hw rfl rfl
/-- a pledge is redeemed -/
theorem ch_redeem {B : Nat} {o m : Nat → Nat → Int32} {n d : Nat} (h : RO o (m 1) n d) (hF : PF (o 3) B) (hBB : B < 2 ^ 20) (p1 : Int32) : Ch B o m (D_X4_redeemPledge o p1) (D_X10_redeems m p1) := by
  unfold D_X4_redeemPledge D_X10_redeems
  rw [mcloud h]
  simp only [Option.bind_some, rf0]
  rcases hc_cases h p1 with e1 | ⟨e1, k, hk, rfl⟩
  · rw [if_pos e1, if_pos e1]; exact Ch.ref 2 p1 (by decide) rfl rfl
  rw [e1, if_neg one_ne, if_neg one_ne]
  have h6 := h.1
  obtain ⟨hC, hB⟩ := h.2.2.2.2.2.2.2.2.1 k hk
  have g7 := h.2.2.2.2.2.2.1
  rw [if_pos (inb_nI (show k < 6 by omega) (by decide)), nI_clamp (show k < 2 ^ 31 by omega), lA hC (show k < 100 by omega)]
  simp only [Option.bind_some, hPl, pos_m1 hB.2.2.2.2.1]
  by_cases h5 : o (k + 7) 5 = -1
  · rw [if_pos h5, if_neg (fun z => z h5)]; exact Ch.ref 9 (nI k) (by decide) rfl rfl
  rw [if_neg h5, if_pos h5]
  obtain ⟨h3, -⟩ := hB.2.2.2.2.2 h5
  obtain ⟨p, hp, ep⟩ := hB.own h3
  obtain ⟨q, hq, eq⟩ := hB.len h5
  obtain ⟨s, hs1, hs9, es⟩ := hB.psize h5
  have er : D_X1_redemption (o (k + 7)) = nI (2 * s + 1) := by
    unfold D_X1_redemption D_X1_isPledged
    rw [if_neg h5, if_neg one_ne, es, two_nI, ← nI_succ]
  rw [tR hC hB (by omega), oA hC (by omega), er, ep]
  have hv := g7 p hp
  have hvq := g7 q hq
  simp only [Option.bind_some, pu_eq o hp, co_eq _ hp, va_up_1of0, ← hv]
  by_cases hle : nI (2 * s + 1) ≤ o 3 p
  · rw [if_pos hle, if_pos hle]
    simp only [Option.bind_some, eq, pay_eq o hp hq, pa_eq _ _ hp, va_up_1of0, va_up_up, va_up_self, va_up_0of1, va_up_01, upd_self]
    have o1 : D_X10_lenderAt (va_up (va_up m 1 (upd (m 1) (9 + p) (m 1 (9 + p) - nI (2 * s + 1)))) 0 (upd (m 0) 4 (nI (2 * s + 1)))) (nI k) = some (nI q) := by
      rw [← eq]
      exact lA (hC.cg (fun _ _ => rfl) (fun j hj => by rw [va_up_1of0, va_up_self]; unfold mcl; rw [upd_ne _ _ (by omega)])) (by omega)
    rw [o1]
    simp only [Option.bind_some, pa_eq _ _ hq, va_up_1of0, va_up_up, va_up_self, va_up_0of1, va_up_01, upd_self, frees_eq _ (show k < 100 by omega)]
    obtain ⟨hcB, hP, -⟩ := hF.sub (by omega) hp (show 2 * s + 1 < 2 ^ 30 by omega) hle
    have hP2 := hP.add (2 * s + 1) hq
    have e1 := sum4 (o 3) hp (o 3 p - nI (2 * s + 1))
    have e2 := sum4 (upd (o 3) p (o 3 p - nI (2 * s + 1))) hq (upd (o 3) p (o 3 p - nI (2 * s + 1)) q + nI (2 * s + 1))
    refine ⟨_, _, _, _, rfl, rfl, fun r hr => by rw [vun _ _ _ (by omega), vun _ _ _ (by omega)], fun j hj => ?_, fun j a _ _ _ => by rw [va_up_self, upd_ne _ _ a], Or.inr ⟨rfl, nn1 (by omega), ?_, by rw [va_up_self]; rfl, by rw [va_up_self]; rfl, by rw [va_up_self]; rfl, ?_, n, d, ?_⟩⟩
    · rw [va_up_1of0, va_up_self, upd_ne _ _ (by omega), upd_ne _ _ (by omega), upd_ne _ _ (by omega), upd_ne _ _ (by omega)]
    · rw [va_up_self, upd_self]
    · refine (hP2.mono (show B - (2 * s + 1) + (2 * s + 1) ≤ B + 6 by omega)).cg (fun j _ => ?_)
      rw [vun _ _ _ (by omega), va_up_self]
    · rw [va_up_1of0, va_up_self]
      rw [vun _ 3 _ (show k + 7 ≠ 3 by omega)]
      refine dealt h hk ?_ ?_ ?_ ?_ ?_
      · grind only
      · intro j hj
        have hvj := g7 j hj
        clear e1 e2
        grind only [up2]
      · intro j h1 h2 h3
        rw [upd_ne _ _ (by omega), upd_ne _ _ (by omega), upd_ne _ _ (by omega), upd_ne _ _ (by omega)]
      · clear e1 e2
        exact (CR56 hC (x := -1) (y := 0) (u := 0) (v := 0) rfl (fun _ => rfl)).cg (fun _ _ => rfl) (fun j hj => mcl56 hp hq hj)
      · exact ⟨hB.1, hB.2.1, hB.2.2.1, hB.2.2.2.1, rng_m1 (by decide), fun z => absurd rfl z⟩
  · rw [if_neg hle, if_neg hle]
    exact Ch.ref4 7 (o 3 p) (nI (2 * s + 1)) (by decide) rfl rfl
