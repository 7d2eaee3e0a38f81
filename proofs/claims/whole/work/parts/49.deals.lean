/-! sales, pledges, redemptions -/
theorem ow1 {p : Nat} (hp : p < 4) : D_X9_isOwner (nI p) = 1 := by
  rw [ow_iff, nI_toInt (by omega), if_pos (by omega)]
theorem pu_eq (o : Nat → Nat → Int32) {p : Nat} (hp : p < 4) : D_X4_purseOf o (nI p) = some (o 3 p) := by
  unfold D_X4_purseOf
  rw [ow1 hp, if_neg one_ne, if_pos (inb_nI hp (by decide)), nI_clamp (by omega)]
theorem pay_eq (o : Nat → Nat → Int32) {p q : Nat} (hp : p < 4) (hq : q < 4) (x : Int32) : D_X4_pay o (nI p) (nI q) x = some (va_up o 3 (upd (upd (o 3) p (o 3 p - x)) q (upd (o 3) p (o 3 p - x) q + x))) := by
  unfold D_X4_pay
  rw [ow1 hp, ow1 hq, if_neg one_ne, if_neg one_ne]
  simp only [inb_nI hp (show 4 < 2 ^ 31 by decide), inb_nI hq (show 4 < 2 ^ 31 by decide), nI_clamp (show p < 2 ^ 31 by omega), nI_clamp (show q < 2 ^ 31 by omega), ↓reduceIte]
theorem CB.own {c : Nat → Int32} (h : CB c) (h3 : ¬ c 3 = -1) : ∃ q, q < 4 ∧ c 3 = nI q := by
  rcases rng_m (b := 3) h.2.2.2.1 (by decide) with e | ⟨q, hq, e⟩
  · exact absurd e h3
  · exact ⟨q, by omega, e⟩
theorem CB.len {c : Nat → Int32} (h : CB c) (h3 : ¬ c 5 = -1) : ∃ q, q < 4 ∧ c 5 = nI q := by
  rcases rng_m (b := 3) h.2.2.2.2.1 (by decide) with e | ⟨q, hq, e⟩
  · exact absurd e h3
  · exact ⟨q, by omega, e⟩
theorem held {o m : Nat → Nat → Int32} {n d : Nat} (h : RO o (m 1) n d) {k p : Nat} (hk : k < n) (hp : p < 4) (x : Int32) :
    (D_X4_checkDeal o k (nI k) (nI p) x = some (0, o) ∧ D_X10_isHeld m (nI k) (nI p) x = some (0, m) ∧ (∃ q, q < 4 ∧ o (k + 7) 3 = nI q ∧ q ≠ p) ∧ o (k + 7) 5 = -1 ∧ x ≤ o 3 p) ∨
    ∃ w dt, ¬ w = 0 ∧ D_X4_checkDeal o k (nI k) (nI p) x = some (-1, va_up o 0 (upd (upd (o 0) 12 w) 13 dt)) ∧ D_X10_isHeld m (nI k) (nI p) x = some (1, va_up m 0 (upd (upd (upd (m 0) 5 w) 6 dt) 7 0)) := by
  have h6 := h.1
  obtain ⟨hC, hB⟩ := h.2.2.2.2.2.2.2.2.1 k hk
  have g7 := h.2.2.2.2.2.2.1
  unfold D_X4_checkDeal D_X10_isHeld
  simp only [rf0, rf1', oA hC (show k < 100 by omega), lA hC (show k < 100 by omega), co_eq m hp, pu_eq o hp, hT, hPl, Option.bind_some, ← g7 p hp, pos_m1 hB.2.2.2.1, neg_m1 hB.2.2.2.2.1]
  by_cases h3 : o (k + 7) 3 = -1
  · right
    refine ⟨6, nI k, by decide, ?_, ?_⟩
    · rw [if_pos h3]; rfl
    · rw [if_neg (fun z => z h3)]
  · rw [if_neg h3, if_pos h3]
    obtain ⟨q, hq, eq⟩ := hB.own h3
    by_cases h4 : o (k + 7) 3 = nI p
    · right
      refine ⟨4, nI p, by decide, ?_, ?_⟩
      · rw [if_pos h4]; rfl
      · rw [if_pos h4]
    · rw [if_neg h4, if_neg h4]
      by_cases h5 : o (k + 7) 5 = -1
      · rw [if_pos h5, if_pos h5]
        by_cases hx : x ≤ o 3 p
        · left
          rw [if_pos hx, if_pos hx]
          exact ⟨rfl, rfl, ⟨q, hq, eq, fun e => h4 (by rw [eq, e])⟩, h5, hx⟩
        · right
          refine ⟨7, o 3 p, by decide, ?_, ?_⟩
          · rw [if_neg hx]; rfl
          · rw [if_neg hx]
      · right
        refine ⟨8, o (k + 7) 5, by decide, ?_, ?_⟩
        · rw [if_neg h5]; rfl
        · rw [if_neg h5]
/-- a deal: the purses change, their sum stays, one cloud changes -/
theorem dealt {o m : Nat → Nat → Int32} {n d : Nat} (h0 : RO o (m 1) n d) {k : Nat} (hk : k < n) {F c s : Nat → Int32} (hF : F 0 + F 1 + F 2 + F 3 = o 3 0 + o 3 1 + o 3 2 + o 3 3) (hp : ∀ j, j < 4 → s (9 + j) = F j)
    (hs : ∀ j, j < 96 → ¬ (9 ≤ j ∧ j < 13) → ¬ (19 + 7 * k ≤ j ∧ j < 26 + 7 * k) → s j = m 1 j) (hC : CR c (mcl s k)) (hB : CB c) : RO (va_up (va_up o 3 F) (k + 7) c) s n d := by
  have h6 := h0.1
  obtain ⟨g1, g2, g3, g4, g5, g6, g7, g8, g9, g10, g11⟩ := h0
  refine RO.part ⟨g1, g2, g3, g4, g5, g6, g7, g8, g9, g10, g11⟩ ?_ ?_ ?_ ?_ ?_ ?_ ?_ ?_ ?_ ?_
  · grind only [vu2, up2]
  · rw [vun _ _ _ (by omega), vun _ _ _ (by omega)]
  · grind only [vu2, up2]
  · rw [vun _ _ _ (by omega), vun _ _ _ (by omega)]
  · rw [vun _ _ _ (by omega), vun _ _ _ (by omega)]
  · intro j h1 h2 h3 h4
    exact hs j h1 h3 (by omega)
  · exact g5.cg (fun j _ _ => by grind only [vu2]) (fun j _ _ => hs j (by omega) (by omega) (by omega))
  · intro j hj
    rw [vun _ _ _ (by omega), va_up_self]
    exact (hp j hj).symm
  · refine RCl.one (i := k) (r := m 1) (o := o) g9 (fun j hj hjk => ?_) (fun j hj hjk i hi => ?_) ?_ ?_
    · rw [vun _ _ _ (by omega), vun _ _ _ (by omega)]
    · exact hs _ (by omega) (by omega) (by omega)
    · rw [va_up_self]; exact hC
    · rw [va_up_self]; exact hB
  · unfold RBa at g11 ⊢
    grind only [vu2]
theorem toI99 {x : Int32} (h0 : ¬ x < 0) (h1 : x ≤ 99) : ∃ c, c ≤ 99 ∧ x = nI c := by
  rw [lt_toInt, toInt_0] at h0
  rw [le_toInt, show (99 : Int32).toInt = 99 by decide] at h1
  exact rng_nI (b := 99) ⟨by omega, by omega⟩ (by decide)
theorem in99 {x : Int32} : D_X10_in x 0 99 = 0 ↔ (x < 0 ∨ ¬ x ≤ 99) := by
  rw [in_iff, toInt_0, show (99 : Int32).toInt = 99 by decide, lt_toInt, le_toInt, toInt_0, show (99 : Int32).toInt = 99 by decide]
  by_cases h : 0 ≤ x.toInt ∧ x.toInt ≤ 99
  · rw [if_pos h]; exact ⟨fun z => absurd z one_ne, fun z => by omega⟩
  · rw [if_neg h]; exact ⟨fun _ => by omega, fun _ => rfl⟩
/-- a cloud is sold -/
theorem ch_sell {B : Nat} {o m : Nat → Nat → Int32} {n d : Nat} (h : RO o (m 1) n d) (hF : PF (o 3) B) (hBB : B < 2 ^ 20) (p1 p2 p3 : Int32) : Ch B o m (D_X4_sellTo o p1 p2 p3) (D_X10_sells m p1 p2 p3) := by
  unfold D_X4_sellTo D_X10_sells
  rw [mcloud h, mow]
  simp only [Option.bind_some, rf0]
  rcases hc_cases h p1 with e1 | ⟨e1, k, hk, rfl⟩
  · rw [if_pos e1, if_pos e1]; exact Ch.ref 2 p1 (by decide) rfl rfl
  rw [e1, if_neg one_ne, if_neg one_ne]
  rcases ow_cases p2 with ⟨e2, -⟩ | ⟨e2, p, hp, rfl⟩
  · rw [if_pos e2, if_pos e2]; exact Ch.ref 2 p2 (by decide) rfl rfl
  rw [e2, if_neg one_ne, if_neg one_ne]
  by_cases hlt : p3 < 0
  · rw [if_pos hlt, if_pos (in99.mpr (Or.inl hlt))]; exact Ch.ref 3 p3 (by decide) rfl rfl
  rw [if_neg hlt]
  by_cases hle : p3 ≤ 99
  · rw [if_pos hle, if_neg (fun z => (in99.mp z).elim hlt (fun y => y hle))]
    obtain ⟨c, hc, rfl⟩ := toI99 hlt hle
    have h6 := h.1
    rw [if_pos (inb_nI (show k < 6 by omega) (by decide)), nI_clamp (show k < 2 ^ 31 by omega)]
    rcases held h hk hp (nI c) with ⟨a1, a2, ⟨q, hq, eq, hqp⟩, a4, a5⟩ | ⟨w, dt, hw, a1, a2⟩
    · rw [a1, a2]
      obtain ⟨hC, hB⟩ := h.2.2.2.2.2.2.2.2.1 k hk
      have g7 := h.2.2.2.2.2.2.1
      have hv := g7 p hp
      have hvq := g7 q hq
      simp only [Option.bind_some, if_neg (show ¬ (0 : Int32) = -1 by decide), eq, pay_eq o hp hq, pu_eq _ hq, oA hC (show k < 100 by omega), pa_eq m _ hp, pa_eq _ _ hq, gets_eq _ (nI p) (show k < 100 by omega), co_eq _ hq, va_up_up, va_up_self, ↓reduceIte]
      obtain ⟨hcB, hP, -⟩ := hF.sub (by omega) hp (show c < 2 ^ 30 by omega) a5
      have hP2 := hP.add c hq
      obtain ⟨z, hz, ez⟩ := hP2.at hq
      rw [upd_self] at ez
      have hC5 : mcl (m 1) k 5 = 0 := by rw [hC.2.2.2.2.2.2.1, a4]; rfl
      have e1 := sum4 (o 3) hp (o 3 p - nI c)
      have e2 := sum4 (upd (o 3) p (o 3 p - nI c)) hq (upd (o 3) p (o 3 p - nI c) q + nI c)
      refine ⟨_, _, _, _, rfl, rfl, fun r hr => by rw [vun _ _ _ (by omega), vun _ _ _ (by omega)], fun j hj => ?_, fun j a _ _ _ => by rw [va_up_self, upd_ne _ _ a, va_up_0of1], Or.inr ⟨rfl, ?_, ?_, by rw [va_up_self]; rfl, by rw [va_up_self]; rfl, by rw [va_up_self]; rfl, ?_, n, d, ?_⟩⟩
      · rw [va_up_1of0, va_up_self]
        grind only [up2]
      · rw [vun _ _ _ (by omega), va_up_self, upd_self, ez]
        exact nn1 (by omega)
      · grind only [vu2, up2]
      · refine (hP2.mono (show B - c + c ≤ B + 6 by omega)).cg (fun j _ => ?_)
        rw [vun _ _ _ (by omega), va_up_self]
      · rw [va_up_1of0, va_up_self]
        refine dealt h hk ?_ ?_ ?_ ?_ ?_
        · grind only
        · intro j hj
          have hvj := g7 j hj
          grind only [up2]
        · intro j h1 h2 h3
          rw [upd_ne _ _ (by omega), upd_ne _ _ (by omega), upd_ne _ _ (by omega), upd_ne _ _ (by omega)]
        · rw [vun _ _ _ (by omega)]
          refine entC hC (nn1 (by omega)) ?_ ?_ ?_ ?_ ?_ ?_ <;> grind only [up2, mcl]
        · rw [vun _ _ _ (by omega)]
          exact entB hB (rng_ow hp)
    · rw [a1, a2]
      simp only [Option.bind_some, ↓reduceIte, if_neg one_ne]
      exact Ch.ref w dt hw rfl rfl
  · rw [if_neg hle, if_pos (in99.mpr (Or.inr hle))]; exact Ch.ref 3 p3 (by decide) rfl rfl
