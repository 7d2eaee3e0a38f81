/-! dawns, and what a wind would bring -/
theorem g_dawn : Good_dawn Inv := by
  intro k x m hk hI
  obtain ⟨⟨⟨n, d, hR⟩, hF⟩, ⟨c, nx, h1, h2, h3, h4, h5, h6⟩, hS, hE, hT, hFa, hX⟩ := hI
  obtain ⟨m1, e1, b1, b2, b3⟩ := begins_eq m
  have hR1 : RO (x 0) (m1 1) n d := hR.cg (EqO.refl _) (fun z hz => b2 z (by omega))
  obtain ⟨x', ex, g1, g2, g3, g4, g5⟩ := push_eq x (c := c) (nx := nx) h1 h2 h5 h3 0
  obtain ⟨cnt, o', s, ec, em, a1, a2, -, hP, d', hRO⟩ := dawn_eq hR1 hF
  obtain ⟨m3, e3, d0, d2, dz, dr, dlo, dhi, dtop, drows⟩ := ends1 (va_up s 0 (upd (s 0) 4 cnt)) h1 (by rw [va_up_self, upd_ne _ _ (by omega), a1 0 (by omega), b1 0 (by omega)]; exact h4)
  have s0 : ∀ j, j ≠ 4 → va_up s 0 (upd (s 0) 4 cnt) 0 j = m 0 j := fun j hj => by rw [va_up_self, upd_ne _ _ hj, a1 0 (by omega), b1 0 (by omega)]
  have sr : ∀ r, 2 ≤ r → va_up s 0 (upd (s 0) 4 cnt) r = m r := fun r hr => by rw [vun _ _ _ (by omega), a1 r (by omega), b1 r (by omega)]
  have f2 : ∀ q, 96 ≤ q → ¬ (960 ≤ q ∧ q < 1056) → va_up s 0 (upd (s 0) 4 cnt) 1 q = m 1 q := fun q p r => by rw [va_up_1of0, a2 q p, b2 q r]
  have t2 : ∀ j, j < 96 → va_up s 0 (upd (s 0) 4 cnt) 1 (960 + j) = m 1 j := fun j hj => by rw [va_up_1of0, a2 _ (by omega), b3 j hj]
  have x0 : x' 0 = x 0 := g1 0 (by omega) (by omega)
  have xq : ∀ q, 1 ≤ q → q ≠ nx + 4 → q ≠ 12 → (va_up x' 0 o') q = x q := fun q p r t => by rw [xs_ne (by omega), g1 q r t]
  have y12 : ∀ r, r ≠ 1 → (va_up x' 0 o') 12 r = x 12 r := fun r hr => by rw [xs_ne (by omega), g2 r hr]
  have y1 : (va_up x' 0 o') 12 1 = x' 12 1 := by rw [xs_ne (by omega)]
  have ynx : (va_up x' 0 o') (nx + 4) = x' (nx + 4) := by rw [xs_ne (by omega)]
  have KOb : KO k (x 0) (m 1) := ⟨⟨n, d, hR⟩, hF⟩
  refine ⟨cnt, va_up x' 0 o', cnt, m3, ?_, ?_, rfl, ⟨⟨n, d', ?_⟩, ?_⟩, IHist.mono ⟨if c = 8 then 8 else c + 1, (nx + 1) % 8, by split <;> omega, by omega, by rw [y1]; exact g4, d2, by rw [y1]; exact g3, hist_done h1 h2 (m := m) h6 (fun q p r t => xq q (by omega) t (by omega)) ?_ (fun i p q j hj => ?_)⟩ (Nat.le_succ k), ISav.mono (ISav.cg hS (xq 3 (by omega) (by omega) (by omega)) (by rw [y12 0 (by omega)]) (by rw [dz 3 (by omega) (by omega), s0 3 (by omega)]) (fun z p q => by rw [dhi z p, f2 z (by omega) (by omega)])) (Nat.le_succ k), hE.cg (y12 3 (by omega)) (fun j p q => ?_), hT.cg (by rw [y12 4 (by omega)]) (y12 5 (by omega)) (by rw [dz 10 (by omega) (by omega), s0 10 (by omega)]) (by rw [dr 2 (by omega), sr 2 (by omega)]), by rw [y12 0 (by omega), dz 13 (by omega) (by omega), s0 13 (by omega)]; exact hFa, hX.cg (y12 31 (by omega)) (y12 32 (by omega)) (by rw [dz 17 (by omega) (by omega), s0 17 (by omega)]) (by rw [dr 4 (by omega), sr 4 (by omega)])⟩
  · unfold D_X9_dawn
    rw [ex]
    simp only [Option.bind_some, x0, ec]
  · unfold D_X10_dawn
    rw [e1]
    simp only [Option.bind_some, em, e3, va_up_self, upd_self]
  · rw [xs_self]
    exact hRO.cg (EqO.refl _) (fun z hz => by rw [dlo z hz, va_up_1of0])
  · rw [xs_self]; exact hP.mono (by unfold SB; omega)
  · rw [ynx]
    exact KOb.cg g5 (fun z hz => by rw [dtop z hz, t2 z hz])
  · rw [drows i p q j hj]
    unfold row
    have : (if c = 8 then i + 1 else i) ≤ 8 ∧ 1 ≤ (if c = 8 then i + 1 else i) := by
      constructor <;> split <;> split at q <;> omega
    exact f2 _ (by omega) (by omega)
  · rw [dz j (by omega) (by omega)]
    exact s0 j (by omega)
theorem clm3 (c : Nat → Int32) (v : Int32) : clm (lps c) v 3 = if c 3 = -1 then v else if c 4 = c 1 then c 3 else v := by
  unfold clm lps D_X1_hasTitleForOtherShape
  simp only [hT]
  by_cases h3 : c 3 = -1
  · simp only [h3, ↓reduceIte]
    by_cases hv : v = -1
    · simp only [hv, ↓reduceIte, h3]
    · simp only [if_neg hv]; rfl
  · by_cases h4 : c 4 = c 1
    · simp only [h3, h4, ↓reduceIte]
    · simp only [h3, h4, ↓reduceIte, if_neg one_ne, show D_X1_loseTitle c 3 = -1 from rfl]
      by_cases hv : v = -1
      · simp only [hv, ↓reduceIte]; rfl
      · simp only [if_neg hv]; rfl
/-- who has cloud j behind the wind w and a dawn -/
def ow3 (o : Nat → Nat → Int32) (w : Int32) (j : Nat) : Int32 := if o (j + 7) 3 = -1 then o 2 (dv (o (j + 7) 0) w).toNatClampNeg else if o (j + 7) 4 = ds (o (j + 7) 1) w then o (j + 7) 3 else o 2 (dv (o (j + 7) 0) w).toNatClampNeg
def wval (o : Nat → Nat → Int32) (n : Nat) (p w : Int32) : Int32 := sumTo (fun j => if ow3 o w j = p then 1 else 0) n
theorem carried {o m : Nat → Nat → Int32} {n d : Nat} (h : RO o (m 1) n d) {w : Int32} (hw : rng w (-3) 3) :
    ∃ (o' s : Nat → Nat → Int32), (if w = 0 then o' = o else ∃ z, D_X4_blow o w = some (z, o')) ∧ D_X10_carries m w = some s ∧ (∀ r, r ≠ 1 → s r = m r) ∧ (∀ z, 96 ≤ z → s 1 z = m 1 z) ∧ (∀ r, r < 7 → o' r = o r) ∧ (∀ i, i < n → ∀ j, j < 7 → o' (i + 7) j = drf (o (i + 7)) w j) ∧ RO o' (s 1) n d := by
  have h6 := h.1
  have h9 := h.2.2.2.2.2.2.2.2.1
  obtain ⟨s, b1, b2, b3, b4⟩ := carries_eq h.2.2.2.1 h6 w
  by_cases h0 : w = 0
  · subst h0
    have hd : ∀ i, i < n → ∀ j, j < 7 → o (i + 7) j = drf (o (i + 7)) 0 j := fun i hi j hj => by
      have hb := (h9 i hi).2
      unfold drf
      rcases (show j = 0 ∨ j = 1 ∨ (j ≠ 0 ∧ j ≠ 1) by omega) with rfl | rfl | ⟨ha, hb2⟩
      · rw [upd_ne _ _ (by omega), upd_self, (dv_0 hb.1).1]
      · rw [upd_self, (dv_0 hb.2.1).2]
      · rw [upd_ne _ _ hb2, upd_ne _ _ ha]
    refine ⟨o, s, by rw [if_pos rfl], b1, b2, fun z hz => b3 z (by omega), fun _ _ => rfl, hd, h.clouds (fun _ _ => rfl) (fun z p q => b3 z (by omega)) (fun i hi => ⟨?_, (h9 i hi).2⟩)⟩
    exact (drC (h9 i hi).1 0).cg (hd i hi) (b4 i hi)
  · obtain ⟨o', a1, a2, a3⟩ := blow_eq h.2.2.1 h6 hw (fun i hi => (h9 i hi).2)
    refine ⟨o', s, ?_, b1, b2, fun z hz => b3 z (by omega), a2, fun i hi j hj => by rw [a3 i hi], h.clouds a2 (fun z p q => b3 z (by omega)) (fun i hi => ⟨?_, ?_⟩)⟩
    · rw [if_neg h0]
      unfold D_X4_blow
      rcases in33 w with ⟨e1, e2⟩ | ⟨e1, e2, e3, -⟩
      · exact absurd hw (by unfold rng; rw [lt_toInt, le_toInt, show (-3 : Int32).toInt = -3 by decide, show (3 : Int32).toInt = 3 by decide] at e2; omega)
      · rw [if_neg h0, if_neg e2, if_pos e3, a1]
        exact ⟨_, rfl⟩
    · rw [a3 i hi]
      exact (drC (h9 i hi).1 w).cg (fun _ _ => rfl) (b4 i hi)
    · rw [a3 i hi]
      exact drB (h9 i hi).2 hw
/-- the counts behind a wind and a dawn, both ways -/
theorem imag {k n d : Nat} {x : Mem} {m : Nat → Nat → Int32} (hR : RO (x 0) (m 1) n d) (hF : PF (x 0 3) (SB k)) {p : Nat} (hp : p < 4) {w : Int32} (hw : rng w (-3) 3) :
    ∃ (x' : Mem) (m' : Nat → Nat → Int32), D_X9_cloudsImagined x (nI p) w = some (wval (x 0) n (nI p) w, x') ∧ D_X10_cloudsBy m (nI p) w = some (wval (x 0) n (nI p) w, m') ∧ (∀ q, q ≠ 2 → x' q = x q) ∧ (∀ r, r ≠ 1 → m' r = m r) ∧ ∀ z, z < 1056 → m' 1 z = m 1 z := by
  obtain ⟨o2, ec, he⟩ := ccp (x 2) (x 0)
  obtain ⟨m1, e1, b1, b2, b3⟩ := cpr m (a := 0) (b := 11) (by omega) (by omega) (by omega) (u := 0) (v := 11) rfl rfl
  have hR1 : RO o2 (m1 1) n d := hR.cg he (fun z hz => b2 z (by omega))
  have hF1 : PF (o2 3) (SB k) := hF.cg he.2.2.2.1
  obtain ⟨o3, s, hbl, c1, c2, c3, c4, c5, hR2⟩ := carried hR1 hw
  have hF2 : PF (o3 3) (SB k) := hF1.cg (fun z _ => by rw [c4 3 (by omega)])
  obtain ⟨cnt, o4, t, d1, d2, d3, d4, -, -, d', hR3⟩ := dawn_eq hR2 hF2
  -- the class's clouds behind the dawn
  have hV : ∀ i, i < n → o3 2 (o3 (i + 7) 0).toNatClampNeg = o3 2 (o3 (i + 7) 0).toNatClampNeg ∧ rng (o3 2 (o3 (i + 7) 0).toNatClampNeg) (-1) 3 := fun i hi => by
    obtain ⟨a, ha, ea⟩ := rng_nI (b := 5) (hR2.2.2.2.2.2.2.2.2.1 i hi).2.1 (by decide)
    refine ⟨rfl, ?_⟩
    rw [ea, nI_clamp (by omega)]
    exact (hR2.2.2.2.2.2.2.2.1 a (by omega)).2
  obtain ⟨o5, f1, -, -, -, -, -, -, -, -, -, -, -, f13, -⟩ := dawnC hR2.2.2.1 hR2.1 hR2.2.1 hR2.2.2.2.2.2.1.1 (fun i hi => (hR2.2.2.2.2.2.2.2.2.1 i hi).2) (fun i => o3 2 (o3 (i + 7) 0).toNatClampNeg) hV
  have h45 : o4 = o5 := by
    rw [d1] at f1
    simp only [Option.some.injEq, Prod.mk.injEq] at f1
    exact f1.2
  have hval : sumTo (fun j => if o4 (j + 7) 3 = nI p then 1 else 0) n = wval (x 0) n (nI p) w := by
    unfold wval
    refine sumTo_cg (fun j hj => ?_)
    have e9 : o4 (j + 7) 3 = ow3 (x 0) w j := by
      rw [h45, f13 j hj, clm3]
      have q0 : o3 (j + 7) 0 = dv (x 0 (j + 7) 0) w := by rw [c5 j hj 0 (by omega), ← he.2.2.2.2.2.2.2 j (by have := hR.1; omega) 0 (by omega)]; rfl
      have q1 : o3 (j + 7) 1 = ds (x 0 (j + 7) 1) w := by rw [c5 j hj 1 (by omega), ← he.2.2.2.2.2.2.2 j (by have := hR.1; omega) 1 (by omega)]; rfl
      have q3 : o3 (j + 7) 3 = x 0 (j + 7) 3 := by rw [c5 j hj 3 (by omega), ← he.2.2.2.2.2.2.2 j (by have := hR.1; omega) 3 (by omega)]; rfl
      have q4 : o3 (j + 7) 4 = x 0 (j + 7) 4 := by rw [c5 j hj 4 (by omega), ← he.2.2.2.2.2.2.2 j (by have := hR.1; omega) 4 (by omega)]; rfl
      obtain ⟨a, ha, ea⟩ := rng_nI (b := 5) (dv_ok (hR.2.2.2.2.2.2.2.2.1 j hj).2.1 hw).2.1 (by decide)
      have qv : o3 2 (dv (x 0 (j + 7) 0) w).toNatClampNeg = x 0 2 (dv (x 0 (j + 7) 0) w).toNatClampNeg := by
        rw [c4 2 (by omega), ea, nI_clamp (by omega)]
        exact he.2.2.1 a (by omega)
      rw [q0, q1, q3, q4, qv]
      rfl
    rw [e9]
  have hcc : D_X4_cloudsCounted o4 (nI p) = some (wval (x 0) n (nI p) w) := by rw [cc_eq hR3.2.2.1 hR3.1, hval]
  have hoo : D_X10_ofOwner t (nI p) 5 = some (wval (x 0) n (nI p) w) := by
    rw [oo_eq hR3.2.2.2.1 hR3.1 hR3.2.2.2.2.2.2.2.2.1, ← hval]
    congr 1
  obtain ⟨m9, e9, g1, g2, g3⟩ := cpr t (a := 11) (b := 0) (by omega) (by omega) (by omega) (u := 11) (v := 0) rfl rfl
  refine ⟨va_up x 2 o4, m9, ?_, ?_, fun q hq => xs_ne hq, fun r hr => by rw [g1 r hr, d3 r hr, c2 r hr, b1 r hr], fun z hz => ?_⟩
  · unfold D_X9_cloudsImagined
    rw [ec]
    simp only [Option.bind_some]
    by_cases h0 : w = 0
    · rw [if_pos h0] at hbl ⊢
      rw [← hbl, d1]
      simp only [Option.bind_some, hcc]
    · rw [if_neg h0] at hbl ⊢
      obtain ⟨z, hz⟩ := hbl
      rw [hz]
      simp only [Option.bind_some, d1, hcc]
  · unfold D_X10_cloudsBy
    rw [e1]
    simp only [Option.bind_some, c1, d2, hoo, e9]
  · by_cases hz2 : z < 96
    · have := g3 z hz2
      rw [show 96 * 0 + z = z by omega] at this
      rw [this, d4 _ (by omega), c3 _ (by omega), b3 z hz2, show 96 * 0 + z = z by omega]
    · rw [g2 z (by omega), d4 z (by omega), c3 z (by omega), b2 z (by omega)]
