/-! would, bestWind -/
theorem Inv.side {k : Nat} {x x' : Mem} {m m' : Nat → Nat → Int32} (h : Inv k x m) (hx : ∀ q, q ≠ 1 → q ≠ 2 → x' q = x q) (hr : ∀ r, r ≠ 1 → m' r = m r) (hz : ∀ z, z < 960 → m' 1 z = m 1 z) : Inv k x' m' := by
  obtain ⟨h0, h1, h2, h3, h4, h5, h6⟩ := h
  have x12 : x' 12 = x 12 := hx 12 (by omega) (by omega)
  refine ⟨?_, h1.cg (fun q a b => hx q (by omega) (by omega)) (by rw [x12]) (by rw [x12]) (by rw [hr 0 (by omega)]) (fun z a b => hz z (by omega)), h2.cg (hx 3 (by omega) (by omega)) (by rw [x12]) (by rw [hr 0 (by omega)]) (fun z a b => hz z (by omega)), h3.cg (by rw [x12]) (fun j a b => by rw [hr 0 (by omega)]), h4.cg (by rw [x12]) (by rw [x12]) (by rw [hr 0 (by omega)]) (hr 2 (by omega)), by rw [x12, hr 0 (by omega)]; exact h5, h6.cg (by rw [x12]) (by rw [x12]) (by rw [hr 0 (by omega)]) (hr 4 (by omega))⟩
  rw [hx 0 (by omega) (by omega)]
  exact h0.cg (EqO.refl _) (fun z hz2 => hz z (by omega))
theorem dem_iff (x : Int32) : D_X9_demandOwner x = 0 ↔ D_X9_isOwner x = 1 := by
  unfold D_X9_demandOwner
  rcases ow_cases x with ⟨e, -⟩ | ⟨e, -⟩
  · rw [if_pos e, e]; exact ⟨fun z => absurd z one_ne, fun z => absurd z.symm one_ne⟩
  · rw [if_neg (by rw [e]; exact one_ne)]; exact ⟨fun _ => e, fun _ => rfl⟩
theorem dem_cases (x : Int32) : (¬ D_X9_demandOwner x = 0 ∧ D_X10_isOwner x = 0) ∨ (D_X9_demandOwner x = 0 ∧ D_X10_isOwner x = 1 ∧ ∃ p, p < 4 ∧ x = nI p) := by
  rw [mow]
  rcases ow_cases x with ⟨e, -⟩ | ⟨e, p, hp, rfl⟩
  · exact Or.inl ⟨fun z => by rw [(dem_iff x).mp z] at e; exact one_ne e, e⟩
  · exact Or.inr ⟨(dem_iff _).mpr e, e, p, hp, rfl⟩
theorem g_would : Good_would Inv := by
  intro k x m hk hI p1 p2
  unfold OK_would D_X9_would D_X10_would
  rcases dem_cases p1 with ⟨e1, e2⟩ | ⟨e1, e2, p, hp, rfl⟩
  · rw [if_neg e1, if_pos e2]
    exact ⟨1, 0, x, 0, _, Or.inr (Or.inl rfl), rfl, rfl, by show upd (m 0) 0 1 0 = 1; rw [upd_self], fun z => absurd z one_ne, (hI.thr 1).mono (Nat.le_succ k)⟩
  rw [if_pos e1, e2, if_neg one_ne]
  rcases in33 p2 with ⟨e3, e4⟩ | ⟨e3, e4, e5, hw⟩
  · rw [if_pos e3]
    refine ⟨2, 0, x, 0, _, Or.inr (Or.inr rfl), ?_, rfl, by show upd (m 0) 0 2 0 = 2; rw [upd_self], fun z => absurd z (by decide), (hI.thr 2).mono (Nat.le_succ k)⟩
    by_cases hl : p2 < -3
    · rw [if_pos hl]
    · rw [if_neg hl, if_neg (e4.elim (fun z => absurd z hl) id)]
  · rw [e3, if_neg one_ne, if_neg e4, if_pos e5]
    have hJ := hI.thr 0
    obtain ⟨⟨⟨n, d, hR⟩, hF⟩, -⟩ := hJ
    obtain ⟨x', m', a1, a2, a3, a4, a5⟩ := imag hR hF hp hw
    rw [a1, a2]
    refine ⟨0, _, x', _, m', Or.inl rfl, rfl, rfl, ?_, fun _ => rfl, ((hI.thr 0).side (fun q _ b => a3 q b) a4 (fun z hz => a5 z (by omega))).mono (Nat.le_succ k)⟩
    show m' 0 0 = 0
    rw [a4 0 (by omega), va_up_self, upd_self]
/-- the best wind of the first t + 1 -/
def bestN (v : Int32 → Int32) : Nat → Int32
  | 0 => -3
  | t + 1 => if v (nI (t + 1) - 3) ≤ v (bestN v t) then bestN v t else nI (t + 1) - 3
theorem best_rng (v : Int32 → Int32) : ∀ t, t ≤ 6 → rng (bestN v t) (-3) 3
  | 0, _ => show rng (-3) (-3) 3 from ⟨by decide, by decide⟩
  | t + 1, h => by
    unfold bestN
    split
    · exact best_rng v t (by omega)
    · have e : (nI (t + 1) - 3).toInt = ((t + 1 : Nat) : Int) - 3 := pk_sub_toInt (a := t + 1) (b := 3) (by omega) (by omega)
      exact ⟨by rw [e]; omega, by rw [e]; omega⟩
theorem rng_t {t : Nat} (h : t ≤ 6) : rng (nI t - 3) (-3) 3 := by
  have e : (nI t - 3).toInt = (t : Int) - 3 := pk_sub_toInt (a := t) (b := 3) (by omega) (by omega)
  exact ⟨by rw [e]; omega, by rw [e]; omega⟩
theorem nI_3s (t : Nat) : nI t - 3 + 1 = nI (t + 1) - 3 := by rw [nI_succ]; grind only
theorem wval_cnt (o : Nat → Nat → Int32) (n : Nat) (p w : Int32) : ∃ c, c ≤ n ∧ wval o n p w = nI c := sumTo_cnt (fun j _ => by split <;> simp)
theorem bw_s (q : Nat) (x s : Mem) (p1 i3 i2 i : Int32) : L_X9_bestWind_12 (q + 1) x p1 i i3 i2 s = if 3 < i then (some (0, i2, s)) else ((D_X9_cloudsImagined s p1 i).bind (fun (r8, o9) => if r8 ≤ i3 then (L_X9_bestWind_12 q x p1 (i + 1) i3 i2 o9) else (L_X9_bestWind_12 q x p1 (i + 1) r8 i o9))) := rfl
theorem g_bestWind : Good_bestWind Inv := by
  intro k x m hk hI p1
  unfold OK_bestWind D_X9_bestWind D_X10_bestWind
  rcases dem_cases p1 with ⟨e1, e2⟩ | ⟨e1, e2, p, hp, rfl⟩
  · rw [if_neg e1, if_pos e2]
    exact ⟨1, 0, x, 0, _, Or.inr rfl, rfl, by rw [e2], by rw [it0]; show upd (m 0) 0 1 0 = 1; rw [upd_self], fun z => absurd z one_ne, by rw [it0]; exact (hI.thr 1).mono (Nat.le_succ k)⟩
  rw [if_pos e1, e2, if_neg one_ne, it1]
  obtain ⟨⟨⟨n, d, hR⟩, hF⟩, -⟩ := id hI
  have hn6 := hR.1
  -- the class
  obtain ⟨xa, ma, i1, -, i3, -, -⟩ := imag hR hF hp (w := nI 0 - 3) (rng_t (by omega))
  obtain ⟨sx, ex, hx1, hx2, hx3⟩ := loop_up (L := fun q i (s : Int32 × Int32 × Mem) => L_X9_bestWind_12 q x (nI p) (i + 1 - 3) s.1 s.2.1 s.2.2) 6
    (fun t s => s.1 = wval (x 0) n (nI p) (bestN (wval (x 0) n (nI p)) t) ∧ s.2.1 = bestN (wval (x 0) n (nI p)) t ∧ ∀ q, q ≠ 2 → s.2.2 q = x q)
    (fun q t s ht hRel => by
      obtain ⟨r1, r2, r3⟩ := hRel
      obtain ⟨most, best, y⟩ := s
      simp only at r1 r2 r3 ⊢
      have hRy : RO (y 0) (m 1) n d := by rw [r3 0 (by omega)]; exact hR
      have hFy : PF (y 0 3) (SB k) := by rw [r3 0 (by omega)]; exact hF
      obtain ⟨y', -, j1, -, j3, -, -⟩ := imag hRy hFy hp (w := nI (t + 1) - 3) (rng_t (by omega))
      rw [r3 0 (by omega)] at j1
      have h3 : ¬ (3 : Int32) < nI (t + 1) - 3 := by
        have e : (nI (t + 1) - 3).toInt = ((t + 1 : Nat) : Int) - 3 := pk_sub_toInt (a := t + 1) (b := 3) (by omega) (by omega)
        rw [lt_toInt, show (3 : Int32).toInt = 3 by decide, e]; omega
      have hb : bestN (wval (x 0) n (nI p)) (t + 1) = if wval (x 0) n (nI p) (nI (t + 1) - 3) ≤ wval (x 0) n (nI p) (bestN (wval (x 0) n (nI p)) t) then bestN (wval (x 0) n (nI p)) t else nI (t + 1) - 3 := rfl
      by_cases hle : wval (x 0) n (nI p) (nI (t + 1) - 3) ≤ most
      · refine ⟨(most, best, y'), ?_, ?_, ?_, fun q hq => (j3 q hq).trans (r3 q hq)⟩ <;> try dsimp only
        · rw [show nI t + 1 = nI (t + 1) from (nI_succ t).symm]
          simp only [L_X9_bestWind_12, h3, j1, Option.bind_some, if_pos hle, ↓reduceIte]
          rw [show nI (t + 1) - 3 + 1 = nI (t + 1) + 1 - 3 by grind only]
        · rw [hb, ← r1, if_pos hle]; exact r1
        · rw [hb, ← r1, if_pos hle]; exact r2
      · refine ⟨(wval (x 0) n (nI p) (nI (t + 1) - 3), nI (t + 1) - 3, y'), ?_, ?_, ?_, fun q hq => (j3 q hq).trans (r3 q hq)⟩ <;> try dsimp only
        · rw [show nI t + 1 = nI (t + 1) from (nI_succ t).symm]
          simp only [L_X9_bestWind_12, h3, j1, Option.bind_some, if_neg hle, ↓reduceIte]
          rw [show nI (t + 1) - 3 + 1 = nI (t + 1) + 1 - 3 by grind only]
        · rw [hb, ← r1, if_neg hle]
        · rw [hb, ← r1, if_neg hle]) 199 (wval (x 0) n (nI p) (nI 0 - 3), nI 0 - 3, xa) (by decide) ⟨rfl, rfl, i3⟩
  have ecl : L_X9_bestWind_12 200 x (nI p) (-3) (-1) 0 x = some (0, bestN (wval (x 0) n (nI p)) 6, sx.2.2) := by
    obtain ⟨c, -, ec⟩ := wval_cnt (x 0) n (nI p) (nI 0 - 3)
    have hnle : ¬ wval (x 0) n (nI p) (nI 0 - 3) ≤ -1 := by
      obtain ⟨c, hc, ec⟩ := wval_cnt (x 0) n (nI p) (nI 0 - 3)
      rw [ec, le_toInt, toInt_m1, nI_toInt (by omega)]; omega
    show L_X9_bestWind_12 (199 + 1) x (nI p) (nI 0 - 3) (-1) 0 x = _
    rw [bw_s 199, if_neg (by decide), i1, show nI 0 - 3 + 1 = nI 0 + 1 - 3 by decide]
    simp only [Option.bind_some, if_neg hnle]
    refine Eq.trans ex ?_
    show L_X9_bestWind_12 (192 + 1) x (nI p) (nI 6 + 1 - 3) sx.1 sx.2.1 sx.2.2 = _
    simp only [L_X9_bestWind_12, show (3 : Int32) < nI 6 + 1 - 3 by decide, ↓reduceIte, hx2]
  -- the reference
  have hJ := hI.thr 0
  obtain ⟨sm, em, hm1, hm2, hm3⟩ := loop_up (L := fun q i (s : Int32 × (Nat → Nat → Int32)) => L_X10_bestWind_19 q m (nI p) (i + 1 - 3) s.1 s.2) 6
    (fun t s => s.1 = bestN (wval (x 0) n (nI p)) t ∧ (∀ r, r ≠ 1 → s.2 r = va_up m 0 (upd (m 0) 0 0) r) ∧ ∀ z, z < 1056 → s.2 1 z = m 1 z)
    (fun q t s ht hRel => by
      obtain ⟨r1, r2, r3⟩ := hRel
      obtain ⟨best, y⟩ := s
      simp only at r1 r2 r3 ⊢
      have hRy : RO (x 0) (y 1) n d := hR.cg (EqO.refl _) (fun z hz => r3 z (by omega))
      obtain ⟨-, y1, -, j1, -, j2, j3⟩ := imag hRy hF hp (w := nI (t + 1) - 3) (rng_t (by omega))
      have hRy1 : RO (x 0) (y1 1) n d := hRy.cg (EqO.refl _) (fun z hz => j3 z (by omega))
      obtain ⟨-, y2, -, l1, -, l2, l3⟩ := imag hRy1 hF hp (w := bestN (wval (x 0) n (nI p)) t) (best_rng _ t (by omega))
      have h3 : ¬ (4 : Int32) ≤ nI (t + 1) - 3 := by
        have e : (nI (t + 1) - 3).toInt = ((t + 1 : Nat) : Int) - 3 := pk_sub_toInt (a := t + 1) (b := 3) (by omega) (by omega)
        rw [le_toInt, show (4 : Int32).toInt = 4 by decide, e]; omega
      have hb : bestN (wval (x 0) n (nI p)) (t + 1) = if wval (x 0) n (nI p) (nI (t + 1) - 3) ≤ wval (x 0) n (nI p) (bestN (wval (x 0) n (nI p)) t) then bestN (wval (x 0) n (nI p)) t else nI (t + 1) - 3 := rfl
      refine ⟨(bestN (wval (x 0) n (nI p)) (t + 1), y2), ?_, rfl, fun r hr => by show y2 r = _; rw [l2 r hr, j2 r hr, r2 r hr], fun z hz => by show y2 1 z = _; rw [l3 z hz, j3 z hz, r3 z hz]⟩
      rw [show nI t + 1 = nI (t + 1) from (nI_succ t).symm]
      subst r1
      simp only [L_X10_bestWind_19]
      rw [if_neg h3, j1]
      simp only [Option.bind_some]
      rw [l1]
      simp only [Option.bind_some]
      rw [show nI (t + 1) - 3 + 1 = nI (t + 1) + 1 - 3 by grind only, hb]
      split <;> rfl) 200 (nI 0 - 3, va_up m 0 (upd (m 0) 0 0)) (by decide) ⟨rfl, fun _ _ => rfl, fun z _ => congrFun (va_up_1of0 m (upd (m 0) 0 0)) z⟩
  have ecm : L_X10_bestWind_19 200 m (nI p) (-2) (-3) (va_up m 0 (upd (m 0) 0 0)) = some (bestN (wval (x 0) n (nI p)) 6, sm.2) := by
    show L_X10_bestWind_19 200 m (nI p) (nI 0 + 1 - 3) (nI 0 - 3) (va_up m 0 (upd (m 0) 0 0)) = _
    refine Eq.trans em ?_
    show L_X10_bestWind_19 (193 + 1) m (nI p) (nI 6 + 1 - 3) sm.1 sm.2 = _
    simp only [L_X10_bestWind_19, show (4 : Int32) ≤ nI 6 + 1 - 3 by decide, ↓reduceIte, hm1]
  refine ⟨0, _, sx.2.2, _, sm.2, Or.inl rfl, ecl, ecm, ?_, fun _ => rfl, (hJ.side (fun q _ b => hx3 q b) hm2 (fun z hz => ?_)).mono (Nat.le_succ k)⟩
  · show sm.2 0 0 = 0
    rw [hm2 0 (by omega), va_up_self, upd_self]
  · rw [va_up_1of0]; exact hm3 z (by omega)
