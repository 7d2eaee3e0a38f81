/-! the class's frame about a change -/
theorem flm8 {a : Nat} (ha : a < 9) : D_J9_floorMod_7cf53 (nI a) 8 = some (nI (a % 8)) := by
  rcases (show a = 0 ∨ a = 1 ∨ a = 2 ∨ a = 3 ∨ a = 4 ∨ a = 5 ∨ a = 6 ∨ a = 7 ∨ a = 8 by omega) with rfl | rfl | rfl | rfl | rfl | rfl | rfl | rfl | rfl <;> decide +kernel
theorem min8 {c : Nat} (hc : c ≤ 8) : (if (8 : Int32) < nI c + 1 then 8 else nI c + 1) = nI (if c = 8 then 8 else c + 1) := by
  rcases (show c = 0 ∨ c = 1 ∨ c = 2 ∨ c = 3 ∨ c = 4 ∨ c = 5 ∨ c = 6 ∨ c = 7 ∨ c = 8 by omega) with rfl | rfl | rfl | rfl | rfl | rfl | rfl | rfl | rfl <;> decide
theorem wi8 {a : Nat} (ha : a < 8) : D_X9_isWithin (nI a) 8 = 1 := by
  rw [wi_iff, nI_toInt (by omega), show (8 : Int32).toInt = 8 by decide, if_pos (by omega)]
theorem xs_ne {x : Mem} {k : Nat} {o : Nat → Nat → Int32} {q : Nat} (h : q ≠ k) : va_up x k o q = x q := va_up_ne _ _ h
theorem xs_self {x : Mem} {k : Nat} {o : Nat → Nat → Int32} : va_up x k o k = o := va_up_self _ _ _
theorem push_eq (x : Mem) {c nx : Nat} (hc : c ≤ 8) (hn : nx < 8) (h1 : x 12 1 1 = nI nx) (h2 : x 12 1 2 = nI c) (p : Nat) :
    ∃ x' : Mem, D_X2_push x p = some x' ∧ (∀ q, q ≠ nx + 4 → q ≠ 12 → x' q = x q) ∧ (∀ r, r ≠ 1 → x' 12 r = x 12 r) ∧ x' 12 1 1 = nI ((nx + 1) % 8) ∧ x' 12 1 2 = nI (if c = 8 then 8 else c + 1) ∧ EqO (x' (nx + 4)) (x p) := by
  obtain ⟨o', e, he⟩ := ccp (x (nx + 4)) (x p)
  refine ⟨va_up (va_up x (nx + 4) o') 12 (va_up (x 12) 1 (upd (upd (x 12 1) 1 (nI ((nx + 1) % 8))) 2 (nI (if c = 8 then 8 else c + 1)))), ?_, fun q a b => ?_, fun r hr => ?_, ?_, ?_, ?_⟩
  · unfold D_X2_push
    simp only [h1, h2, wi8 hn, if_neg one_ne, inb_nI hn (show 8 < 2 ^ 31 by decide), nI_clamp (show nx < 2 ^ 31 by omega), e, ← nI_succ nx, flm8 (show nx + 1 < 9 by omega), min8 hc, Option.bind_some, ↓reduceIte]
  · rw [xs_ne b, xs_ne a]
  · rw [xs_self, vun _ _ _ hr]
  · rw [xs_self, va_up_self, upd_ne _ _ (by omega), upd_self]
  · rw [xs_self, va_up_self, upd_self]
  · rw [xs_ne (by omega), xs_self]; exact he
theorem hist_done {k c nx : Nat} {x x' : Mem} {m m' : Nat → Nat → Int32} (hc : c ≤ 8) (hn : nx < 8) (h : ∀ i, 1 ≤ i → i ≤ c → KO k (x (hix nx c i)) (row m i)) (hx : ∀ q, 4 ≤ q → q < 12 → q ≠ nx + 4 → x' q = x q)
    (hp : KO k (x' (nx + 4)) (row m' (if c = 8 then 8 else c + 1))) (hr : ∀ i, 1 ≤ i → i < (if c = 8 then 8 else c + 1) → ∀ j, j < 96 → row m' i j = row m (if c = 8 then i + 1 else i) j) :
    ∀ i, 1 ≤ i → i ≤ (if c = 8 then 8 else c + 1) → KO k (x' (hix ((nx + 1) % 8) (if c = 8 then 8 else c + 1) i)) (row m' i) := by
  intro i a b
  by_cases hi : i = (if c = 8 then 8 else c + 1)
  · have e : hix ((nx + 1) % 8) (if c = 8 then 8 else c + 1) i = nx + 4 := by rw [← hi]; unfold hix; omega
    rw [e, hi]; exact hp
  · have hlt : i < (if c = 8 then 8 else c + 1) := by omega
    by_cases h8 : c = 8
    · subst h8
      simp only [↓reduceIte] at hlt b hr ⊢
      have e : hix ((nx + 1) % 8) 8 i = hix nx 8 (i + 1) := by unfold hix; omega
      have ne : hix nx 8 (i + 1) ≠ nx + 4 := by unfold hix; omega
      rw [e, hx _ (hix_lt _ _ _).1 (hix_lt _ _ _).2 ne]
      exact (h (i + 1) (by omega) (by omega)).cg (EqO.refl _) (fun z hz => hr i a hlt z hz)
    · simp only [if_neg h8] at hlt b hr ⊢
      have e : hix ((nx + 1) % 8) (c + 1) i = hix nx c i := by unfold hix; omega
      have ne : hix nx c i ≠ nx + 4 := by unfold hix; omega
      rw [e, hx _ (hix_lt _ _ _).1 (hix_lt _ _ _).2 ne]
      exact (h i a (by omega)).cg (EqO.refl _) (fun z hz => hr i a hlt z hz)
theorem is0 : is01 0 = true := by decide
theorem is1 : is01 1 = true := by decide
/-- a change, with what stands about it -/
theorem change_ok {k : Nat} {x : Mem} {m : Nat → Nat → Int32} (hk : k ≤ 512) (hI : Inv k x m) (kd : Nat) (p1 p2 p3 : Int32) (M : (Nat → Nat → Int32) → Option (Int32 × (Nat → Nat → Int32)))
    (hCh : ∀ (B n d : Nat) (m' : Nat → Nat → Int32), RO (x 0) (m' 1) n d → PF (x 0 3) B → B < 2 ^ 20 → Ch B (x 0) m' (D_X4_carryOut (x 0) kd p1 p2 p3) (M m')) :
    ∃ (code r : Int32) (x' : Mem) (bb : Int32) (m' : Nat → Nat → Int32), (code = 0 ∨ code = 1) ∧ D_X9_change x kd p1 p2 p3 = some (code, r, x') ∧ (D_X10_begins m).bind (fun o2 => (M o2).bind (fun (r4, o5) => if is01 r4 then ((D_X10_ends o5 r4).bind (fun (r8, o9) => some (r8, o9))) else none)) = some (bb, m') ∧ D_X10_thrown m' = code ∧ (code = 0 → r = bb) ∧ Inv (k + 1) x' m' := by
  obtain ⟨⟨⟨n, d, hR⟩, hF⟩, ⟨c, nx, h1, h2, h3, h4, h5, h6⟩, hS, hE, hT, hFa, hX⟩ := hI
  obtain ⟨m1, e1, b1, b2, b3⟩ := begins_eq m
  have hR1 : RO (x 0) (m1 1) n d := hR.cg (EqO.refl _) (fun z hz => b2 z (by omega))
  obtain ⟨o2, ec, hc2⟩ := ccp (x 1) (x 0)
  obtain ⟨a, o', b, m2, ea, eb, c1, c2, c3, hcase⟩ := hCh (SB k) n d m1 hR1 hF (SB_lt (by omega))
  have r2 : ∀ r, 2 ≤ r → m2 r = m r := fun r hr => (c1 r hr).trans (b1 r (by omega))
  have z2 : ∀ j, j ≠ 4 → j ≠ 5 → j ≠ 6 → j ≠ 7 → m2 0 j = m 0 j := fun j p q r s => by rw [c3 j p q r s, b1 0 (by omega)]
  have f2 : ∀ q, 96 ≤ q → ¬ (960 ≤ q ∧ q < 1056) → m2 1 q = m 1 q := fun q p r => by rw [c2 q p, b2 q r]
  have t2 : ∀ j, j < 96 → m2 1 (960 + j) = m 1 j := fun j hj => by rw [c2 _ (by omega), b3 j hj]
  rcases hcase with ⟨rfl, rfl, w, dt, hw, ho', w5, w6, w7⟩ | ⟨rfl, ha, w4, w5, w6, w7, hPF, n', d', hRO⟩
  · obtain ⟨m3, e3, d1, d2, d3, d4⟩ := ends0 m2
    refine ⟨1, 0, D_X6_keep (va_up (va_up x 1 o2) 0 o') 0, 0, m3, Or.inr rfl, ?_, ?_, ?_, fun z => absurd z one_ne, ?_⟩
    · unfold D_X9_change
      rw [ec]
      simp only [Option.bind_some, ea, ↓reduceIte]
    · rw [e1]
      simp only [Option.bind_some, eb, is0, ↓reduceIte, e3]
    · show m3 0 0 = 1
      rw [d1, upd_self]
    · have dz : ∀ j, j ≠ 0 → m3 0 j = m2 0 j := fun j hj => by rw [d1, upd_ne _ _ hj]
      have x0 : (D_X6_keep (va_up (va_up x 1 o2) 0 o') 0) 0 = o' := by
        unfold D_X6_keep
        rw [xs_ne (by omega), xs_self]
      have xq : ∀ q, 2 ≤ q → q < 12 → (D_X6_keep (va_up (va_up x 1 o2) 0 o') 0) q = x q := fun q p r => by
        unfold D_X6_keep
        rw [xs_ne (by omega), xs_ne (by omega), xs_ne (by omega)]
      have x12 : ∀ r, r ≠ 3 → (D_X6_keep (va_up (va_up x 1 o2) 0 o') 0) 12 r = x 12 r := fun r hr => by
        unfold D_X6_keep
        rw [xs_self, vun _ _ _ hr, xs_ne (by omega), xs_ne (by omega)]
      have x3 : (D_X6_keep (va_up (va_up x 1 o2) 0 o') 0) 12 3 = upd (upd (upd (upd (x 12 3) 0 w) 1 dt) 2 0) 3 0 := by
        unfold D_X6_keep
        rw [xs_self, va_up_self, xs_self, xs_ne (by omega), xs_ne (by omega), ho', va_up_self]
        congr 1
      refine ⟨⟨⟨n, d, ?_⟩, ?_⟩, IHist.mono (IHist.cg (x := x) (m := m) ⟨c, nx, h1, h2, h3, h4, h5, h6⟩ (fun q p r => xq q (by omega) r) (by rw [x12 1 (by omega)]) (by rw [x12 1 (by omega)]) (by rw [dz 2 (by omega), z2 2 (by omega) (by omega) (by omega) (by omega)]) (fun z p q => by rw [d3 z p, f2 z p (by omega)])) (Nat.le_succ k), ISav.mono (ISav.cg hS (xq 3 (by omega) (by omega)) (by rw [x12 0 (by omega)]) (by rw [dz 3 (by omega), z2 3 (by omega) (by omega) (by omega) (by omega)]) (fun z p q => by rw [d3 z (by omega), f2 z (by omega) (by omega)])) (Nat.le_succ k), ⟨?_, fun _ => ?_, ?_, fun hne => ?_⟩, hT.cg (by rw [x12 4 (by omega)]) (x12 5 (by omega)) (by rw [dz 10 (by omega), z2 10 (by omega) (by omega) (by omega) (by omega)]) (by rw [d2 2 (by omega), r2 2 (by omega)]), by rw [x12 0 (by omega), dz 13 (by omega), z2 13 (by omega) (by omega) (by omega) (by omega)]; exact hFa, hX.cg (x12 31 (by omega)) (x12 32 (by omega)) (by rw [dz 17 (by omega), z2 17 (by omega) (by omega) (by omega) (by omega)]) (by rw [d2 4 (by omega), r2 4 (by omega)])⟩
      · rw [x0, ho']
        exact hR.cg (EqO.refuse _ w dt) (fun z hz => by rw [d4 z hz, t2 z hz])
      · rw [x0, ho']
        exact (hF.cg (fun z _ => by rw [vun _ _ _ (by omega)])).mono (by unfold SB; omega)
      · rw [x3, dz 5 (by omega), w5]; rfl
      · rw [x3, dz 6 (by omega), w6]; rfl
      · rw [x3, dz 7 (by omega), w7]; rfl
      · exact absurd (by rw [dz 7 (by omega), w7]) hne
  · obtain ⟨m3, e3, d0, d2, dz, dr, dlo, dhi, dtop, drows⟩ := ends1 m2 h1 (by rw [z2 2 (by omega) (by omega) (by omega) (by omega)]; exact h4)
    have y12 : (va_up (va_up x 1 o2) 0 o') 12 = x 12 := by rw [xs_ne (by omega), xs_ne (by omega)]
    obtain ⟨x', ex, g1, g2, g3, g4, g5⟩ := push_eq (va_up (va_up x 1 o2) 0 o') (c := c) (nx := nx) h1 h2 (by rw [y12]; exact h5) (by rw [y12]; exact h3) 1
    have xq : ∀ q, 2 ≤ q → q ≠ nx + 4 → q ≠ 12 → x' q = x q := fun q p r s => by rw [g1 q r s, xs_ne (by omega), xs_ne (by omega)]
    have x0 : x' 0 = o' := by rw [g1 0 (by omega) (by omega), xs_self]
    have x12 : ∀ r, r ≠ 1 → x' 12 r = x 12 r := fun r hr => by rw [g2 r hr, y12]
    have hbef : EqO (x' (nx + 4)) (x 0) := by
      have : (va_up (va_up x 1 o2) 0 o') 1 = o2 := by rw [xs_ne (by omega), xs_self]
      rw [this] at g5
      exact g5.trans hc2
    refine ⟨0, a, x', m2 0 4, m3, Or.inl rfl, ?_, ?_, d0, fun _ => w4.symm, ?_⟩
    · unfold D_X9_change
      rw [ec]
      simp only [Option.bind_some, ea, if_neg ha, ex]
    · rw [e1]
      simp only [Option.bind_some, eb, is1, ↓reduceIte, e3]
    · have KOb : KO k (x 0) (m 1) := ⟨⟨n, d, hR⟩, hF⟩
      refine ⟨⟨⟨n', d', ?_⟩, ?_⟩, IHist.mono ⟨if c = 8 then 8 else c + 1, (nx + 1) % 8, by split <;> omega, by omega, g4, d2, g3, hist_done h1 h2 (m := m) h6 (fun q p r t => xq q (by omega) t (by omega)) ?_ (fun i p q j hj => ?_)⟩ (Nat.le_succ k), ISav.mono (ISav.cg hS (xq 3 (by omega) (by omega) (by omega)) (by rw [x12 0 (by omega)]) (by rw [dz 3 (by omega) (by omega), z2 3 (by omega) (by omega) (by omega) (by omega)]) (fun z p q => by rw [dhi z p, f2 z (by omega) (by omega)])) (Nat.le_succ k), hE.cg (x12 3 (by omega)) (fun j p q => ?_), hT.cg (by rw [x12 4 (by omega)]) (x12 5 (by omega)) (by rw [dz 10 (by omega) (by omega), z2 10 (by omega) (by omega) (by omega) (by omega)]) (by rw [dr 2 (by omega), r2 2 (by omega)]), by rw [x12 0 (by omega), dz 13 (by omega) (by omega), z2 13 (by omega) (by omega) (by omega) (by omega)]; exact hFa, hX.cg (x12 31 (by omega)) (x12 32 (by omega)) (by rw [dz 17 (by omega) (by omega), z2 17 (by omega) (by omega) (by omega) (by omega)]) (by rw [dr 4 (by omega), r2 4 (by omega)])⟩
      · rw [x0]
        exact hRO.cg (EqO.refl _) (fun z hz => dlo z hz)
      · rw [x0]; exact hPF.mono (by unfold SB; omega)
      · exact KOb.cg hbef (fun z hz => by rw [dtop z hz, t2 z hz])
      · rw [drows i p q j hj]
        unfold row
        have : (if c = 8 then i + 1 else i) ≤ 8 ∧ 1 ≤ (if c = 8 then i + 1 else i) := by
          constructor <;> split <;> split at q <;> omega
        exact f2 _ (by omega) (by omega)
      · rw [dz j (by omega) (by omega)]
        rcases (show j = 5 ∨ j = 6 ∨ j = 7 ∨ j = 8 by omega) with rfl | rfl | rfl | rfl
        · rw [w5, b1 0 (by omega)]
        · rw [w6, b1 0 (by omega)]
        · rw [w7, b1 0 (by omega)]
        · exact z2 8 (by omega) (by omega) (by omega) (by omega)
