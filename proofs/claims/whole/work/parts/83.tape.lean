/-! an order, the tape, both ways -/
theorem zero4 {j : Nat} (hj : j ≤ 12) (m s0 : Nat → Nat → Int32) (r1 : Int32) (h15 : m 0 15 = nI j) : ∃ (z : Nat → Nat → Int32), L_X10_order_24 200 m r1 0 s0 = L_X10_order_24 (195 + 1) m r1 4 z ∧ (∀ r, r ≠ 3 → z r = s0 r) ∧ ∀ i, ¬ (4 * j ≤ i ∧ i < 4 * j + 4) → z 3 i = s0 3 i := by
  have e0 : (4 : Int32) * nI j = nI (4 * j) := by rw [show (4 : Int32) = nI 4 from rfl, pk_mul]
  obtain ⟨z, e, h1, h2⟩ := loop_up (L := fun q i (s : Nat → Nat → Int32) => L_X10_order_24 q m r1 i s) 4 (fun k s => (∀ r, r ≠ 3 → s r = s0 r) ∧ ∀ i, ¬ (4 * j ≤ i ∧ i < 4 * j + k) → s 3 i = s0 3 i)
    (fun q k s hk hR => by
      obtain ⟨h1, h2⟩ := hR
      refine ⟨va_up s 3 (upd (s 3) (4 * j + k) 0), ?_, fun r hr => by rw [vun _ _ _ hr]; exact h1 r hr, fun i hi => by rw [va_up_self, upd_ne _ _ (by omega)]; exact h2 i (by omega)⟩
      simp only [L_X10_order_24, show ¬ (4 : Int32) ≤ nI k from nI_ge hk (by decide), h15, e0, nI_add, (i4 (j := j) (t := k) (by omega) hk).1, (i4 (j := j) (t := k) (by omega) hk).2, ↓reduceIte, nI_succ]) 200 s0 (by decide) ⟨fun _ _ => rfl, fun _ _ => rfl⟩
  exact ⟨z, e, h1, fun i hi => h2 i (by omega)⟩
theorem PJ.other {l p : Nat} {T : Nat → Int32} {x : Mem} {m z : Nat → Nat → Int32} (h : PJ l T p x m) (h0 : ∀ i, i ≠ 15 → z 0 i = m 0 i) (h2 : z 2 = m 2) : PJ l T p x z := by
  unfold PJ at h ⊢
  rw [h0 10 (by omega), h0 11 (by omega), h0 12 (by omega), h2]
  exact h
theorem start_PJ {l p j q : Nat} {T : Nat → Int32} {x : Mem} {m : Nat → Nat → Int32} (hj : j < 12) (h : PJ l T p x m) : PJ l T p (D_X5_start x j q) m ∧ XO j x (D_X5_start x j q) ∧ (D_X5_start x j q) 12 (j + 7) 2 = nI 0 ∧ (D_X5_start x j q) 12 (j + 7) 0 = nI q := by
  unfold D_X5_start
  refine ⟨?_, ⟨fun r a => xs_ne a, fun r a b c => by rw [xs_self, vun _ _ _ b], fun z a => by rw [xs_self, vun _ _ _ (by omega)]⟩, by rw [xs_self, va_up_self, upd_self]; rfl, by rw [xs_self, va_up_self, upd_ne _ _ (by omega), upd_self]⟩
  unfold PJ at h ⊢
  rw [xs_self, vun _ _ _ (by omega), vun _ _ _ (by omega)]
  exact h
theorem fin_sw : ∀ i : Fin 9, D_J0_isEmpty_aae02 i.val = 0 ∧ D_J0_charAt_5068e i.val 0 = some (chAt i.val 0) := by decide +kernel
theorem ro_s {l p j i f : Nat} {T : Nat → Int32} {x y : Mem} {m : Nat → Nat → Int32} (h : PJ l T p x m) (hi : i < 9) : L_X8_readOrder_2 (f + 1) y j (nI i) x = if chAt i 0 = sg l T p then ((D_X8_readForm (D_X5_start x j i) i j).bind (fun (r15, o16) => if is01 r15 then (some (r15, o16)) else none)) else L_X8_readOrder_2 f y j (nI (i + 1)) x := by
  have hs := fin_sw ⟨i, hi⟩
  simp only at hs
  simp only [L_X8_readOrder_2, show ¬ (9 : Int32) ≤ nI i from nI_ge hi (by decide), inb_nI hi (show 9 < 2 ^ 31 by decide), nI_clamp (show i < 2 ^ 31 by omega), nsg h, D_X3_startsWith, hs.1, hs.2, Option.bind_some, ↓reduceIte]
  by_cases hc : chAt i 0 = sg l T p
  · simp only [if_pos hc, Option.bind_some, if_neg one_ne]
  · simp only [if_neg hc, Option.bind_some, ↓reduceIte, nI_succ]
theorem ch_inj : ∀ a b : Fin 9, chAt a.val 0 = chAt b.val 0 → a = b := by decide
def OUT (j l : Nat) (T : Nat → Int32) (p : Nat) (x x' : Mem) (m m' : Nat → Nat → Int32) (b : Int32) : Prop :=
  XO j x x' ∧ (∀ r, r ≠ 0 → r ≠ 3 → m' r = m r) ∧ (∀ z, z ≠ 11 → z ≠ 12 → z ≠ 15 → m' 0 z = m 0 z) ∧ m' 0 15 = nI (j + 1) ∧ (∀ z, z < 4 * j → m' 3 z = m 3 z) ∧ ((b = 1 ∧ (∃ p', p + 4 ≤ p' ∧ PJ l T p' x' m') ∧ ORD j x' m') ∨ (b = 0 ∧ ∃ g, FL l g x' m'))
theorem order_no {l p j : Nat} {T : Nat → Int32} {x : Mem} {m : Nat → Nat → Int32} (hj : j ≤ 12) (hP : PJ l T p x m) (h15 : m 0 15 = nI j) (hno : ∀ q, q < 9 → ¬ chAt q 0 = sg l T p) :
    ∃ m', D_X10_order m = some m' ∧ OUT j l T p x x m m' 0 := by
  unfold D_X10_order
  have hP0 : PJ l T p x (va_up m 0 (upd (m 0) 15 (m 0 15 + 1))) := hP.other (fun i hi => by rw [va_up_self, upd_ne _ _ hi]) (vun _ _ _ (by omega))
  rw [msg hP0]
  simp only [Option.bind_some]
  obtain ⟨z, e, h1, h2⟩ := zero4 hj m (va_up m 0 (upd (m 0) 15 (m 0 15 + 1))) (sg l T p) h15
  rw [e]
  have z11 : z 0 11 = nI p := by rw [h1 0 (by omega), va_up_self, upd_ne _ _ (by omega)]; exact hP.2.2.2.2.2.1
  refine ⟨va_up z 0 (upd (z 0) 12 (nI p)), ?_, XO.refl j x, fun r a b => ?_, fun i a b c => ?_, ?_, fun i hi => ?_, Or.inr ⟨rfl, p, hP.2.1, hP.2.2.2.1, ?_⟩⟩
  · simp only [L_X10_order_24, show (4 : Int32) ≤ 4 by decide, isw_no hno, z11, ↓reduceIte]
  · rw [vun _ _ _ a, h1 r b, vun _ _ _ a]
  · rw [va_up_self, upd_ne _ _ b, h1 0 (by omega), va_up_self, upd_ne _ _ c]
  · rw [va_up_self, upd_ne _ _ (by omega), h1 0 (by omega), va_up_self, upd_self, h15, nI_succ]
  · rw [vun _ _ _ (by omega), h2 i (by omega), vun _ _ _ (by omega)]
  · rw [va_up_self, upd_self]
theorem order_ok {l p j : Nat} {T : Nat → Int32} {x : Mem} {m : Nat → Nat → Int32} (hj : j < 12) (hP : PJ l T p x m) (h15 : m 0 15 = nI j) :
    ∃ (b : Int32) (x' : Mem) (m' : Nat → Nat → Int32), D_X8_readOrder x j = some (b, x') ∧ D_X10_order m = some m' ∧ OUT j l T p x x' m m' b := by
  by_cases hex : ∃ q, q < 9 ∧ chAt q 0 = sg l T p
  · obtain ⟨q, hq, hs⟩ := hex
    have hP0 : PJ l T p x (va_up m 0 (upd (m 0) 15 (m 0 15 + 1))) := hP.other (fun i hi => by rw [va_up_self, upd_ne _ _ hi]) (vun _ _ _ (by omega))
    obtain ⟨z, e, h1, h2⟩ := zero4 (show j ≤ 12 by omega) m (va_up m 0 (upd (m 0) 15 (m 0 15 + 1))) (chAt q 0) h15
    have hPz : PJ l T p x z := hP0.other (fun i _ => by rw [h1 0 (by omega)]) (h1 2 (by omega))
    obtain ⟨s1, s2, s3, s4⟩ := start_PJ (q := q) hj hPz
    obtain ⟨b, x', m', a1, a2, a3, a4, a5⟩ := form_ok hj hq s1 s3 s4
    refine ⟨b, x', m', ?_, ?_, s2.trans a3, fun r u v => ?_, fun i u v w => ?_, ?_, fun i hi => ?_, ?_⟩
    · obtain ⟨zf, -, ef, -⟩ := loop_find (L := fun f i (_ : Unit) => L_X8_readOrder_2 f x j i x) q (fun _ => True) (fun f i _ hi _ => ⟨(), by
        show L_X8_readOrder_2 (f + 1) x j (nI i) x = _
        rw [ro_s hP (show i < 9 by omega), if_neg (fun hc => by
          have := ch_inj ⟨i, by omega⟩ ⟨q, hq⟩ (hc.trans hs.symm)
          have := Fin.mk.inj this
          omega)], trivial⟩) 200 () (by omega) trivial
      show L_X8_readOrder_2 200 x j (nI 0) x = _
      refine Eq.trans ef ?_
      show L_X8_readOrder_2 (zf + 1) x j (nI q) x = _
      rw [ro_s hP hq, if_pos hs, a1]
      rcases a5 with ⟨hb, -⟩ | ⟨hb, -⟩
      · rw [hb]; simp only [Option.bind_some, is1, ↓reduceIte]
      · rw [hb]; simp only [Option.bind_some, is0, ↓reduceIte]
    · unfold D_X10_order
      rw [msg hP0]
      simp only [Option.bind_some]
      rw [← hs, e, tail_q hj hq hPz hs.symm h15]
      exact a2
    · rw [a4.1 r u v, h1 r v, vun _ _ _ u]
    · rw [a4.2.1 i u v, h1 0 (by omega), va_up_self, upd_ne _ _ w]
    · rw [a4.2.1 15 (by omega) (by omega), h1 0 (by omega), va_up_self, upd_self, h15, nI_succ]
    · rw [a4.2.2 i (by omega), h2 i (by omega), vun _ _ _ (by omega)]
    · exact a5
  · have hno : ∀ q, q < 9 → ¬ chAt q 0 = sg l T p := fun q hq h => hex ⟨q, hq, h⟩
    obtain ⟨m', a1, a2⟩ := order_no (show j ≤ 12 by omega) hP h15 hno
    refine ⟨0, x, m', ?_, a1, a2⟩
    obtain ⟨zf, -, ef, -⟩ := loop_find (L := fun f i (_ : Unit) => L_X8_readOrder_2 f x j i x) 9 (fun _ => True) (fun f i _ hi _ => ⟨(), by
      show L_X8_readOrder_2 (f + 1) x j (nI i) x = _
      rw [ro_s hP hi, if_neg (hno i hi)], trivial⟩) 200 () (by omega) trivial
    show L_X8_readOrder_2 200 x j (nI 0) x = _
    refine Eq.trans ef ?_
    show L_X8_readOrder_2 (zf + 1) x j (nI 9) x = _
    simp only [L_X8_readOrder_2, show (9 : Int32) ≤ nI 9 by decide, ↓reduceIte]
