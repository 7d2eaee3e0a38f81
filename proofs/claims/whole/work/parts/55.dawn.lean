/-! a dawn, both ways -/
theorem payP_cg {f g w v : Nat → Int32} : ∀ {n : Nat}, f = g → (∀ j, j < n → w j = v j) → payP f w n = payP g v n
  | 0, hf, _ => hf
  | n + 1, hf, h => by
    rw [payP_s, payP_s, payP_cg hf (fun j hj => h j (by omega)), h n (by omega)]
theorem dawnC {o : Nat → Nat → Int32} {n d : Nat} (hn : o 0 1 = nI n) (h6 : n ≤ 6) (hd : d ≤ 5) (h4 : o 4 2 = nI d) (hB : ∀ i, i < n → CB (o (i + 7))) (V : Nat → Int32) (hV : ∀ i, i < n → o 2 (o (i + 7) 0).toNatClampNeg = V i ∧ rng (V i) (-1) 3) :
    ∃ o' : Nat → Nat → Int32, D_X4_letDawn o = some (sumTo (fun j => clf (lps (o (j + 7))) (V j)) n, o') ∧ o' 0 1 = nI n ∧ o' 0 5 = o 0 5 + 1 ∧ o' 0 6 = o 0 6 + sumTo (fun j => lpf (o (j + 7))) n ∧ o' 0 7 = o 0 7 + sumTo (fun j => clf (lps (o (j + 7))) (V j)) n ∧ o' 0 8 = o 0 8 ∧ o' 0 9 = o 0 9 ∧ o' 0 10 = o 0 10 ∧ o' 0 11 = o 0 11 + sumTo (fun j => pyf (pyw (clm (lps (o (j + 7))) (V j)) (V j))) n ∧
      o' 2 = o 2 ∧ o' 3 = payP (o 3) (fun j => pyw (clm (lps (o (j + 7))) (V j)) (V j)) n ∧ o' 4 2 = nI (if d = 5 then 5 else d + 1) ∧ (∀ i, i < n → o' (i + 7) = clm (lps (o (i + 7))) (V i)) ∧ (∀ z, 6 ≤ z → z < 30 → o' 5 z = o 5 (z - 6)) ∧ (∀ i, i < n → o' 5 i = clm (lps (o (i + 7))) (V i) 3) ∧ o' 6 0 = nI n ∧ ∀ z, 1 ≤ z → z < 5 → o' 6 z = o 6 (z - 1) := by
  obtain ⟨o2, a1, a2, a3, a4, a5⟩ := lapse_eq hn h6
  have hc2 : ∀ i, i < n → o2 (i + 7) 0 = o (i + 7) 0 := fun i hi => by rw [a5 i hi, lps0]
  obtain ⟨o5, b1, b2, b3, b4, b5⟩ := claim_eq (o := o2) ((a3 1 (by omega)).trans hn) h6 (fun i hi => by rw [hc2 i hi]; exact (hB i hi).1) V (fun i hi => by rw [hc2 i hi, a2 2 (by omega) (by omega)]; exact (hV i hi).1)
  have hc5 : ∀ i, i < n → o5 (i + 7) = clm (lps (o (i + 7))) (V i) := fun i hi => by rw [b5 i hi, a5 i hi]
  have hs5 : sumTo (fun j => clf (o2 (j + 7)) (V j)) n = sumTo (fun j => clf (lps (o (j + 7))) (V j)) n := sumTo_cg (fun j hj => by rw [a5 j hj])
  rw [hs5] at b1 b4
  have e51 : o5 0 1 = nI n := by rw [b3 1 (by omega), a3 1 (by omega)]; exact hn
  obtain ⟨o8, c1, c2, c3, c4, c5⟩ := pay2_eq (o := o5) e51 h6 (fun i hi => by rw [hc5 i hi]; exact clmB (lpsB (hB i hi)) (hV i hi).2) V (fun i hi => by
    rw [hc5 i hi, clm0, lps0, b2 2 (by omega) (by omega), a2 2 (by omega) (by omega)]; exact (hV i hi).1)
  have hs8 : sumTo (fun j => pyf (pyw (o5 (j + 7)) (V j))) n = sumTo (fun j => pyf (pyw (clm (lps (o (j + 7))) (V j)) (V j))) n := sumTo_cg (fun j hj => by rw [hc5 j hj])
  have hp8 : payP (o5 3) (fun j => pyw (o5 (j + 7)) (V j)) n = payP (o 3) (fun j => pyw (clm (lps (o (j + 7))) (V j)) (V j)) n := payP_cg (by rw [b2 3 (by omega) (by omega), a2 3 (by omega) (by omega)]) (fun j hj => by rw [hc5 j hj])
  have e81 : o8 0 1 = nI n := (c3 1 (by omega)).trans e51
  obtain ⟨o11, d1, d2, d3, d4, d5, d6, d7⟩ := rec_eq (o := o8) h6 hd (by rw [c2 4 (by omega) (by omega), b2 4 (by omega) (by omega), a2 4 (by omega) (by omega)]; exact h4)
  have e0 : o11 0 = o8 0 := d2 0 (by omega) (by omega) (by omega)
  refine ⟨va_up o11 0 (upd (o11 0) 5 (o11 0 5 + 1)), ?_, ?_, ?_, ?_, ?_, ?_, ?_, ?_, ?_, ?_, ?_, ?_, fun i hi => ?_, fun z a b => ?_, fun i hi => ?_, ?_, fun z a b => ?_⟩
  · unfold D_X4_letDawn
    rw [a1]
    simp only [Option.bind_some, b1, c1, e81, d1]
  · rw [va_up_self, upd_ne _ _ (by omega), e0]; exact e81
  · rw [va_up_self, upd_self, e0, c3 5 (by omega), b3 5 (by omega), a3 5 (by omega)]
  · rw [va_up_self, upd_ne _ _ (by omega), e0, c3 6 (by omega), b3 6 (by omega), a4]
  · rw [va_up_self, upd_ne _ _ (by omega), e0, c3 7 (by omega), b4, a3 7 (by omega)]
  · rw [va_up_self, upd_ne _ _ (by omega), e0, c3 8 (by omega), b3 8 (by omega), a3 8 (by omega)]
  · rw [va_up_self, upd_ne _ _ (by omega), e0, c3 9 (by omega), b3 9 (by omega), a3 9 (by omega)]
  · rw [va_up_self, upd_ne _ _ (by omega), e0, c3 10 (by omega), b3 10 (by omega), a3 10 (by omega)]
  · rw [va_up_self, upd_ne _ _ (by omega), e0, c4, b3 11 (by omega), a3 11 (by omega), hs8]
  · rw [vun _ _ _ (by omega), d2 2 (by omega) (by omega) (by omega), c2 2 (by omega) (by omega), b2 2 (by omega) (by omega), a2 2 (by omega) (by omega)]
  · rw [vun _ _ _ (by omega), d2 3 (by omega) (by omega) (by omega), c5, hp8]
  · rw [vun _ _ _ (by omega), d7]
  · rw [vun _ _ _ (by omega), d2 (i + 7) (by omega) (by omega) (by omega), c2 (i + 7) (by omega) (by omega), hc5 i hi]
  · rw [vun _ _ _ (by omega), d3 z a b, c2 5 (by omega) (by omega), b2 5 (by omega) (by omega), a2 5 (by omega) (by omega)]
  · rw [vun _ _ _ (by omega), d4 i hi, c2 (i + 7) (by omega) (by omega), hc5 i hi]
  · rw [vun _ _ _ (by omega), d5]
  · rw [vun _ _ _ (by omega), d6 z a b, c2 6 (by omega) (by omega), b2 6 (by omega) (by omega), a2 6 (by omega) (by omega)]
theorem dawnM {m : Nat → Nat → Int32} {n d : Nat} {cs : Nat → Nat → Int32} {f V : Nat → Int32} (hn : m 1 0 = nI n) (h6 : n ≤ 6) (hd : d ≤ 5) (h8 : m 1 8 = nI d) (hc : ∀ i, i < n → CR (cs i) (mcl (m 1) i) ∧ CB (cs i)) (hV : ∀ i, i < n → m 1 (13 + (cs i 0).toNatClampNeg) = V i + 1 ∧ rng (V i) (-1) 3) (hf : ∀ j, j < 4 → m 1 (9 + j) = f j) :
    ∃ s : Nat → Nat → Int32, D_X10_dawns m = some (sumTo (fun j => clf (lps (cs j)) (V j)) n, s) ∧ (∀ r, r ≠ 1 → s r = m r) ∧ (∀ z, 96 ≤ z → s 1 z = m 1 z) ∧ s 1 0 = nI n ∧ s 1 1 = m 1 1 + 1 ∧ s 1 2 = m 1 2 + sumTo (fun j => lpf (cs j)) n ∧ s 1 3 = m 1 3 + sumTo (fun j => clf (lps (cs j)) (V j)) n ∧ s 1 4 = m 1 4 ∧ s 1 5 = m 1 5 ∧ s 1 6 = m 1 6 ∧ s 1 7 = m 1 7 + sumTo (fun j => pyf (pyw (clm (lps (cs j)) (V j)) (V j))) n ∧
      s 1 8 = nI (if d = 5 then 5 else d + 1) ∧ (∀ j, j < 4 → s 1 (9 + j) = payP f (fun j => pyw (clm (lps (cs j)) (V j)) (V j)) n j) ∧ (∀ z, 13 ≤ z → z < 19 → s 1 z = m 1 z) ∧ (∀ i, i < n → CR (clm (lps (cs i)) (V i)) (mcl (s 1) i)) ∧ (∀ z, 68 ≤ z → z < 96 → s 1 z = m 1 (z - 7)) ∧ s 1 61 = nI n ∧ ∀ i, i < n → s 1 (62 + i) = clm (lps (cs i)) (V i) 3 + 1 := by
  obtain ⟨s, a1, a2, a3, a4, a5⟩ := mlapse hn h6 hc
  have e0 : s 1 0 = nI n := (a3 0 (by omega) (by omega)).trans hn
  obtain ⟨t, b1, b2, b3, b4, b5, b6⟩ := mclaim (m := s) (m0 := m) (s4 := s) (cs := fun i => lps (cs i)) (f := f) (V := V) (nI n) e0 h6 (fun i hi => ⟨a5 i hi, lpsB (hc i hi).2⟩) (fun i hi => by
    obtain ⟨hr, hb⟩ := hc i hi
    obtain ⟨a, ha, ea⟩ := rng_nI (b := 5) hb.1 (by decide)
    rw [lps0, a3 _ (by rw [ea, nI_clamp (by omega)]; omega) (by rw [ea, nI_clamp (by omega)]; omega)]
    exact hV i hi) (fun j hj => by rw [a3 _ (by omega) (by omega)]; exact hf j hj)
  have f0 : t 1 0 = nI n := (b3 0 (by omega) (by omega) (by omega)).trans e0
  obtain ⟨u, c1, c2, c3, c4, c5, c6, c7⟩ := mrec_eq (m := va_up t 1 (upd (upd (t 1) 3 (t 1 3 + sumTo (fun j => clf (lps (cs j)) (V j)) n)) 1 (t 1 1 + 1))) (n := n) (d := d) (by rw [va_up_self, upd_ne _ _ (by omega), upd_ne _ _ (by omega)]; exact f0) h6 hd (by
    rw [va_up_self, upd_ne _ _ (by omega), upd_ne _ _ (by omega), b3 8 (by omega) (by omega) (by omega), a3 8 (by omega) (by omega)]; exact h8)
  have hm : ∀ z, z ≠ 1 → z ≠ 3 → (va_up t 1 (upd (upd (t 1) 3 (t 1 3 + sumTo (fun j => clf (lps (cs j)) (V j)) n)) 1 (t 1 1 + 1))) 1 z = t 1 z := fun z p q => by rw [va_up_self, upd_ne _ _ p, upd_ne _ _ q]
  have hfar : ∀ z, z ≠ 1 → z ≠ 2 → z ≠ 3 → z ≠ 7 → ¬ (9 ≤ z ∧ z < 13) → ¬ (19 ≤ z ∧ z < 61) → t 1 z = m 1 z := fun z p q r s x y => by rw [b3 z (by omega) (by omega) (by omega), a3 z (by omega) (by omega)]
  refine ⟨u, ?_, fun r hr => ?_, fun z hz => ?_, ?_, ?_, ?_, ?_, ?_, ?_, ?_, ?_, c7, fun j hj => ?_, fun z a b => ?_, fun i hi => ?_, fun z a b => ?_, c5, fun i hi => ?_⟩
  · show L_X10_dawns_4 200 m 0 m = _
    rw [a1, b1, c1]
    rfl
  · rw [c2 r hr, vun _ _ _ hr, b2 r hr, a2 r hr]
  · rw [c3 z (by omega) (by omega), hm z (by omega) (by omega), hfar z (by omega) (by omega) (by omega) (by omega) (by omega) (by omega)]
  · rw [c3 0 (by omega) (by omega), hm 0 (by omega) (by omega)]; exact f0
  · rw [c3 1 (by omega) (by omega), va_up_self, upd_self, b3 1 (by omega) (by omega) (by omega), a3 1 (by omega) (by omega)]
  · rw [c3 2 (by omega) (by omega), hm 2 (by omega) (by omega), b3 2 (by omega) (by omega) (by omega), a4]
  · rw [c3 3 (by omega) (by omega), va_up_self, upd_ne _ _ (by omega), upd_self, b3 3 (by omega) (by omega) (by omega), a3 3 (by omega) (by omega)]
  · rw [c3 4 (by omega) (by omega), hm 4 (by omega) (by omega), hfar 4 (by omega) (by omega) (by omega) (by omega) (by omega) (by omega)]
  · rw [c3 5 (by omega) (by omega), hm 5 (by omega) (by omega), hfar 5 (by omega) (by omega) (by omega) (by omega) (by omega) (by omega)]
  · rw [c3 6 (by omega) (by omega), hm 6 (by omega) (by omega), hfar 6 (by omega) (by omega) (by omega) (by omega) (by omega) (by omega)]
  · rw [c3 7 (by omega) (by omega), hm 7 (by omega) (by omega), b4, a3 7 (by omega) (by omega)]
  · rw [c3 (9 + j) (by omega) (by omega), hm (9 + j) (by omega) (by omega), b5 j hj]
  · rw [c3 z (by omega) (by omega), hm z (by omega) (by omega), hfar z (by omega) (by omega) (by omega) (by omega) (by omega) (by omega)]
  · exact (b6 i hi).cg (fun _ _ => rfl) (fun j hj => by unfold mcl; rw [c3 _ (by omega) (by omega), hm _ (by omega) (by omega)])
  · rw [c4 z a b, hm (z - 7) (by omega) (by omega), hfar (z - 7) (by omega) (by omega) (by omega) (by omega) (by omega) (by omega)]
  · rw [c6 i hi]
    unfold mcl
    rw [hm _ (by omega) (by omega)]
    exact (b6 i hi).2.2.2.1
/-- a dawn -/
theorem dawn_eq {B : Nat} {o m : Nat → Nat → Int32} {n d : Nat} (h : RO o (m 1) n d) (hF : PF (o 3) B) :
    ∃ (cnt : Int32) (o' s : Nat → Nat → Int32), D_X4_letDawn o = some (cnt, o') ∧ D_X10_dawns m = some (cnt, s) ∧ (∀ r, r ≠ 1 → s r = m r) ∧ (∀ z, 96 ≤ z → s 1 z = m 1 z) ∧ (∃ k, k ≤ 6 ∧ cnt = nI k) ∧ PF (o' 3) (B + 6) ∧ ∃ d', RO o' (s 1) n d' := by
  obtain ⟨g1, g2, g3, g4, g5, g6, g7, g8, g9, g10, g11⟩ := h
  have hV : ∀ i, i < n → ∃ a, a < 6 ∧ o (i + 7) 0 = nI a := fun i hi => by
    obtain ⟨a, ha, ea⟩ := rng_nI (b := 5) (g9 i hi).2.1 (by decide)
    exact ⟨a, by omega, ea⟩
  have hr : ∀ i, i < n → rng (o 2 (o (i + 7) 0).toNatClampNeg) (-1) 3 := fun i hi => by
    obtain ⟨a, ha, ea⟩ := hV i hi
    rw [ea, nI_clamp (by omega)]
    exact (g8 a ha).2
  obtain ⟨o', a1, a2, a3, a4, a5, a6, a7, a8, a9, a10, a11, a12, a13, a14, a15, a16, a17⟩ := dawnC g3 g1 g2 g6.1 (fun i hi => (g9 i hi).2) (fun i => o 2 (o (i + 7) 0).toNatClampNeg) (fun i hi => ⟨rfl, hr i hi⟩)
  obtain ⟨s, b1, b2, b3, b4, b5, b6, b7, b8, b9, b10, b11, b12, b13, b14, b15, b16, b17, b18⟩ := dawnM (m := m) (cs := fun i => o (i + 7)) (f := o 3) (V := fun i => o 2 (o (i + 7) 0).toNatClampNeg) g4 g1 g2 g6.2 g9 (fun i hi => by
    obtain ⟨a, ha, ea⟩ := hV i hi
    refine ⟨?_, hr i hi⟩
    show m 1 (13 + (o (i + 7) 0).toNatClampNeg) = o 2 (o (i + 7) 0).toNatClampNeg + 1
    rw [ea, nI_clamp (by omega)]
    exact (g8 a ha).1) (fun j hj => (g7 j hj).symm)
  have hw : ∀ j, j < n → pyw (clm (lps (o (j + 7))) (o 2 (o (j + 7) 0).toNatClampNeg)) (o 2 (o (j + 7) 0).toNatClampNeg) = -1 ∨ ∃ p, p < 4 ∧ pyw (clm (lps (o (j + 7))) (o 2 (o (j + 7) 0).toNatClampNeg)) (o 2 (o (j + 7) 0).toNatClampNeg) = nI p := fun j hj => by
    unfold pyw
    split
    · exact Or.inl rfl
    · split
      · rcases rng_m (b := 3) (hr j hj) (by decide) with e | ⟨p, hp, e⟩
        · exact Or.inl e
        · exact Or.inr ⟨p, by omega, e⟩
      · exact Or.inl rfl
  obtain ⟨k, hk, ek⟩ := sumTo_cnt (f := fun j => clf (lps (o (j + 7))) (o 2 (o (j + 7) 0).toNatClampNeg)) (n := n) (fun j _ => by
    unfold clf
    split
    · split
      · exact Or.inl rfl
      · exact Or.inr rfl
    · exact Or.inl rfl)
  refine ⟨_, o', s, a1, b1, b2, b3, ⟨k, by omega, ek⟩, ?_, if d = 5 then 5 else d + 1, g1, by split <;> omega, a2, b4, ?_, ⟨a12, b12⟩, fun j hj => ?_, fun j hj => ?_, fun i hi => ?_, fun e he => ?_, ?_⟩
  · rw [a11]
    exact (payP_F hF _ n hw).mono (by omega)
  · obtain ⟨e1, e2, e3, e4, e5, e6, e7⟩ := g5
    refine ⟨?_, ?_, ?_, ?_, ?_, ?_, ?_⟩
    · rw [a3, b5, e1]
    · rw [a4, b6, e2]
    · rw [a5, b7, e3]
    · rw [a6, b8, e4]
    · rw [a7, b9, e5]
    · rw [a8, b10, e6]
    · rw [a9, b11, e7]
  · rw [a11, b13 j hj]
  · rw [a10, b14 _ (by omega) (by omega)]; exact g8 j hj
  · rw [a13 i hi]
    exact ⟨b15 i hi, clmB (lpsB (g9 i hi).2) (hr i hi)⟩
  · by_cases e0 : e = 0
    · subst e0
      refine ⟨n, g1, a16, b17, fun i hi => ?_⟩
      have hi6 : i < 30 := by omega
      rw [show 6 * 0 + i = i by omega, show 62 + 7 * 0 + i = 62 + i by omega, a15 i hi, b18 i hi]
      exact ⟨rfl, (clmB (lpsB (g9 i hi).2) (hr i hi)).2.2.2.1⟩
    · obtain ⟨q, q1, q2, q3, q4⟩ := g10 (e - 1) (by split at he <;> omega)
      have he5 : e < 5 := by split at he <;> omega
      refine ⟨q, q1, ?_, ?_, fun i hi => ?_⟩
      · rw [a17 e (by omega) he5]; exact q2
      · rw [b16 _ (by omega) (by omega), show 61 + 7 * e - 7 = 61 + 7 * (e - 1) by omega]; exact q3
      · rw [b16 _ (by omega) (by omega), a14 _ (by omega) (by omega), show 62 + 7 * e + i - 7 = 62 + 7 * (e - 1) + i by omega, show 6 * e + i - 6 = 6 * (e - 1) + i by omega]
        exact q4 i hi
  · unfold RBa at g11 ⊢
    rw [a11, payP_sum _ _ n hw, a9, a8, g11]
    grind only
