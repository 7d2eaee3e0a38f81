/-! lines, characters -/
theorem CB.v {c : Nat → Int32} (h : CB c) : ∃ v, v < 6 ∧ c 0 = nI v := by
  obtain ⟨a, ha, ea⟩ := rng_nI (b := 5) h.1 (by decide)
  exact ⟨a, by omega, ea⟩
theorem CB.s {c : Nat → Int32} (h : CB c) : ∃ v, v < 6 ∧ c 1 = nI v := by
  obtain ⟨a, ha, ea⟩ := rng_nI (b := 5) h.2.1 (by decide)
  exact ⟨a, by omega, ea⟩
theorem g_line : Good_line Inv := by
  intro k x m hk hI p1
  unfold OK_line D_X9_line D_X10_line
  obtain ⟨⟨⟨n, d, hR⟩, hF⟩, -, -, -, -, -, hTx⟩ := id hI
  rw [mcloud hR]
  simp only [Option.bind_some]
  rcases hc_cases hR p1 with e1 | ⟨e1, i, hi, rfl⟩
  · rw [e1, if_pos rfl, if_pos is0, if_pos rfl, it0]
    exact ⟨1, 0, x, 0, _, Or.inr rfl, rfl, rfl, th _ _, fun z => absurd z one_ne, rd hI 1⟩
  rw [e1, if_neg one_ne, if_pos is1, if_neg one_ne, it1]
  have h6 := hR.1
  obtain ⟨hC, hB⟩ := hR.2.2.2.2.2.2.2.2.1 i hi
  obtain ⟨v0, hv0, ev0⟩ := hB.v
  obtain ⟨v1, hv1, ev1⟩ := hB.s
  obtain ⟨v2, -, hv2, ev2⟩ := hB.size
  have hi1 : i < 100 := by omega
  obtain ⟨xa, ea, ta, fa⟩ := len0 (k := k) hTx
  obtain ⟨xb, mb, ex, em, tb, fb, gb⟩ := wrD ta (by omega) (show i < 10 by omega)
  have ga : FM (va_up m 0 (upd (m 0) 0 0)) (va_up (va_up m 0 (upd (m 0) 0 0)) 0 (upd (va_up m 0 (upd (m 0) 0 0) 0) 17 0)) := ⟨fun r a b => vun _ _ _ a, fun j a => by rw [va_up_self, upd_ne _ _ a]⟩
  have Fb := fa.trans fb
  have Gb := ga.trans gb
  obtain ⟨xc1, xc, mc, c1, c2, c3, tc, fc1, fc, gc⟩ := wrB (u := 64) tb (by omega) (by omega) (show v0 < 10 by omega)
  have Fc := Fb.trans fc
  have Gc := Gb.trans gc
  obtain ⟨xd1, xd, md, d1, d2, d3, td, fd1, fd, gd⟩ := wrB (u := 58) tc (by omega) (by omega) (show v1 < 10 by omega)
  have Fd := Fc.trans fd
  have Gd := Gc.trans gd
  obtain ⟨xe1, xe, me, e11, e12, e13, te, fe1, fe, ge⟩ := wrB (u := 47) td (by omega) (by omega) (show v2 < 10 by omega)
  have Fe := Fd.trans fe
  have Ge := Gd.trans ge
  have row1 : ∀ m', FM (va_up m 0 (upd (m 0) 0 0)) m' → CR (x 0 (i + 7)) (mcl (m' 1) i) := fun m' h => by rw [h.1 1 (by omega) (by omega)]; exact hC
  have off : ∀ x', FX x x' → x' 0 = x 0 := fun x' h => h.1 0 (by omega)
  have thr : ∀ m', FM (va_up m 0 (upd (m 0) 0 0)) m' → D_X10_thrown m' = 0 := fun m' h => by
    show m' 0 0 = 0
    rw [h.2 0 (by omega), va_up_self, upd_self]
  -- the class's and the reference's way to the title
  rw [ea]
  simp only [Option.bind_some]
  rw [ex, em]
  simp only [Option.bind_some]
  rw [if_pos (inb_nI (show i < 6 by omega) (by decide)), nI_clamp (show i < 2 ^ 31 by omega)]
  unfold D_X1_writeTo
  rw [show (64 : Int32) = nI 64 from rfl, show (58 : Int32) = nI 58 from rfl, show (47 : Int32) = nI 47 from rfl, c1]
  simp only [Option.bind_some]
  rw [off xc1 (Fb.trans fc1), ev0, c2]
  simp only [Option.bind_some]
  rw [d1]
  simp only [Option.bind_some]
  rw [off xd1 (Fc.trans fd1), ev1, d2]
  simp only [Option.bind_some]
  rw [e11]
  simp only [Option.bind_some]
  rw [off xe1 (Fd.trans fe1), ev2, e12]
  simp only [Option.bind_some]
  rw [c0A (row1 mb Gb) hi1]
  simp only [Option.bind_some]
  rw [ev0, c3]
  simp only [Option.bind_some]
  rw [c1A (row1 mc Gc) hi1]
  simp only [Option.bind_some]
  rw [ev1, d3]
  simp only [Option.bind_some]
  rw [c2A (row1 md Gd) hi1]
  simp only [Option.bind_some]
  rw [ev2, e13]
  simp only [Option.bind_some]
  rw [oA (row1 me Ge) hi1, off xe Fe]
  simp only [Option.bind_some, hT, hPl, neg_m1 hB.2.2.2.1]
  have fin : ∀ (l : Nat) (x' : Mem) (m' : Nat → Nat → Int32), TT l x' m' → l ≤ 16 → FX x x' → FM (va_up m 0 (upd (m 0) 0 0)) m' → ∃ (code r : Int32) (x9 : Mem) (bb : Int32) (m9 : Nat → Nat → Int32), (code = 0 ∨ code = 1) ∧ some ((0 : Int32), D_J4_length_8abf5 x', x') = some (code, r, x9) ∧ some (m' 0 17, m') = some (bb, m9) ∧ D_X10_thrown m9 = code ∧ (code = 0 → r = bb) ∧ Inv (k + 1) x9 m9 := fun l x' m' ht hl hf hg => ⟨0, _, x', _, m', Or.inl rfl, rfl, rfl, thr m' hg, fun _ => ht.2.1.trans ht.2.2.1.symm, hI.text hf hg ht hl⟩
  -- the pledge
  have pledge : ∀ (l : Nat) (x' : Mem) (m' : Nat → Nat → Int32), TT l x' m' → l + 2 ≤ 16 → FX x x' → FM (va_up m 0 (upd (m 0) 0 0)) m' →
      ∃ (code r : Int32) (x9 : Mem) (bb : Int32) (m9 : Nat → Nat → Int32), (code = 0 ∨ code = 1) ∧ ((if x 0 (i + 7) 5 = -1 then some x' else ((D_J4_append_cf468 x' 42).bind (fun o42 => (D_J4_append_bf812 o42 ((o42 0) (i + 7) 5)).bind (fun o35 => some o35)))).bind (fun o14 => some ((0 : Int32), D_J4_length_8abf5 o14, o14))) = some (code, r, x9) ∧ ((D_X10_lenderAt m' (nI i)).bind (fun r38 => if r38 < 0 then (some ((m' 0 17), m')) else ((D_X10_lenderAt m' (nI i)).bind (fun r42 => (D_X10_both m' 42 r42).bind (fun o46 => some (((o46 0) 17), o46)))))) = some (bb, m9) ∧ D_X10_thrown m9 = code ∧ (code = 0 → r = bb) ∧ Inv (k + 1) x9 m9 := fun l x' m' ht hl hf hg => by
    rw [lA (row1 m' hg) hi1]
    simp only [Option.bind_some, neg_m1 hB.2.2.2.2.1]
    by_cases h5 : x 0 (i + 7) 5 = -1
    · rw [if_pos h5, if_pos h5]
      exact fin l x' m' ht (by omega) hf hg
    · rw [if_neg h5, if_neg h5]
      obtain ⟨q, hq, eq⟩ := hB.len h5
      obtain ⟨x1, x2, m2, a1, a2, a3, a4, a5, a6, a7⟩ := wrB (u := 42) (v := q) ht (by omega) (by omega) (by omega)
      rw [show (42 : Int32) = nI 42 from rfl, a1]
      simp only [Option.bind_some]
      rw [off x1 (hf.trans a5), eq, a2, a3]
      exact fin (l + 2) x2 m2 a4 hl (hf.trans a6) (hg.trans a7)
  by_cases h3 : x 0 (i + 7) 3 = -1
  · have h5 : x 0 (i + 7) 5 = -1 := Classical.byContradiction fun z => (hB.2.2.2.2.2 z).1 h3
    have ho : D_X1_hasTitleForOtherShape (x 0 (i + 7)) = 0 := by
      unfold D_X1_hasTitleForOtherShape
      rw [if_pos ((hT _).mpr h3)]
    rw [if_pos h3, if_pos ho, if_pos h3, iO (row1 me Ge) hB hi1]
    simp only [Option.bind_some, ho, ↓reduceIte]
    exact pledge _ xe me te (by omega) Fe Ge
  · rw [if_neg h3, if_neg h3]
    obtain ⟨q, hq, eq⟩ := hB.own h3
    obtain ⟨x1, x2, m2, a1, a2, a3, a4, a5, a6, a7⟩ := wrB (u := 61) (v := q) te (by omega) (by omega) (by omega)
    have F2 := Fe.trans a6
    have G2 := Ge.trans a7
    rw [show (61 : Int32) = nI 61 from rfl, a1]
    simp only [Option.bind_some]
    rw [off x1 (Fe.trans a5), eq, a2, a3]
    simp only [Option.bind_some]
    rw [off x2 F2, iO (row1 m2 G2) hB hi1]
    simp only [Option.bind_some]
    by_cases ho : D_X1_hasTitleForOtherShape (x 0 (i + 7)) = 0
    · rw [if_pos ho, if_pos ho]
      exact pledge _ x2 m2 a4 (by omega) F2 G2
    · rw [if_neg ho, if_neg ho]
      obtain ⟨x3, m3, b1, b2, b3, b4, b5⟩ := wrC (v := 63) a4 (by omega) (by omega)
      rw [show (63 : Int32) = nI 63 from rfl, b1, b2]
      simp only [Option.bind_some]
      rw [off x3 (F2.trans b4)]
      exact pledge _ x3 m3 b3 (by omega) (F2.trans b4) (G2.trans b5)
