/-! lines about dawns, characters -/
theorem g_dawnLine : Good_dawnLine Inv := by
  intro k x m hk hI p1
  unfold OK_dawnLine D_X9_dawnLine D_X10_dawnLine D_X7_hasDawn
  obtain ⟨⟨⟨n, d, hR⟩, hF⟩, -, -, -, -, -, hTx⟩ := id hI
  have hd := hR.2.1
  have h4 := hR.2.2.2.2.2.1
  have g10 := hR.2.2.2.2.2.2.2.2.2.1
  simp only [ib8, cl8, h4.1, h4.2, in_cnt (show d < 2 ^ 30 by omega), ↓reduceIte]
  rcases wi_cases p1 (n := d) (by omega) with ⟨e1, -⟩ | ⟨e1, e, he, rfl⟩
  · rw [e1, if_pos rfl, if_pos rfl, it0]
    exact ⟨1, 0, x, 0, _, Or.inr rfl, rfl, rfl, th _ _, fun z => absurd z one_ne, rd hI 1⟩
  obtain ⟨q, q6, q1, q2, q3⟩ := g10 e he
  have e7 : (61 : Int32) + 7 * nI e = nI (61 + 7 * e) := by rw [show (7 : Int32) = nI 7 from rfl, pk_mul, show (61 : Int32) = nI 61 from rfl, nI_add]
  rw [e1, if_neg one_ne, if_neg one_ne, it1]
  obtain ⟨xa, ea, ta, fa⟩ := len0 (k := k) hTx
  have ga : FM (va_up m 0 (upd (m 0) 0 0)) (va_up (va_up m 0 (upd (m 0) 0 0)) 0 (upd (va_up m 0 (upd (m 0) 0 0) 0) 17 0)) := ⟨fun r a b => vun _ _ _ a, fun j a => by rw [va_up_self, upd_ne _ _ a]⟩
  have loop : ∀ (t i f : Nat) (y : Mem) (u : Nat → Nat → Int32), i + t = q → t < f → TT i y u → FX x y → FM (va_up m 0 (upd (m 0) 0 0)) u →
      ∃ (y' : Mem) (u' : Nat → Nat → Int32), L_X7_writeTo_2 f xa 0 (nI e) (nI i) y = some y' ∧ L_X10_dawnLine_30 f m (nI e) (nI i) u = some (u' 0 17, u') ∧ TT q y' u' ∧ FX x y' ∧ FM (va_up m 0 (upd (m 0) 0 0)) u' := by
    intro t
    induction t with
    | zero =>
      intro i f y u hi hf hT hy hu
      obtain ⟨f, rfl⟩ : ∃ z, f = z + 1 := ⟨f - 1, by omega⟩
      have hiq : i = q := by omega
      subst hiq
      have hca : D_X7_cloudsAt (y 0) (nI e) = some (nI i) := by
        rw [hy.1 0 (by omega)]
        unfold D_X7_cloudsAt D_X7_hasDawn
        rw [h4.1, e1, if_neg one_ne, if_pos (inb_nI (show e < 5 by omega) (by decide)), nI_clamp (by omega), q1]
      have hz : u 1 (61 + 7 * e) = nI i := by rw [hu.1 1 (by omega) (by omega)]; exact q2
      refine ⟨y, u, ?_, ?_, hT, hy, hu⟩
      · simp only [L_X7_writeTo_2, hca, Option.bind_some, nI_le (Nat.le_refl i) (show i < 2 ^ 31 by omega), ↓reduceIte]
      · simp only [L_X10_dawnLine_30, e7, inb_nI (show 61 + 7 * e < 1152 by omega) (show 1152 < 2 ^ 31 by decide), nI_clamp (show 61 + 7 * e < 2 ^ 31 by omega), hz, nI_le (Nat.le_refl i) (show i < 2 ^ 31 by omega), ↓reduceIte]
    | succ t ih =>
      intro i f y u hi hf hT hy hu
      obtain ⟨f, rfl⟩ : ∃ z, f = z + 1 := ⟨f - 1, by omega⟩
      have hiq : i < q := by omega
      have hca : D_X7_cloudsAt (y 0) (nI e) = some (nI q) := by
        rw [hy.1 0 (by omega)]
        unfold D_X7_cloudsAt D_X7_hasDawn
        rw [h4.1, e1, if_neg one_ne, if_pos (inb_nI (show e < 5 by omega) (by decide)), nI_clamp (by omega), q1]
      have e9 : nI e * 6 + nI i = nI (6 * e + i) := by rw [show (6 : Int32) = nI 6 from rfl, pk_mul, nI_add]; congr 1; omega
      have hwi : D_X9_isWithin (nI i) (nI q) = 1 := by rw [wi_iff, nI_toInt (by omega), nI_toInt (by omega), if_pos (by omega)]
      have hoa : D_X7_ownerAt (y 0) (nI e) (nI i) = some (x 0 5 (6 * e + i)) := by
        unfold D_X7_ownerAt
        rw [hca]
        simp only [Option.bind_some]
        rw [hwi, if_neg one_ne, e9, if_pos (inb_nI (show 6 * e + i < 30 by omega) (by decide)), nI_clamp (show 6 * e + i < 2 ^ 31 by omega), hy.1 0 (by omega)]
      have hz : u 1 (61 + 7 * e) = nI q := by rw [hu.1 1 (by omega) (by omega)]; exact q2
      have hz2 : u 1 (62 + 7 * e + i) = x 0 5 (6 * e + i) + 1 := by rw [hu.1 1 (by omega) (by omega)]; exact (q3 i hiq).1
      have hro := (q3 i hiq).2
      have e8 : nI (61 + 7 * e) + 1 + nI i = nI (62 + 7 * e + i) := by rw [← nI_succ, nI_add]; congr 1; omega
      by_cases hm1 : x 0 5 (6 * e + i) = -1
      · obtain ⟨y1, u1, a1, a2, a3, a4, a5⟩ := wrC (v := 45) hT (by omega) (by omega)
        obtain ⟨y', u', b1, b2, b3, b4, b5⟩ := ih (i + 1) f y1 u1 (by omega) (by omega) a3 (hy.trans a4) (hu.trans a5)
        refine ⟨y', u', ?_, ?_, b3, b4, b5⟩
        · simp only [L_X7_writeTo_2, hca, Option.bind_some, nI_ge hiq (show q < 2 ^ 31 by omega), hoa, hm1, ↓reduceIte]
          rw [show (45 : Int32) = nI 45 from rfl, a1, ← nI_succ]
          exact b1
        · simp only [L_X10_dawnLine_30, e7, inb_nI (show 61 + 7 * e < 1152 by omega) (show 1152 < 2 ^ 31 by decide), nI_clamp (show 61 + 7 * e < 2 ^ 31 by omega), hz, nI_ge hiq (show q < 2 ^ 31 by omega), e8, inb_nI (show 62 + 7 * e + i < 1152 by omega) (show 1152 < 2 ^ 31 by decide), nI_clamp (show 62 + 7 * e + i < 2 ^ 31 by omega), hz2, add1_sub1, pos_m1 hro, hm1, not_true_eq_false, ↓reduceIte]
          rw [show (45 : Int32) = nI 45 from rfl, a2, ← nI_succ]
          exact b2
      · obtain ⟨v, hv, ev⟩ : ∃ v, v < 4 ∧ x 0 5 (6 * e + i) = nI v := by
          rcases rng_m (b := 3) hro (by decide) with h | ⟨v, hv, h⟩
          · exact absurd h hm1
          · exact ⟨v, by omega, h⟩
        obtain ⟨y1, u1, a1, a2, a3, a4, a5⟩ := wrD (v := v) hT (by omega) (by omega)
        obtain ⟨y', u', b1, b2, b3, b4, b5⟩ := ih (i + 1) f y1 u1 (by omega) (by omega) a3 (hy.trans a4) (hu.trans a5)
        refine ⟨y', u', ?_, ?_, b3, b4, b5⟩
        · simp only [L_X7_writeTo_2, hca, Option.bind_some, nI_ge hiq (show q < 2 ^ 31 by omega), hoa, hm1, ↓reduceIte]
          rw [ev, a1, ← nI_succ]
          exact b1
        · simp only [L_X10_dawnLine_30, e7, inb_nI (show 61 + 7 * e < 1152 by omega) (show 1152 < 2 ^ 31 by decide), nI_clamp (show 61 + 7 * e < 2 ^ 31 by omega), hz, nI_ge hiq (show q < 2 ^ 31 by omega), e8, inb_nI (show 62 + 7 * e + i < 1152 by omega) (show 1152 < 2 ^ 31 by decide), nI_clamp (show 62 + 7 * e + i < 2 ^ 31 by omega), hz2, add1_sub1, pos_m1 hro, hm1, not_false_eq_true, ↓reduceIte]
          rw [ev, a2, ← nI_succ]
          exact b2
  obtain ⟨y', u', b1, b2, b3, b4, b5⟩ := loop q 0 200 xa _ (by omega) (by omega) ta fa ga
  have b1' : D_X7_writeTo xa 0 (nI e) = some y' := b1
  have b2' : L_X10_dawnLine_30 200 m (nI e) 0 (va_up (va_up m 0 (upd (m 0) 0 0)) 0 (upd (va_up m 0 (upd (m 0) 0 0) 0) 17 0)) = some (u' 0 17, u') := b2
  rw [ea]
  simp only [Option.bind_some]
  rw [b1', b2']
  refine ⟨0, _, y', _, u', Or.inl rfl, rfl, rfl, ?_, fun _ => b3.2.1.trans b3.2.2.1.symm, hI.text b4 b5 b3 (by omega)⟩
  show u' 0 0 = 0
  rw [b5.2 0 (by omega), va_up_self, upd_self]
theorem g_character : Good_character Inv := by
  intro k x m hk hI p1
  unfold OK_character D_X9_character D_X10_character D_J4_length_8abf5 D_J5_length_8abf5
  obtain ⟨l, hl, h1, h2, h3, h4⟩ := hI.2.2.2.2.2.2
  rw [h2, h3, in_cnt (by omega)]
  rcases wi_cases p1 (n := l) (by omega) with ⟨e1, -⟩ | ⟨e1, i, hi, rfl⟩
  · rw [e1, if_pos rfl, if_pos rfl, it0]
    exact ⟨1, 0, 0, _, Or.inr rfl, rfl, rfl, th _ _, fun z => absurd z one_ne, rd hI 1⟩
  rw [e1, if_neg one_ne, if_neg one_ne, it1]
  obtain ⟨hb, hv⟩ := h4 i hi
  obtain ⟨v, hv2, ev⟩ := rng_nI (b := 127) hv (by decide)
  have hf := fin_ch ⟨v, by omega⟩
  simp only at hf
  have hcap : (if ((16 : Int32) >>> ((0 : Int32) &&& 31)) < nI l then ((16 : Int32) >>> ((0 : Int32) &&& 31)) else nI l) = nI l := by
    have e16 : ((16 : Int32) >>> ((0 : Int32) &&& 31)) = nI 16 := by decide
    rw [e16, if_neg (by rw [lt_toInt, nI_toInt (by omega), nI_toInt (by omega)]; omega)]
  have hci : D_J0_checkIndex_df160 (nI i) (nI l) = some () := by
    unfold D_J0_checkIndex_df160 D_J3_checkIndex_8e157N
    have a1 : ¬ nI i < 0 := by rw [lt_toInt, toInt_0, nI_toInt (by omega)]; omega
    have a2 : nI i < nI l := (nI_ltJ (by omega) (by omega)).mpr hi
    simp only [a1, a2, ↓reduceIte, Option.bind_some]
  have hch : D_J4_charAt_5068e x (nI i) = some (nI v) := by
    unfold D_J4_charAt_5068e D_J5_charAt_5068e
    rw [h1, h2, hcap, hci]
    simp only [Option.bind_some, ↓reduceIte, inb_nI (show i < 16 by omega) (show 16 < 2 ^ 31 by decide), nI_clamp (show i < 2 ^ 31 by omega), hb, ev, hf.2.2.2.1, hf.2.2.2.2.1, hf.2.2.2.2.2.1]
  have hm4 : va_up m 0 (upd (m 0) 0 0) 4 = m 4 := vun _ _ _ (by omega)
  rw [hch, if_pos (inb_nI (show i < 24 by omega) (by decide)), nI_clamp (show i < 2 ^ 31 by omega), hm4, ev, if_pos hf.2.2.2.2.2.1]
  simp only [Option.bind_some, hf.2.2.2.2.2.1, ↓reduceIte]
  exact ⟨0, _, _, _, Or.inl rfl, rfl, rfl, th _ _, fun _ => rfl, rd hI 0⟩
