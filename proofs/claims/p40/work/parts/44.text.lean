/-! the text of a builder, as a list of signs -/
def TX (x : Mem) (L : List Nat) : Prop := x 12 31 1 = 0 ∧ x 12 31 3 = nI L.length ∧ L.length ≤ 16 ∧ ∀ j v, L[j]? = some v → x 12 32 j = nI v ∧ v < 128
theorem TX.it {x : Mem} {L : List Nat} (h : TX x L) : IT x := ⟨L.length, h.2.2.1, h.1, h.2.1⟩
theorem tx_snoc {x x' : Mem} {L : List Nat} {v : Nat} (h : TX x L) (hl : L.length < 16) (hv : v < 128) (h1 : x' 12 31 1 = 0) (h3 : x' 12 31 3 = nI (L.length + 1)) (hs : x' 12 32 L.length = nI v) (hk : ∀ j, j < L.length → x' 12 32 j = x 12 32 j) : TX x' (L ++ [v]) := by
  refine ⟨h1, by rw [List.length_append]; exact h3, by rw [List.length_append]; exact hl, fun j u hj => ?_⟩
  by_cases hjl : j < L.length
  · rw [List.getElem?_append_left hjl] at hj
    rw [hk j hjl]
    exact h.2.2.2 j u hj
  · rw [List.getElem?_append_right (by omega)] at hj
    have hj0 : j - L.length = 0 := by
      rcases Nat.eq_zero_or_pos (j - L.length) with e | e
      · exact e
      · rw [List.getElem?_eq_none (by simp only [List.length_cons, List.length_nil]; omega)] at hj
        exact absurd hj (by simp)
    rw [hj0] at hj
    have hju : v = u := by simpa using hj
    rw [show j = L.length by omega, hs, hju]
    exact ⟨rfl, by omega⟩
theorem aC {x : Mem} {L : List Nat} {v : Nat} (h : TX x L) (hl : L.length < 16) (hv : v < 128) :
    ∃ x' : Mem, D_J4_append_cf468 x (nI v) = some x' ∧ TX x' (L ++ [v]) ∧ FX x x' := by
  obtain ⟨h1, h2, h3, h4⟩ := id h
  refine ⟨va_up x 12 (va_up (va_up (x 12) 31 (upd (x 12 31) 3 (nI (L.length + 1)))) 32 (upd (x 12 32) L.length (nI v))), ?_, ?_, ?_⟩
  · unfold D_J4_append_cf468 D_J5_append_3fe6f D_J5_ensureCapacityInternal_d00df D_J5_isLatin1_aae02
    rw [h2, h1, if_pos (fin_cap ⟨L.length, hl⟩).1]
    simp only [Option.bind_some, h1, ↓reduceIte, if_neg one_ne, if_neg (fin_ch ⟨v, hv⟩).2.1, h2, (fin_cap ⟨L.length, hl⟩).2.1, nI_clamp (show L.length < 2 ^ 31 by omega), (fin_ch ⟨v, hv⟩).1, ← nI_succ]
  · refine tx_snoc h hl hv ?_ ?_ ?_ (fun j hj => ?_)
    · rw [xs_self, vun _ _ _ (by omega), va_up_self, upd_ne _ _ (by omega)]; exact h1
    · rw [xs_self, vun _ _ _ (by omega), va_up_self, upd_self]
    · rw [xs_self, va_up_self, upd_self]
    · rw [xs_self, va_up_self, upd_ne _ _ (by omega)]
  · exact ⟨fun q a => xs_ne a, fun r a b => by rw [xs_self, vun _ _ _ b, vun _ _ _ a]⟩
theorem aD {x : Mem} {L : List Nat} {v : Nat} (h : TX x L) (hl : L.length < 16) (hv : v < 10) :
    ∃ x' : Mem, D_J4_append_bf812 x (nI v) = some x' ∧ TX x' (L ++ [48 + v]) ∧ FX x x' := by
  obtain ⟨h1, h2, h3, h4⟩ := id h
  obtain ⟨f1, f2, f3, f4, f5, f6, f7⟩ := fin_dg ⟨v, hv⟩
  simp only at f1 f2 f3 f4 f5 f6 f7
  refine ⟨va_up (va_up x 12 (va_up (x 12) 32 (upd (x 12 32) L.length (nI (48 + v))))) 12 (va_up (va_up (x 12) 32 (upd (x 12 32) L.length (nI (48 + v)))) 31 (upd (x 12 31) 3 (nI (L.length + 1)))), ?_, ?_, ?_⟩
  · unfold D_J4_append_bf812 D_J5_append_c97b9 D_J5_ensureCapacityInternal_d00df D_J5_isLatin1_aae02
    rw [f1]
    simp only [Option.bind_some, h1, h2]
    rw [if_pos (fin_cap ⟨L.length, hl⟩).1]
    simp only [Option.bind_some, h1, ↓reduceIte, if_neg one_ne]
    have hg : D_J6_getChars_ba4f3 x (nI v) (nI L.length + 1) = some (nI L.length, va_up x 12 (va_up (x 12) 32 (upd (x 12 32) L.length (nI (48 + v))))) := by
      unfold D_J6_getChars_ba4f3
      rw [if_pos f2]
      show L_J6_getChars_ba4f3_22 (199 + 1) x (nI v) (nI L.length + 1) (-nI v) (nI L.length + 1) x = _
      simp only [L_J6_getChars_ba4f3_22, if_pos f3, f4, (fin_cap ⟨L.length, hl⟩).2.2.2, (fin_cap ⟨L.length, hl⟩).2.1, if_pos f5, f6, nI_clamp (show L.length < 2 ^ 31 by omega), (fin_ch ⟨48 + v, by omega⟩).2.2.2.2.2.2, ↓reduceIte]
    rw [hg]
    simp only [Option.bind_some, xs_self, ← nI_succ]
    rw [vun _ _ _ (by omega)]
  · refine tx_snoc h hl (by omega) ?_ ?_ ?_ (fun j hj => ?_)
    · rw [xs_self, va_up_self, upd_ne _ _ (by omega)]; exact h1
    · rw [xs_self, va_up_self, upd_self]
    · rw [xs_self, vun _ _ _ (by omega), va_up_self, upd_self]
    · rw [xs_self, vun _ _ _ (by omega), va_up_self, upd_ne _ _ (by omega)]
  · exact ⟨fun q a => by rw [xs_ne a, xs_ne a], fun r a b => by rw [xs_self, vun _ _ _ a, vun _ _ _ b]⟩
theorem set0 {x : Mem} (h : IT x) : ∃ x' : Mem, D_J4_setLength_d00df x 0 = some x' ∧ TX x' [] ∧ FX x x' := by
  obtain ⟨l, h0, h1, h2⟩ := h
  have hc : (0 : Int32) - ((16 : Int32) >>> ((0 : Int32) &&& 31)) ≤ 0 := by decide
  have hle : (0 : Int32) ≤ nI l := by rw [le_toInt, toInt_0, nI_toInt (by omega)]; omega
  unfold D_J4_setLength_d00df D_J5_setLength_d00df D_J5_ensureCapacityInternal_d00df
  rw [h1, if_pos (by decide), if_pos hc]
  simp only [Option.bind_some, h2, if_pos hle]
  by_cases hl : nI l ≤ 0
  · rw [if_pos hl]
    refine ⟨_, rfl, ⟨?_, ?_, Nat.zero_le _, fun j v hj => absurd hj (by simp)⟩, fun q a => xs_ne a, fun r a b => by rw [xs_self, vun _ _ _ a]⟩
    · rw [xs_self, va_up_self, upd_ne _ _ (by omega)]; exact h1
    · rw [xs_self, va_up_self, upd_self]; rfl
  · rw [if_neg hl]
    refine ⟨_, rfl, ⟨?_, ?_, Nat.zero_le _, fun j v hj => absurd hj (by simp)⟩, fun q a => xs_ne a, fun r a b => by rw [xs_self, vun _ _ _ a]⟩
    · rw [xs_self, va_up_self, upd_ne _ _ (by omega), upd_ne _ _ (by omega)]; exact h1
    · rw [xs_self, va_up_self, upd_self]; rfl
/-- a sign that was written is read -/
theorem f_char {x : Mem} {L : List Nat} (h : TX x L) {j v : Nat} (hj : L[j]? = some v) : D_X9_character x (nI j) = some (0, nI v) := by
  obtain ⟨h1, h2, h3, h4⟩ := h
  have hjl : j < L.length := (List.getElem?_eq_some_iff.mp hj).1
  obtain ⟨hb, hv⟩ := h4 j v hj
  have hf := fin_ch ⟨v, hv⟩
  simp only at hf
  unfold D_X9_character D_J4_length_8abf5 D_J5_length_8abf5
  rw [h2]
  have e1 : D_X9_isWithin (nI j) (nI L.length) = 1 := by rw [wi_iff, nI_toInt (by omega), nI_toInt (by omega), if_pos (by omega)]
  have hcap : (if ((16 : Int32) >>> ((0 : Int32) &&& 31)) < nI L.length then ((16 : Int32) >>> ((0 : Int32) &&& 31)) else nI L.length) = nI L.length := by
    have e16 : ((16 : Int32) >>> ((0 : Int32) &&& 31)) = nI 16 := by decide
    rw [e16, if_neg (by rw [lt_toInt, nI_toInt (by omega), nI_toInt (by omega)]; omega)]
  have hci : D_J0_checkIndex_df160 (nI j) (nI L.length) = some () := by
    unfold D_J0_checkIndex_df160 D_J3_checkIndex_8e157N
    have a1 : ¬ nI j < 0 := by rw [lt_toInt, toInt_0, nI_toInt (by omega)]; omega
    have a2 : nI j < nI L.length := nI_lt hjl (by omega)
    simp only [a1, a2, ↓reduceIte, Option.bind_some]
  have hch : D_J4_charAt_5068e x (nI j) = some (nI v) := by
    unfold D_J4_charAt_5068e D_J5_charAt_5068e
    rw [h1, h2, hcap, hci]
    simp only [Option.bind_some, ↓reduceIte, inb_nI (show j < 16 by omega) (show 16 < 2 ^ 31 by decide), nI_clamp (show j < 2 ^ 31 by omega), hb, hf.2.2.2.1, hf.2.2.2.2.1, hf.2.2.2.2.2.1]
  rw [e1, if_neg one_ne, hch]
  simp only [Option.bind_some, hf.2.2.2.2.2.1, ↓reduceIte]
/-! lines about clouds -/
def tN (v : Int32) : Nat := v.toNatClampNeg
def lnT (c : Nat → Int32) : List Nat := if c 3 = -1 then [] else [61, 48 + tN (c 3)]
def lnO (c : Nat → Int32) : List Nat := if D_X1_hasTitleForOtherShape c = 0 then [] else [63]
def lnP (c : Nat → Int32) : List Nat := if c 5 = -1 then [] else [42, 48 + tN (c 5)]
def lineL (c : Nat → Int32) (a : Nat) : List Nat := [48 + a, 64, 48 + tN (c 0), 58, 48 + tN (c 1), 47, 48 + tN (c 2)] ++ lnT c ++ lnO c ++ lnP c
theorem lineL_len (c : Nat → Int32) (a : Nat) : (lineL c a).length ≤ 12 := by
  unfold lineL lnT lnO lnP
  split <;> split <;> split <;> simp
theorem tN_nI {k : Nat} (h : k < 2 ^ 31) : tN (nI k) = k := nI_clamp h
theorem two {x : Mem} {L : List Nat} {u v : Nat} (h : TX x L) (hl : L.length + 1 < 16) (hu : u < 128) (hv : v < 10) :
    ∃ x1 x' : Mem, D_J4_append_cf468 x (nI u) = some x1 ∧ D_J4_append_bf812 x1 (nI v) = some x' ∧ TX x' (L ++ [u, 48 + v]) ∧ FX x x1 ∧ FX x x' := by
  obtain ⟨x1, a1, a2, a3⟩ := aC h (by omega) hu
  obtain ⟨x2, b1, b2, b3⟩ := aD a2 (by rw [List.length_append]; simpa using hl) hv
  refine ⟨x1, x2, a1, b1, ?_, a3, a3.trans b3⟩
  rw [List.append_assoc] at b2
  exact b2
theorem f_line {k n d : Nat} {x : Mem} (h : IV k x n d) {a : Nat} (ha : a < n) :
    ∃ x' : Mem, D_X9_line x (nI a) = some (0, nI (lineL (x 0 (a + 7)) a).length, x') ∧ TX x' (lineL (x 0 (a + 7)) a) ∧ FX x x' := by
  have h6 := h.1.1
  have hB := (h.1.2.2.1 a ha).1
  obtain ⟨v0, hv0, ev0⟩ := hB.v
  obtain ⟨v1, hv1, ev1⟩ := hB.s
  obtain ⟨v2, -, hv2, ev2⟩ := hB.size
  obtain ⟨xa, ea, ta, fa⟩ := set0 h.2.2
  obtain ⟨xb, eb, tb, fb⟩ := aD ta (by simp) (show a < 10 by omega)
  have Fb := fa.trans fb
  obtain ⟨xc1, xc, c1, c2, tc, fc1, fc⟩ := two (u := 64) tb (by simp) (by omega) (show v0 < 10 by omega)
  have Fc := Fb.trans fc
  obtain ⟨xd1, xd, d1, d2, td, fd1, fd⟩ := two (u := 58) tc (by simp) (by omega) (show v1 < 10 by omega)
  have Fd := Fc.trans fd
  obtain ⟨xe1, xe, e1, e2, te, fe1, fe⟩ := two (u := 47) td (by simp) (by omega) (show v2 < 10 by omega)
  have Fe := Fd.trans fe
  have off : ∀ x', FX x x' → x' 0 = x 0 := fun x' h => h.1 0 (by omega)
  have te' : TX xe [48 + a, 64, 48 + tN (x 0 (a + 7) 0), 58, 48 + tN (x 0 (a + 7) 1), 47, 48 + tN (x 0 (a + 7) 2)] := by
    rw [ev0, ev1, ev2, tN_nI (by omega), tN_nI (by omega), tN_nI (by omega)]
    simpa using te
  unfold D_X9_line
  rw [hc1 h.1.2.1 h6 ha, if_neg one_ne, ea]
  simp only [Option.bind_some]
  rw [eb]
  simp only [Option.bind_some]
  rw [if_pos (inb_nI (show a < 6 by omega) (by decide)), nI_clamp (show a < 2 ^ 31 by omega)]
  unfold D_X1_writeTo
  rw [show (64 : Int32) = nI 64 from rfl, show (58 : Int32) = nI 58 from rfl, show (47 : Int32) = nI 47 from rfl, c1]
  simp only [Option.bind_some]
  rw [off xc1 (Fb.trans fc1), ev0, c2]
  simp only [Option.bind_some]
  rw [d1]
  simp only [Option.bind_some]
  rw [off xd1 (Fc.trans fd1), ev1, d2]
  simp only [Option.bind_some]
  rw [e1]
  simp only [Option.bind_some]
  rw [off xe1 (Fd.trans fe1), ev2, e2]
  simp only [Option.bind_some]
  rw [off xe Fe]
  simp only [hT, hPl]
  have fin : ∀ (L : List Nat) (x' : Mem), TX x' L → FX x x' → L = lineL (x 0 (a + 7)) a → ∃ x9 : Mem, some ((0 : Int32), D_J4_length_8abf5 x', x') = some (0, nI (lineL (x 0 (a + 7)) a).length, x9) ∧ TX x9 (lineL (x 0 (a + 7)) a) ∧ FX x x9 := by
    intro L x' ht hf hL
    subst hL
    refine ⟨x', ?_, ht, hf⟩
    rw [show D_J4_length_8abf5 x' = x' 12 31 3 from rfl, ht.2.1]
  -- the pledge
  have pledge : ∀ (L : List Nat) (x' : Mem), TX x' L → L.length ≤ 10 → FX x x' → L ++ lnP (x 0 (a + 7)) = lineL (x 0 (a + 7)) a →
      ∃ x9 : Mem, ((if x 0 (a + 7) 5 = -1 then some x' else ((D_J4_append_cf468 x' 42).bind (fun o42 => (D_J4_append_bf812 o42 ((o42 0) (a + 7) 5)).bind (fun o35 => some o35)))).bind (fun o14 => some ((0 : Int32), D_J4_length_8abf5 o14, o14))) = some (0, nI (lineL (x 0 (a + 7)) a).length, x9) ∧ TX x9 (lineL (x 0 (a + 7)) a) ∧ FX x x9 := by
    intro L x' ht hl hf hL
    by_cases h5 : x 0 (a + 7) 5 = -1
    · rw [if_pos h5]
      exact fin L x' ht hf (by rw [← hL]; unfold lnP; rw [if_pos h5, List.append_nil])
    · rw [if_neg h5]
      obtain ⟨q, hq, eq⟩ := hB.len h5
      obtain ⟨x1, x2, a1, a2, a3, a4, a5⟩ := two (u := 42) (v := q) ht (by omega) (by omega) (by omega)
      rw [show (42 : Int32) = nI 42 from rfl, a1]
      simp only [Option.bind_some]
      rw [off x1 (hf.trans a4), eq, a2]
      refine fin _ x2 a3 (hf.trans a5) ?_
      rw [← hL]
      unfold lnP
      rw [if_neg h5, eq, tN_nI (by omega)]
  by_cases h3 : x 0 (a + 7) 3 = -1
  · have ho : D_X1_hasTitleForOtherShape (x 0 (a + 7)) = 0 := by
      unfold D_X1_hasTitleForOtherShape
      rw [if_pos ((hT _).mpr h3)]
    rw [if_pos h3, if_pos ho]
    refine pledge _ xe te' (by simp) Fe ?_
    unfold lineL lnT lnO
    rw [if_pos h3, if_pos ho, List.append_nil, List.append_nil]
  · rw [if_neg h3]
    obtain ⟨q, hq, eq⟩ := hB.own h3
    obtain ⟨x1, x2, a1, a2, a3, a4, a5⟩ := two (u := 61) (v := q) te' (by simp) (by omega) (by omega)
    have F2 := Fe.trans a5
    rw [show (61 : Int32) = nI 61 from rfl, a1]
    simp only [Option.bind_some]
    rw [off x1 (Fe.trans a4), eq, a2]
    simp only [Option.bind_some]
    rw [off x2 F2]
    by_cases ho : D_X1_hasTitleForOtherShape (x 0 (a + 7)) = 0
    · rw [if_pos ho]
      refine pledge _ x2 a3 (by simp) F2 ?_
      unfold lineL lnT lnO
      rw [if_neg h3, if_pos ho, eq, tN_nI (by omega), List.append_nil]
    · rw [if_neg ho]
      obtain ⟨x3, b1, b2, b3⟩ := aC (v := 63) a3 (by simp) (by omega)
      rw [show (63 : Int32) = nI 63 from rfl, b1]
      simp only [Option.bind_some]
      rw [off x3 (F2.trans b3)]
      refine pledge _ x3 b2 (by simp) (F2.trans b3) ?_
      unfold lineL lnT lnO
      rw [if_neg h3, if_neg ho, eq, tN_nI (by omega)]
/-! lines about dawns -/
def dwS (w : Int32) : Nat := if w = -1 then 45 else 48 + tN w
def dwL (o : Nat → Nat → Int32) (e q : Nat) : List Nat := (List.range q).map (fun i => dwS (o 5 (6 * e + i)))
theorem dwL_s (o : Nat → Nat → Int32) (e q : Nat) : dwL o e (q + 1) = dwL o e q ++ [dwS (o 5 (6 * e + q))] := by
  unfold dwL
  rw [List.range_succ, List.map_append]
  rfl
theorem dwL_len (o : Nat → Nat → Int32) (e q : Nat) : (dwL o e q).length = q := by unfold dwL; simp
theorem dwL_at (o : Nat → Nat → Int32) (e q : Nat) {i : Nat} (hi : i < q) : (dwL o e q)[i]? = some (dwS (o 5 (6 * e + i))) := by
  unfold dwL
  rw [List.getElem?_map, List.getElem?_range hi]
  rfl
/-- how many clouds there were at dawn e -/
def dwQ (o : Nat → Nat → Int32) (e : Nat) : Nat := tN (o 6 e)
section DW
variable {k n d : Nat} {x : Mem}
theorem dw_q (h : IV k x n d) {e : Nat} (he : e < d) : dwQ (x 0) e ≤ 6 ∧ x 0 6 e = nI (dwQ (x 0) e) ∧ ∀ i, i < dwQ (x 0) e → rng (x 0 5 (6 * e + i)) (-1) 3 := by
  obtain ⟨q, q1, q2, q3⟩ := h.1.2.2.2.2.2.2.2.2.2 e he
  have eq : dwQ (x 0) e = q := by unfold dwQ; rw [q2, tN_nI (by omega)]
  rw [eq]
  exact ⟨q1, q2, q3⟩
theorem hd1 (h : IV k x n d) {e : Nat} (he : e < d) : D_X7_hasDawn (x 0) (nI e) = 1 := by
  have hd := h.1.2.2.2.2.2.2.1
  unfold D_X7_hasDawn
  rw [h.1.2.2.2.2.2.2.2.1, wi_iff, nI_toInt (by omega), nI_toInt (by omega), if_pos (by omega)]
theorem hd0 (h : IV k x n d) {e : Nat} (he : d ≤ e) (he2 : e < 2 ^ 31) : D_X7_hasDawn (x 0) (nI e) = 0 := by
  have hd := h.1.2.2.2.2.2.2.1
  unfold D_X7_hasDawn
  rw [h.1.2.2.2.2.2.2.2.1, wi_iff, nI_toInt (by omega), nI_toInt (by omega), if_neg (by omega)]
theorem ca_eq (h : IV k x n d) {e : Nat} (he : e < d) : D_X7_cloudsAt (x 0) (nI e) = some (nI (dwQ (x 0) e)) := by
  have hd := h.1.2.2.2.2.2.2.1
  unfold D_X7_cloudsAt
  rw [hd1 h he, if_neg one_ne, if_pos (inb_nI (show e < 5 by omega) (by decide)), nI_clamp (show e < 2 ^ 31 by omega), (dw_q h he).2.1]
theorem oa_eq (h : IV k x n d) {e i : Nat} (he : e < d) (hi : i < dwQ (x 0) e) : D_X7_ownerAt (x 0) (nI e) (nI i) = some (x 0 5 (6 * e + i)) := by
  have hd := h.1.2.2.2.2.2.2.1
  have hq := (dw_q h he).1
  have e9 : nI e * 6 + nI i = nI (6 * e + i) := by rw [show (6 : Int32) = nI 6 from rfl, pk_mul, nI_add]; congr 1; omega
  unfold D_X7_ownerAt
  rw [ca_eq h he]
  simp only [Option.bind_some]
  rw [show D_X9_isWithin (nI i) (nI (dwQ (x 0) e)) = 1 by rw [wi_iff, nI_toInt (by omega), nI_toInt (by omega), if_pos (by omega)], if_neg one_ne, e9, if_pos (inb_nI (show 6 * e + i < 30 by omega) (by decide)), nI_clamp (show 6 * e + i < 2 ^ 31 by omega)]
theorem f_recorded (h : IV k x n d) {e i : Nat} (he : e < d) (hi : i < dwQ (x 0) e) : D_X9_recorded x (nI e) (nI i) = some (0, x 0 5 (6 * e + i)) := by
  have hq := (dw_q h he).1
  unfold D_X9_recorded
  rw [hd1 h he, if_neg one_ne, ca_eq h he]
  simp only [Option.bind_some]
  rw [show D_X9_isWithin (nI i) (nI (dwQ (x 0) e)) = 1 by rw [wi_iff, nI_toInt (by omega), nI_toInt (by omega), if_pos (by omega)], if_neg one_ne, oa_eq h he hi]
  rfl
theorem f_recordedQ (h : IV k x n d) {e : Nat} (he : e < d) : D_X9_recorded x (nI e) (nI (dwQ (x 0) e)) = some (1, 0) := by
  have hq := (dw_q h he).1
  unfold D_X9_recorded
  rw [hd1 h he, if_neg one_ne, ca_eq h he]
  simp only [Option.bind_some]
  rw [show D_X9_isWithin (nI (dwQ (x 0) e)) (nI (dwQ (x 0) e)) = 0 by rw [wi_iff, nI_toInt (by omega), if_neg (by omega)], if_pos rfl]
theorem f_recorded0 (h : IV k x n d) {e : Nat} (he : d ≤ e) (he2 : e < 2 ^ 31) (p : Int32) : D_X9_recorded x (nI e) p = some (1, 0) := by
  unfold D_X9_recorded
  rw [hd0 h he he2, if_pos rfl]
theorem f_dawnLine0 (h : IV k x n d) {e : Nat} (he : d ≤ e) (he2 : e < 2 ^ 31) : D_X9_dawnLine x (nI e) = some (1, 0, x) := by
  unfold D_X9_dawnLine
  rw [hd0 h he he2, if_pos rfl]
theorem f_dawnLine (h : IV k x n d) {e : Nat} (he : e < d) :
    ∃ x' : Mem, D_X9_dawnLine x (nI e) = some (0, nI (dwQ (x 0) e), x') ∧ TX x' (dwL (x 0) e (dwQ (x 0) e)) ∧ FX x x' := by
  have hd := h.1.2.2.2.2.2.2.1
  obtain ⟨hq6, hq1, hq3⟩ := dw_q h he
  obtain ⟨xa, ea, ta, fa⟩ := set0 h.2.2
  have loop : ∀ (t i f : Nat) (y : Mem), i + t = dwQ (x 0) e → t < f → TX y (dwL (x 0) e i) → FX x y →
      ∃ y' : Mem, L_X7_writeTo_2 f xa 0 (nI e) (nI i) y = some y' ∧ TX y' (dwL (x 0) e (dwQ (x 0) e)) ∧ FX x y' := by
    intro t
    induction t with
    | zero =>
      intro i f y hi hf hT hy
      obtain ⟨f, rfl⟩ : ∃ z, f = z + 1 := ⟨f - 1, by omega⟩
      have hiq : i = dwQ (x 0) e := by omega
      have hca : D_X7_cloudsAt (y 0) (nI e) = some (nI (dwQ (x 0) e)) := by rw [hy.1 0 (by omega)]; exact ca_eq h he
      rw [hiq] at hT ⊢
      refine ⟨y, ?_, hT, hy⟩
      simp only [L_X7_writeTo_2, hca, Option.bind_some, nI_le (Nat.le_refl (dwQ (x 0) e)) (show dwQ (x 0) e < 2 ^ 31 by omega), ↓reduceIte]
    | succ t ih =>
      intro i f y hi hf hT hy
      obtain ⟨f, rfl⟩ : ∃ z, f = z + 1 := ⟨f - 1, by omega⟩
      have hiq : i < dwQ (x 0) e := by omega
      have hca : D_X7_cloudsAt (y 0) (nI e) = some (nI (dwQ (x 0) e)) := by rw [hy.1 0 (by omega)]; exact ca_eq h he
      have hoa : D_X7_ownerAt (y 0) (nI e) (nI i) = some (x 0 5 (6 * e + i)) := by rw [hy.1 0 (by omega)]; exact oa_eq h he hiq
      by_cases hm1 : x 0 5 (6 * e + i) = -1
      · obtain ⟨y1, a1, a3, a4⟩ := aC (v := 45) hT (by rw [dwL_len]; omega) (by omega)
        have a3' : TX y1 (dwL (x 0) e (i + 1)) := by rw [dwL_s]; unfold dwS; rw [if_pos hm1]; exact a3
        obtain ⟨y', b1, b3, b4⟩ := ih (i + 1) f y1 (by omega) (by omega) a3' (hy.trans a4)
        refine ⟨y', ?_, b3, b4⟩
        simp only [L_X7_writeTo_2, hca, Option.bind_some, nI_ge hiq (show dwQ (x 0) e < 2 ^ 31 by omega), hoa, hm1, ↓reduceIte]
        rw [show (45 : Int32) = nI 45 from rfl, a1, ← nI_succ]
        exact b1
      · obtain ⟨v, hv, ev⟩ : ∃ v, v < 4 ∧ x 0 5 (6 * e + i) = nI v := by
          rcases rng_m (b := 3) (hq3 i hiq) (by decide) with h | ⟨v, hv, h⟩
          · exact absurd h hm1
          · exact ⟨v, by omega, h⟩
        obtain ⟨y1, a1, a3, a4⟩ := aD (v := v) hT (by rw [dwL_len]; omega) (by omega)
        have a3' : TX y1 (dwL (x 0) e (i + 1)) := by rw [dwL_s]; unfold dwS; rw [if_neg hm1, ev, tN_nI (by omega)]; exact a3
        obtain ⟨y', b1, b3, b4⟩ := ih (i + 1) f y1 (by omega) (by omega) a3' (hy.trans a4)
        refine ⟨y', ?_, b3, b4⟩
        simp only [L_X7_writeTo_2, hca, Option.bind_some, nI_ge hiq (show dwQ (x 0) e < 2 ^ 31 by omega), hoa, hm1, ↓reduceIte]
        rw [ev, a1, ← nI_succ]
        exact b1
  obtain ⟨y', b1, b3, b4⟩ := loop (dwQ (x 0) e) 0 200 xa (by omega) (by omega) ta fa
  have b1' : D_X7_writeTo xa 0 (nI e) = some y' := b1
  refine ⟨y', ?_, b3, b4⟩
  unfold D_X9_dawnLine
  rw [hd1 h he, if_neg one_ne, ea]
  simp only [Option.bind_some]
  rw [b1']
  simp only [Option.bind_some]
  rw [show D_J4_length_8abf5 y' = y' 12 31 3 from rfl, b3.2.1, dwL_len]
end DW
theorem IV.fx {k n d : Nat} {x x' : Mem} {L : List Nat} (h : IV k x n d) (hx : FX x x') (ht : TX x' L) : IV k x' n d :=
  h.text (hx.1 0 (by omega)) (hx.2 1 (by omega) (by omega)) ht.it
