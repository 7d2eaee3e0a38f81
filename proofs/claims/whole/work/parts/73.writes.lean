/-! signs behind signs, both ways -/
theorem fin_ch : ∀ v : Fin 128, vp_nar .byte ((nI v.val).toInt8.toInt32) = nI v.val ∧ ¬ D_J1_canEncode_fc78d (nI v.val) = 0 ∧ vp_nar .char (((nI v.val).toUInt32 % 65536).toInt32) = nI v.val ∧ isCh ((((nI v.val) &&& 255).toUInt32 % 65536).toInt32) = true ∧ ((((nI v.val) &&& 255).toUInt32 % 65536).toInt32) = nI v.val ∧ isCh (nI v.val) = true ∧ vp_nar .byte (nI v.val) = nI v.val := by decide +kernel
theorem fin_dg : ∀ v : Fin 10, D_J6_stringSize_0f7a4 (nI v.val) = some 1 ∧ (0 : Int32) ≤ nI v.val ∧ (-100 : Int32) < -nI v.val ∧ inb (-(-nI v.val)) 100 = true ∧ (-9 : Int32) ≤ -nI v.val ∧ (-(-nI v.val)).toNatClampNeg % 10 = v.val ∧ (48 : Int32) + nI v.val = nI (48 + v.val) := by decide +kernel
theorem fin_cap : ∀ l : Fin 16, nI l.val + 1 - ((16 : Int32) >>> ((0 : Int32) &&& 31)) ≤ 0 ∧ inb (nI l.val) 16 = true ∧ inb (nI l.val) 24 = true ∧ nI l.val + 1 + -1 = nI l.val := by decide +kernel
def TT (l : Nat) (x : Mem) (m : Nat → Nat → Int32) : Prop := x 12 31 1 = 0 ∧ x 12 31 3 = nI l ∧ m 0 17 = nI l ∧ ∀ j, j < l → x 12 32 j = m 4 j ∧ rng (m 4 j) 0 127
def FX (x x' : Mem) : Prop := (∀ q, q ≠ 12 → x' q = x q) ∧ ∀ r, r ≠ 31 → r ≠ 32 → x' 12 r = x 12 r
def FM (m m' : Nat → Nat → Int32) : Prop := (∀ r, r ≠ 0 → r ≠ 4 → m' r = m r) ∧ ∀ j, j ≠ 17 → m' 0 j = m 0 j
theorem FX.trans {x y z : Mem} (h : FX x y) (g : FX y z) : FX x z := ⟨fun q a => (g.1 q a).trans (h.1 q a), fun r a b => (g.2 r a b).trans (h.2 r a b)⟩
theorem FM.trans {x y z : Nat → Nat → Int32} (h : FM x y) (g : FM y z) : FM x z := ⟨fun q a b => (g.1 q a b).trans (h.1 q a b), fun r a => (g.2 r a).trans (h.2 r a)⟩
theorem FX.refl (x : Mem) : FX x x := ⟨fun _ _ => rfl, fun _ _ _ => rfl⟩
theorem FM.refl (m : Nat → Nat → Int32) : FM m m := ⟨fun _ _ _ => rfl, fun _ _ => rfl⟩
theorem rng_v {v : Nat} (h : v < 128) : rng (nI v) 0 127 := by
  have := nI_toInt (n := v) (by omega)
  exact ⟨by omega, by omega⟩
theorem mwr {m : Nat → Nat → Int32} {l v : Nat} (h : m 0 17 = nI l) (hl : l < 16) (hv : v < 128) : D_X10_writes m (nI v) = some (va_up (va_up m 4 (upd (m 4) l (nI v))) 0 (upd (m 0) 17 (nI (l + 1)))) := by
  unfold D_X10_writes
  rw [h, if_pos (fin_cap ⟨l, hl⟩).2.2.1, nI_clamp (by omega), (fin_ch ⟨v, hv⟩).2.2.1, nI_succ]
theorem mwrF (m : Nat → Nat → Int32) (l v : Nat) : FM m (va_up (va_up m 4 (upd (m 4) l (nI v))) 0 (upd (m 0) 17 (nI (l + 1)))) := ⟨fun r a b => by rw [vun _ _ _ a, vun _ _ _ b], fun j a => by rw [va_up_self, upd_ne _ _ a]⟩
theorem wrC {l v : Nat} {x : Mem} {m : Nat → Nat → Int32} (h : TT l x m) (hl : l < 16) (hv : v < 128) :
    ∃ (x' : Mem) (m' : Nat → Nat → Int32), D_J4_append_cf468 x (nI v) = some x' ∧ D_X10_writes m (nI v) = some m' ∧ TT (l + 1) x' m' ∧ FX x x' ∧ FM m m' := by
  obtain ⟨h1, h2, h3, h4⟩ := h
  refine ⟨va_up x 12 (va_up (va_up (x 12) 31 (upd (x 12 31) 3 (nI (l + 1)))) 32 (upd (x 12 32) l (nI v))), _, ?_, mwr h3 hl hv, ?_, ?_, mwrF m l v⟩
  · unfold D_J4_append_cf468 D_J5_append_3fe6f D_J5_ensureCapacityInternal_d00df D_J5_isLatin1_aae02
    rw [h2, h1, if_pos (fin_cap ⟨l, hl⟩).1]
    simp only [Option.bind_some, h1, ↓reduceIte, if_neg one_ne, if_neg (fin_ch ⟨v, hv⟩).2.1, h2, (fin_cap ⟨l, hl⟩).2.1, nI_clamp (show l < 2 ^ 31 by omega), (fin_ch ⟨v, hv⟩).1, ← nI_succ]
  · refine ⟨?_, ?_, ?_, fun j hj => ?_⟩
    · rw [xs_self, vun _ _ _ (by omega), va_up_self, upd_ne _ _ (by omega)]; exact h1
    · rw [xs_self, vun _ _ _ (by omega), va_up_self, upd_self]
    · rw [va_up_self, upd_self]
    · rw [xs_self, va_up_self, vun _ _ _ (by omega), va_up_self]
      by_cases hjl : j = l
      · subst hjl; rw [upd_self, upd_self]; exact ⟨rfl, rng_v hv⟩
      · rw [upd_ne _ _ hjl, upd_ne _ _ hjl]; exact h4 j (by omega)
  · exact ⟨fun q a => xs_ne a, fun r a b => by rw [xs_self, vun _ _ _ b, vun _ _ _ a]⟩
theorem wrD {l v : Nat} {x : Mem} {m : Nat → Nat → Int32} (h : TT l x m) (hl : l < 16) (hv : v < 10) :
    ∃ (x' : Mem) (m' : Nat → Nat → Int32), D_J4_append_bf812 x (nI v) = some x' ∧ D_X10_writes m (48 + nI v) = some m' ∧ TT (l + 1) x' m' ∧ FX x x' ∧ FM m m' := by
  obtain ⟨h1, h2, h3, h4⟩ := h
  obtain ⟨f1, f2, f3, f4, f5, f6, f7⟩ := fin_dg ⟨v, hv⟩
  simp only at f1 f2 f3 f4 f5 f6 f7
  refine ⟨va_up (va_up x 12 (va_up (x 12) 32 (upd (x 12 32) l (nI (48 + v))))) 12 (va_up (va_up (x 12) 32 (upd (x 12 32) l (nI (48 + v)))) 31 (upd (x 12 31) 3 (nI (l + 1)))), _, ?_, by rw [f7]; exact mwr h3 hl (show 48 + v < 128 by omega), ?_, ?_, mwrF m l (48 + v)⟩
  · unfold D_J4_append_bf812 D_J5_append_c97b9 D_J5_ensureCapacityInternal_d00df D_J5_isLatin1_aae02
    rw [f1]
    simp only [Option.bind_some, h1, h2]
    rw [if_pos (fin_cap ⟨l, hl⟩).1]
    simp only [Option.bind_some, h1, ↓reduceIte, if_neg one_ne]
    have hg : D_J6_getChars_ba4f3 x (nI v) (nI l + 1) = some (nI l, va_up x 12 (va_up (x 12) 32 (upd (x 12 32) l (nI (48 + v))))) := by
      unfold D_J6_getChars_ba4f3
      rw [if_pos f2]
      show L_J6_getChars_ba4f3_22 (199 + 1) x (nI v) (nI l + 1) (-nI v) (nI l + 1) x = _
      simp only [L_J6_getChars_ba4f3_22, if_pos f3, f4, (fin_cap ⟨l, hl⟩).2.2.2, (fin_cap ⟨l, hl⟩).2.1, if_pos f5, f6, nI_clamp (show l < 2 ^ 31 by omega), (fin_ch ⟨48 + v, by omega⟩).2.2.2.2.2.2, ↓reduceIte]
    rw [hg]
    simp only [Option.bind_some, xs_self, ← nI_succ]
    rw [vun _ _ _ (by omega)]
  · refine ⟨?_, ?_, ?_, fun j hj => ?_⟩
    · rw [xs_self, va_up_self, upd_ne _ _ (by omega)]; exact h1
    · rw [xs_self, va_up_self, upd_self]
    · rw [va_up_self, upd_self]
    · rw [xs_self, vun _ _ _ (by omega), va_up_self, vun _ _ _ (by omega), va_up_self]
      by_cases hjl : j = l
      · subst hjl; rw [upd_self, upd_self]; exact ⟨rfl, rng_v (by omega)⟩
      · rw [upd_ne _ _ hjl, upd_ne _ _ hjl]; exact h4 j (by omega)
  · exact ⟨fun q a => by rw [xs_ne a, xs_ne a], fun r a b => by rw [xs_self, vun _ _ _ a, vun _ _ _ b]⟩
/-- a sign and a digit -/
theorem wrB {l u v : Nat} {x : Mem} {m : Nat → Nat → Int32} (h : TT l x m) (hl : l + 1 < 16) (hu : u < 128) (hv : v < 10) :
    ∃ (x1 x' : Mem) (m' : Nat → Nat → Int32), D_J4_append_cf468 x (nI u) = some x1 ∧ D_J4_append_bf812 x1 (nI v) = some x' ∧ D_X10_both m (nI u) (nI v) = some m' ∧ TT (l + 2) x' m' ∧ FX x x1 ∧ FX x x' ∧ FM m m' := by
  obtain ⟨x1, m1, a1, a2, a3, a4, a5⟩ := wrC h (by omega) hu
  obtain ⟨x2, m2, b1, b2, b3, b4, b5⟩ := wrD a3 (by omega) hv
  refine ⟨x1, x2, m2, a1, b1, ?_, b3, a4, a4.trans b4, a5.trans b5⟩
  unfold D_X10_both
  rw [a2]
  simp only [Option.bind_some, b2]
theorem len0 {k : Nat} {x : Mem} {m : Nat → Nat → Int32} (h : ITxt x m) : ∃ x' : Mem, D_J4_setLength_d00df x 0 = some x' ∧ TT 0 x' (va_up (va_up m 0 (upd (m 0) 0 0)) 0 (upd (va_up m 0 (upd (m 0) 0 0) 0) 17 0)) ∧ FX x x' := by
  obtain ⟨l, h0, h1, h2, h3, h4⟩ := h
  have hc : (0 : Int32) - ((16 : Int32) >>> ((0 : Int32) &&& 31)) ≤ 0 := by decide
  have hle : (0 : Int32) ≤ nI l := by rw [le_toInt, toInt_0, nI_toInt (by omega)]; omega
  unfold D_J4_setLength_d00df D_J5_setLength_d00df D_J5_ensureCapacityInternal_d00df
  rw [h1, if_pos (by decide), if_pos hc]
  simp only [Option.bind_some, h2, if_pos hle]
  by_cases hl : nI l ≤ 0
  · rw [if_pos hl]
    refine ⟨_, rfl, ⟨?_, ?_, ?_, fun j hj => absurd hj (Nat.not_lt_zero j)⟩, fun q a => xs_ne a, fun r a b => by rw [xs_self, vun _ _ _ a]⟩
    · rw [xs_self, va_up_self, upd_ne _ _ (by omega)]; exact h1
    · rw [xs_self, va_up_self, upd_self]; rfl
    · rw [va_up_self, upd_self]; rfl
  · rw [if_neg hl]
    refine ⟨_, rfl, ⟨?_, ?_, ?_, fun j hj => absurd hj (Nat.not_lt_zero j)⟩, fun q a => xs_ne a, fun r a b => by rw [xs_self, vun _ _ _ a]⟩
    · rw [xs_self, va_up_self, upd_ne _ _ (by omega), upd_ne _ _ (by omega)]; exact h1
    · rw [xs_self, va_up_self, upd_self]; rfl
    · rw [va_up_self, upd_self]; rfl
/-- behind a line: the rest stands -/
theorem Inv.text {k l : Nat} {x x' : Mem} {m m' : Nat → Nat → Int32} (h : Inv k x m) (hx : FX x x') (hm : FM (va_up m 0 (upd (m 0) 0 0)) m') (ht : TT l x' m') (hl : l ≤ 16) : Inv (k + 1) x' m' := by
  have h' := h.thr 0
  obtain ⟨h0, h1, h2, h3, h4, h5, h6⟩ := h'
  refine Inv.mono (k := k) ⟨?_, h1.cg (fun q a b => hx.1 q (by omega)) (by rw [hx.2 1 (by omega) (by omega)]) (by rw [hx.2 1 (by omega) (by omega)]) (hm.2 2 (by omega)) (fun z _ _ => by rw [hm.1 1 (by omega) (by omega)]), h2.cg (hx.1 3 (by omega)) (by rw [hx.2 0 (by omega) (by omega)]) (hm.2 3 (by omega)) (fun z _ _ => by rw [hm.1 1 (by omega) (by omega)]), h3.cg (hx.2 3 (by omega) (by omega)) (fun j a b => hm.2 j (by omega)), h4.cg (by rw [hx.2 4 (by omega) (by omega)]) (hx.2 5 (by omega) (by omega)) (hm.2 10 (by omega)) (hm.1 2 (by omega) (by omega)), by rw [hx.2 0 (by omega) (by omega), hm.2 13 (by omega)]; exact h5, ⟨l, hl, ht⟩⟩ (Nat.le_succ k)
  rw [hx.1 0 (by omega), hm.1 1 (by omega) (by omega)]
  exact h0
