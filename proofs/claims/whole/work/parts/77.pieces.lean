/-! the pieces of an order's form -/
theorem xs_upup (x : Mem) (k : Nat) (f g : Nat → Nat → Int32) : va_up (va_up x k f) k g = va_up x k g := by
  funext r
  by_cases h : r = k
  · subst h; rw [xs_self, xs_self]
  · rw [xs_ne h, xs_ne h, xs_ne h]
theorem fin_len : ∀ q : Fin 9, D_J0_length_8abf5 q.val = nI (formLen.getD q.val 0) := by decide +kernel
theorem fin_chr : ∀ (q : Fin 9) (t : Fin 11), t.val < formLen.getD q.val 0 → D_J0_charAt_5068e q.val (nI t.val) = some ((formB.getD q.val []).getD t.val 0) := by decide +kernel
theorem fin_l11 : ∀ q : Fin 9, formLen.getD q.val 0 ≤ 11 := by decide
theorem rf_s {q t j f : Nat} {xx s : Mem} (hq : q < 9) (ht : t < formLen.getD q 0) : L_X8_readForm_2 (f + 1) xx q j (nI t) s = (D_X8_readPart s ((formB.getD q []).getD t 0) j).bind (fun (r8, o9) => if r8 = 0 then (some (0, o9)) else (L_X8_readForm_2 f xx q j (nI (t + 1)) o9)) := by
  have h11 := fin_l11 ⟨q, hq⟩
  have hc := fin_chr ⟨q, hq⟩ ⟨t, by simp only at h11; omega⟩ ht
  simp only at hc h11
  simp only [L_X8_readForm_2, fin_len ⟨q, hq⟩, nI_ge ht (show formLen.getD q 0 < 2 ^ 31 by omega), hc, Option.bind_some, ↓reduceIte, nI_succ]
theorem rf_e {q j f : Nat} {xx s : Mem} (hq : q < 9) : L_X8_readForm_2 (f + 1) xx q j (nI (formLen.getD q 0)) s = some (1, s) := by
  have h11 := fin_l11 ⟨q, hq⟩
  simp only at h11
  simp only [L_X8_readForm_2, fin_len ⟨q, hq⟩, nI_le (Nat.le_refl _) (show formLen.getD q 0 < 2 ^ 31 by omega), ↓reduceIte]
section PC
variable {l p j cn : Nat} {T : Nat → Int32} {x : Mem} {m : Nat → Nat → Int32}
theorem rp_lit (h : PJ l T p x m) {c : Int32} (h1 : ¬ c = 35) (h2 : ¬ c = 37) (h3 : ¬ c = 126) (h4 : ¬ c = 33) : D_X8_readPart x c j = if sg l T p = c then some (1, adv x p) else some (0, x) := by
  unfold D_X8_readPart
  rw [if_neg h1, if_neg h2, if_neg h3, if_neg h4, rsg h]
  by_cases hs : sg l T p = c
  · rw [if_pos hs]; simp only [Option.bind_some, is1, ↓reduceIte, if_pos hs]
  · rw [if_neg hs]; simp only [Option.bind_some, is0, ↓reduceIte, if_neg hs]
theorem n37_s (q : Nat) (m s : Nat → Nat → Int32) (p1 r2 i3 i2 : Int32) : L_X10_number_37 (q + 1) m p1 r2 i3 i2 s = if p1 ≤ i3 then (some (i2, s)) else ((D_X10_sign s).bind (fun r10 => if (D_X10_in r10 48 57) = 0 then (some (i2, s)) else ((D_X10_sign s).bind (fun r17 => L_X10_number_37 q m p1 r2 (i3 + 1) (((10 * i2) + r17) - 48) (va_up s 0 (upd (s 0) 11 (((s 0) 11) + 1))))))) := rfl
theorem z48 (v : Nat) : 10 * 0 + nI (48 + v) - 48 = nI v := by
  rw [← nI_add, show (48 : Int32) = nI 48 from rfl]
  grind only
theorem t48 (u v : Nat) : 10 * nI u + nI (48 + v) - 48 = nI (10 * u + v) := by
  rw [← nI_add, ← nI_add, show (48 : Int32) = nI 48 from rfl, ← pk_mul, show nI 10 = 10 from rfl]
  grind only
theorem mnum1 (h : PJ l T p x m) : (D_X10_in (sg l T p) 48 57 = 0 → D_X10_number m 1 = some (0, mflt m p)) ∧ ∀ v, v < 10 → sg l T p = nI (48 + v) → D_X10_number m 1 = some (nI v, madv m p) := by
  refine ⟨fun h0 => ?_, fun v hv hs => ?_⟩
  · unfold D_X10_number
    rw [h.2.2.2.2.2.2.1, if_pos m1_lt, msg h]
    simp only [Option.bind_some, h0, ↓reduceIte, h.2.2.2.2.2.1]
    rfl
  · have hi : ¬ D_X10_in (sg l T p) 48 57 = 0 := by
      rcases dg_cases (sg l T p) with ⟨-, h1⟩ | ⟨e, -⟩
      · rw [hs, lt_toInt, lt_toInt, nI_toInt (by omega), show (48 : Int32).toInt = 48 by decide, show (57 : Int32).toInt = 57 by decide] at h1; omega
      · rw [e]; exact one_ne
    unfold D_X10_number
    rw [h.2.2.2.2.2.2.1, if_pos m1_lt, msg h]
    simp only [Option.bind_some]
    rw [if_neg hi, show (200 : Nat) = 198 + 1 + 1 from rfl, n37_s, if_neg (by decide), msg h]
    simp only [Option.bind_some]
    rw [if_neg hi, n37_s, if_pos (by decide), hs, z48, h.2.2.2.2.2.1, ← nI_succ]
    rfl
/-- a digit, both ways -/
theorem pdig (h : PJ l T p x m) (hj : j < 12) (hc : x 12 (j + 7) 2 = nI cn) (h3 : cn < 3) (f : Int32) :
    (∃ (x' : Mem) (v : Nat), v < 10 ∧ p < l ∧ D_X8_readDigit x j f = some (1, x') ∧ D_X10_number m 1 = some (nI v, madv m p) ∧ PJ l T (p + 1) x' (madv m p) ∧ OS j cn (f * nI v) x x') ∨ (D_X8_readDigit x j f = some (0, x) ∧ D_X10_number m 1 = some (0, mflt m p)) := by
  unfold D_X8_readDigit
  rw [ndg h]
  simp only [Option.bind_some]
  rcases dg_cases (sg l T p) with ⟨e, -⟩ | ⟨e, -, -, v, hv, hs⟩
  · right
    rw [if_pos e, if_pos rfl]
    exact ⟨rfl, (mnum1 h).1 e⟩
  · left
    have hp : p < l := sg_lt (nn1 (n := 48 + v) (by omega)) hs
    rw [e, if_neg one_ne, hs, d48, if_neg (nn1 (show v < 2 ^ 31 by omega))]
    have hA := h.go hp
    have hcA : (adv x p) 12 (j + 7) 2 = nI cn := by rw [(adv_XO 100 x p).2.1 _ (by omega) (by omega) (by omega)]; exact hc
    obtain ⟨x', a1, a2, a3⟩ := hA.add hj hcA h3 (f * nI v)
    have eadv : va_up x 12 (va_up (x 12) 4 (upd (x 12 4) 2 (x 12 4 2 + 1))) = adv x p := by rw [h.2.2.2.1, ← nI_succ]; rfl
    rw [eadv, a1]
    simp only [Option.bind_some, is1, ↓reduceIte]
    refine ⟨x', v, hv, hp, rfl, (mnum1 h).2 v hv hs, a2, (adv_XO j x p).trans a3.1, a3.2.1, ?_, ?_⟩
    · rw [a3.2.2.1, (adv_XO 100 x p).2.1 _ (by omega) (by omega) (by omega)]
    · rw [a3.2.2.2, (adv_XO 100 x p).2.1 _ (by omega) (by omega) (by omega)]
theorem n37_go (q : Nat) (m0 : Nat → Nat → Int32) (p1 r2 i3 i2 : Int32) (h : PJ l T p x m) {v : Nat} (hv : v < 10) (hs : sg l T p = nI (48 + v)) (hi : ¬ p1 ≤ i3) : L_X10_number_37 (q + 1) m0 p1 r2 i3 i2 m = L_X10_number_37 q m0 p1 r2 (i3 + 1) (10 * i2 + nI (48 + v) - 48) (madv m p) := by
  have hne : ¬ D_X10_in (sg l T p) 48 57 = 0 := by
    rcases dg_cases (sg l T p) with ⟨-, h1⟩ | ⟨e, -⟩
    · rw [hs, lt_toInt, lt_toInt, nI_toInt (by omega), show (48 : Int32).toInt = 48 by decide, show (57 : Int32).toInt = 57 by decide] at h1; omega
    · rw [e]; exact one_ne
  have emadv : va_up m 0 (upd (m 0) 11 (m 0 11 + 1)) = madv m p := by rw [h.2.2.2.2.2.1, ← nI_succ]; rfl
  rw [n37_s, if_neg hi, msg h]
  simp only [Option.bind_some]
  rw [if_neg hne, hs, emadv]
theorem n37_no (q : Nat) (m0 : Nat → Nat → Int32) (p1 r2 i3 i2 : Int32) (h : PJ l T p x m) (h0 : D_X10_in (sg l T p) 48 57 = 0) : L_X10_number_37 (q + 1) m0 p1 r2 i3 i2 m = some (i2, m) := by
  rw [n37_s]
  by_cases hi : p1 ≤ i3
  · rw [if_pos hi]
  · rw [if_neg hi, msg h]
    simp only [Option.bind_some]
    rw [if_pos h0]
theorem n37_end (q : Nat) (m0 s : Nat → Nat → Int32) (p1 r2 i3 i2 : Int32) (hi : p1 ≤ i3) : L_X10_number_37 (q + 1) m0 p1 r2 i3 i2 s = some (i2, s) := by
  rw [n37_s, if_pos hi]
theorem num_in (h : PJ l T p x m) (d : Int32) (hne : ¬ D_X10_in (sg l T p) 48 57 = 0) : D_X10_number m d = L_X10_number_37 200 m d (sg l T p) 0 0 m := by
  unfold D_X10_number
  rw [h.2.2.2.2.2.2.1, if_pos m1_lt, msg h]
  simp only [Option.bind_some]
  rw [if_neg hne]
theorem mnum2 (h : PJ l T p x m) {v : Nat} (hv : v < 10) (hs : sg l T p = nI (48 + v)) (hne : ¬ D_X10_in (sg l T p) 48 57 = 0) (hp : p < l) :
    (D_X10_in (sg l T (p + 1)) 48 57 = 0 → D_X10_number m 2 = some (nI v, madv m p)) ∧ ∀ w, w < 10 → sg l T (p + 1) = nI (48 + w) → p + 1 < l → D_X10_number m 2 = some (nI (10 * v + w), madv (madv m p) (p + 1)) := by
  have e1 := n37_go 199 m 2 (sg l T p) 0 0 h hv hs (by decide)
  have z01 : (0 : Int32) + 1 = 1 := by decide
  have z12 : (1 : Int32) + 1 = 2 := by decide
  rw [z48, z01] at e1
  refine ⟨fun h0 => ?_, fun w hw hs2 hp2 => ?_⟩
  · exact (num_in h 2 hne).trans (e1.trans (n37_no 198 m 2 (sg l T p) 1 (nI v) (h.go hp) h0))
  · have e2 := n37_go 198 m 2 (sg l T p) 1 (nI v) (h.go hp) hw hs2 (by decide)
    rw [t48, z12] at e2
    exact (num_in h 2 hne).trans (e1.trans (e2.trans (n37_end 197 m _ 2 (sg l T p) 2 (nI (10 * v + w)) (by decide))))
/-- a number of one or two digits, both ways -/
theorem pnum (h : PJ l T p x m) (hj : j < 12) (hc : x 12 (j + 7) 2 = nI cn) (h3 : cn < 3) :
    (∃ (x' : Mem) (m' : Nat → Nat → Int32) (v p' : Nat), p < p' ∧ D_X8_readNumber x j = some (1, x') ∧ D_X10_number m 2 = some (nI v, m') ∧ PJ l T p' x' m' ∧ OS j cn (nI v) x x' ∧ MO m m') ∨ (D_X8_readNumber x j = some (0, x) ∧ D_X10_number m 2 = some (0, mflt m p)) := by
  unfold D_X8_readNumber
  rw [ndg h]
  simp only [Option.bind_some]
  rcases dg_cases (sg l T p) with ⟨e, -⟩ | ⟨e, -, -, v, hv, hs⟩
  · right
    rw [if_pos e, if_pos rfl]
    refine ⟨rfl, ?_⟩
    unfold D_X10_number
    rw [h.2.2.2.2.2.2.1, if_pos m1_lt, msg h]
    simp only [Option.bind_some]
    rw [if_pos e, h.2.2.2.2.2.1]
    rfl
  · left
    have hp : p < l := sg_lt (nn1 (n := 48 + v) (by omega)) hs
    have hA := h.go hp
    have hne : ¬ D_X10_in (sg l T p) 48 57 = 0 := by rw [e]; exact one_ne
    obtain ⟨n1, n2⟩ := mnum2 h hv hs hne hp
    rw [if_neg hne, hs, d48, if_neg (nn1 (show v < 2 ^ 31 by omega))]
    have eadv : va_up x 12 (va_up (x 12) 4 (upd (x 12 4) 2 (x 12 4 2 + 1))) = adv x p := by rw [h.2.2.2.1, ← nI_succ]; rfl
    have eadv2 : va_up x 12 (va_up (x 12) 4 (upd (upd (x 12 4) 2 (x 12 4 2 + 1)) 2 (x 12 4 2 + 1 + 1))) = adv (adv x p) (p + 1) := by
      rw [h.2.2.2.1, ← nI_succ, ← nI_succ, upd_upd]
      unfold adv
      rw [xs_upup, xs_self, va_up_up, va_up_self, upd_upd]
    rw [eadv, eadv2, ndg hA]
    simp only [Option.bind_some]
    rcases dg_cases (sg l T (p + 1)) with ⟨f, -⟩ | ⟨f, -, -, w, hw, hs2⟩
    · rw [if_pos f, if_pos rfl, n1 f]
      have hcA : (adv x p) 12 (j + 7) 2 = nI cn := by rw [(adv_XO 100 x p).2.1 _ (by omega) (by omega) (by omega)]; exact hc
      obtain ⟨x', a1, a2, a3⟩ := hA.add hj hcA h3 (nI v)
      rw [a1]
      simp only [Option.bind_some, is1, ↓reduceIte]
      refine ⟨x', madv m p, v, p + 1, by omega, rfl, rfl, a2, ⟨(adv_XO j x p).trans a3.1, a3.2.1, ?_, ?_⟩, madv_MO m p⟩
      · rw [a3.2.2.1, (adv_XO 100 x p).2.1 _ (by omega) (by omega) (by omega)]
      · rw [a3.2.2.2, (adv_XO 100 x p).2.1 _ (by omega) (by omega) (by omega)]
    · have hp2 : p + 1 < l := sg_lt (nn1 (n := 48 + w) (by omega)) hs2
      have hA2 := hA.go hp2
      have hne2 : ¬ D_X10_in (sg l T (p + 1)) 48 57 = 0 := by rw [f]; exact one_ne
      rw [if_neg hne2, hs2, d48, if_neg (nn1 (show w < 2 ^ 31 by omega)), n2 w hw hs2 hp2]
      have X2 := (adv_XO j x p).trans (adv_XO j (adv x p) (p + 1))
      have hcA : (adv (adv x p) (p + 1)) 12 (j + 7) 2 = nI cn := by rw [(adv_XO 100 _ (p + 1)).2.1 _ (by omega) (by omega) (by omega), (adv_XO 100 x p).2.1 _ (by omega) (by omega) (by omega)]; exact hc
      obtain ⟨x', a1, a2, a3⟩ := hA2.add hj hcA h3 (10 * nI v + nI w)
      have e10 : (10 : Int32) * nI v + nI w = nI (10 * v + w) := by rw [show (10 : Int32) = nI 10 from rfl, pk_mul, nI_add]
      rw [a1]
      simp only [Option.bind_some, is1, ↓reduceIte]
      rw [e10] at a3
      refine ⟨x', madv (madv m p) (p + 1), 10 * v + w, p + 1 + 1, by omega, rfl, rfl, a2, ⟨X2.trans a3.1, a3.2.1, ?_, ?_⟩, (madv_MO m p).trans (madv_MO _ _)⟩
      · rw [a3.2.2.1, (adv_XO 100 _ (p + 1)).2.1 _ (by omega) (by omega) (by omega), (adv_XO 100 x p).2.1 _ (by omega) (by omega) (by omega)]
      · rw [a3.2.2.2, (adv_XO 100 _ (p + 1)).2.1 _ (by omega) (by omega) (by omega), (adv_XO 100 x p).2.1 _ (by omega) (by omega) (by omega)]
end PC
