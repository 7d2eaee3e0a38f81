/-! the tape is read, both ways: signs and numbers -/
def PJ (l : Nat) (T : Nat → Int32) (p : Nat) (x : Mem) (m : Nat → Nat → Int32) : Prop := l ≤ 60 ∧ p ≤ l ∧ x 12 4 1 = nI l ∧ x 12 4 2 = nI p ∧ m 0 10 = nI l ∧ m 0 11 = nI p ∧ m 0 12 = -1 ∧ ∀ i, i < l → x 12 5 i = T i ∧ m 2 i = T i
def sg (l : Nat) (T : Nat → Int32) (p : Nat) : Int32 := if p < l then T p else -1
def adv (x : Mem) (p : Nat) : Mem := va_up x 12 (va_up (x 12) 4 (upd (x 12 4) 2 (nI (p + 1))))
def madv (m : Nat → Nat → Int32) (p : Nat) : Nat → Nat → Int32 := va_up m 0 (upd (m 0) 11 (nI (p + 1)))
def mflt (m : Nat → Nat → Int32) (p : Nat) : Nat → Nat → Int32 := va_up m 0 (upd (m 0) 12 (nI p))
/-- what reading an order leaves of the class's memory, of the reference's -/
def XO (j : Nat) (x x' : Mem) : Prop := (∀ q, q ≠ 12 → x' q = x q) ∧ (∀ r, r ≠ 4 → r ≠ j + 7 → r ≠ j + 19 → x' 12 r = x 12 r) ∧ ∀ z, z ≠ 2 → x' 12 4 z = x 12 4 z
def MO (m m' : Nat → Nat → Int32) : Prop := (∀ r, r ≠ 0 → m' r = m r) ∧ ∀ z, z ≠ 11 → z ≠ 12 → m' 0 z = m 0 z
theorem XO.trans {j : Nat} {x y z : Mem} (h : XO j x y) (g : XO j y z) : XO j x z := ⟨fun q a => (g.1 q a).trans (h.1 q a), fun r a b c => (g.2.1 r a b c).trans (h.2.1 r a b c), fun w a => (g.2.2 w a).trans (h.2.2 w a)⟩
theorem MO.trans {x y z : Nat → Nat → Int32} (h : MO x y) (g : MO y z) : MO x z := ⟨fun q a => (g.1 q a).trans (h.1 q a), fun w a b => (g.2 w a b).trans (h.2 w a b)⟩
theorem XO.refl (j : Nat) (x : Mem) : XO j x x := ⟨fun _ _ => rfl, fun _ _ _ _ => rfl, fun _ _ => rfl⟩
theorem MO.refl (m : Nat → Nat → Int32) : MO m m := ⟨fun _ _ => rfl, fun _ _ _ => rfl⟩
theorem adv_XO (j : Nat) (x : Mem) (p : Nat) : XO j x (adv x p) := ⟨fun q a => xs_ne a, fun r a _ _ => by unfold adv; rw [xs_self, vun _ _ _ a], fun z a => by unfold adv; rw [xs_self, va_up_self, upd_ne _ _ a]⟩
theorem madv_MO (m : Nat → Nat → Int32) (p : Nat) : MO m (madv m p) := ⟨fun r a => vun _ _ _ a, fun z a _ => by unfold madv; rw [va_up_self, upd_ne _ _ a]⟩
theorem mflt_MO (m : Nat → Nat → Int32) (p : Nat) : MO m (mflt m p) := ⟨fun r a => vun _ _ _ a, fun z _ a => by unfold mflt; rw [va_up_self, upd_ne _ _ a]⟩
section PS
variable {l p : Nat} {T : Nat → Int32} {x : Mem} {m : Nat → Nat → Int32}
theorem PJ.go (h : PJ l T p x m) (hp : p < l) : PJ l T (p + 1) (adv x p) (madv m p) := by
  obtain ⟨h1, h2, h3, h4, h5, h6, h7, h8⟩ := h
  refine ⟨h1, hp, ?_, ?_, ?_, ?_, ?_, fun i hi => ⟨?_, ?_⟩⟩
  · unfold adv; rw [xs_self, va_up_self, upd_ne _ _ (by omega)]; exact h3
  · unfold adv; rw [xs_self, va_up_self, upd_self]
  · unfold madv; rw [va_up_self, upd_ne _ _ (by omega)]; exact h5
  · unfold madv; rw [va_up_self, upd_self]
  · unfold madv; rw [va_up_self, upd_ne _ _ (by omega)]; exact h7
  · unfold adv; rw [xs_self, vun _ _ _ (by omega)]; exact (h8 i hi).1
  · unfold madv; rw [vun _ _ _ (by omega)]; exact (h8 i hi).2
theorem nsg (h : PJ l T p x m) : D_X8_nextSign x = some (sg l T p) := by
  obtain ⟨h1, h2, h3, h4, h5, h6, h7, h8⟩ := h
  unfold D_X8_nextSign sg
  rw [h3, h4, if_neg (show ¬ nI p < 0 by rw [lt_toInt, toInt_0, nI_toInt (by omega)]; omega)]
  by_cases hp : p < l
  · rw [if_neg (nI_ge hp (by omega)), if_neg (show ¬ (60 : Int32) ≤ nI p from nI_ge (show p < 60 by omega) (by decide)), if_pos (inb_nI (show p < 60 by omega) (by decide)), nI_clamp (by omega), if_pos hp, (h8 p hp).1]
  · rw [if_pos (nI_le (by omega) (by omega)), if_neg hp]
theorem msg (h : PJ l T p x m) : D_X10_sign m = some (sg l T p) := by
  obtain ⟨h1, h2, h3, h4, h5, h6, h7, h8⟩ := h
  unfold D_X10_sign sg
  rw [h5, h6]
  by_cases hp : p < l
  · rw [if_neg (nI_ge hp (by omega)), if_pos (inb_nI (show p < 60 by omega) (by decide)), nI_clamp (by omega), if_pos hp, (h8 p hp).2]
  · rw [if_pos (nI_le (by omega) (by omega)), if_neg hp]
theorem sg_lt {c : Int32} (hc : ¬ c = -1) (h : sg l T p = c) : p < l := by
  unfold sg at h
  by_cases hp : p < l
  · exact hp
  · rw [if_neg hp] at h; exact absurd h.symm hc
theorem rsg (h : PJ l T p x m) (c : Int32) : D_X8_readSign x c = if sg l T p = c then some (1, adv x p) else some (0, x) := by
  unfold D_X8_readSign
  rw [nsg h]
  simp only [Option.bind_some, h.2.2.2.1, ← nI_succ]
  rfl
theorem msn (h : PJ l T p x m) (c : Int32) : D_X10_needs m c = if sg l T p = c then some (madv m p) else some (mflt m p) := by
  unfold D_X10_needs
  rw [h.2.2.2.2.2.2.1, if_pos m1_lt, msg h]
  simp only [Option.bind_some, h.2.2.2.2.2.1, ← nI_succ]
  rfl
theorem flt_needs {c : Int32} (h : 0 ≤ m 0 12) : D_X10_needs m c = some m := by
  unfold D_X10_needs
  rw [if_neg (by rw [lt_toInt]; rw [le_toInt, toInt_0] at h; rw [toInt_0]; omega)]
theorem flt_num {d : Int32} (h : 0 ≤ m 0 12) : D_X10_number m d = some (0, m) := by
  unfold D_X10_number
  rw [if_neg (by rw [lt_toInt]; rw [le_toInt, toInt_0] at h; rw [toInt_0]; omega)]
theorem nI_nn (n : Nat) (h : n < 2 ^ 31) : (0 : Int32) ≤ nI n := by rw [le_toInt, toInt_0, nI_toInt h]; omega
theorem mflt_pos (m : Nat → Nat → Int32) {p : Nat} (h : p < 2 ^ 31) : (0 : Int32) ≤ mflt m p 0 12 := by
  unfold mflt; rw [va_up_self, upd_self]; exact nI_nn p h
theorem dg_cases (s : Int32) : (D_X10_in s 48 57 = 0 ∧ (s < 48 ∨ 57 < s)) ∨ (D_X10_in s 48 57 = 1 ∧ ¬ s < 48 ∧ ¬ 57 < s ∧ ∃ v, v < 10 ∧ s = nI (48 + v)) := by
  rw [in_iff, lt_toInt, lt_toInt, show (48 : Int32).toInt = 48 by decide, show (57 : Int32).toInt = 57 by decide]
  by_cases h : 48 ≤ s.toInt ∧ s.toInt ≤ 57
  · refine Or.inr ⟨if_pos h, by omega, by omega, (s.toInt - 48).toNat, by omega, of_toInt ?_⟩
    rw [nI_toInt (by omega)]; omega
  · exact Or.inl ⟨if_neg h, by omega⟩
theorem d48 {v : Nat} : nI (48 + v) - 48 = nI v := by
  rw [← nI_add, show (48 : Int32) = nI 48 from rfl]
  grind only
theorem ndg (h : PJ l T p x m) : D_X8_nextDigit x = some (if D_X10_in (sg l T p) 48 57 = 0 then -1 else sg l T p - 48) := by
  unfold D_X8_nextDigit
  rw [nsg h]
  simp only [Option.bind_some]
  rcases dg_cases (sg l T p) with ⟨e, h1⟩ | ⟨e, h1, h2, -⟩
  · rw [if_pos e]
    by_cases ha : sg l T p < 48
    · rw [if_pos ha]
    · rw [if_neg ha, if_pos (h1.elim (fun z => absurd z ha) id)]
  · rw [if_neg h1, if_neg h2, e, if_neg one_ne]
/-- a number is put into an order -/
theorem add_ok {j cn : Nat} (hc : x 12 (j + 7) 2 = nI cn) (h3 : cn < 3) (v : Int32) :
    ∃ x' : Mem, D_X5_add x j v = some (1, x') ∧ (∀ q, q ≠ 12 → x' q = x q) ∧ (∀ r, r ≠ j + 7 → r ≠ j + 19 → x' 12 r = x 12 r) ∧ x' 12 (j + 7) 2 = nI (cn + 1) ∧ x' 12 (j + 7) 0 = x 12 (j + 7) 0 ∧ x' 12 (j + 19) = upd (x 12 (j + 19)) cn v := by
  have hw : D_X9_isWithin (nI cn) 3 = 1 := by rw [wi_iff, nI_toInt (by omega), show (3 : Int32).toInt = 3 by decide, if_pos (by omega)]
  refine ⟨va_up x 12 (va_up (va_up (x 12) (j + 19) (upd (x 12 (j + 19)) cn v)) (j + 7) (upd (x 12 (j + 7)) 2 (nI (cn + 1)))), ?_, fun q a => xs_ne a, fun r a b => ?_, ?_, ?_, ?_⟩
  · unfold D_X5_add
    rw [hc, hw, if_neg one_ne, if_pos (inb_nI h3 (by decide)), nI_clamp (by omega), vun _ _ _ (show j + 7 ≠ j + 19 by omega), hc, nI_succ]
  · rw [xs_self, vun _ _ _ a, vun _ _ _ b]
  · rw [xs_self, va_up_self, upd_self]
  · rw [xs_self, va_up_self, upd_ne _ _ (by omega)]
  · rw [xs_self, vun _ _ _ (by omega), va_up_self]
end PS
def OS (j cn : Nat) (v : Int32) (x x' : Mem) : Prop := XO j x x' ∧ x' 12 (j + 7) 2 = nI (cn + 1) ∧ x' 12 (j + 7) 0 = x 12 (j + 7) 0 ∧ x' 12 (j + 19) = upd (x 12 (j + 19)) cn v
def FL (l g : Nat) (x : Mem) (m : Nat → Nat → Int32) : Prop := g ≤ l ∧ x 12 4 2 = nI g ∧ m 0 12 = nI g
/-- behind an advance a number is put -/
theorem PJ.add {l p j cn : Nat} {T : Nat → Int32} {x : Mem} {m : Nat → Nat → Int32} (h : PJ l T p x m) (hj : j < 12) (hc : x 12 (j + 7) 2 = nI cn) (h3 : cn < 3) (v : Int32) : ∃ x' : Mem, D_X5_add x j v = some (1, x') ∧ PJ l T p x' m ∧ OS j cn v x x' := by
  obtain ⟨x', e, a1, a2, a3, a4, a5⟩ := add_ok (j := j) hc h3 v
  obtain ⟨h1, h2, h3', h4, h5, h6, h7, h8⟩ := h
  refine ⟨x', e, ⟨h1, h2, ?_, ?_, h5, h6, h7, fun i hi => ⟨?_, (h8 i hi).2⟩⟩, ⟨a1, fun r a b c => a2 r b c, fun z _ => ?_⟩, a3, a4, a5⟩
  · rw [a2 4 (by omega) (by omega)]; exact h3'
  · rw [a2 4 (by omega) (by omega)]; exact h4
  · rw [a2 5 (by omega) (by omega)]; exact (h8 i hi).1
  · rw [a2 4 (by omega) (by omega)]
