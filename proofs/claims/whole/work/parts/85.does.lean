/-! an order of a text is carried out, both ways -/
def STp (B : Nat) (o m : Nat → Nat → Int32) (ca mb : Option (Int32 × (Nat → Nat → Int32))) : Prop :=
  ∃ (a : Int32) (o' : Nat → Nat → Int32) (b : Int32) (m' : Nat → Nat → Int32), ca = some (a, o') ∧ mb = some (b, m') ∧ (∀ r, 2 ≤ r → m' r = m r) ∧ (∀ k, 96 ≤ k → m' 1 k = m 1 k) ∧ (∀ j, j ≠ 4 → j ≠ 5 → j ≠ 6 → j ≠ 7 → m' 0 j = m 0 j) ∧
  ((b = 0 ∧ a = -1 ∧ ∃ w dt, o' = va_up o 0 (upd (upd (o 0) 12 w) 13 dt) ∧ m' 0 5 = w ∧ m' 0 6 = dt) ∨
   (b = 1 ∧ ¬ a = -1 ∧ m' 0 5 = m 0 5 ∧ m' 0 6 = m 0 6 ∧ m' 0 7 = m 0 7 ∧ PF (o' 3) (B + 6) ∧ ∃ n' d', RO o' (m' 1) n' d'))
theorem Ch.st {B : Nat} {o m : Nat → Nat → Int32} {ca mb : Option (Int32 × (Nat → Nat → Int32))} (h : Ch B o m ca mb) : STp B o m ca (mb.bind (fun (r, o7) => if is01 r then (some (r, o7)) else none)) := by
  obtain ⟨a, o', b, m', h1, h2, h3, h4, h5, h6⟩ := h
  rcases h6 with ⟨rfl, ha, w, dt, hw, ho, e5, e6, e7⟩ | ⟨rfl, ha, e4, e5, e6, e7, hP, hR⟩
  · refine ⟨a, o', 0, m', h1, ?_, h3, h4, h5, Or.inl ⟨rfl, ha, w, dt, ho, e5, e6⟩⟩
    rw [h2]; simp only [Option.bind_some, is0, ↓reduceIte]
  · refine ⟨a, o', 1, m', h1, ?_, h3, h4, h5, Or.inr ⟨rfl, ha, e5, e6, e7, hP, hR⟩⟩
    rw [h2]; simp only [Option.bind_some, is1, ↓reduceIte]
theorem does_ok {B n d i q : Nat} {o m : Nat → Nat → Int32} {g : Nat → Int32} (hR : RO o (m 1) n d) (hF : PF (o 3) B) (hB : B < 2 ^ 20) (hi : i < 12) (hq : q < 9) (h0 : m 3 (4 * i) = chAt q 0) (hs : ∀ s, s < ar q → g s = m 3 (4 * i + 1 + s)) :
    STp B o m (D_X4_carryOut o q (g 0) (g 1) (g 2)) (D_X10_does m (nI (4 * i))) := by
  have e1 : nI (4 * i) + 1 = nI (4 * i + 1) := (nI_succ _).symm
  have e2 : nI (4 * i) + 2 = nI (4 * i + 2) := by rw [show (2 : Int32) = nI 2 from rfl, nI_add]
  have e3 : nI (4 * i) + 3 = nI (4 * i + 3) := by rw [show (3 : Int32) = nI 3 from rfl, nI_add]
  have b0 : inb (nI (4 * i)) 244 = true := (i4 (t := 0) (by omega) (by omega)).1
  have b1 := (i4 (j := i) (t := 1) (by omega) (by omega)).1
  have b2 := (i4 (j := i) (t := 2) (by omega) (by omega)).1
  have b3 := (i4 (j := i) (t := 3) (by omega) (by omega)).1
  have c0 : (nI (4 * i)).toNatClampNeg = 4 * i := nI_clamp (by omega)
  have c1 : (nI (4 * i + 1)).toNatClampNeg = 4 * i + 1 := nI_clamp (by omega)
  have c2 : (nI (4 * i + 2)).toNatClampNeg = 4 * i + 2 := nI_clamp (by omega)
  have c3 : (nI (4 * i + 3)).toNatClampNeg = 4 * i + 3 := nI_clamp (by omega)
  unfold D_X10_does
  rw [e1, e2, e3, if_pos b1, if_pos b2, if_pos b3, if_pos b0, c0, c1, c2, c3, h0]
  rcases (show q = 0 ∨ q = 1 ∨ q = 2 ∨ q = 3 ∨ q = 4 ∨ q = 5 ∨ q = 6 ∨ q = 7 ∨ q = 8 by omega) with rfl | rfl | rfl | rfl | rfl | rfl | rfl | rfl | rfl
  · have s0 := hs 0 (by decide)
    have s1 := hs 1 (by decide)
    have s2 := hs 2 (by decide)
    rw [if_pos (show chAt 0 0 = 99 by decide), co_cloud, s0, s1, s2]
    exact (ch_come hR hF _ _ _).st
  · have s0 := hs 0 (by decide)
    have s1 := hs 1 (by decide)
    rw [if_neg (show ¬ chAt 1 0 = 99 by decide), if_neg (show ¬ chAt 1 0 = 104 by decide), if_neg (show ¬ chAt 1 0 = 112 by decide), if_neg (show ¬ chAt 1 0 = 114 by decide), if_neg (show ¬ chAt 1 0 = 115 by decide), if_neg (show ¬ chAt 1 0 = 116 by decide), if_pos (show chAt 1 0 = 118 by decide), co_vine, s0, s1]
    exact (ch_vine hR hF _ _).st
  · have s0 := hs 0 (by decide)
    have s1 := hs 1 (by decide)
    rw [if_neg (show ¬ chAt 2 0 = 99 by decide), if_neg (show ¬ chAt 2 0 = 104 by decide), if_neg (show ¬ chAt 2 0 = 112 by decide), if_neg (show ¬ chAt 2 0 = 114 by decide), if_neg (show ¬ chAt 2 0 = 115 by decide), if_pos (show chAt 2 0 = 116 by decide), co_title, s0, s1]
    exact (ch_title hR hF hB _ _).st
  · have s0 := hs 0 (by decide)
    have s1 := hs 1 (by decide)
    have s2 := hs 2 (by decide)
    rw [if_neg (show ¬ chAt 3 0 = 99 by decide), if_neg (show ¬ chAt 3 0 = 104 by decide), if_neg (show ¬ chAt 3 0 = 112 by decide), if_neg (show ¬ chAt 3 0 = 114 by decide), if_pos (show chAt 3 0 = 115 by decide), co_sell, s0, s1, s2]
    exact (ch_sell hR hF hB _ _ _).st
  · have s0 := hs 0 (by decide)
    have s1 := hs 1 (by decide)
    rw [if_neg (show ¬ chAt 4 0 = 99 by decide), if_neg (show ¬ chAt 4 0 = 104 by decide), if_pos (show chAt 4 0 = 112 by decide), co_pledge, s0, s1]
    exact (ch_pledge hR hF hB _ _).st
  · have s0 := hs 0 (by decide)
    rw [if_neg (show ¬ chAt 5 0 = 99 by decide), if_neg (show ¬ chAt 5 0 = 104 by decide), if_neg (show ¬ chAt 5 0 = 112 by decide), if_pos (show chAt 5 0 = 114 by decide), co_redeem, s0]
    exact (ch_redeem hR hF hB _).st
  · have s0 := hs 0 (by decide)
    rw [if_neg (show ¬ chAt 6 0 = 99 by decide), if_neg (show ¬ chAt 6 0 = 104 by decide), if_neg (show ¬ chAt 6 0 = 112 by decide), if_neg (show ¬ chAt 6 0 = 114 by decide), if_neg (show ¬ chAt 6 0 = 115 by decide), if_neg (show ¬ chAt 6 0 = 116 by decide), if_neg (show ¬ chAt 6 0 = 118 by decide), if_pos (show chAt 6 0 = 119 by decide), co_wind, s0]
    exact (ch_wind hR hF _).st
  · have s0 := hs 0 (by decide)
    rw [if_neg (show ¬ chAt 7 0 = 99 by decide), if_pos (show chAt 7 0 = 104 by decide), co_hail, s0]
    exact (ch_hail hR hF _).st
  · rw [if_neg (show ¬ chAt 8 0 = 99 by decide), if_neg (show ¬ chAt 8 0 = 104 by decide), if_neg (show ¬ chAt 8 0 = 112 by decide), if_neg (show ¬ chAt 8 0 = 114 by decide), if_neg (show ¬ chAt 8 0 = 115 by decide), if_neg (show ¬ chAt 8 0 = 116 by decide), if_neg (show ¬ chAt 8 0 = 118 by decide), if_neg (show ¬ chAt 8 0 = 119 by decide), co_dawn]
    obtain ⟨cnt, o', s, a1, a2, a3, a4, ⟨c, hc, ec⟩, a6, d', a7⟩ := dawn_eq hR hF
    refine ⟨cnt, o', 1, s, a1, by rw [a2]; rfl, fun r hr => a3 r (by omega), a4, fun j _ _ _ _ => by rw [a3 0 (by omega)], Or.inr ⟨rfl, by rw [ec]; exact nn1 (by omega), by rw [a3 0 (by omega)], by rw [a3 0 (by omega)], by rw [a3 0 (by omega)], a6, n, d', a7⟩⟩
theorem p19_m (f : Nat) (m0 a b s : Nat → Nat → Int32) : L_X10_parse_19 f m0 a s = L_X10_parse_19 f m0 b s := by
  induction f generalizing s with
  | zero => rfl
  | succ f ih => simp only [L_X10_parse_19, ih]
