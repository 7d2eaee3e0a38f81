/-! what a wind and a dawn would bring; the best wind -/
theorem carriedC {k n d : Nat} {o : Nat → Nat → Int32} (h : OI k o n d) {w : Int32} (hw : rng w (-3) 3) :
    ∃ o' : Nat → Nat → Int32, (if w = 0 then o' = o else ∃ z, D_X4_blow o w = some (z, o')) ∧ OI (k + 1) o' n d ∧ (∀ r, r < 7 → o' r = o r) ∧ ∀ i, i < n → ∀ j, j < 7 → o' (i + 7) j = drf (o (i + 7)) w j := by
  by_cases h0 : w = 0
  · subst h0
    refine ⟨o, by rw [if_pos rfl], h.mono (Nat.le_succ k), fun _ _ => rfl, fun i hi j hj => ?_⟩
    have hb := (h.2.2.1 i hi).1
    unfold drf
    rcases (show j = 0 ∨ j = 1 ∨ (j ≠ 0 ∧ j ≠ 1) by omega) with rfl | rfl | ⟨ha, hb2⟩
    · rw [upd_ne _ _ (by omega), upd_self, (dv_0 hb.1).1]
    · rw [upd_self, (dv_0 hb.2.1).2]
    · rw [upd_ne _ _ hb2, upd_ne _ _ ha]
  · obtain ⟨c, o', e, -, hO, h7, hc⟩ := blow_ok h hw
    refine ⟨o', ?_, hO, h7, fun i hi j hj => by rw [hc i hi]⟩
    rw [if_neg h0]
    unfold D_X4_blow
    have hw1 := hw.1
    have hw2 := hw.2
    rw [if_neg h0, if_neg (by rw [lt_toInt, show (-3 : Int32).toInt = -3 by decide]; omega), if_pos (by rw [le_toInt, show (3 : Int32).toInt = 3 by decide]; omega), e]
    exact ⟨_, rfl⟩
theorem imagC {k n d : Nat} {x : Mem} (hk : k ≤ 500) (h : IV k x n d) {p : Nat} {w : Int32} (hw : rng w (-3) 3) :
    ∃ x' : Mem, D_X9_cloudsImagined x (nI p) w = some (wval (x 0) n (nI p) w, x') ∧ ∀ q, q ≠ 2 → x' q = x q := by
  obtain ⟨o2, ec, he⟩ := ccp (x 2) (x 0)
  have h6 := h.1.1
  have hO1 : OI k o2 n d := h.1.cg he
  obtain ⟨o3, hbl, hO2, c4, c5⟩ := carriedC hO1 hw
  obtain ⟨cnt, o4, d', d1, hO3, f13⟩ := dawn_ok (by omega) hO2
  have hval : sumTo (fun j => if o4 (j + 7) 3 = nI p then 1 else 0) n = wval (x 0) n (nI p) w := by
    unfold wval
    refine sumTo_cg (fun j hj => ?_)
    have e9 : o4 (j + 7) 3 = ow3 (x 0) w j := by
      rw [f13 j hj, clm3]
      have q0 : o3 (j + 7) 0 = dv (x 0 (j + 7) 0) w := by rw [c5 j hj 0 (by omega), ← he.2.2.2.2.2.2.2 j (by omega) 0 (by omega)]; rfl
      have q1 : o3 (j + 7) 1 = ds (x 0 (j + 7) 1) w := by rw [c5 j hj 1 (by omega), ← he.2.2.2.2.2.2.2 j (by omega) 1 (by omega)]; rfl
      have q3 : o3 (j + 7) 3 = x 0 (j + 7) 3 := by rw [c5 j hj 3 (by omega), ← he.2.2.2.2.2.2.2 j (by omega) 3 (by omega)]; rfl
      have q4 : o3 (j + 7) 4 = x 0 (j + 7) 4 := by rw [c5 j hj 4 (by omega), ← he.2.2.2.2.2.2.2 j (by omega) 4 (by omega)]; rfl
      obtain ⟨a, ha, ea⟩ := rng_nI (b := 5) (dv_ok (h.1.2.2.1 j hj).1.1 hw).2.1 (by decide)
      have qv : o3 2 (dv (x 0 (j + 7) 0) w).toNatClampNeg = x 0 2 (dv (x 0 (j + 7) 0) w).toNatClampNeg := by
        rw [c4 2 (by omega), ea, nI_clamp (by omega)]
        exact he.2.2.1 a (by omega)
      unfold below
      rw [q0, q1, q3, q4, qv]
      rfl
    rw [e9]
  have hcc : D_X4_cloudsCounted o4 (nI p) = some (wval (x 0) n (nI p) w) := by rw [cc_eq hO3.2.1 hO3.1, hval]
  refine ⟨va_up x 2 o4, ?_, fun q hq => xs_ne hq⟩
  unfold D_X9_cloudsImagined
  rw [ec]
  simp only [Option.bind_some]
  by_cases h0 : w = 0
  · rw [if_pos h0] at hbl ⊢
    subst hbl
    rw [d1]
    simp only [Option.bind_some]
    rw [hcc]
    rfl
  · rw [if_neg h0] at hbl ⊢
    obtain ⟨z, hz⟩ := hbl
    rw [hz]
    simp only [Option.bind_some]
    rw [d1]
    simp only [Option.bind_some]
    rw [hcc]
    rfl
theorem f_would {k n d : Nat} {x : Mem} (hk : k ≤ 500) (h : IV k x n d) {p : Nat} (hp : p < 4) {w : Int32} (hw : rng w (-3) 3) :
    ∃ x' : Mem, D_X9_would x (nI p) w = some (0, wval (x 0) n (nI p) w, x') ∧ ∀ q, q ≠ 2 → x' q = x q := by
  obtain ⟨x', e, hx⟩ := imagC hk h (p := p) hw
  have hw1 := hw.1
  have hw2 := hw.2
  refine ⟨x', ?_, hx⟩
  unfold D_X9_would
  rw [dem0 hp, if_pos rfl, if_neg (by rw [lt_toInt, show (-3 : Int32).toInt = -3 by decide]; omega), if_pos (by rw [le_toInt, show (3 : Int32).toInt = 3 by decide]; omega), e]
  rfl
theorem IV.im {k n d : Nat} {x x' : Mem} (h : IV k x n d) (hx : ∀ q, q ≠ 2 → x' q = x q) : IV k x' n d :=
  h.text (hx 0 (by omega)) (by rw [hx 12 (by omega)]) (by unfold IT; rw [hx 12 (by omega)]; exact h.2.2)
theorem f_best {k n d : Nat} {x : Mem} (hk : k ≤ 500) (h : IV k x n d) {p : Nat} (hp : p < 4) :
    ∃ x' : Mem, D_X9_bestWind x (nI p) = some (0, bestN (wval (x 0) n (nI p)) 6, x') ∧ ∀ q, q ≠ 2 → x' q = x q := by
  have hn6 := h.1.1
  obtain ⟨xa, i1, i3⟩ := imagC hk h (p := p) (w := nI 0 - 3) (rng_t (by omega))
  obtain ⟨sx, ex, hx1, hx2, hx3⟩ := loop_up (L := fun q i (s : Int32 × Int32 × Mem) => L_X9_bestWind_12 q x (nI p) (i + 1 - 3) s.1 s.2.1 s.2.2) 6
    (fun t s => s.1 = wval (x 0) n (nI p) (bestN (wval (x 0) n (nI p)) t) ∧ s.2.1 = bestN (wval (x 0) n (nI p)) t ∧ ∀ q, q ≠ 2 → s.2.2 q = x q)
    (fun q t s ht hRel => by
      obtain ⟨r1, r2, r3⟩ := hRel
      obtain ⟨most, best, y⟩ := s
      simp only at r1 r2 r3 ⊢
      obtain ⟨y', j1, j3⟩ := imagC hk (h.im r3) (p := p) (w := nI (t + 1) - 3) (rng_t (by omega))
      rw [r3 0 (by omega)] at j1
      have h3 : ¬ (3 : Int32) < nI (t + 1) - 3 := by
        have e : (nI (t + 1) - 3).toInt = ((t + 1 : Nat) : Int) - 3 := pk_sub_toInt (a := t + 1) (b := 3) (by omega) (by omega)
        rw [lt_toInt, show (3 : Int32).toInt = 3 by decide, e]; omega
      have hb : bestN (wval (x 0) n (nI p)) (t + 1) = if wval (x 0) n (nI p) (nI (t + 1) - 3) ≤ wval (x 0) n (nI p) (bestN (wval (x 0) n (nI p)) t) then bestN (wval (x 0) n (nI p)) t else nI (t + 1) - 3 := rfl
      by_cases hle : wval (x 0) n (nI p) (nI (t + 1) - 3) ≤ most
      · refine ⟨(most, best, y'), ?_, ?_, ?_, fun q hq => (j3 q hq).trans (r3 q hq)⟩ <;> try dsimp only
        · rw [show nI t + 1 = nI (t + 1) from (nI_succ t).symm]
          simp only [L_X9_bestWind_12, h3, j1, Option.bind_some, if_pos hle, ↓reduceIte]
          rw [show nI (t + 1) - 3 + 1 = nI (t + 1) + 1 - 3 by grind only]
        · rw [hb, ← r1, if_pos hle]; exact r1
        · rw [hb, ← r1, if_pos hle]; exact r2
      · refine ⟨(wval (x 0) n (nI p) (nI (t + 1) - 3), nI (t + 1) - 3, y'), ?_, ?_, ?_, fun q hq => (j3 q hq).trans (r3 q hq)⟩ <;> try dsimp only
        · rw [show nI t + 1 = nI (t + 1) from (nI_succ t).symm]
          simp only [L_X9_bestWind_12, h3, j1, Option.bind_some, if_neg hle, ↓reduceIte]
          rw [show nI (t + 1) - 3 + 1 = nI (t + 1) + 1 - 3 by grind only]
        · rw [hb, ← r1, if_neg hle]
        · rw [hb, ← r1, if_neg hle]) 199 (wval (x 0) n (nI p) (nI 0 - 3), nI 0 - 3, xa) (by decide) ⟨rfl, rfl, i3⟩
  have ecl : L_X9_bestWind_12 200 x (nI p) (-3) (-1) 0 x = some (0, bestN (wval (x 0) n (nI p)) 6, sx.2.2) := by
    have hnle : ¬ wval (x 0) n (nI p) (nI 0 - 3) ≤ -1 := by
      obtain ⟨c, hc, ec⟩ := wval_cnt (x 0) n (nI p) (nI 0 - 3)
      rw [ec, le_toInt, toInt_m1, nI_toInt (by omega)]; omega
    show L_X9_bestWind_12 (199 + 1) x (nI p) (nI 0 - 3) (-1) 0 x = _
    rw [bw_s 199, if_neg (by decide), i1, show nI 0 - 3 + 1 = nI 0 + 1 - 3 by decide]
    simp only [Option.bind_some, if_neg hnle]
    refine Eq.trans ex ?_
    show L_X9_bestWind_12 (192 + 1) x (nI p) (nI 6 + 1 - 3) sx.1 sx.2.1 sx.2.2 = _
    simp only [L_X9_bestWind_12, show (3 : Int32) < nI 6 + 1 - 3 by decide, ↓reduceIte, hx2]
  refine ⟨sx.2.2, ?_, hx3⟩
  unfold D_X9_bestWind
  rw [dem0 hp, if_pos rfl, ecl]
/-- the law's own way to the best wind: the most and the best behind t winds -/
def mostW (v : Int32 → Int32) : Nat → Int32
  | 0 => -1
  | t + 1 => v (bestN v t)
def bestW (v : Int32 → Int32) : Nat → Int32
  | 0 => -3
  | t + 1 => bestN v t
theorem bw_step (v : Int32 → Int32) (hv : ∀ w, ∃ c : Nat, c < 2 ^ 31 ∧ v w = nI c) (t : Nat) :
    (if mostW v t < v (nI t - 3) then nI t - 3 else bestW v t) = bestW v (t + 1) ∧ (if mostW v t < v (nI t - 3) then v (nI t - 3) else mostW v t) = mostW v (t + 1) := by
  cases t with
  | zero =>
    obtain ⟨c, hc, e⟩ := hv (nI 0 - 3)
    have hlt : mostW v 0 < v (nI 0 - 3) := by
      show (-1 : Int32) < _
      rw [e, lt_toInt, toInt_m1, nI_toInt hc]; omega
    rw [if_pos hlt, if_pos hlt]
    exact ⟨show nI 0 - 3 = (-3 : Int32) by decide, by show v (nI 0 - 3) = v (-3); rw [show nI 0 - 3 = (-3 : Int32) by decide]⟩
  | succ s =>
    show (if v (bestN v s) < v (nI (s + 1) - 3) then nI (s + 1) - 3 else bestN v s) = (if v (nI (s + 1) - 3) ≤ v (bestN v s) then bestN v s else nI (s + 1) - 3) ∧ (if v (bestN v s) < v (nI (s + 1) - 3) then v (nI (s + 1) - 3) else v (bestN v s)) = v (if v (nI (s + 1) - 3) ≤ v (bestN v s) then bestN v s else nI (s + 1) - 3)
    by_cases h : v (nI (s + 1) - 3) ≤ v (bestN v s)
    · have h' : ¬ v (bestN v s) < v (nI (s + 1) - 3) := by rw [lt_toInt]; rw [le_toInt] at h; omega
      rw [if_neg h', if_neg h', if_pos h]
      exact ⟨rfl, rfl⟩
    · have h' : v (bestN v s) < v (nI (s + 1) - 3) := by rw [lt_toInt]; rw [le_toInt] at h; omega
      rw [if_pos h', if_pos h', if_neg h]
      exact ⟨rfl, rfl⟩
