theorem vu2 (o : Nat → Nat → Int32) (r : Nat) (f : Nat → Int32) (s j : Nat) : va_up o r f s j = if s = r then f j else o s j := by
  by_cases h : s = r
  · subst h; rw [va_up_self, if_pos rfl]
  · rw [vun _ _ _ h, if_neg h]
theorem up2 (f : Nat → Int32) (k : Nat) (v : Int32) (j : Nat) : upd f k v j = if j = k then v else f j := by
  by_cases h : j = k
  · subst h; rw [upd_self, if_pos rfl]
  · rw [upd_ne _ _ h, if_neg h]
theorem hc_cases {o : Nat → Nat → Int32} {r : Nat → Int32} {n d : Nat} (h : RO o r n d) (x : Int32) : D_X4_hasCloud o x = 0 ∨ D_X4_hasCloud o x = 1 ∧ ∃ k, k < n ∧ x = nI k := by
  unfold D_X4_hasCloud
  rw [h.2.2.1]
  have h6 := h.1
  rcases wi_cases x (n := n) (by omega) with ⟨e, -⟩ | ⟨e, k⟩
  · exact Or.inl e
  · exact Or.inr ⟨e, k⟩
theorem hT (c : Nat → Int32) : D_X1_hasTitle c = 0 ↔ c 3 = -1 := by
  unfold D_X1_hasTitle
  by_cases h : c 3 = -1
  · rw [if_pos h]; exact ⟨fun _ => h, fun _ => rfl⟩
  · rw [if_neg h]; exact ⟨fun z => absurd z one_ne, fun z => absurd z h⟩
theorem hPl (c : Nat → Int32) : D_X1_isPledged c = 0 ↔ c 5 = -1 := by
  unfold D_X1_isPledged
  by_cases h : c 5 = -1
  · rw [if_pos h]; exact ⟨fun _ => h, fun _ => rfl⟩
  · rw [if_neg h]; exact ⟨fun z => absurd z one_ne, fun z => absurd z h⟩
theorem en0 (c : Nat → Int32) (q : Int32) : D_X1_entitle c q 0 = c 0 := rfl
theorem en1 (c : Nat → Int32) (q : Int32) : D_X1_entitle c q 1 = c 1 := rfl
theorem en2 (c : Nat → Int32) (q : Int32) : D_X1_entitle c q 2 = c 2 := rfl
theorem en3 (c : Nat → Int32) (q : Int32) : D_X1_entitle c q 3 = q := rfl
theorem en4 (c : Nat → Int32) (q : Int32) : D_X1_entitle c q 4 = c 1 := rfl
theorem en5 (c : Nat → Int32) (q : Int32) : D_X1_entitle c q 5 = -1 := rfl
theorem en6 (c : Nat → Int32) (q : Int32) : D_X1_entitle c q 6 = 0 := rfl
theorem entB {c : Nat → Int32} (hB : CB c) {q : Int32} (hq : rng q (-1) 3) : CB (D_X1_entitle c q) :=
  ⟨hB.1, hB.2.1, hB.2.2.1, hq, rng_m1 (by decide), fun z => absurd rfl z⟩
/-- a cloud that is entitled, both ways; d5: what the reference has of its lender -/
theorem entC {c e e' : Nat → Int32} (hC : CR c e) {q : Int32} (hq : ¬ q = -1) (h0 : e' 0 = e 0) (h1 : e' 1 = e 1) (h2 : e' 2 = e 2) (h3 : e' 3 = q + 1) (h4 : e' 4 = e 1) (h5 : e' 5 = 0) : CR (D_X1_entitle c q) e' := by
  refine ⟨?_, ?_, ?_, ?_, fun z => absurd z hq, fun _ => ?_, ?_, fun z => absurd rfl z⟩
  · rw [en0, h0]; exact hC.1
  · rw [en1, h1]; exact hC.2.1
  · rw [en2, h2]; exact hC.2.2.1
  · rw [en3, h3]
  · rw [en4, h4]; exact hC.2.1
  · rw [en5, h5]; rfl
theorem ib7 : inb 7 1152 = true := by decide
theorem rf1' (m : Nat → Nat → Int32) (a b : Int32) : D_X10_refuses m 1 a b = (1, va_up m 0 (upd (upd (upd (m 0) 5 a) 6 b) 7 0)) := rfl
theorem cl7 : (7 : Int32).toNatClampNeg = 7 := by decide
/-- a title is given -/
theorem ch_title {B : Nat} {o m : Nat → Nat → Int32} {n d : Nat} (h : RO o (m 1) n d) (hF : PF (o 3) B) (hBB : B < 2 ^ 20) (p1 p2 : Int32) : Ch B o m (D_X4_giveTitle o p1 p2) (D_X10_entitles m p1 p2) := by
  unfold D_X4_giveTitle D_X10_entitles
  rw [mcloud h, mow]
  simp only [Option.bind_some, rf0]
  rcases hc_cases h p1 with e1 | ⟨e1, k, hk, rfl⟩
  · rw [if_pos e1, if_pos e1]; exact Ch.ref 2 p1 (by decide) rfl rfl
  rw [e1, if_neg one_ne, if_neg one_ne]
  rcases ow_cases p2 with ⟨e2, -⟩ | ⟨e2, p, hp, rfl⟩
  · rw [if_pos e2, if_pos e2]; exact Ch.ref 2 p2 (by decide) rfl rfl
  rw [e2, if_neg one_ne, if_neg one_ne]
  have h0 := h
  obtain ⟨g1, g2, g3, g4, g5, g6, g7, g8, g9, g10, g11⟩ := h
  obtain ⟨hC, hB⟩ := g9 k hk
  simp only [oA hC (show k < 100 by omega), Option.bind_some, inb_nI (show k < 6 by omega) (show 6 < 2 ^ 31 by decide), nI_clamp (show k < 2 ^ 31 by omega), inb_nI hp (show 4 < 2 ^ 31 by decide), nI_clamp (show p < 2 ^ 31 by omega), hT, neg_m1 hB.2.2.2.1, c2A hC (show k < 100 by omega), co_eq m hp, pa_eq m _ hp, ib6, cl6, va_up_up, va_up_self, ← g7 p hp, ↓reduceIte]
  by_cases t : o (k + 7) 3 = -1
  · rw [if_pos t, if_pos t]
    by_cases le : o (k + 7) 2 ≤ o 3 p
    · rw [if_pos le, if_pos le]
      simp only [gets_eq _ (nI p) (show k < 100 by omega), co_eq _ hp, Option.bind_some, va_up_up, va_up_self]
      obtain ⟨q, hq, eq⟩ := rng_nI (b := 9) ⟨by have := hB.2.2.1.1; omega, hB.2.2.1.2⟩ (by decide)
      rw [eq] at le ⊢
      obtain ⟨-, hP, z, hz, ez⟩ := hF.sub (by omega) hp (show q < 2 ^ 30 by omega) le
      have hv := g7 p hp
      refine ⟨_, _, _, _, rfl, rfl, fun r hr => by rw [vun _ _ _ (by omega), vun _ _ _ (by omega)], fun j hj => ?_, fun j a _ _ _ => by rw [va_up_self, upd_ne _ _ a, va_up_0of1], Or.inr ⟨rfl, ?_, ?_, by rw [va_up_self]; rfl, by rw [va_up_self]; rfl, by rw [va_up_self]; rfl, ?_, n, d, ?_⟩⟩
      · rw [va_up_1of0, va_up_self]
        grind [upd]
      · rw [upd_self, ez]
        exact nn1 (by omega)
      · grind only [vu2, up2, mcl]
      · refine (hP.mono (show B - q ≤ B + 6 by omega)).cg (fun j _ => ?_)
        grind only [vu2, up2, mcl]
      · refine h0.part ?_ ?_ ?_ ?_ ?_ ?_ ?_ ?_ ?_ ?_
        · grind only [vu2, up2, mcl]
        · grind only [vu2, up2, mcl]
        · grind only [vu2, up2, mcl]
        · grind only [vu2, up2, mcl]
        · grind only [vu2, up2, mcl]
        · intro j _ _ _ _
          grind only [vu2, up2, mcl]
        · unfold RSc at g5 ⊢
          grind only [vu2, up2, mcl]
        · intro j hj
          have := g7 j hj
          grind only [vu2, up2, mcl]
        · refine RCl.one (i := k) (r := m 1) (o := o) g9 (fun j hj hjk => ?_) (fun j hj hjk i hi => ?_) ?_ ?_
          · grind only [vu2, up2, mcl]
          · unfold mcl; grind only [vu2, up2, mcl]
          · rw [va_up_self]
            have h5 : o (k + 7) 5 = -1 := Classical.byContradiction fun z => (hB.2.2.2.2.2 z).1 t
            have hm5 : mcl (m 1) k 5 = 0 := by rw [hC.2.2.2.2.2.2.1, h5]; rfl
            refine entC hC (nn1 (by omega)) ?_ ?_ ?_ ?_ ?_ ?_ <;> grind only [vu2, up2, mcl, CR]
          · rw [va_up_self]
            exact entB hB (rng_ow hp)
        · unfold RBa at g11 ⊢
          have e9 := sum4 (o 3) hp (o 3 p - nI q)
          grind only [vu2, up2]
    · rw [if_neg le, if_neg le]
      exact Ch.ref 7 (o 3 p) (by decide) rfl rfl
  · rw [if_neg t, if_neg t]
    exact Ch.ref 5 (o (k + 7) 3) (by decide) rfl rfl
