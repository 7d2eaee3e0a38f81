/-! means and shares: finitely many quotients -/
theorem fin_mean : ∀ (a : Fin 55) (b : Fin 6), n64b (FP.ddiv (FP.i2d (nI a.val)) (FP.i2d (nI (b.val + 1)))) = true ∧ Op.cmpValue (FP.dcmp (FP.ddiv (FP.i2d (nI a.val)) (FP.i2d (nI (b.val + 1)))) (FP.ddiv (FP.i2d (nI a.val)) (FP.i2d (nI (b.val + 1))))) .l = 0 := by decide +kernel
theorem fin_share : ∀ (a : Fin 7) (b : Fin 6), n32b (FP.fdiv (FP.i2f (nI a.val)) (FP.i2f (nI (b.val + 1)))) = true ∧ n64b (FP.f2d (FP.fdiv (FP.i2f (nI a.val)) (FP.i2f (nI (b.val + 1))))) = true ∧ Op.cmpValue (FP.dcmp (FP.f2d (FP.fdiv (FP.i2f (nI a.val)) (FP.i2f (nI (b.val + 1))))) (FP.f2d (FP.fdiv (FP.i2f (nI a.val)) (FP.i2f (nI (b.val + 1)))))) .l = 0 := by decide +kernel
theorem sumTo_max {f : Nat → Int32} {b : Nat} : ∀ {n : Nat}, (∀ j, j < n → ∃ q, q ≤ b ∧ f j = nI q) → ∃ s, s ≤ b * n ∧ sumTo f n = nI s
  | 0, _ => ⟨0, Nat.le_refl 0, rfl⟩
  | n + 1, h => by
    obtain ⟨s, hs, e⟩ := sumTo_max (f := f) (b := b) (n := n) (fun j hj => h j (by omega))
    obtain ⟨q, hq, e2⟩ := h n (by omega)
    exact ⟨s + q, by rw [Nat.mul_succ]; omega, by rw [sumTo_s, e, e2, nI_add]⟩
theorem g_meanSize : Good_meanSize Inv := by
  intro k x m hk hI
  unfold OK_meanSize D_X9_meanSize D_X10_meanSize
  obtain ⟨⟨⟨n, d, hR⟩, hF⟩, -⟩ := id hI
  have h6 := hR.1
  simp only [ib0, cl0, it0, it1, hR.2.2.1, hR.2.2.2.1, ↓reduceIte]
  by_cases h0 : n = 0
  · subst h0
    rw [if_pos (show nI 0 = 0 from rfl), if_pos (show nI 0 ≤ 0 by decide)]
    exact ⟨1, 0, _, _, Or.inr rfl, rfl, rfl, th _ _, fun z => absurd z one_ne, rd hI 1⟩
  · rw [if_neg (nI_neZ (by omega) h0), if_neg (by rw [nI_le0 (by omega)]; exact h0), sz_eq hR.2.2.1 h6, oc_eq (m := va_up m 0 (upd (m 0) 0 0)) (cs := fun i => x 0 (i + 7)) hR.2.2.2.1 hR.1 hR.2.2.2.2.2.2.2.2.1]
    obtain ⟨s, hs, es⟩ := sumTo_max (f := fun j => x 0 (j + 7) 2) (b := 9) (n := n) (fun j hj => by
      obtain ⟨q, q1, q2, e⟩ := (hR.2.2.2.2.2.2.2.2.1 j hj).2.size
      exact ⟨q, q2, e⟩)
    have e2 : sumTo (fun j => if (0 : Int32) = 0 then x 0 (j + 7) 2 else if (0 : Int32) = 1 then (if x 0 (j + 7) 3 = -1 then 0 else 1) else (if x 0 (j + 7) 5 = -1 then 0 else 1)) n = nI s := by
      rw [← es]
      exact sumTo_cg (fun j _ => if_pos rfl)
    rw [es, e2]
    have hf := fin_mean ⟨s, by omega⟩ ⟨n - 1, by omega⟩
    simp only [show n - 1 + 1 = n by omega] at hf
    simp only [Option.bind_some, hf.1, ↓reduceIte]
    exact ⟨0, _, _, _, Or.inl rfl, rfl, rfl, th _ _, fun _ => ⟨rfl, hf.2⟩, rd hI 0⟩
theorem g_titledShare : Good_titledShare Inv := by
  intro k x m hk hI
  unfold OK_titledShare D_X9_titledShare D_X10_titledShare
  obtain ⟨⟨⟨n, d, hR⟩, hF⟩, -⟩ := id hI
  have h6 := hR.1
  simp only [ib0, cl0, it0, it1, hR.2.2.1, hR.2.2.2.1, ↓reduceIte]
  by_cases h0 : n = 0
  · subst h0
    rw [if_pos (show nI 0 = 0 from rfl), if_pos (show nI 0 ≤ 0 by decide)]
    exact ⟨1, 0, _, _, Or.inr rfl, rfl, rfl, th _ _, fun z => absurd z one_ne, rd hI 1⟩
  · rw [if_neg (nI_neZ (by omega) h0), if_neg (by rw [nI_le0 (by omega)]; exact h0), titled_eq hR.2.2.1 h6, oc_eq (m := va_up m 0 (upd (m 0) 0 0)) (cs := fun i => x 0 (i + 7)) hR.2.2.2.1 hR.1 hR.2.2.2.2.2.2.2.2.1]
    obtain ⟨s, hs, es⟩ := sumTo_cnt (f := fun j => if x 0 (j + 7) 3 = -1 then (0 : Int32) else 1) (n := n) (fun j _ => by split <;> simp)
    have e2 : sumTo (fun j => if (1 : Int32) = 0 then x 0 (j + 7) 2 else if (1 : Int32) = 1 then (if x 0 (j + 7) 3 = -1 then 0 else 1) else (if x 0 (j + 7) 5 = -1 then 0 else 1)) n = nI s := by
      rw [← es]
      exact sumTo_cg (fun j _ => by rw [if_neg one_ne, if_pos rfl])
    rw [es, e2]
    have hf := fin_share ⟨s, by omega⟩ ⟨n - 1, by omega⟩
    simp only [show n - 1 + 1 = n by omega] at hf
    simp only [Option.bind_some, hf.1, ↓reduceIte]
    exact ⟨0, _, _, _, Or.inl rfl, rfl, rfl, th _ _, fun _ => ⟨rfl, n64_iff.mp hf.2.1, hf.2.2⟩, rd hI 0⟩
