/-! dawns: the reference -/
theorem lossC {c e e' : Nat → Int32} (hC : CR c e) (h0 : e' 0 = e 0) (h1 : e' 1 = e 1) (h2 : e' 2 = e 2) (h3 : e' 3 = 0) (h5 : e' 5 = 0) : CR (D_X1_loseTitle c) e' :=
  ⟨hC.1.trans h0.symm, hC.2.1.trans h1.symm, hC.2.2.1.trans h2.symm, h3.trans (by decide : (0 : Int32) = -1 + 1), fun _ => rfl, fun z => absurd rfl z, h5.trans (by decide : (0 : Int32) = -1 + 1), fun z => absurd rfl z⟩
theorem mcl5 {r : Nat → Int32} {k j : Nat} {a b c d e : Int32} (hj : j < 7) : mcl (upd (upd (upd (upd (upd r (19 + 7 * k + 3) a) (19 + 7 * k + 4) b) (19 + 7 * k + 5) c) (19 + 7 * k + 6) d) 2 e) k j = upd (upd (upd (upd (mcl r k) 3 a) 4 b) 5 c) 6 d j := by
  grind only [up2, mcl]
theorem mcl7 {r : Nat → Int32} {p k j : Nat} {a b c d : Int32} (hp : p < 4) (hj : j < 7) : mcl (upd (upd (upd (upd r (19 + 7 * k + 3) a) (19 + 7 * k + 4) b) (9 + p) c) 7 d) k j = upd (upd (mcl r k) 3 a) 4 b j := by
  grind only [up2, mcl]
theorem payP_s (f w : Nat → Int32) (k : Nat) : payP f w (k + 1) = if w k = -1 then payP f w k else upd (payP f w k) (w k).toNatClampNeg (payP f w k (w k).toNatClampNeg + 1) := rfl
theorem mlapse {m : Nat → Nat → Int32} {n : Nat} {cs : Nat → Nat → Int32} (hn : m 1 0 = nI n) (h6 : n ≤ 6) (hc : ∀ i, i < n → CR (cs i) (mcl (m 1) i) ∧ CB (cs i)) :
    ∃ s : Nat → Nat → Int32, L_X10_dawns_4 200 m 0 m = L_X10_dawns_62 200 m (nI n) s 0 0 s ∧ (∀ r, r ≠ 1 → s r = m r) ∧ (∀ z, z ≠ 2 → ¬ (19 ≤ z ∧ z < 19 + 7 * n) → s 1 z = m 1 z) ∧ s 1 2 = m 1 2 + sumTo (fun j => lpf (cs j)) n ∧ ∀ i, i < n → CR (lps (cs i)) (mcl (s 1) i) := by
  obtain ⟨s', e, h1, h2, h3, h4⟩ := loop_up (L := fun q i (s : Nat → Nat → Int32) => L_X10_dawns_4 q m i s) n
    (fun k s => (∀ r, r ≠ 1 → s r = m r) ∧ (∀ z, z ≠ 2 → ¬ (19 ≤ z ∧ z < 19 + 7 * k) → s 1 z = m 1 z) ∧ s 1 2 = m 1 2 + sumTo (fun j => lpf (cs j)) k ∧ ∀ i, i < k → CR (lps (cs i)) (mcl (s 1) i))
    (fun q k s hk hR => by
      obtain ⟨h1, h2, h3, h4⟩ := hR
      obtain ⟨hr, hb⟩ := hc k hk
      have hr' : CR (cs k) (mcl (s 1) k) := hr.cg (fun _ _ => rfl) (fun j hj => h2 _ (by omega) (by omega))
      have hz : s 1 0 = nI n := (h2 0 (by omega) (by omega)).trans hn
      by_cases ho : D_X1_hasTitleForOtherShape (cs k) = 0
      · refine ⟨s, ?_, h1, fun z a b => h2 z a (by omega), ?_, fun i hi => ?_⟩
        · simp only [L_X10_dawns_4, ib0, cl0, hz, nI_ge hk (show n < 2 ^ 31 by omega), iO hr' hb (show k < 100 by omega), Option.bind_some, ho, ↓reduceIte, nI_succ]
        · rw [sumTo_s, h3]
          simp only [lpf, if_pos ho, Int32.add_zero]
        · by_cases hik : i = k
          · subst hik
            unfold lps; rw [if_pos ho]; exact hr'
          · exact h4 i (by omega)
      · refine ⟨va_up s 1 (upd (upd (upd (upd (upd (s 1) (19 + 7 * k + 3) 0) (19 + 7 * k + 4) 0) (19 + 7 * k + 5) 0) (19 + 7 * k + 6) 0) 2 (s 1 2 + 1)), ?_, fun r hr => by rw [vun _ _ _ hr]; exact h1 r hr, fun z a b => ?_, ?_, fun i hi => ?_⟩
        · simp only [L_X10_dawns_4, ib0, cl0, hz, nI_ge hk (show n < 2 ^ 31 by omega), iO hr' hb (show k < 100 by omega), Option.bind_some, ho, ↓reduceIte]
          rw [show D_X10_set s (nI k) 3 0 = _ from ms_eq s (j := 3) 0 (by omega)]
          simp only [Option.bind_some]
          rw [show D_X10_set _ (nI k) 4 0 = _ from ms_eq _ (j := 4) 0 (by omega)]
          simp only [Option.bind_some, frees_eq _ (show k < 100 by omega), ib2, cl2, ↓reduceIte, va_up_up, va_up_self, nI_succ]
          rw [upd_ne _ _ (show 2 ≠ 19 + 7 * k + 6 by omega), upd_ne _ _ (show 2 ≠ 19 + 7 * k + 5 by omega), upd_ne _ _ (show 2 ≠ 19 + 7 * k + 4 by omega), upd_ne _ _ (show 2 ≠ 19 + 7 * k + 3 by omega)]
        · rw [va_up_self, upd_ne _ _ a, upd_ne _ _ (by omega), upd_ne _ _ (by omega), upd_ne _ _ (by omega), upd_ne _ _ (by omega)]; exact h2 z a (by omega)
        · rw [va_up_self, upd_self, sumTo_s, h3]
          simp only [lpf, if_neg ho, Int32.add_assoc]
        · rw [va_up_self]
          by_cases hik : i = k
          · subst hik
            unfold lps; rw [if_neg ho]
            refine lossC hr' ?_ ?_ ?_ ?_ ?_ <;> (rw [mcl5 (by omega)]; rfl)
          · refine (h4 i (by omega)).cg (fun _ _ => rfl) (fun j hj => ?_)
            unfold mcl
            rw [upd_ne _ _ (by omega), upd_ne _ _ (by omega), upd_ne _ _ (by omega), upd_ne _ _ (by omega), upd_ne _ _ (by omega)]) 200 m (by omega) ⟨fun _ _ => rfl, fun _ _ _ => rfl, by simp only [sumTo, Int32.add_zero], fun i hi => absurd hi (Nat.not_lt_zero _)⟩
  refine ⟨s', ?_, h1, h2, h3, h4⟩
  have hz : s' 1 0 = nI n := (h2 0 (by omega) (by omega)).trans hn
  show L_X10_dawns_4 200 m (nI 0) m = _
  refine Eq.trans e ?_
  obtain ⟨z, hz9⟩ : ∃ z, 200 - n = z + 1 := ⟨199 - n, by omega⟩
  rw [hz9]
  simp only [L_X10_dawns_4, ib0, cl0, hz, nI_le (Nat.le_refl n) (show n < 2 ^ 31 by omega), ↓reduceIte]
theorem ownAt {m : Nat → Nat → Int32} {k : Nat} (hk : k < 100) {x : Int32} (h : mcl (m 1) k 3 = x + 1) : D_X10_ownerAt m (nI k) = some x := by
  unfold D_X10_ownerAt
  rw [show D_X10_c m (nI k) 3 = some (mcl (m 1) k 3) from mc_eq m (j := 3) (by omega), h]
  show some (x + 1 - 1) = _
  rw [add1_sub1]
theorem m9 {p : Nat} (hp : p < 4) : inb (9 + nI p) 1152 = true ∧ ((9 : Int32) + nI p).toNatClampNeg = 9 + p := by
  rw [show (9 : Int32) = nI 9 from rfl, nI_add]
  exact ⟨inb_nI (by omega) (by decide), nI_clamp (by omega)⟩
theorem m13 {a : Nat} (ha : a < 6) : inb (13 + nI a) 1152 = true ∧ ((13 : Int32) + nI a).toNatClampNeg = 13 + a := by
  rw [show (13 : Int32) = nI 13 from rfl, nI_add]
  exact ⟨inb_nI (by omega) (by decide), nI_clamp (by omega)⟩
theorem mclaim {m m0 s4 : Nat → Nat → Int32} {n : Nat} {cs : Nat → Nat → Int32} {f V : Nat → Int32} (i4 : Int32) (hn : m 1 0 = nI n) (h6 : n ≤ 6) (hc : ∀ i, i < n → CR (cs i) (mcl (m 1) i) ∧ CB (cs i)) (hV : ∀ i, i < n → m 1 (13 + (cs i 0).toNatClampNeg) = V i + 1 ∧ rng (V i) (-1) 3) (hf : ∀ j, j < 4 → m 1 (9 + j) = f j) :
    ∃ s : Nat → Nat → Int32, L_X10_dawns_62 200 m0 i4 s4 0 0 m = (D_X10_records (va_up s 1 (upd (upd (s 1) 3 (s 1 3 + sumTo (fun j => clf (cs j) (V j)) n)) 1 (s 1 1 + 1)))).bind (fun o => some (sumTo (fun j => clf (cs j) (V j)) n, o)) ∧ (∀ r, r ≠ 1 → s r = m r) ∧
      (∀ z, z ≠ 7 → ¬ (9 ≤ z ∧ z < 13) → ¬ (19 ≤ z ∧ z < 19 + 7 * n) → s 1 z = m 1 z) ∧ s 1 7 = m 1 7 + sumTo (fun j => pyf (pyw (clm (cs j) (V j)) (V j))) n ∧ (∀ j, j < 4 → s 1 (9 + j) = payP f (fun j => pyw (clm (cs j) (V j)) (V j)) n j) ∧ ∀ i, i < n → CR (clm (cs i) (V i)) (mcl (s 1) i) := by
  obtain ⟨s', e, h0, h1, h2, h3, h4, h5⟩ := loop_up (L := fun q i (s : Int32 × (Nat → Nat → Int32)) => L_X10_dawns_62 q m0 i4 s4 i s.1 s.2) n
    (fun k s => s.1 = sumTo (fun j => clf (cs j) (V j)) k ∧ (∀ r, r ≠ 1 → s.2 r = m r) ∧ (∀ z, z ≠ 7 → ¬ (9 ≤ z ∧ z < 13) → ¬ (19 ≤ z ∧ z < 19 + 7 * k) → s.2 1 z = m 1 z) ∧ s.2 1 7 = m 1 7 + sumTo (fun j => pyf (pyw (clm (cs j) (V j)) (V j))) k ∧ (∀ j, j < 4 → s.2 1 (9 + j) = payP f (fun j => pyw (clm (cs j) (V j)) (V j)) k j) ∧ ∀ i, i < k → CR (clm (cs i) (V i)) (mcl (s.2 1) i))
    (fun q k s hk hR => by
      obtain ⟨h0, h1, h2, h3, h4, h5⟩ := hR
      obtain ⟨hr, hb⟩ := hc k hk
      obtain ⟨hv1, hv2⟩ := hV k hk
      obtain ⟨cnt, t⟩ := s
      simp only at h0 h1 h2 h3 h4 h5 ⊢
      have hr' : CR (cs k) (mcl (t 1) k) := hr.cg (fun _ _ => rfl) (fun j hj => h2 _ (by omega) (by omega) (by omega))
      have hz : t 1 0 = nI n := (h2 0 (by omega) (by omega) (by omega)).trans hn
      obtain ⟨a, ha, ea⟩ := rng_nI (b := 5) hb.1 (by decide)
      rw [ea, nI_clamp (by omega)] at hv1
      have hva : t 1 (13 + a) = V k + 1 := (h2 _ (by omega) (by omega) (by omega)).trans hv1
      have c0 := c0A hr' (show k < 100 by omega)
      have cO := oA hr' (show k < 100 by omega)
      have base : ∀ (x : Nat), x < k → CR (clm (cs x) (V x)) (mcl (t 1) x) := h5
      by_cases h30 : cs k 3 = -1
      · have hno : ¬ (0 : Int32) ≤ cs k 3 := fun z => (pos_m1 hb.2.2.2.1).mp z h30
        by_cases hvk : V k = -1
        · have hcl : clm (cs k) (V k) = cs k := by unfold clm; rw [if_pos h30, if_pos hvk]
          have hw : pyw (clm (cs k) (V k)) (V k) = -1 := by rw [hcl]; unfold pyw; rw [if_pos h30]
          refine ⟨(cnt, t), ?_, ?_, h1, fun z a b c => h2 z a b (by omega), ?_, fun j hj => ?_, fun i hi => ?_⟩ <;> try dsimp only
          · simp only [L_X10_dawns_62, ib0, cl0, hz, nI_ge hk (show n < 2 ^ 31 by omega), c0, cO, ea, (m13 (show a < 6 by omega)).1, (m13 (show a < 6 by omega)).2, hva, add1_sub1, neg_m1 hv2, Option.bind_some, if_pos hvk, if_neg hno, ↓reduceIte, nI_succ]
          · rw [sumTo_s, ← h0]
            simp only [clf, if_pos h30, if_pos hvk, Int32.add_zero]
          · rw [sumTo_s, h3]
            simp only [hw, pyf, ↓reduceIte, Int32.add_zero]
          · rw [payP_s, if_pos hw]; exact h4 j hj
          · by_cases hik : i = k
            · subst hik; rw [hcl]; exact hr'
            · exact h5 i (by omega)
        · obtain ⟨p, hp, ep⟩ : ∃ p, p < 4 ∧ V k = nI p := by
            rcases rng_m (b := 3) hv2 (by decide) with e | ⟨p, hp, e⟩
            · exact absurd e hvk
            · exact ⟨p, by omega, e⟩
          have hne : ¬ nI p = -1 := nn1 (by omega)
          have hcl : clm (cs k) (V k) = D_X1_entitle (cs k) (nI p) := by unfold clm; rw [if_pos h30, if_neg hvk, ep]
          have hw : pyw (clm (cs k) (V k)) (V k) = nI p := by
            rw [hcl]; unfold pyw; rw [en3, if_neg hne, ep, if_pos rfl]
          have hl5 : cs k 5 = -1 := Classical.byContradiction fun z => (hb.2.2.2.2.2 z).1 h30
          have hm5 : mcl (t 1) k 5 = 0 := by rw [hr'.2.2.2.2.2.2.1, hl5]; rfl
          refine ⟨(cnt + 1, va_up t 1 (upd (upd (upd (upd (t 1) (19 + 7 * k + 3) (nI p + 1)) (19 + 7 * k + 4) (mcl (t 1) k 1)) (9 + p) (t 1 (9 + p) + 1)) 7 (t 1 7 + 1))), ?_, ?_, fun r hr => ?_, fun z a b c => ?_, ?_, fun j hj => ?_, fun i hi => ?_⟩ <;> try dsimp only
          · have g := gets_eq t (nI p) (show k < 100 by omega)
            have o2 : D_X10_ownerAt (va_up t 1 (upd (upd (t 1) (19 + 7 * k + 3) (nI p + 1)) (19 + 7 * k + 4) (mcl (t 1) k 1))) (nI k) = some (nI p) := ownAt (by omega) (by
              rw [va_up_self]; unfold mcl; rw [upd_ne _ _ (by omega), upd_self])
            have hnl : ¬ nI p = -1 := hne
            simp only [L_X10_dawns_62, ib0, cl0, hz, nI_ge hk (show n < 2 ^ 31 by omega), c0, cO, ea, (m13 (show a < 6 by omega)).1, (m13 (show a < 6 by omega)).2, hva, add1_sub1, neg_m1 hv2, Option.bind_some, if_neg hvk, if_neg hno, ↓reduceIte, nI_succ, ep, g, o2, (m9 hp).1, (m9 hp).2, ib7, cl7, va_up_self, va_up_up, hne, neg_m1 (rng_ow hp)]
            rw [upd_ne _ _ (show 9 + p ≠ 19 + 7 * k + 4 by omega), upd_ne _ _ (show 9 + p ≠ 19 + 7 * k + 3 by omega), upd_ne _ _ (show 7 ≠ 9 + p by omega), upd_ne _ _ (show 7 ≠ 19 + 7 * k + 4 by omega), upd_ne _ _ (show 7 ≠ 19 + 7 * k + 3 by omega)]
          · rw [sumTo_s, ← h0]
            simp only [clf, if_pos h30, if_neg hvk]
          · rw [vun _ _ _ hr]; exact h1 r hr
          · rw [va_up_self, upd_ne _ _ a, upd_ne _ _ (by omega), upd_ne _ _ (by omega), upd_ne _ _ (by omega)]; exact h2 z a b (by omega)
          · rw [va_up_self, upd_self, sumTo_s, h3]
            simp only [hw, pyf, if_neg hne, Int32.add_assoc]
          · rw [payP_s]
            have h4p := h4 p hp
            have h4j := h4 j hj
            simp only [hw, if_neg hne, va_up_self, nI_clamp (show p < 2 ^ 31 by omega)]
            rw [upd_ne _ _ (by omega)]
            by_cases hjp : j = p
            · subst hjp; rw [upd_self, upd_self, h4j]
            · rw [upd_ne _ _ (by omega), upd_ne _ _ (by omega), upd_ne _ _ (by omega), upd_ne _ _ hjp, h4j]
          · rw [va_up_self]
            by_cases hik : i = k
            · subst hik; rw [hcl]
              refine (entC (e' := upd (upd (mcl (t 1) i) 3 (nI p + 1)) 4 (mcl (t 1) i 1)) hr' hne rfl rfl rfl rfl rfl hm5).cg (fun _ _ => rfl) (fun j hj => mcl7 hp hj)
            · refine (h5 i (by omega)).cg (fun _ _ => rfl) (fun j hj => ?_)
              unfold mcl
              rw [upd_ne _ _ (by omega), upd_ne _ _ (by omega), upd_ne _ _ (by omega), upd_ne _ _ (by omega)]
      · have hyes : (0 : Int32) ≤ cs k 3 := (pos_m1 hb.2.2.2.1).mpr h30
        have hcl : clm (cs k) (V k) = cs k := by unfold clm; rw [if_neg h30]
        by_cases hpay : ¬ V k = -1 ∧ cs k 3 = V k
        · obtain ⟨hvk, heq⟩ := hpay
          obtain ⟨p, hp, ep⟩ : ∃ p, p < 4 ∧ V k = nI p := by
            rcases rng_m (b := 3) hv2 (by decide) with e | ⟨p, hp, e⟩
            · exact absurd e hvk
            · exact ⟨p, by omega, e⟩
          have hne : ¬ nI p = -1 := nn1 (by omega)
          have hw : pyw (clm (cs k) (V k)) (V k) = nI p := by rw [hcl]; unfold pyw; rw [if_neg h30, if_pos heq, ep]
          refine ⟨(cnt, va_up t 1 (upd (upd (t 1) (9 + p) (t 1 (9 + p) + 1)) 7 (t 1 7 + 1))), ?_, ?_, fun r hr => ?_, fun z a b c => ?_, ?_, fun j hj => ?_, fun i hi => ?_⟩ <;> try dsimp only
          · rw [heq] at cO
            have hy2 : (0 : Int32) ≤ V k := by rw [← heq]; exact hyes
            simp only [L_X10_dawns_62, ib0, cl0, hz, nI_ge hk (show n < 2 ^ 31 by omega), c0, cO, ea, (m13 (show a < 6 by omega)).1, (m13 (show a < 6 by omega)).2, hva, add1_sub1, neg_m1 hv2, Option.bind_some, if_neg hvk, if_pos hy2, ↓reduceIte, nI_succ]
            simp only [ep, (m9 hp).1, (m9 hp).2, ib7, cl7, va_up_self, va_up_up, ↓reduceIte]
            rw [upd_ne _ _ (show 7 ≠ 9 + p by omega)]
          · rw [sumTo_s, ← h0]
            simp only [clf, if_neg h30, Int32.add_zero]
          · rw [vun _ _ _ hr]; exact h1 r hr
          · rw [va_up_self, upd_ne _ _ a, upd_ne _ _ (by omega)]; exact h2 z a b (by omega)
          · rw [va_up_self, upd_self, sumTo_s, h3]
            simp only [hw, pyf, if_neg hne, Int32.add_assoc]
          · rw [payP_s]
            have h4j := h4 j hj
            simp only [hw, if_neg hne, va_up_self, nI_clamp (show p < 2 ^ 31 by omega)]
            rw [upd_ne _ _ (by omega)]
            by_cases hjp : j = p
            · subst hjp; rw [upd_self, upd_self, h4j]
            · rw [upd_ne _ _ (by omega), upd_ne _ _ hjp, h4j]
          · rw [va_up_self]
            refine CR.cg (c := clm (cs i) (V i)) (d := mcl (t 1) i) ?_ (fun _ _ => rfl) (fun j hj => ?_)
            · by_cases hik : i = k
              · subst hik; rw [hcl]; exact hr'
              · exact h5 i (by omega)
            · unfold mcl
              rw [upd_ne _ _ (by omega), upd_ne _ _ (by omega)]
        · have hw : pyw (clm (cs k) (V k)) (V k) = -1 := by
            rw [hcl]; unfold pyw; rw [if_neg h30]
            by_cases hh : cs k 3 = V k
            · rw [if_pos hh]
              exact Classical.byContradiction fun z => hpay ⟨z, hh⟩
            · rw [if_neg hh]
          refine ⟨(cnt, t), ?_, ?_, h1, fun z a b c => h2 z a b (by omega), ?_, fun j hj => ?_, fun i hi => ?_⟩ <;> try dsimp only
          · simp only [L_X10_dawns_62, ib0, cl0, hz, nI_ge hk (show n < 2 ^ 31 by omega), c0, cO, ea, (m13 (show a < 6 by omega)).1, (m13 (show a < 6 by omega)).2, hva, add1_sub1, neg_m1 hv2, Option.bind_some, if_pos hyes, ↓reduceIte, nI_succ]
            by_cases hvk : V k = -1
            · rw [if_pos hvk]
            · rw [if_neg hvk, if_neg (fun z => hpay ⟨hvk, z⟩)]
          · rw [sumTo_s, ← h0]
            simp only [clf, if_neg h30, Int32.add_zero]
          · rw [sumTo_s, h3]
            simp only [hw, pyf, ↓reduceIte, Int32.add_zero]
          · rw [payP_s, if_pos hw]; exact h4 j hj
          · by_cases hik : i = k
            · subst hik; rw [hcl]; exact hr'
            · exact h5 i (by omega)) 200 (0, m) (by omega) ⟨rfl, fun _ _ => rfl, fun _ _ _ _ => rfl, by simp only [sumTo, Int32.add_zero], hf, fun i hi => absurd hi (Nat.not_lt_zero _)⟩
  refine ⟨s'.2, ?_, h1, h2, h3, h4, h5⟩
  have hz : s'.2 1 0 = nI n := (h2 0 (by omega) (by omega) (by omega)).trans hn
  show L_X10_dawns_62 200 m0 i4 s4 (nI 0) 0 m = _
  refine Eq.trans e ?_
  obtain ⟨z, hz9⟩ : ∃ z, 200 - n = z + 1 := ⟨199 - n, by omega⟩
  rw [hz9]
  simp only [L_X10_dawns_62, ib0, cl0, ib3, cl3, ib1, cl1, hz, nI_le (Nat.le_refl n) (show n < 2 ^ 31 by omega), ↓reduceIte, h0, upd_ne _ _ (show 1 ≠ 3 by omega)]
