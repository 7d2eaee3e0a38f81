/-! hail, both ways -/
theorem hl0 (c : Nat → Int32) (p : Int32) : hl c p 0 = c 0 := by
  unfold hl
  split
  · split <;> rfl
  · rfl
theorem fl_s (keep : Nat → Bool) (n t : Nat) : fl keep n (t + 1) = if keep (n - (t + 1)) then (n - (t + 1)) :: fl keep n t else fl keep n t := rfl
theorem sub_len {a b : Nat} (h : b ≤ a) : nI a - nI b = nI (a - b) := nI_sub h
theorem hentC {c e : Nat → Int32} (hC : CR c e) {q : Nat} (hq : q < 4) (hc : c 5 = nI q) {e' : Nat → Int32} (h0 : e' 0 = e 0) (h1 : e' 1 = e 1) (h2 : e' 2 = e 2) (h3 : e' 3 = nI q + 1) (h4 : e' 4 = e 1) (h5 : e' 5 = 0) : CR (D_X1_entitle c (c 5)) e' := by
  rw [hc]
  exact entC hC (nn1 (by omega)) h0 h1 h2 h3 h4 h5
theorem mcl4 {r : Nat → Int32} {k j : Nat} {a b : Int32} (hj : j < 7) : mcl (upd (upd (upd (upd r (19 + 7 * k + 3) a) (19 + 7 * k + 4) b) (19 + 7 * k + 5) 0) (19 + 7 * k + 6) 0) k j = upd (upd (upd (upd (mcl r k) 3 a) 4 b) 5 0) 6 0 j := by
  grind only [up2, mcl]
theorem nI_m1x (k : Nat) : nI (k + 1) - 1 = nI k := by rw [nI_succ, add1_sub1]
theorem CR2 {c e : Nat → Int32} (h : CR c e) (x : Int32) : CR (upd c 2 x) (upd e 2 x) := ⟨h.1, h.2.1, rfl, h.2.2.2⟩
theorem mcl2 {r : Nat → Int32} {k j : Nat} {a : Int32} (hj : j < 7) : mcl (upd r (19 + 7 * k + 2) a) k j = upd (mcl r k) 2 a j := by
  grind only [up2, mcl]
theorem nI_le0 {a : Nat} (ha : a < 2 ^ 31) : nI a ≤ 0 ↔ a = 0 := by
  rw [le_toInt, toInt_0, nI_toInt ha]; omega
theorem nI_predx {a : Nat} (h : 1 ≤ a) : nI a - 1 = nI (a - 1) := by
  have e := nI_succ (a - 1)
  rw [show a - 1 + 1 = a by omega] at e
  rw [e, add1_sub1]
theorem step_c {x y z w : Int32} (h : x + (y + z) = w) (hz : z = 0) : x + y = w := by
  rw [hz, Int32.add_zero] at h; exact h
/-- the reference's loop over the clouds, from the last -/
theorem mhail {m : Nat → Nat → Int32} {n : Nat} {cs : Nat → Nat → Int32} (p : Int32) (hn : m 1 0 = nI n) (h6 : n ≤ 6) (hc : ∀ i, i < n → CR (cs i) (mcl (m 1) i) ∧ CB (cs i)) (keep : Nat → Bool) (hk : ∀ i, i < n → (keep i = true ↔ ¬ hl (cs i) p 2 ≤ 0)) (h04 : m 0 4 = 0) :
    ∃ s : Nat → Nat → Int32, L_X10_hails_37 200 m p (nI n - 1) m = some (1, va_up s 1 (upd (s 1) 4 (s 1 4 + s 0 4))) ∧ (∀ r, 2 ≤ r → s r = m r) ∧ (∀ j, j ≠ 4 → s 0 j = m 0 j) ∧ s 0 4 = sumTo (fun j => hlf (cs j) p) n ∧ (∀ z, z ≠ 0 → z ≠ 5 → ¬ (19 ≤ z ∧ z < 19 + 7 * n) → s 1 z = m 1 z) ∧ s 1 0 = nI (fl keep n n).length ∧ s 1 5 = m 1 5 + nI (n - (fl keep n n).length) ∧
      ∀ j i, (fl keep n n)[j]? = some i → CR (hl (cs i) p) (mcl (s 1) j) := by
  obtain ⟨s, e, h1, h2, h3, h4, h5, h7, h8, h9⟩ := loop_dn (L := fun q x (s : Nat → Nat → Int32) => L_X10_hails_37 q m p (x - 1) s) n nI
    (fun k s => (∀ r, 2 ≤ r → s r = m r) ∧ (∀ j, j ≠ 4 → s 0 j = m 0 j) ∧ s 0 4 + sumTo (fun j => hlf (cs j) p) k = sumTo (fun j => hlf (cs j) p) n ∧ (∀ z, z ≠ 0 → z ≠ 5 → ¬ (19 ≤ z ∧ z < 19 + 7 * n) → s 1 z = m 1 z) ∧ (∀ z, 19 ≤ z → z < 19 + 7 * k → s 1 z = m 1 z) ∧
      s 1 0 = nI (k + (fl keep n (n - k)).length) ∧ s 1 5 = m 1 5 + nI (n - k - (fl keep n (n - k)).length) ∧ ∀ j i, (fl keep n (n - k))[j]? = some i → CR (hl (cs i) p) (mcl (s 1) (k + j)))
    (fun q k s hkn hR => by
      obtain ⟨h1, h2, h3, h4, h5, h7, h8, h9⟩ := hR
      have hfl := fl_s keep n (n - (k + 1))
      rw [show n - (k + 1) + 1 = n - k by omega, show n - (n - k) = k by omega] at hfl
      have hlen := fl_len keep n (n - (k + 1))
      generalize fl keep n (n - (k + 1)) = ℓ at h7 h8 h9 hfl hlen
      obtain ⟨hr, hb⟩ := hc k hkn
      have hr' : CR (cs k) (mcl (s 1) k) := hr.cg (fun _ _ => rfl) (fun j hj => h5 _ (by omega) (by omega))
      obtain ⟨sz, sz1, sz9, esz⟩ := hb.size
      have c0 := c0A hr' (show k < 100 by omega)
      have c2 := c2A hr' (show k < 100 by omega)
      have cl := lA hr' (show k < 100 by omega)
      have e1 : nI (k + 1) - 1 = nI k := nI_m1x k
      have e2 : nI k + -1 = nI k - 1 := by grind only
      have hnl : ¬ nI k < 0 := by rw [lt_toInt, toInt_0, nI_toInt (by omega)]; omega
      rw [sumTo_s] at h3
      have keepIt : keep k = true → ∀ (s' : Nat → Nat → Int32), (∀ r, 2 ≤ r → s' r = s r) → (∀ j, j ≠ 4 → s' 0 j = s 0 j) → s' 0 4 = s 0 4 + hlf (cs k) p → (∀ z, ¬ (19 + 7 * k ≤ z ∧ z < 26 + 7 * k) → s' 1 z = s 1 z) → CR (hl (cs k) p) (mcl (s' 1) k) →
          ((∀ r, 2 ≤ r → s' r = m r) ∧ (∀ j, j ≠ 4 → s' 0 j = m 0 j) ∧ s' 0 4 + sumTo (fun j => hlf (cs j) p) k = sumTo (fun j => hlf (cs j) p) n ∧ (∀ z, z ≠ 0 → z ≠ 5 → ¬ (19 ≤ z ∧ z < 19 + 7 * n) → s' 1 z = m 1 z) ∧ (∀ z, 19 ≤ z → z < 19 + 7 * k → s' 1 z = m 1 z) ∧
      s' 1 0 = nI (k + (fl keep n (n - k)).length) ∧ s' 1 5 = m 1 5 + nI (n - k - (fl keep n (n - k)).length) ∧ ∀ j i, (fl keep n (n - k))[j]? = some i → CR (hl (cs i) p) (mcl (s' 1) (k + j))) := by
        intro hkk s' a1 a2 a3 a4 a5
        rw [hfl, if_pos hkk]
        refine ⟨fun r hr => (a1 r hr).trans (h1 r hr), fun j hj => (a2 j hj).trans (h2 j hj), ?_, fun z a b c => (a4 z (by omega)).trans (h4 z a b c), fun z a b => (a4 z (by omega)).trans (h5 z a (by omega)), ?_, ?_, fun j i hji => ?_⟩
        · rw [a3, ← h3]; grind only
        · rw [a4 0 (by omega), h7, List.length_cons]; congr 1; omega
        · rw [a4 5 (by omega), h8, List.length_cons]; congr 2; omega
        · cases j with
          | zero =>
            have hik : k = i := by simpa using hji
            subst hik
            exact a5
          | succ j =>
            rw [List.getElem?_cons_succ] at hji
            refine (h9 j i hji).cg (fun _ _ => rfl) (fun f hf => ?_)
            unfold mcl
            rw [a4 _ (by omega), show 19 + 7 * (k + (j + 1)) + f = 19 + 7 * (k + 1 + j) + f by omega]
      by_cases h0 : cs k 0 = p
      · by_cases hl5 : cs k 5 = -1
        · have ehl : hl (cs k) p = upd (cs k) 2 (nI (sz - 1)) := by unfold hl; rw [if_pos h0, if_pos hl5, esz, nI_predx sz1]
          have ehf : hlf (cs k) p = 0 := by unfold hlf; rw [if_pos h0, if_pos hl5]
          have hlt : (-1 : Int32) < 0 := m1_lt
          have ms := ms_eq s (k := k) (j := 2) (nI (sz - 1)) (by omega)
          have c2b : D_X10_c (va_up s 1 (upd (s 1) (19 + 7 * k + 2) (nI (sz - 1)))) (nI k) 2 = some (nI (sz - 1)) := by
            rw [show D_X10_c _ (nI k) 2 = _ from mc_eq _ (j := 2) (by omega)]
            unfold mcl
            rw [va_up_self, upd_self]
          have body : ∀ A B : Option (Int32 × (Nat → Nat → Int32)), True := fun _ _ => trivial
          by_cases hs1 : sz = 1
          · have hkk : ¬ keep k = true := fun z => (hk k hkn).mp z (by rw [ehl, upd_self, hs1]; decide)
            obtain ⟨u, g0, g1, g2, g3, g4, g5⟩ := mgoes (m := va_up s 1 (upd (s 1) (19 + 7 * k + 2) (nI (sz - 1)))) (N := k + 1 + ℓ.length) (k := k) (by rw [va_up_self, upd_ne _ _ (by omega)]; exact h7) (by omega) (by omega)
            refine ⟨u, ?_, ?_⟩
            · simp only [L_X10_hails_37, e1, hnl, c0, Option.bind_some, if_pos h0, cl, hl5, hlt, c2, esz, nI_predx sz1, ↓reduceIte]
              rw [show D_X10_set s (nI k) 2 (nI (sz - 1)) = _ from ms]
              have hz0 : nI (sz - 1) = 0 := by rw [hs1]; rfl
              simp only [Option.bind_some, c2b, if_pos hz0, g0, e2]
            · rw [hfl, if_neg hkk]
              refine ⟨fun r hr => by rw [g1 r (by omega), vun _ _ _ (by omega)]; exact h1 r hr, fun j hj => by rw [g1 0 (by omega), vun _ _ _ (by omega)]; exact h2 j hj, ?_, fun z a b c => ?_, fun z a b => ?_, ?_, ?_, fun j i hji => ?_⟩
              · rw [g1 0 (by omega), vun _ _ _ (by omega)]; exact step_c h3 ehf
              · rw [g4 z a b (by omega), va_up_self, upd_ne _ _ (by omega)]; exact h4 z a b c
              · rw [g4 z (by omega) (by omega) (by omega), va_up_self, upd_ne _ _ (by omega)]; exact h5 z a (by omega)
              · rw [g2]; congr 1; omega
              · rw [g3, va_up_self, upd_ne _ _ (by omega), h8, Int32.add_assoc, ← nI_succ]; congr 2; omega
              · have hj : j < ℓ.length := (List.getElem?_eq_some_iff.mp hji).1
                refine (h9 j i hji).cg (fun _ _ => rfl) (fun f hf => ?_)
                rw [g5 (k + j) (by omega) (by omega) f hf, va_up_self]
                unfold mcl
                rw [upd_ne _ _ (by omega), show 19 + 7 * (k + j + 1) + f = 19 + 7 * (k + 1 + j) + f by omega]
          · have hkk : keep k = true := (hk k hkn).mpr (by rw [ehl, upd_self, nI_le0 (by omega)]; omega)
            have hne : ¬ nI (sz - 1) = 0 := fun z => by have := nI_eqI (b := 0) (by omega) (by omega) z; omega
            refine ⟨va_up s 1 (upd (s 1) (19 + 7 * k + 2) (nI (sz - 1))), ?_, keepIt hkk _ (fun r hr => by rw [vun _ _ _ (by omega)]) (fun j hj => by rw [vun _ _ _ (by omega)]) (by rw [vun _ _ _ (by omega), ehf, Int32.add_zero]) (fun z hz => by rw [va_up_self, upd_ne _ _ (by omega)]) ?_⟩
            · simp only [L_X10_hails_37, e1, hnl, c0, Option.bind_some, if_pos h0, cl, hl5, hlt, c2, esz, nI_predx sz1, ↓reduceIte]
              rw [show D_X10_set s (nI k) 2 (nI (sz - 1)) = _ from ms]
              simp only [Option.bind_some, c2b, if_neg hne, e2]
            · rw [ehl, va_up_self]
              exact (CR2 hr' (nI (sz - 1))).cg (fun _ _ => rfl) (fun j hj => mcl2 hj)
        · obtain ⟨q', hq', eq'⟩ := hb.len hl5
          have ehl : hl (cs k) p = D_X1_entitle (cs k) (cs k 5) := by unfold hl; rw [if_pos h0, if_neg hl5]
          have ehf : hlf (cs k) p = 1 := by unfold hlf; rw [if_pos h0, if_neg hl5]
          have hkk : keep k = true := (hk k hkn).mpr (by rw [ehl, en2, esz, nI_le0 (by omega)]; omega)
          have hnl2 : ¬ nI q' < 0 := by rw [lt_toInt, toInt_0, nI_toInt (by omega)]; omega
          have g := gets_eq s (nI q') (show k < 100 by omega)
          have fr := frees_eq (va_up s 1 (upd (upd (s 1) (19 + 7 * k + 3) (nI q' + 1)) (19 + 7 * k + 4) (mcl (s 1) k 1))) (show k < 100 by omega)
          rw [va_up_up, va_up_self] at fr
          refine ⟨va_up (va_up s 1 (upd (upd (upd (upd (s 1) (19 + 7 * k + 3) (nI q' + 1)) (19 + 7 * k + 4) (mcl (s 1) k 1)) (19 + 7 * k + 5) 0) (19 + 7 * k + 6) 0)) 0 (upd (s 0) 4 (s 0 4 + 1)), ?_, keepIt hkk _ (fun r hr => by rw [vun _ _ _ (by omega), vun _ _ _ (by omega)]) (fun j hj => by rw [va_up_self, upd_ne _ _ hj]) (by rw [va_up_self, upd_self, ehf]) (fun z hz => by rw [va_up_1of0, va_up_self, upd_ne _ _ (by omega), upd_ne _ _ (by omega), upd_ne _ _ (by omega), upd_ne _ _ (by omega)]) ?_⟩
          · simp only [L_X10_hails_37, e1, hnl, c0, Option.bind_some, if_pos h0, cl, eq', hnl2, g, fr, va_up_0of1, e2, ↓reduceIte]
          · rw [ehl, va_up_1of0, va_up_self]
            exact (hentC (e' := upd (upd (upd (upd (mcl (s 1) k) 3 (nI q' + 1)) 4 (mcl (s 1) k 1)) 5 0) 6 0) hr' hq' eq' rfl rfl rfl rfl rfl rfl).cg (fun _ _ => rfl) (fun j hj => mcl4 hj)
      · have ehl : hl (cs k) p = cs k := by unfold hl; rw [if_neg h0]
        have ehf : hlf (cs k) p = 0 := by unfold hlf; rw [if_neg h0]
        have hkk : keep k = true := (hk k hkn).mpr (by rw [ehl, esz, nI_le0 (by omega)]; omega)
        refine ⟨s, ?_, keepIt hkk s (fun _ _ => rfl) (fun _ _ => rfl) (by rw [ehf, Int32.add_zero]) (fun _ _ => rfl) (by rw [ehl]; exact hr')⟩
        simp only [L_X10_hails_37, e1, hnl, c0, Option.bind_some, if_neg h0, e2, ↓reduceIte]) 200 m (by omega) ⟨fun _ _ => rfl, fun _ _ => rfl, by rw [h04]; grind only, fun _ _ _ _ => rfl, fun _ _ _ => rfl, by rw [Nat.sub_self]; exact hn, by rw [Nat.sub_self]; show m 1 5 = m 1 5 + nI (0 - 0); rw [show nI (0 - 0) = 0 from rfl, Int32.add_zero], fun j i h => by rw [Nat.sub_self] at h; exact absurd h (by simp [fl])⟩
  rw [Nat.sub_zero] at h7 h8 h9
  refine ⟨s, ?_, h1, h2, ?_, h4, ?_, h8, fun j i h => ?_⟩
  · refine Eq.trans e ?_
    obtain ⟨z, hz⟩ : ∃ z, 200 - n = z + 1 := ⟨199 - n, by omega⟩
    rw [hz]
    simp only [L_X10_hails_37, show nI 0 - 1 < 0 by decide, ib4, cl4, ↓reduceIte]
  · rw [← h3]; simp only [sumTo, Int32.add_zero]
  · rw [h7, Nat.zero_add]
  · have := h9 j i h
    rwa [Nat.zero_add] at this
/-- the loop does not read the memory at its start -/
theorem hails_m0 (m m' : Nat → Nat → Int32) (p : Int32) : ∀ (q : Nat) (i : Int32) (s : Nat → Nat → Int32), L_X10_hails_37 q m p i s = L_X10_hails_37 q m' p i s
  | 0, _, _ => rfl
  | q + 1, i, s => by
    simp only [L_X10_hails_37, hails_m0 m m' p q]
theorem hlB {c : Nat → Int32} (h : CB c) (p : Int32) (hk : ¬ hl c p 2 ≤ 0) : CB (hl c p) := by
  unfold hl at hk ⊢
  split at hk
  · rename_i h0
    rw [if_pos h0]
    split at hk
    · rename_i h5
      rw [if_pos h5]
      refine ⟨h.1, h.2.1, ?_, h.2.2.2.1, h.2.2.2.2.1, fun z => absurd h5 z⟩
      obtain ⟨q, q1, q9, e⟩ := h.size
      rw [upd_self, e, nI_predx q1, nI_le0 (by omega)] at hk
      rw [upd_self, e, nI_predx q1]
      exact ⟨by rw [nI_toInt (by omega)]; omega, by rw [nI_toInt (by omega)]; omega⟩
    · rename_i h5
      rw [if_neg h5]
      exact entB h h.2.2.2.2.1
  · rename_i h0
    rw [if_neg h0]; exact h
/-- it hails -/
theorem ch_hail {B : Nat} {o m : Nat → Nat → Int32} {n d : Nat} (h : RO o (m 1) n d) (hF : PF (o 3) B) (p : Int32) : Ch B o m (D_X4_hailDown o p) (D_X10_hails m p) := by
  unfold D_X4_hailDown D_X10_hails
  rw [mvi]
  rcases vi_cases p with ⟨e1, -⟩ | ⟨e1, v, hv, rfl⟩
  · rw [if_pos e1, if_pos e1]; exact Ch.ref 2 p (by decide) rfl rfl
  rw [e1, if_neg one_ne, if_neg one_ne]
  simp only [rf0, ib0, cl0, ↓reduceIte]
  obtain ⟨g1, g2, g3, g4, g5, g6, g7, g8, g9, g10, g11⟩ := h
  rw [g4]
  obtain ⟨s, a1, a2, a3⟩ := hail_eq g3 g1 (nI v)
  let keep : Nat → Bool := fun i => decide (¬ hl (o (i + 7)) (nI v) 2 ≤ 0)
  have hkeep : ∀ i, keep i = true ↔ ¬ hl (o (i + 7)) (nI v) 2 ≤ 0 := fun i => decide_eq_true_iff
  clear_value keep
  have s11 : va_up s 0 (upd (s 0) 8 (s 0 8 + sumTo (fun j => hlf (o (j + 7)) (nI v)) n)) 0 1 = nI n := by rw [va_up_self, upd_ne _ _ (by omega), a2 0 (by omega)]; exact g3
  obtain ⟨o', b1, b2, b3, b4, b5, b6⟩ := gone_eq s11 g1 keep (fun i hi => by rw [hkeep i, vun _ _ _ (by omega), a3 i hi])
  rw [a1, b1]
  obtain ⟨t, c1, c2, c3, c4, c5, c6, c7, c8⟩ := mhail (m := va_up m 0 (upd (m 0) 4 0)) (n := n) (cs := fun i => o (i + 7)) (nI v) (by rw [va_up_1of0]; exact g4) g1 (fun i hi => by rw [va_up_1of0]; exact g9 i hi) keep (fun i _ => hkeep i) (by rw [va_up_self, upd_self])
  have hm : va_up m 0 (upd (m 0) 4 0) 1 = m 1 := va_up_1of0 _ _
  rw [hm] at c5 c7
  rw [fl_all] at c6 c7 c8
  have hlen := flen keep n
  generalize hle : ((List.range n).filter keep).length = len at b4 b5 c6 c7 hlen
  have e9 : L_X10_hails_37 200 m (nI v) (nI n - 1) (va_up m 0 (upd (m 0) 4 0)) = L_X10_hails_37 200 (va_up m 0 (upd (m 0) 4 0)) (nI v) (nI n - 1) (va_up m 0 (upd (m 0) 4 0)) := hails_m0 _ _ _ _ _ _
  rw [e9, c1]
  obtain ⟨k, hk, ek⟩ := sumTo_cnt (f := fun j => hlf (o (j + 7)) (nI v)) (n := n) (fun j _ => by
    unfold hlf
    split
    · split
      · exact Or.inl rfl
      · exact Or.inr rfl
    · exact Or.inl rfl)
  have hfar : ∀ z, z ≠ 0 → z ≠ 4 → z ≠ 5 → ¬ (19 ≤ z ∧ z < 61) → va_up t 1 (upd (t 1) 4 (t 1 4 + t 0 4)) 1 z = m 1 z := fun z a b c d => by rw [va_up_self, upd_ne _ _ b, c5 z a c (by omega)]
  have hrow : ∀ r, 1 ≤ r → r < 7 → o' r = o r := fun r a b => by rw [b2 r a b, vun _ _ _ (by omega), a2 r b]
  have hz : ∀ j, j ≠ 1 → j ≠ 8 → j ≠ 9 → o' 0 j = o 0 j := fun j a b c => by rw [b3 j a c, va_up_self, upd_ne _ _ b, a2 0 (by omega)]
  have hidx : ∀ j i, ((List.range n).filter keep)[j]? = some i → i < n ∧ keep i = true := fun j i hji => by
    have hmem := List.mem_of_getElem? hji
    rw [List.mem_filter, List.mem_range] at hmem
    exact hmem
  refine ⟨_, _, _, _, rfl, rfl, fun r hr => ?_, fun z hz2 => hfar z (by omega) (by omega) (by omega) (by omega), fun j a b c e => ?_, Or.inr ⟨rfl, ?_, ?_, ?_, ?_, ?_, ?_, len, d, ?_⟩⟩
  · rw [vun _ _ _ (by omega), c2 r hr, vun _ _ _ (by omega)]
  · rw [vun _ _ _ (by omega), c3 j a, va_up_self, upd_ne _ _ a]
  · rw [ek]; exact nn1 (by omega)
  · rw [vun _ _ _ (by omega)]; exact c4
  · rw [vun _ _ _ (by omega), c3 5 (by omega), va_up_self, upd_ne _ _ (by omega)]
  · rw [vun _ _ _ (by omega), c3 6 (by omega), va_up_self, upd_ne _ _ (by omega)]
  · rw [vun _ _ _ (by omega), c3 7 (by omega), va_up_self, upd_ne _ _ (by omega)]
  · rw [hrow 3 (by omega) (by omega)]; exact hF.mono (by omega)
  · obtain ⟨e1, e2, e3, e4, e5, e6, e7⟩ := g5
    refine ⟨by omega, g2, b4, ?_, ⟨?_, ?_, ?_, ?_, ?_, ?_, ?_⟩, ⟨?_, ?_⟩, g7.cg (fun k _ => by rw [hrow 3 (by omega) (by omega)]) (fun k _ _ => hfar k (by omega) (by omega) (by omega) (by omega)), g8.cg (fun k _ => by rw [hrow 2 (by omega) (by omega)]) (fun k _ _ => hfar k (by omega) (by omega) (by omega) (by omega)), fun j hj => ?_, g10.cg g2 (fun k _ => by rw [hrow 5 (by omega) (by omega)]) (fun k _ => by rw [hrow 6 (by omega) (by omega)]) (fun k _ _ => hfar k (by omega) (by omega) (by omega) (by omega)), g11.cg (fun k _ => by rw [hrow 3 (by omega) (by omega)]) (hz 11 (by omega) (by omega) (by omega)) (hz 10 (by omega) (by omega) (by omega))⟩
    · rw [va_up_self, upd_ne _ _ (by omega)]; exact c6
    · rw [hz 5 (by omega) (by omega) (by omega), hfar 1 (by omega) (by omega) (by omega) (by omega)]; exact e1
    · rw [hz 6 (by omega) (by omega) (by omega), hfar 2 (by omega) (by omega) (by omega) (by omega)]; exact e2
    · rw [hz 7 (by omega) (by omega) (by omega), hfar 3 (by omega) (by omega) (by omega) (by omega)]; exact e3
    · rw [b3 8 (by omega) (by omega), va_up_self, upd_self, a2 0 (by omega), va_up_self, upd_self, c5 4 (by omega) (by omega) (by omega), c4, e4]
    · rw [b5, va_up_self, upd_ne _ _ (by omega), a2 0 (by omega), va_up_self, upd_ne _ _ (by omega), c7, e5, sub_len hlen]
    · rw [hz 10 (by omega) (by omega) (by omega), hfar 6 (by omega) (by omega) (by omega) (by omega)]; exact e6
    · rw [hz 11 (by omega) (by omega) (by omega), hfar 7 (by omega) (by omega) (by omega) (by omega)]; exact e7
    · rw [hrow 4 (by omega) (by omega)]; exact g6.1
    · rw [hfar 8 (by omega) (by omega) (by omega) (by omega)]; exact g6.2
    · obtain ⟨i, hji⟩ : ∃ i, ((List.range n).filter keep)[j]? = some i := ⟨_, List.getElem?_eq_getElem (by rw [hle]; exact hj)⟩
      obtain ⟨hin, hki⟩ := hidx j i hji
      have hcc : ∀ f, f < 7 → o' (j + 7) f = hl (o (i + 7)) (nI v) f := fun f hf => by rw [b6 j i hji f hf, vun _ _ _ (by omega), a3 i hin]
      refine ⟨(c8 j i hji).cg hcc (fun f hf => ?_), (hlB (g9 i hin).2 (nI v) ((hkeep i).mp hki)).cg hcc⟩
      unfold mcl
      rw [va_up_self, upd_ne _ _ (by omega)]
