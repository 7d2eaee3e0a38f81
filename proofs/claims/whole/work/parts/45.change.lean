/-! what the purses hold: never below nothing, together at most B -/
def PF (g : Nat → Int32) (B : Nat) : Prop := ∃ f : Nat → Nat, (∀ k, k < 4 → g k = nI (f k)) ∧ f 0 + f 1 + f 2 + f 3 ≤ B
theorem PF.mono {g : Nat → Int32} {B C : Nat} (h : PF g B) (hc : B ≤ C) : PF g C := by
  obtain ⟨f, h1, h2⟩ := h
  exact ⟨f, h1, by omega⟩
theorem PF.cg {g g' : Nat → Int32} {B : Nat} (h : PF g B) (he : ∀ k, k < 4 → g' k = g k) : PF g' B := by
  obtain ⟨f, h1, h2⟩ := h
  exact ⟨f, fun k hk => (he k hk).trans (h1 k hk), h2⟩
theorem PF.at {g : Nat → Int32} {B p : Nat} (h : PF g B) (hp : p < 4) : ∃ z, z ≤ B ∧ g p = nI z := by
  obtain ⟨f, h1, h2⟩ := h
  refine ⟨f p, ?_, h1 p hp⟩
  rcases (show p = 0 ∨ p = 1 ∨ p = 2 ∨ p = 3 by omega) with rfl | rfl | rfl | rfl <;> omega
theorem nI_sub {a c : Nat} (h : c ≤ a) : nI a - nI c = nI (a - c) := by
  have e : nI (a - c) + nI c = nI a := by rw [nI_add, Nat.sub_add_cancel h]
  grind
theorem PF.set {g : Nat → Int32} {B p v C : Nat} {f : Nat → Nat} (h1 : ∀ k, k < 4 → g k = nI (f k)) (h2 : f 0 + f 1 + f 2 + f 3 ≤ B) (hp : p < 4) (hC : B + v ≤ C + f p) : PF (upd g p (nI v)) C := by
  refine ⟨fun k => if k = p then v else f k, fun k hk => ?_, ?_⟩
  · show upd g p (nI v) k = nI (if k = p then v else f k)
    by_cases e : k = p
    · subst e; rw [upd_self, if_pos rfl]
    · rw [upd_ne _ _ e, if_neg e]; exact h1 k hk
  · rcases (show p = 0 ∨ p = 1 ∨ p = 2 ∨ p = 3 by omega) with rfl | rfl | rfl | rfl <;> simp <;> omega
theorem PF.sub {g : Nat → Int32} {B p c : Nat} (h : PF g B) (hB : B < 2 ^ 30) (hp : p < 4) (hc : c < 2 ^ 30) (hle : nI c ≤ g p) : c ≤ B ∧ PF (upd g p (g p - nI c)) (B - c) ∧ ∃ z, z ≤ B ∧ g p - nI c = nI z := by
  obtain ⟨z, hz, e⟩ := h.at hp
  obtain ⟨f, h1, h2⟩ := h
  have ez : f p ≤ B := by
    rcases (show p = 0 ∨ p = 1 ∨ p = 2 ∨ p = 3 by omega) with rfl | rfl | rfl | rfl <;> omega
  rw [h1 p hp, le_toInt, nI_toInt (by omega), nI_toInt (by omega)] at hle
  have hcf : c ≤ f p := by omega
  refine ⟨by omega, ?_, f p - c, by omega, by rw [h1 p hp, nI_sub hcf]⟩
  rw [h1 p hp, nI_sub hcf]
  exact PF.set h1 h2 hp (by omega)
theorem PF.add {g : Nat → Int32} {B p : Nat} (c : Nat) (h : PF g B) (hp : p < 4) : PF (upd g p (g p + nI c)) (B + c) := by
  obtain ⟨f, h1, h2⟩ := h
  rw [h1 p hp, nI_add]
  exact PF.set h1 h2 hp (by omega)
/-! a change of the class's office against the reference's: refused alike, or done alike -/
def Ch (B : Nat) (o m : Nat → Nat → Int32) (ca mb : Option (Int32 × (Nat → Nat → Int32))) : Prop :=
  ∃ (a : Int32) (o' : Nat → Nat → Int32) (b : Int32) (m' : Nat → Nat → Int32), ca = some (a, o') ∧ mb = some (b, m') ∧ (∀ r, 2 ≤ r → m' r = m r) ∧ (∀ k, 96 ≤ k → m' 1 k = m 1 k) ∧ (∀ j, j ≠ 4 → j ≠ 5 → j ≠ 6 → j ≠ 7 → m' 0 j = m 0 j) ∧
  ((b = 0 ∧ a = -1 ∧ ∃ w dt, ¬ w = 0 ∧ o' = va_up o 0 (upd (upd (o 0) 12 w) 13 dt) ∧ m' 0 5 = w ∧ m' 0 6 = dt ∧ m' 0 7 = 0) ∨
   (b = 1 ∧ ¬ a = -1 ∧ m' 0 4 = a ∧ m' 0 5 = m 0 5 ∧ m' 0 6 = m 0 6 ∧ m' 0 7 = m 0 7 ∧ PF (o' 3) (B + 6) ∧ ∃ n' d', RO o' (m' 1) n' d'))
theorem Ch.ref {B : Nat} {o m : Nat → Nat → Int32} {ca mb : Option (Int32 × (Nat → Nat → Int32))} (w dt : Int32) (hw : ¬ w = 0) (h1 : ca = some (-1, va_up o 0 (upd (upd (o 0) 12 w) 13 dt))) (h2 : mb = some (0, va_up m 0 (upd (upd (upd (m 0) 5 w) 6 dt) 7 0))) : Ch B o m ca mb := by
  refine ⟨_, _, _, _, h1, h2, fun r hr => vun _ _ _ (by omega), fun k _ => rfl, fun j a b c d => ?_, Or.inl ⟨rfl, rfl, w, dt, hw, rfl, rfl, rfl, rfl⟩⟩
  rw [va_up_self, upd_ne _ _ d, upd_ne _ _ c, upd_ne _ _ b]
/-- as Ch.ref, with an answer that the reference had laid by -/
theorem Ch.ref4 {B : Nat} {o m : Nat → Nat → Int32} {ca mb : Option (Int32 × (Nat → Nat → Int32))} (w dt z : Int32) (hw : ¬ w = 0) (h1 : ca = some (-1, va_up o 0 (upd (upd (o 0) 12 w) 13 dt))) (h2 : mb = some (0, va_up (va_up m 0 (upd (m 0) 4 z)) 0 (upd (upd (upd (upd (m 0) 4 z) 5 w) 6 dt) 7 0))) : Ch B o m ca mb := by
  refine ⟨_, _, _, _, h1, h2, fun r hr => ?_, fun k _ => rfl, fun j a b c d => ?_, Or.inl ⟨rfl, rfl, w, dt, hw, rfl, rfl, rfl, rfl⟩⟩
  · rw [vun _ _ _ (by omega), vun _ _ _ (by omega)]
  · rw [va_up_self, upd_ne _ _ d, upd_ne _ _ c, upd_ne _ _ b, upd_ne _ _ a]
theorem one_ne : ¬ (1 : Int32) = 0 := by decide
theorem nI_eqI {a b : Nat} (ha : a < 2 ^ 31) (hb : b < 2 ^ 31) (h : nI a = nI b) : a = b := (nI_eq ha hb).mp h
theorem nn1 {n : Nat} (h : n < 2 ^ 31) : ¬ nI n = -1 := by
  intro e
  have e2 := nI_toInt h
  rw [e, toInt_m1] at e2
  omega
theorem in05 (x : Int32) : D_X10_in x 0 5 = D_X9_isWithin x 6 := by
  rw [in_iff, wi_iff, toInt_0, show (5 : Int32).toInt = 5 by decide, show (6 : Int32).toInt = 6 by decide]
  by_cases h : 0 ≤ x.toInt ∧ x.toInt < 6
  · rw [if_pos h, if_pos (by omega)]
  · rw [if_neg h, if_neg (by omega)]
/-- the loop that clears a new cloud's numbers -/
theorem clear_eq (m : Nat → Nat → Int32) (p1 p2 p3 : Int32) {n : Nat} (hn : m 1 0 = nI n) (h6 : n ≤ 5) (s : Nat → Nat → Int32) :
    ∃ s' : Nat → Nat → Int32, L_X10_comes_115 200 m p1 p2 p3 0 s = some (1, s') ∧ (∀ r, 2 ≤ r → s' r = s r) ∧ s' 0 = upd (s 0) 4 (nI n) ∧ (∀ k, ¬ (19 + 7 * n ≤ k ∧ k < 26 + 7 * n) → s' 1 k = s 1 k) ∧ mcl (s' 1) n 0 = p1 ∧ mcl (s' 1) n 1 = p2 ∧ mcl (s' 1) n 2 = p3 ∧ ∀ j, 3 ≤ j → j < 7 → mcl (s' 1) n j = 0 := by
  have hz : ∀ z : Nat → Nat → Int32, ((D_X10_refuses (D_X10_refuses (D_X10_refuses m 0 2 p1).2 0 3 p2).2 0 3 p3).2 1) (0 : Int32).toNatClampNeg = nI n := fun _ => hn
  obtain ⟨s1, e, h0, h1, h2, h3⟩ := loop_up (L := fun q i s => L_X10_comes_115 q m p1 p2 p3 i s) 7 (fun k z => (∀ r, 2 ≤ r → z r = s r) ∧ z 0 = s 0 ∧ (∀ q, ¬ (19 + 7 * n ≤ q ∧ q < 26 + 7 * n) → z 1 q = s 1 q) ∧ ∀ j, j < k → mcl (z 1) n j = 0)
    (fun q k z hk hR => by
      obtain ⟨h0, h1, h2, h3⟩ := hR
      refine ⟨va_up z 1 (upd (z 1) (19 + 7 * n + k) 0), ?_, fun r hr => by rw [vun _ _ _ (by omega)]; exact h0 r hr, h1, fun x hx => ?_, fun j hj => ?_⟩
      · simp only [L_X10_comes_115, show ¬ (7 : Int32) ≤ nI k from nI_ge hk (by decide), hz z, ms_eq z (k := n) (j := k) 0 (by omega), Option.bind_some, ↓reduceIte, nI_succ]
      · rw [va_up_self, upd_ne _ _ (by omega)]; exact h2 x hx
      · unfold mcl
        rw [va_up_self]
        by_cases hjk : j = k
        · subst hjk; rw [upd_self]
        · rw [upd_ne _ _ (by omega)]; exact h3 j (by omega)) 200 s (by decide) ⟨fun _ _ => rfl, rfl, fun _ _ => rfl, fun j hj => absurd hj (Nat.not_lt_zero _)⟩
  have e0 : L_X10_comes_115 200 m p1 p2 p3 0 s = L_X10_comes_115 200 m p1 p2 p3 (nI 0) s := rfl
  rw [e0, e]
  show ∃ s', L_X10_comes_115 (192 + 1) m p1 p2 p3 (nI 7) s1 = some (1, s') ∧ _
  simp only [L_X10_comes_115, show (7 : Int32) ≤ nI 7 by decide, hz s1, ↓reduceIte]
  rw [show D_X10_set s1 (nI n) 0 p1 = _ from ms_eq s1 (k := n) (j := 0) p1 (by omega)]
  simp only [Option.bind_some]
  rw [show D_X10_set _ (nI n) 1 p2 = _ from ms_eq _ (k := n) (j := 1) p2 (by omega)]
  simp only [Option.bind_some]
  rw [show D_X10_set _ (nI n) 2 p3 = _ from ms_eq _ (k := n) (j := 2) p3 (by omega)]
  simp only [Option.bind_some]
  refine ⟨_, rfl, fun r hr => ?_, ?_, fun k hk => ?_, ?_, ?_, ?_, fun j h3' h7 => ?_⟩
  · rw [vun _ _ _ (by omega), vun _ _ _ (by omega), vun _ _ _ (by omega), vun _ _ _ (by omega)]; exact h0 r hr
  · rw [va_up_self]
    show upd (s1 0) 4 (nI n) = _
    rw [h1]
  · show upd (upd (upd (s1 1) _ _) _ _) _ _ k = _
    rw [upd_ne _ _ (by omega), upd_ne _ _ (by omega), upd_ne _ _ (by omega)]; exact h2 k hk
  · show upd (upd (upd (s1 1) _ _) _ _) _ _ (19 + 7 * n + 0) = _
    rw [upd_ne _ _ (by omega), upd_ne _ _ (by omega), upd_self]
  · show upd (upd (upd (s1 1) _ _) _ _) _ _ (19 + 7 * n + 1) = _
    rw [upd_ne _ _ (by omega), upd_self]
  · show upd (upd (upd (s1 1) _ _) _ _) _ _ (19 + 7 * n + 2) = _
    rw [upd_self]
  · show upd (upd (upd (s1 1) _ _) _ _) _ _ (19 + 7 * n + j) = _
    rw [upd_ne _ _ (by omega), upd_ne _ _ (by omega), upd_ne _ _ (by omega)]
    exact h3 j h7
theorem co3 (u : Nat → Int32) (a b c : Int32) : D_X1_comeOver u a b c 3 = -1 := rfl
theorem co5 (u : Nat → Int32) (a b c : Int32) : D_X1_comeOver u a b c 5 = -1 := rfl
theorem rng_m1 {b : Int} (h : -1 ≤ b) : rng (-1) (-1) b := ⟨by rw [toInt_m1]; omega, by rw [toInt_m1]; exact h⟩
/-- a cloud comes -/
theorem ch_come {B : Nat} {o m : Nat → Nat → Int32} {n d : Nat} (h : RO o (m 1) n d) (hF : PF (o 3) B) (p1 p2 p3 : Int32) : Ch B o m (D_X4_letCome o p1 p2 p3) (D_X10_comes m p1 p2 p3) := by
  have h0 := h
  obtain ⟨g1, g2, g3, g4, g5, g6, g7, g8, g9, g10, g11⟩ := h
  unfold D_X4_letCome D_X10_comes
  rw [mvi, in05]
  rcases vi_cases p1 with ⟨e1, -⟩ | ⟨e1, v, hv, rfl⟩
  · rw [if_pos e1, if_pos e1]; exact Ch.ref 2 p1 (by decide) rfl rfl
  rw [e1, if_neg one_ne, if_neg one_ne]
  rcases wi_cases p2 (n := 6) (by decide) with ⟨e2, -⟩ | ⟨e2, w, hw, rfl⟩
  · rw [show D_X9_isWithin p2 6 = 0 from e2, if_pos rfl, if_pos rfl]; exact Ch.ref 3 p2 (by decide) rfl rfl
  rw [show D_X9_isWithin (nI w) 6 = 1 from e2, if_neg one_ne, if_neg one_ne]
  rw [in_iff, show (1 : Int32).toInt = 1 by decide, show (9 : Int32).toInt = 9 by decide]
  by_cases h3 : 1 ≤ p3.toInt ∧ p3.toInt ≤ 9
  · rw [if_pos h3, if_neg one_ne, if_neg (by rw [lt_toInt, show (1 : Int32).toInt = 1 by decide]; omega), if_pos (by rw [le_toInt, show (9 : Int32).toInt = 9 by decide]; omega)]
    rw [g3, wi_iff, nI_toInt (show n < 2 ^ 31 by omega), show (6 : Int32).toInt = 6 by decide]
    simp only [rf0, ib0, cl0, g4, ↓reduceIte]
    by_cases hn : n = 6
    · subst hn
      rw [if_neg (show ¬ (0 ≤ ((6 : Nat) : Int) ∧ ((6 : Nat) : Int) < 6) by omega), if_pos rfl, if_pos (show nI 6 = 6 by decide)]
      exact Ch.ref 1 6 (by decide) rfl rfl
    · rw [if_pos (show 0 ≤ (n : Int) ∧ (n : Int) < 6 by omega), if_neg one_ne, if_pos (inb_nI (show n < 6 by omega) (by decide)), nI_clamp (by omega), if_neg (show ¬ nI n = 6 from fun e => hn (nI_eqI (b := 6) (by omega) (by decide) e))]
      obtain ⟨s', es, s2, s3, s4, s5, s6, s7, s8⟩ := clear_eq m (nI v) (nI w) p3 g4 (by omega) (va_up m 1 (upd (m 1) 0 (nI n + 1)))
      have e9 : ((nI n + 1) - 1 : Int32) = nI n := add1_sub1 _
      refine ⟨_, _, _, _, rfl, es, fun r hr => by rw [s2 r hr, vun _ _ _ (by omega)], fun k hk => by rw [s4 k (by omega), va_up_self, upd_ne _ _ (by omega)], fun j a _ _ _ => by rw [s3, upd_ne _ _ a]; rfl, Or.inr ⟨rfl, by rw [e9]; exact nn1 (by omega), by rw [s3, upd_self, e9], by rw [s3]; rfl, by rw [s3]; rfl, by rw [s3]; rfl, (hF.cg (fun k _ => by rw [vun _ _ _ (by omega), vun _ _ _ (by omega)])).mono (by omega), n + 1, d, ?_⟩⟩
      have hs : ∀ k, 0 < k → ¬ (19 + 7 * n ≤ k ∧ k < 26 + 7 * n) → s' 1 k = m 1 k := fun k h0 hk => by rw [s4 k hk, va_up_self, upd_ne _ _ (by omega)]
      have hc : va_up (va_up o (n + 7) (D_X1_comeOver (o (n + 7)) (nI v) (nI w) p3)) 0 (upd (o 0) 1 (nI n + 1)) (n + 7) = D_X1_comeOver (o (n + 7)) (nI v) (nI w) p3 := by rw [vun _ _ _ (by omega), va_up_self]
      have hr : ∀ r, 1 ≤ r → r ≠ n + 7 → va_up (va_up o (n + 7) (D_X1_comeOver (o (n + 7)) (nI v) (nI w) p3)) 0 (upd (o 0) 1 (nI n + 1)) r = o r := fun r h1 h2 => by rw [vun _ _ _ (by omega), vun _ _ _ h2]
      refine ⟨by omega, g2, ?_, ?_, g5.cg (fun j _ _ => ?_) (fun k _ _ => hs k (by omega) (by omega)), ⟨?_, ?_⟩, g7.cg (fun k _ => by rw [hr _ (by omega) (by omega)]) (fun k _ _ => hs k (by omega) (by omega)), g8.cg (fun k _ => by rw [hr _ (by omega) (by omega)]) (fun k _ _ => hs k (by omega) (by omega)), fun i hi => ?_, g10.cg g2 (fun k _ => by rw [hr _ (by omega) (by omega)]) (fun k _ => by rw [hr _ (by omega) (by omega)]) (fun k _ _ => hs k (by omega) (by omega)), g11.cg (fun k _ => by rw [hr _ (by omega) (by omega)]) ?_ ?_⟩
      · rw [va_up_self, upd_self, nI_succ]
      · rw [s4 0 (by omega), va_up_self, upd_self, nI_succ]
      · rw [va_up_self, upd_ne _ _ (by omega)]
      · rw [hr _ (by omega) (by omega)]; exact g6.1
      · rw [hs 8 (by omega) (by omega)]; exact g6.2
      · by_cases hin : i = n
        · subst hin
          rw [hc]
          refine ⟨⟨s5.symm, s6.symm, s7.symm, ?_, fun _ => rfl, fun hne => absurd rfl hne, ?_, fun hne => absurd rfl hne⟩, ⟨?_, ?_⟩, ⟨?_, ?_⟩, ⟨h3.1, h3.2⟩, by rw [co3]; exact rng_m1 (by decide), by rw [co5]; exact rng_m1 (by decide), fun hne => absurd rfl hne⟩
          · rw [s8 3 (by omega) (by omega), co3]; rfl
          · rw [s8 5 (by omega) (by omega), co5]; rfl
          · show 0 ≤ (nI v).toInt
            rw [nI_toInt (by omega)]; omega
          · show (nI v).toInt ≤ 5
            rw [nI_toInt (by omega)]; omega
          · show 0 ≤ (nI w).toInt
            rw [nI_toInt (by omega)]; omega
          · show (nI w).toInt ≤ 5
            rw [nI_toInt (by omega)]; omega
        · rw [hr _ (by omega) (by omega)]
          obtain ⟨c1, c2⟩ := g9 i (by omega)
          exact ⟨c1.cg (fun _ _ => rfl) (fun j hj => hs _ (by omega) (by omega)), c2⟩
      · rw [va_up_self, upd_ne _ _ (by omega)]
      · rw [va_up_self, upd_ne _ _ (by omega)]
  · rw [if_neg h3, if_pos rfl]
    by_cases h1 : p3 < 1
    · rw [if_pos h1]; exact Ch.ref 3 p3 (by decide) rfl rfl
    · rw [if_neg h1, if_neg (by rw [lt_toInt, show (1 : Int32).toInt = 1 by decide] at h1; rw [le_toInt, show (9 : Int32).toInt = 9 by decide]; omega)]; exact Ch.ref 3 p3 (by decide) rfl rfl
