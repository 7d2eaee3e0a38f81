/-! what holds between two calls -/
def SB (k : Nat) : Nat := 80 + 72 * k
theorem SB_lt {k : Nat} (h : k ≤ 513) : SB k < 2 ^ 20 := by unfold SB; omega
/-- a kept office against a kept row -/
def KO (k : Nat) (o : Nat → Nat → Int32) (r : Nat → Int32) : Prop := (∃ n d, RO o r n d) ∧ PF (o 3) (SB k)
theorem KO.mono {k l : Nat} {o : Nat → Nat → Int32} {r : Nat → Int32} (h : KO k o r) (hl : k ≤ l) : KO l o r := ⟨h.1, h.2.mono (by unfold SB; omega)⟩
theorem KO.cg {k : Nat} {o p : Nat → Nat → Int32} {r s : Nat → Int32} (h : KO k o r) (he : EqO p o) (hs : ∀ z, z < 96 → s z = r z) : KO k p s := by
  obtain ⟨⟨n, d, h1⟩, h2⟩ := h
  exact ⟨⟨n, d, h1.cg he hs⟩, h2.cg he.2.2.2.1⟩
def hix (nx c i : Nat) : Nat := 4 + (nx + 7 - (c - i)) % 8
def IHist (k : Nat) (x : Mem) (m : Nat → Nat → Int32) : Prop := ∃ c nx : Nat, c ≤ 8 ∧ nx < 8 ∧ x 12 1 2 = nI c ∧ m 0 2 = nI c ∧ x 12 1 1 = nI nx ∧ ∀ i, 1 ≤ i → i ≤ c → KO k (x (hix nx c i)) (row m i)
def ISav (k : Nat) (x : Mem) (m : Nat → Nat → Int32) : Prop := (x 12 0 4 = 0 ∧ m 0 3 = 0) ∨ (x 12 0 4 = 1 ∧ m 0 3 = 1 ∧ KO k (x 3) (row m 9))
def IRea (x : Mem) (m : Nat → Nat → Int32) : Prop := x 12 3 0 = m 0 5 ∧ (¬ m 0 5 = 0 → x 12 3 1 = m 0 6) ∧ x 12 3 2 = m 0 7 ∧ (¬ m 0 7 = 0 → x 12 3 3 = m 0 8)
def ITap (x : Mem) (m : Nat → Nat → Int32) : Prop := ∃ l : Nat, l ≤ 60 ∧ x 12 4 1 = nI l ∧ m 0 10 = nI l ∧ ∀ j, j < l → x 12 5 j = m 2 j
def ITxt (x : Mem) (m : Nat → Nat → Int32) : Prop := ∃ l : Nat, l ≤ 16 ∧ x 12 31 1 = 0 ∧ x 12 31 3 = nI l ∧ m 0 17 = nI l ∧ ∀ j, j < l → x 12 32 j = m 4 j ∧ rng (m 4 j) 0 127
def IRest (k : Nat) (x : Mem) (m : Nat → Nat → Int32) : Prop := IHist k x m ∧ ISav k x m ∧ IRea x m ∧ ITap x m ∧ x 12 0 8 = m 0 13 ∧ ITxt x m
def Inv (k : Nat) (x : Mem) (m : Nat → Nat → Int32) : Prop := KO k (x 0) (m 1) ∧ IRest k x m
section CG
variable {k : Nat} {x x' : Mem} {m m' : Nat → Nat → Int32}
theorem IHist.mono {l : Nat} (h : IHist k x m) (hl : k ≤ l) : IHist l x m := by
  obtain ⟨c, nx, h1, h2, h3, h4, h5, h6⟩ := h
  exact ⟨c, nx, h1, h2, h3, h4, h5, fun i a b => (h6 i a b).mono hl⟩
theorem ISav.mono {l : Nat} (h : ISav k x m) (hl : k ≤ l) : ISav l x m := h.imp id fun ⟨a, b, c⟩ => ⟨a, b, c.mono hl⟩
theorem IRest.mono {l : Nat} (h : IRest k x m) (hl : k ≤ l) : IRest l x m := ⟨h.1.mono hl, h.2.1.mono hl, h.2.2⟩
theorem Inv.mono {l : Nat} (h : Inv k x m) (hl : k ≤ l) : Inv l x m := ⟨h.1.mono hl, h.2.mono hl⟩
theorem hix_lt (nx c i : Nat) : 4 ≤ hix nx c i ∧ hix nx c i < 12 := by unfold hix; omega
theorem IHist.cg (h : IHist k x m) (h1 : ∀ q, 4 ≤ q → q < 12 → x' q = x q) (h2 : x' 12 1 1 = x 12 1 1) (h2' : x' 12 1 2 = x 12 1 2) (h3 : m' 0 2 = m 0 2) (h4 : ∀ z, 96 ≤ z → z < 864 → m' 1 z = m 1 z) : IHist k x' m' := by
  obtain ⟨c, nx, a1, a2, a3, a4, a5, a6⟩ := h
  refine ⟨c, nx, a1, a2, by rw [h2']; exact a3, by rw [h3]; exact a4, by rw [h2]; exact a5, fun i p q => ?_⟩
  rw [h1 _ (hix_lt _ _ _).1 (hix_lt _ _ _).2]
  exact (a6 i p q).cg (EqO.refl _) (fun z hz => h4 _ (by omega) (by omega))
theorem ISav.cg (h : ISav k x m) (h1 : x' 3 = x 3) (h2 : x' 12 0 4 = x 12 0 4) (h3 : m' 0 3 = m 0 3) (h4 : ∀ z, 864 ≤ z → z < 960 → m' 1 z = m 1 z) : ISav k x' m' := by
  unfold ISav
  rw [h1, h2, h3]
  refine h.imp id fun ⟨a, b, c⟩ => ⟨a, b, c.cg (EqO.refl _) (fun z hz => h4 _ (by omega) (by omega))⟩
theorem IRea.cg (h : IRea x m) (h1 : x' 12 3 = x 12 3) (h2 : ∀ j, 5 ≤ j → j ≤ 8 → m' 0 j = m 0 j) : IRea x' m' := by
  unfold IRea
  rw [h1, h2 5 (by omega) (by omega), h2 6 (by omega) (by omega), h2 7 (by omega) (by omega), h2 8 (by omega) (by omega)]
  exact h
theorem ITap.cg (h : ITap x m) (h1 : x' 12 4 1 = x 12 4 1) (h2 : x' 12 5 = x 12 5) (h3 : m' 0 10 = m 0 10) (h4 : m' 2 = m 2) : ITap x' m' := by
  unfold ITap
  rw [h1, h2, h3, h4]; exact h
theorem ITxt.cg (h : ITxt x m) (h1 : x' 12 31 = x 12 31) (h2 : x' 12 32 = x 12 32) (h3 : m' 0 17 = m 0 17) (h4 : m' 4 = m 4) : ITxt x' m' := by
  unfold ITxt
  rw [h1, h2, h3, h4]; exact h
/-- the reference writes its thrown number and nothing else -/
theorem Inv.thr (h : Inv k x m) (v : Int32) : Inv k x (va_up m 0 (upd (m 0) 0 v)) := by
  have e : ∀ j, j ≠ 0 → va_up m 0 (upd (m 0) 0 v) 0 j = m 0 j := fun j hj => by rw [va_up_self, upd_ne _ _ hj]
  have er : ∀ r, r ≠ 0 → va_up m 0 (upd (m 0) 0 v) r = m r := fun r hr => vun _ _ _ hr
  obtain ⟨h0, h1, h2, h3, h4, h5, h6⟩ := h
  refine ⟨by rw [er 1 (by omega)]; exact h0, h1.cg (fun _ _ _ => rfl) rfl rfl (e 2 (by omega)) (fun z _ _ => by rw [er 1 (by omega)]), h2.cg rfl rfl (e 3 (by omega)) (fun z _ _ => by rw [er 1 (by omega)]), h3.cg rfl (fun j a b => e j (by omega)), h4.cg rfl rfl (e 10 (by omega)) (er 2 (by omega)), by rw [e 13 (by omega)]; exact h5, h6.cg rfl rfl (e 17 (by omega)) (er 4 (by omega))⟩
end CG
/-! the reference's frame about a change -/
theorem cpr (m : Nat → Nat → Int32) {a b : Nat} (ha : a < 12) (hb : b < 12) (hab : a ≠ b) {u v : Int32} (hu : u = nI a) (hv : v = nI b) :
    ∃ m' : Nat → Nat → Int32, D_X10_copies m u v = some m' ∧ (∀ r, r ≠ 1 → m' r = m r) ∧ (∀ q, ¬ (96 * b ≤ q ∧ q < 96 * b + 96) → m' 1 q = m 1 q) ∧ ∀ j, j < 96 → m' 1 (96 * b + j) = m 1 (96 * a + j) := by
  subst hu hv
  exact cp_eq m ha hb hab
theorem begins_eq (m : Nat → Nat → Int32) : ∃ m' : Nat → Nat → Int32, D_X10_begins m = some m' ∧ (∀ r, r ≠ 1 → m' r = m r) ∧ (∀ q, ¬ (960 ≤ q ∧ q < 1056) → m' 1 q = m 1 q) ∧ ∀ j, j < 96 → m' 1 (960 + j) = m 1 j := by
  obtain ⟨m', e, h1, h2, h3⟩ := cpr m (a := 0) (b := 10) (by omega) (by omega) (by omega) rfl rfl
  refine ⟨m', ?_, h1, fun q hq => h2 q (by omega), fun j hj => (h3 j hj).trans (by rw [show 96 * 0 + j = j by omega])⟩
  unfold D_X10_begins
  rw [show D_X10_copies m 0 10 = some m' from e]
  rfl
/-- refused: the row at the beginning comes back -/
theorem ends0 (m : Nat → Nat → Int32) : ∃ m' : Nat → Nat → Int32, D_X10_ends m 0 = some (0, m') ∧ m' 0 = upd (m 0) 0 1 ∧ (∀ r, 2 ≤ r → m' r = m r) ∧ (∀ q, 96 ≤ q → m' 1 q = m 1 q) ∧ ∀ j, j < 96 → m' 1 j = m 1 (960 + j) := by
  obtain ⟨m', e, h1, h2, h3⟩ := cpr (va_up m 0 (upd (m 0) 0 1)) (a := 10) (b := 0) (by omega) (by omega) (by omega) rfl rfl
  refine ⟨m', ?_, by rw [h1 0 (by omega), va_up_self], fun r hr => by rw [h1 r (by omega), vun _ _ _ (by omega)], fun q hq => by rw [h2 q (by omega), va_up_1of0], fun j hj => ?_⟩
  · unfold D_X10_ends
    rw [if_pos rfl, if_pos rfl, show D_X10_copies _ 10 0 = some m' from e]
    rfl
  · have := h3 j hj
    rw [va_up_1of0] at this
    rw [show 96 * 0 + j = j by omega, show 96 * 10 + j = 960 + j by omega] at this
    exact this
/-- the rows are shifted -/
theorem shift_eq (m0 m : Nat → Nat → Int32) (p1 : Int32) : ∃ s : Nat → Nat → Int32, (∀ q, 8 < q → L_X10_ends_37_2 q m0 p1 1 m = L_X10_ends_37_2 (q - 7) m0 p1 8 s) ∧ (∀ r, r ≠ 1 → s r = m r) ∧ (∀ z, ¬ (96 ≤ z ∧ z < 768) → s 1 z = m 1 z) ∧ ∀ z, 96 ≤ z → z < 768 → s 1 z = m 1 (z + 96) := by
  have key := fun q => loop_up (L := fun q x (s : Nat → Nat → Int32) => L_X10_ends_37_2 q m0 p1 (x + 1) s) 7
    (fun k s => (∀ r, r ≠ 1 → s r = m r) ∧ (∀ z, ¬ (96 ≤ z ∧ z < 96 + 96 * k) → s 1 z = m 1 z) ∧ ∀ z, 96 ≤ z → z < 96 + 96 * k → s 1 z = m 1 (z + 96))
    (fun q k s hk hR => by
      obtain ⟨h1, h2, h3⟩ := hR
      have e1 : nI k + 1 = nI (k + 1) := (nI_succ k).symm
      have e2 : nI (k + 1) + 1 = nI (k + 2) := (nI_succ (k + 1)).symm
      obtain ⟨m', e, g1, g2, g3⟩ := cpr s (a := k + 2) (b := k + 1) (by omega) (by omega) (by omega) rfl rfl
      refine ⟨m', ?_, fun r hr => (g1 r hr).trans (h1 r hr), fun z hz => by rw [g2 z (by omega)]; exact h2 z (by omega), fun z a b => ?_⟩
      · simp only [L_X10_ends_37_2, e1, e2, show ¬ (8 : Int32) ≤ nI (k + 1) from nI_ge (show k + 1 < 8 by omega) (by decide), e, Option.bind_some, ↓reduceIte]
      · by_cases hz : z < 96 + 96 * k
        · rw [g2 z (by omega)]; exact h3 z a hz
        · have := g3 (z - 96 * (k + 1)) (by omega)
          rw [show 96 * (k + 1) + (z - 96 * (k + 1)) = z by omega] at this
          rw [this, h2 _ (by omega)]
          congr 1; omega) q m
  obtain ⟨s, e, h1, h2, h3⟩ := key 200 (by decide) ⟨fun _ _ => rfl, fun _ _ => rfl, fun z a b => by omega⟩
  have e2 : L_X10_ends_37_2 200 m0 p1 1 m = L_X10_ends_37_2 193 m0 p1 8 s := e
  refine ⟨s, fun q hq => ?_, h1, fun z hz => h2 z (by omega), fun z a b => h3 z a (by omega)⟩
  obtain ⟨s', e', k1, k2, k3⟩ := key q (by omega) ⟨fun _ _ => rfl, fun _ _ => rfl, fun z a b => by omega⟩
  have hss : s' = s := by
    funext r z
    by_cases hr : r = 1
    · subst hr
      by_cases hz : 96 ≤ z ∧ z < 96 + 96 * 7
      · rw [k3 z hz.1 hz.2, h3 z hz.1 hz.2]
      · rw [k2 z hz, h2 z hz]
    · rw [k1 r hr, h1 r hr]
  rw [← hss]
  exact e'
/-- done: a row more, the latest of them the row at the beginning -/
theorem ends1 (m : Nat → Nat → Int32) {c : Nat} (hc : c ≤ 8) (h2 : m 0 2 = nI c) :
    ∃ m' : Nat → Nat → Int32, D_X10_ends m 1 = some (m 0 4, m') ∧ m' 0 0 = 0 ∧ m' 0 2 = nI (if c = 8 then 8 else c + 1) ∧ (∀ j, j ≠ 0 → j ≠ 2 → m' 0 j = m 0 j) ∧ (∀ r, 2 ≤ r → m' r = m r) ∧ (∀ q, q < 96 → m' 1 q = m 1 q) ∧ (∀ q, 864 ≤ q → m' 1 q = m 1 q) ∧
      (∀ j, j < 96 → row m' (if c = 8 then 8 else c + 1) j = m 1 (960 + j)) ∧ ∀ i, 1 ≤ i → i < (if c = 8 then 8 else c + 1) → ∀ j, j < 96 → row m' i j = row m (if c = 8 then i + 1 else i) j := by
  by_cases h8 : c = 8
  · subst h8
    simp only [↓reduceIte]
    obtain ⟨s, e, k1, k2, k3⟩ := shift_eq m (va_up m 0 (upd (m 0) 0 0)) 1
    obtain ⟨m', e', g1, g2, g3⟩ := cpr (va_up s 0 (upd (upd (s 0) 2 ((s 0 2) - 1)) 2 (((s 0 2) - 1) + 1))) (a := 10) (b := 8) (by omega) (by omega) (by omega) (u := 10) (v := ((s 0 2) - 1) + 1) rfl (by
      rw [k1 0 (by omega), va_up_self, upd_ne _ _ (by omega), h2]; decide)
    have hs0 : s 0 = upd (m 0) 0 0 := by rw [k1 0 (by omega), va_up_self]
    have e20 : s 0 2 - 1 + 1 = 8 := by rw [hs0, upd_ne _ _ (by omega), h2]; decide
    refine ⟨m', ?_, ?_, ?_, fun j a b => ?_, fun r hr => ?_, fun q hq => ?_, fun q hq => ?_, fun j hj => ?_, fun i a b j hj => ?_⟩
    · unfold D_X10_ends
      rw [if_neg one_ne, if_neg one_ne, if_pos (show m 0 2 = 8 by rw [h2]; decide), e 200 (by decide)]
      show L_X10_ends_37_2 (192 + 1) m 1 8 s = _
      simp only [L_X10_ends_37_2, show (8 : Int32) ≤ 8 by decide, ↓reduceIte, e', Option.bind_some]
      rw [g1 0 (by omega), va_up_self, upd_ne _ _ (by omega), upd_ne _ _ (by omega), hs0, upd_ne _ _ (by omega)]
    · rw [g1 0 (by omega), va_up_self, upd_ne _ _ (by omega), upd_ne _ _ (by omega), hs0, upd_self]
    · rw [g1 0 (by omega), va_up_self, upd_self, e20]; rfl
    · rw [g1 0 (by omega), va_up_self, upd_ne _ _ b, upd_ne _ _ b, hs0, upd_ne _ _ a]
    · rw [g1 r (by omega), vun _ _ _ (by omega), k1 r (by omega), vun _ _ _ (by omega)]
    · rw [g2 q (by omega), va_up_1of0, k2 q (by omega), va_up_1of0]
    · rw [g2 q (by omega), va_up_1of0, k2 q (by omega), va_up_1of0]
    · unfold row
      rw [g3 j hj, va_up_1of0, k2 _ (by omega), va_up_1of0]
    · unfold row
      rw [g2 _ (by omega), va_up_1of0, k3 _ (by omega) (by omega), va_up_1of0]
      congr 1; omega
  · simp only [if_neg h8]
    obtain ⟨m', e', g1, g2, g3⟩ := cpr (va_up m 0 (upd (upd (m 0) 0 0) 2 (m 0 2 + 1))) (a := 10) (b := c + 1) (by omega) (by omega) (by omega) (u := 10) (v := m 0 2 + 1) rfl (by rw [h2, nI_succ])
    refine ⟨m', ?_, ?_, ?_, fun j a b => ?_, fun r hr => ?_, fun q hq => ?_, fun q hq => ?_, fun j hj => ?_, fun i a b j hj => ?_⟩
    · unfold D_X10_ends
      rw [if_neg one_ne, if_neg one_ne, if_neg (show ¬ m 0 2 = 8 from fun z => h8 (nI_eqI (b := 8) (by omega) (by omega) (h2.symm.trans z))), e']
      simp only [Option.bind_some]
      rw [g1 0 (by omega), va_up_self, upd_ne _ _ (by omega), upd_ne _ _ (by omega)]
    · rw [g1 0 (by omega), va_up_self, upd_ne _ _ (by omega), upd_self]
    · rw [g1 0 (by omega), va_up_self, upd_self, h2, nI_succ]
    · rw [g1 0 (by omega), va_up_self, upd_ne _ _ b, upd_ne _ _ a]
    · rw [g1 r (by omega), vun _ _ _ (by omega)]
    · rw [g2 q (by omega), va_up_1of0]
    · rw [g2 q (by omega), va_up_1of0]
    · unfold row
      rw [g3 j hj, va_up_1of0]
    · unfold row
      rw [g2 _ (by omega), va_up_1of0]
