/-! the class's office against the reference's row: loops, clouds -/
theorem inb_nI {k n : Nat} (h : k < n) (hn : n < 2 ^ 31) : inb (nI k) n = true := inb_iff.mpr (by
  have e := nI_toInt (n := k) (by omega)
  omega)
/-- a loop that goes up from 0 to n -/
theorem loop_up {S R : Type} {L : Nat → Int32 → S → Option R} (n : Nat) (Rel : Nat → S → Prop) (step : ∀ (q k : Nat) (s : S), k < n → Rel k s → ∃ s', L (q + 1) (nI k) s = L q (nI (k + 1)) s' ∧ Rel (k + 1) s') :
    ∀ (q : Nat) (s : S), n ≤ q → Rel 0 s → ∃ s', L q (nI 0) s = L (q - n) (nI n) s' ∧ Rel n s' := by
  have h : ∀ (d k q : Nat) (s : S), d + k = n → d ≤ q → Rel k s → ∃ s', L q (nI k) s = L (q - d) (nI n) s' ∧ Rel n s' := by
    intro d
    induction d with
    | zero =>
      intro k q s hk hq hR
      have hk : k = n := by omega
      subst hk
      exact ⟨s, rfl, hR⟩
    | succ d ih =>
      intro k q s hk hq hR
      obtain ⟨q, rfl⟩ : ∃ z, q = z + 1 := ⟨q - 1, by omega⟩
      obtain ⟨s1, e1, h1⟩ := step q k s (by omega) hR
      obtain ⟨s2, e2, h2⟩ := ih (k + 1) q s1 (by omega) (by omega) h1
      exact ⟨s2, by rw [e1, e2, Nat.add_sub_add_right], h2⟩
  intro q s hq hR
  exact h n 0 q s (by omega) hq hR
/-- a loop that goes down from n to 0 -/
theorem loop_dn {S R : Type} {L : Nat → Int32 → S → Option R} (n : Nat) (ix : Nat → Int32) (Rel : Nat → S → Prop) (step : ∀ (q k : Nat) (s : S), k < n → Rel (k + 1) s → ∃ s', L (q + 1) (ix (k + 1)) s = L q (ix k) s' ∧ Rel k s') :
    ∀ (q : Nat) (s : S), n ≤ q → Rel n s → ∃ s', L q (ix n) s = L (q - n) (ix 0) s' ∧ Rel 0 s' := by
  have h : ∀ (k q : Nat) (s : S), k ≤ n → k ≤ q → Rel k s → ∃ s', L q (ix k) s = L (q - k) (ix 0) s' ∧ Rel 0 s' := by
    intro k
    induction k with
    | zero => intro q s _ _ hR; exact ⟨s, rfl, hR⟩
    | succ k ih =>
      intro q s hk hq hR
      obtain ⟨q, rfl⟩ : ∃ z, q = z + 1 := ⟨q - 1, by omega⟩
      obtain ⟨s1, e1, h1⟩ := step q k s (by omega) hR
      obtain ⟨s2, e2, h2⟩ := ih q s1 (by omega) (by omega) h1
      exact ⟨s2, by rw [e1, e2, Nat.add_sub_add_right], h2⟩
  intro q s hq hR
  exact h n q s (Nat.le_refl _) hq hR
def sumTo (f : Nat → Int32) : Nat → Int32
  | 0 => 0
  | n + 1 => sumTo f n + f n
theorem sumTo_cg {f g : Nat → Int32} : ∀ {n : Nat}, (∀ j, j < n → f j = g j) → sumTo f n = sumTo g n
  | 0, _ => rfl
  | n + 1, h => by
    show sumTo f n + f n = sumTo g n + g n
    rw [sumTo_cg (fun j hj => h j (by omega)), h n (by omega)]
/-- a loop that adds up -/
theorem loop_sum {L : Nat → Int32 → Int32 → Option Int32} (n : Nat) (f : Nat → Int32) (h1 : ∀ (q k : Nat) (a : Int32), k < n → L (q + 1) (nI k) a = L q (nI (k + 1)) (a + f k)) (h2 : ∀ (q : Nat) (a : Int32), L (q + 1) (nI n) a = some a) (q : Nat) (hq : n < q) : L q 0 0 = some (sumTo f n) := by
  obtain ⟨s', e, h⟩ := loop_up (L := L) n (fun k a => a = sumTo f k) (fun q k s hk hR => ⟨s + f k, h1 q k s hk, by rw [hR]; rfl⟩) q 0 (by omega) rfl
  have e0 : nI 0 = 0 := nI_0
  rw [← e0]
  have e' : L q (nI 0) (nI 0) = L q (nI 0) 0 := by rw [e0]
  rw [e', e, h]
  obtain ⟨z, hz⟩ : ∃ z, q - n = z + 1 := ⟨q - n - 1, by omega⟩
  rw [hz]
  exact h2 z _
/-! small numbers -/
def rng (x : Int32) (a b : Int) : Prop := a ≤ x.toInt ∧ x.toInt ≤ b
theorem of_toInt {x y : Int32} (h : x.toInt = y.toInt) : x = y := Int32.toInt_inj.mp h
theorem rng_nI {x : Int32} {b : Nat} (h : rng x 0 b) (hb : b < 2 ^ 31) : ∃ k : Nat, k ≤ b ∧ x = nI k := by
  refine ⟨x.toInt.toNat, by have := h.1; have := h.2; omega, of_toInt ?_⟩
  have h1 := h.1
  have h2 := h.2
  rw [nI_toInt (by omega)]
  omega
theorem rng_m {x : Int32} {b : Nat} (h : rng x (-1) b) (hb : b < 2 ^ 31) : x = -1 ∨ ∃ k : Nat, k ≤ b ∧ x = nI k := by
  by_cases h0 : x.toInt = -1
  · exact Or.inl (of_toInt h0)
  · exact Or.inr (rng_nI (b := b) ⟨by have := h.1; omega, h.2⟩ hb)
theorem m1_lt : (-1 : Int32) < 0 := by decide
theorem nI_m1 (n : Nat) : nI n + 1 - 1 = nI n := by rw [Int32.add_sub_cancel]
theorem add1_sub1 (x : Int32) : x + 1 - 1 = x := Int32.add_sub_cancel _ _
theorem add1_inj {x y : Int32} : x + 1 = y + 1 ↔ x = y := ⟨fun h => by rw [← add1_sub1 x, h, add1_sub1], fun h => by rw [h]⟩
theorem add1_zero {x : Int32} : x + 1 = 0 ↔ x = -1 := by
  constructor
  · intro h
    rw [← add1_sub1 x, h]
    rfl
  · rintro rfl
    rfl
/-! a cloud of the class (7 numbers) against one of the reference's -/
def CR (c d : Nat → Int32) : Prop := c 0 = d 0 ∧ c 1 = d 1 ∧ c 2 = d 2 ∧ d 3 = c 3 + 1 ∧ (c 3 = -1 → c 4 = -1) ∧ (¬ c 3 = -1 → c 4 = d 4) ∧ d 5 = c 5 + 1 ∧ (¬ c 5 = -1 → c 6 = d 6)
def CB (c : Nat → Int32) : Prop := rng (c 0) 0 5 ∧ rng (c 1) 0 5 ∧ rng (c 2) 1 9 ∧ rng (c 3) (-1) 3 ∧ rng (c 5) (-1) 3 ∧ (¬ c 5 = -1 → ¬ c 3 = -1 ∧ rng (c 6) 1 9)
/-- cloud i of a row -/
def mcl (r : Nat → Int32) (i j : Nat) : Int32 := r (19 + 7 * i + j)
/-- row k of the reference's numbers -/
def row (m : Nat → Nat → Int32) (k j : Nat) : Int32 := m 1 (96 * k + j)
def RSc (o : Nat → Nat → Int32) (r : Nat → Int32) : Prop := o 0 5 = r 1 ∧ o 0 6 = r 2 ∧ o 0 7 = r 3 ∧ o 0 8 = r 4 ∧ o 0 9 = r 5 ∧ o 0 10 = r 6 ∧ o 0 11 = r 7
def RPu (o : Nat → Nat → Int32) (r : Nat → Int32) : Prop := ∀ k, k < 4 → o 3 k = r (9 + k)
def RVi (o : Nat → Nat → Int32) (r : Nat → Int32) : Prop := ∀ k, k < 6 → r (13 + k) = o 2 k + 1 ∧ rng (o 2 k) (-1) 3
def RCl (o : Nat → Nat → Int32) (r : Nat → Int32) (n : Nat) : Prop := ∀ i, i < n → CR (o (i + 7)) (mcl r i) ∧ CB (o (i + 7))
def RRc (o : Nat → Nat → Int32) (r : Nat → Int32) (d : Nat) : Prop := ∀ e, e < d → ∃ q : Nat, q ≤ 6 ∧ o 6 e = nI q ∧ r (61 + 7 * e) = nI q ∧ ∀ i, i < q → r (62 + 7 * e + i) = o 5 (6 * e + i) + 1 ∧ rng (o 5 (6 * e + i)) (-1) 3
def RBa (o : Nat → Nat → Int32) : Prop := o 3 0 + o 3 1 + o 3 2 + o 3 3 = 80 + o 0 11 - o 0 10
/-- an office of the class against a row of the reference, n clouds, d dawns recorded -/
def RO (o : Nat → Nat → Int32) (r : Nat → Int32) (n d : Nat) : Prop :=
  n ≤ 6 ∧ d ≤ 5 ∧ o 0 1 = nI n ∧ r 0 = nI n ∧ RSc o r ∧ (o 4 2 = nI d ∧ r 8 = nI d) ∧ RPu o r ∧ RVi o r ∧ RCl o r n ∧ RRc o r d ∧ RBa o
