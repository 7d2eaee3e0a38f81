/-! what stays of the relation when one thing changes -/
theorem CR.cg {c c' d d' : Nat → Int32} (h : CR c d) (h1 : ∀ j, j < 7 → c' j = c j) (h2 : ∀ j, j < 7 → d' j = d j) : CR c' d' := by
  unfold CR at *
  rw [h1 0 (by omega), h1 1 (by omega), h1 2 (by omega), h1 3 (by omega), h1 4 (by omega), h1 5 (by omega), h1 6 (by omega), h2 0 (by omega), h2 1 (by omega), h2 2 (by omega), h2 3 (by omega), h2 4 (by omega), h2 5 (by omega), h2 6 (by omega)]
  exact h
theorem CB.cg {c c' : Nat → Int32} (h : CB c) (h1 : ∀ j, j < 7 → c' j = c j) : CB c' := by
  unfold CB at *
  rw [h1 0 (by omega), h1 1 (by omega), h1 2 (by omega), h1 3 (by omega), h1 5 (by omega), h1 6 (by omega)]
  exact h
theorem vur (o : Nat → Nat → Int32) (i : Nat) (c : Nat → Int32) {r : Nat} (h : r < 7) : va_up o (i + 7) c r = o r := va_up_ne _ _ (by omega)
theorem vun (o : Nat → Nat → Int32) (k : Nat) (c : Nat → Int32) {r : Nat} (h : r ≠ k) : va_up o k c r = o r := va_up_ne _ _ h
section KEEP
variable {o p : Nat → Nat → Int32} {r s : Nat → Int32} {n d : Nat}
theorem RSc.cg (h : RSc o r) (h1 : ∀ j, 5 ≤ j → j ≤ 11 → p 0 j = o 0 j) (h2 : ∀ k, 1 ≤ k → k ≤ 7 → s k = r k) : RSc p s := by
  unfold RSc at *
  rw [h1 5 (by omega) (by omega), h1 6 (by omega) (by omega), h1 7 (by omega) (by omega), h1 8 (by omega) (by omega), h1 9 (by omega) (by omega), h1 10 (by omega) (by omega), h1 11 (by omega) (by omega), h2 1 (by omega) (by omega), h2 2 (by omega) (by omega), h2 3 (by omega) (by omega), h2 4 (by omega) (by omega), h2 5 (by omega) (by omega), h2 6 (by omega) (by omega), h2 7 (by omega) (by omega)]
  exact h
theorem RPu.cg (h : RPu o r) (h1 : ∀ k, k < 4 → p 3 k = o 3 k) (h2 : ∀ k, 9 ≤ k → k < 13 → s k = r k) : RPu p s := fun k hk => by rw [h1 k hk, h2 _ (by omega) (by omega)]; exact h k hk
theorem RVi.cg (h : RVi o r) (h1 : ∀ k, k < 6 → p 2 k = o 2 k) (h2 : ∀ k, 13 ≤ k → k < 19 → s k = r k) : RVi p s := fun k hk => by rw [h1 k hk, h2 _ (by omega) (by omega)]; exact h k hk
theorem RCl.cg (h : RCl o r n) (h6 : n ≤ 6) (h1 : ∀ i, i < n → ∀ j, j < 7 → p (i + 7) j = o (i + 7) j) (h2 : ∀ k, 19 ≤ k → k < 61 → s k = r k) : RCl p s n := fun i hi => ⟨(h i hi).1.cg (h1 i hi) (fun j hj => h2 _ (by omega) (by omega)), (h i hi).2.cg (h1 i hi)⟩
theorem RRc.cg (h : RRc o r d) (h5 : d ≤ 5) (h1 : ∀ k, k < 30 → p 5 k = o 5 k) (h2 : ∀ k, k < 5 → p 6 k = o 6 k) (h3 : ∀ k, 61 ≤ k → k < 96 → s k = r k) : RRc p s d := fun e he => by
  obtain ⟨q, q1, q2, q3, q4⟩ := h e he
  refine ⟨q, q1, by rw [h2 e (by omega)]; exact q2, by rw [h3 _ (by omega) (by omega)]; exact q3, fun i hi => ?_⟩
  rw [h1 _ (by omega), h3 _ (by omega) (by omega)]
  exact q4 i hi
theorem RBa.cg (h : RBa o) (h1 : ∀ k, k < 4 → p 3 k = o 3 k) (h2 : p 0 11 = o 0 11) (h3 : p 0 10 = o 0 10) : RBa p := by
  unfold RBa at *
  rw [h1 0 (by omega), h1 1 (by omega), h1 2 (by omega), h1 3 (by omega), h2, h3]
  exact h
/-- two offices that say the same -/
def EqO (p o : Nat → Nat → Int32) : Prop := p 0 1 = o 0 1 ∧ (∀ j, 5 ≤ j → j ≤ 11 → p 0 j = o 0 j) ∧ (∀ j, j < 6 → p 2 j = o 2 j) ∧ (∀ j, j < 4 → p 3 j = o 3 j) ∧ p 4 2 = o 4 2 ∧ (∀ j, j < 30 → p 5 j = o 5 j) ∧ (∀ j, j < 5 → p 6 j = o 6 j) ∧ ∀ i, i < 6 → ∀ j, j < 7 → p (i + 7) j = o (i + 7) j
theorem RO.cg (h : RO o r n d) (he : EqO p o) (hs : ∀ k, k < 96 → s k = r k) : RO p s n d := by
  obtain ⟨h1, h2, h3, h4, h5, h6, h7, h8, h9, h10, h11⟩ := h
  obtain ⟨e1, e2, e3, e4, e5, e6, e7, e8⟩ := he
  exact ⟨h1, h2, e1.trans h3, (hs 0 (by omega)).trans h4, h5.cg e2 (fun k _ _ => hs k (by omega)), ⟨e5.trans h6.1, (hs 8 (by omega)).trans h6.2⟩, h7.cg e4 (fun k _ _ => hs k (by omega)), h8.cg e3 (fun k _ _ => hs k (by omega)), h9.cg h1 (fun i hi => e8 i (by omega)) (fun k _ _ => hs k (by omega)), h10.cg h2 e6 e7 (fun k _ _ => hs k (by omega)), h11.cg e4 (e2 11 (by omega) (by omega)) (e2 10 (by omega) (by omega))⟩
theorem EqO.refl (o : Nat → Nat → Int32) : EqO o o := ⟨rfl, fun _ _ _ => rfl, fun _ _ => rfl, fun _ _ => rfl, rfl, fun _ _ => rfl, fun _ _ => rfl, fun _ _ _ _ => rfl⟩
theorem EqO.trans {o p q : Nat → Nat → Int32} (h1 : EqO o p) (h2 : EqO p q) : EqO o q :=
  ⟨h1.1.trans h2.1, fun j a b => (h1.2.1 j a b).trans (h2.2.1 j a b), fun j a => (h1.2.2.1 j a).trans (h2.2.2.1 j a), fun j a => (h1.2.2.2.1 j a).trans (h2.2.2.2.1 j a), h1.2.2.2.2.1.trans h2.2.2.2.2.1, fun j a => (h1.2.2.2.2.2.1 j a).trans (h2.2.2.2.2.2.1 j a), fun j a => (h1.2.2.2.2.2.2.1 j a).trans (h2.2.2.2.2.2.2.1 j a), fun i hi j a => (h1.2.2.2.2.2.2.2 i hi j a).trans (h2.2.2.2.2.2.2.2 i hi j a)⟩
/-- what a refusal writes is no part of the relation -/
theorem EqO.refuse (o : Nat → Nat → Int32) (a b : Int32) : EqO (va_up o 0 (upd (upd (o 0) 12 a) 13 b)) o := by
  refine ⟨?_, fun j h1 h2 => ?_, fun _ _ => rfl, fun _ _ => rfl, rfl, fun _ _ => rfl, fun _ _ => rfl, fun i hi j hj => ?_⟩
  · rw [va_up_self, upd_ne _ _ (by omega), upd_ne _ _ (by omega)]
  · rw [va_up_self, upd_ne _ _ (by omega), upd_ne _ _ (by omega)]
  · rw [vun _ _ _ (by omega)]
/-- one cloud changes -/
theorem RO.cloud (h : RO o r n d) {i : Nat} (hi : i < n) {c : Nat → Int32} (hs : ∀ k, k < 96 → ¬ (19 + 7 * i ≤ k ∧ k < 26 + 7 * i) → s k = r k) (hC : CR c (mcl s i)) (hB : CB c) : RO (va_up o (i + 7) c) s n d := by
  obtain ⟨h1, h2, h3, h4, h5, h6, h7, h8, h9, h10, h11⟩ := h
  refine ⟨h1, h2, ?_, ?_, h5.cg (fun j _ _ => by rw [vur _ _ _ (by omega)]) (fun k _ _ => hs k (by omega) (by omega)), ⟨?_, ?_⟩, h7.cg (fun k _ => by rw [vur _ _ _ (by omega)]) (fun k _ _ => hs k (by omega) (by omega)), h8.cg (fun k _ => by rw [vur _ _ _ (by omega)]) (fun k _ _ => hs k (by omega) (by omega)), fun j hj => ?_, h10.cg h2 (fun k _ => by rw [vur _ _ _ (by omega)]) (fun k _ => by rw [vur _ _ _ (by omega)]) (fun k _ _ => hs k (by omega) (by omega)), h11.cg (fun k _ => by rw [vur _ _ _ (by omega)]) (by rw [vur _ _ _ (by omega)]) (by rw [vur _ _ _ (by omega)])⟩
  · rw [vur _ _ _ (by omega)]; exact h3
  · rw [hs 0 (by omega) (by omega)]; exact h4
  · rw [vur _ _ _ (by omega)]; exact h6.1
  · rw [hs 8 (by omega) (by omega)]; exact h6.2
  · by_cases e : j = i
    · subst e
      rw [va_up_self]
      exact ⟨hC, hB⟩
    · rw [vun _ _ _ (by omega)]
      exact ⟨(h9 j hj).1.cg (fun _ _ => rfl) (fun k hk => hs _ (by omega) (by omega)), (h9 j hj).2⟩
/-- the purses change -/
theorem RO.purses (h : RO o r n d) {f : Nat → Int32} (hs : ∀ k, k < 96 → ¬ (9 ≤ k ∧ k < 13) → s k = r k) (hf : ∀ k, k < 4 → f k = s (9 + k)) (hb : f 0 + f 1 + f 2 + f 3 = 80 + o 0 11 - o 0 10) : RO (va_up o 3 f) s n d := by
  obtain ⟨h1, h2, h3, h4, h5, h6, h7, h8, h9, h10, h11⟩ := h
  refine ⟨h1, h2, h3, ?_, h5.cg (fun j _ _ => rfl) (fun k _ _ => hs k (by omega) (by omega)), ⟨h6.1, ?_⟩, fun k hk => ?_, h8.cg (fun k _ => rfl) (fun k _ _ => hs k (by omega) (by omega)), h9.cg h1 (fun i hi j hj => ?_) (fun k _ _ => hs k (by omega) (by omega)), h10.cg h2 (fun k _ => rfl) (fun k _ => rfl) (fun k _ _ => hs k (by omega) (by omega)), ?_⟩
  · rw [hs 0 (by omega) (by omega)]; exact h4
  · rw [hs 8 (by omega) (by omega)]; exact h6.2
  · rw [va_up_self]; exact hf k hk
  · rw [vun _ _ _ (by omega)]
  · unfold RBa
    rw [va_up_self]
    exact hb
end KEEP
