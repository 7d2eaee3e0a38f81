/-! what holds of an office of the class between calls; every change keeps it -/
def CX (c : Nat → Int32) : Prop := (c 3 = -1 → c 4 = -1) ∧ (¬ c 3 = -1 → rng (c 4) 0 5) ∧ (¬ c 5 = -1 → ¬ c 5 = c 3 ∧ c 2 ≤ c 6)
def CI (c : Nat → Int32) : Prop := CB c ∧ CX c
def DI (o : Nat → Nat → Int32) (d : Nat) : Prop := ∀ e, e < d → ∃ q : Nat, q ≤ 6 ∧ o 6 e = nI q ∧ ∀ i, i < q → rng (o 5 (6 * e + i)) (-1) 3
def OI (k : Nat) (o : Nat → Nat → Int32) (n d : Nat) : Prop :=
  n ≤ 6 ∧ o 0 1 = nI n ∧ (∀ i, i < n → CI (o (i + 7))) ∧ (∀ v, v < 6 → rng (o 2 v) (-1) 3) ∧ PF (o 3) (SB k) ∧ RBa o ∧ d ≤ 5 ∧ o 4 2 = nI d ∧ (∃ t : Nat, t ≤ k ∧ o 0 5 = nI t ∧ d = (if t < 5 then t else 5)) ∧ DI o d
theorem CI.cg {c c' : Nat → Int32} (h : CI c) (h1 : ∀ j, j < 7 → c' j = c j) : CI c' := by
  refine ⟨h.1.cg h1, ?_⟩
  have h2 := h.2
  unfold CX at h2 ⊢
  rw [h1 2 (by omega), h1 3 (by omega), h1 4 (by omega), h1 5 (by omega), h1 6 (by omega)]
  exact h2
theorem OI.cg {k n d : Nat} {o p : Nat → Nat → Int32} (h : OI k o n d) (he : EqO p o) : OI k p n d := by
  obtain ⟨h1, h2, h3, h4, h5, h6, h7, h8, ⟨t, h9, h10, h11⟩, h12⟩ := h
  obtain ⟨e1, e2, e3, e4, e5, e6, e7, e8⟩ := he
  refine ⟨h1, e1.trans h2, fun i hi => (h3 i hi).cg (fun j hj => e8 i (by omega) j hj), fun v hv => by rw [e3 v hv]; exact h4 v hv, h5.cg e4, h6.cg e4 (e2 11 (by omega) (by omega)) (e2 10 (by omega) (by omega)), h7, e5.trans h8, ⟨t, h9, (e2 5 (by omega) (by omega)).trans h10, h11⟩, fun e he => ?_⟩
  obtain ⟨q, q1, q2, q3⟩ := h12 e he
  exact ⟨q, q1, (e7 e (by omega)).trans q2, fun i hi => by rw [e6 _ (by omega)]; exact q3 i hi⟩
theorem OI.mono {k l n d : Nat} {o : Nat → Nat → Int32} (h : OI k o n d) (hl : k ≤ l) : OI l o n d := by
  obtain ⟨h1, h2, h3, h4, h5, h6, h7, h8, ⟨t, h9, h10, h11⟩, h12⟩ := h
  exact ⟨h1, h2, h3, h4, h5.mono (by unfold SB; omega), h6, h7, h8, ⟨t, by omega, h10, h11⟩, h12⟩
/-- a change of an office: refused, or done -/
def Cg (k : Nat) (o : Nat → Nat → Int32) (v : Option (Int32 × (Nat → Nat → Int32))) : Prop :=
  ∃ (a : Int32) (o' : Nat → Nat → Int32), v = some (a, o') ∧ ((a = -1 ∧ ∃ w dt, ¬ w = 0 ∧ o' = va_up o 0 (upd (upd (o 0) 12 w) 13 dt)) ∨ (¬ a = -1 ∧ ∃ n' d', OI (k + 1) o' n' d'))
theorem Cg.ref {k : Nat} {o : Nat → Nat → Int32} {v : Option (Int32 × (Nat → Nat → Int32))} (w dt : Int32) (hw : ¬ w = 0) (h : v = some (-1, va_up o 0 (upd (upd (o 0) 12 w) 13 dt))) : Cg k o v := ⟨_, _, h, Or.inl ⟨rfl, w, dt, hw, rfl⟩⟩
theorem rf_eq (o : Nat → Nat → Int32) (a b : Int32) : some ((D_X4_refuse o a b).1, (D_X4_refuse o a b).2) = some (-1, va_up o 0 (upd (upd (o 0) 12 a) 13 b)) := rfl
/-- the clouds, the purses and some numbers change alone -/
theorem OI.part {k n d : Nat} {o o' : Nat → Nat → Int32} (h : OI k o n d) (e1 : o' 0 1 = o 0 1) (e5 : o' 0 5 = o 0 5) (e2 : o' 2 = o 2) (e4 : o' 4 2 = o 4 2) (e6 : o' 5 = o 5) (e7 : o' 6 = o 6) (hc : ∀ i, i < n → CI (o' (i + 7))) (hF : PF (o' 3) (SB (k + 1))) (hB : RBa o') : OI (k + 1) o' n d := by
  obtain ⟨h1, h2, h3, h4, h5, h6, h7, h8, ⟨t, h9, h10, h11⟩, h12⟩ := h
  refine ⟨h1, e1.trans h2, hc, by rw [e2]; exact h4, hF, hB, h7, e4.trans h8, ⟨t, by omega, e5.trans h10, h11⟩, ?_⟩
  unfold DI
  rw [e6, e7]
  exact h12
theorem SB_s (k : Nat) : SB (k + 1) = SB k + 72 := by unfold SB; omega
theorem CB.none {c : Nat → Int32} (h0 : rng (c 0) 0 5) (h1 : rng (c 1) 0 5) (h2 : rng (c 2) 1 9) (h3 : c 3 = -1) (h5 : c 5 = -1) : CB c :=
  ⟨h0, h1, h2, by rw [h3]; exact rng_m1 (by decide), by rw [h5]; exact rng_m1 (by decide), fun z => absurd h5 z⟩
theorem rng_of {k a b : Nat} (h1 : a ≤ k) (h2 : k ≤ b) (h : k < 2 ^ 31) : rng (nI k) a b := by
  have e := nI_toInt h
  exact ⟨by omega, by omega⟩
theorem entI {c : Nat → Int32} (h : CB c) {q : Nat} (hq : q < 4) : CI (D_X1_entitle c (nI q)) :=
  ⟨entB h (rng_ow hq), fun z => absurd z (nn1 (by omega)), fun _ => by rw [en4]; exact h.2.1, fun z => absurd (en5 c _) z⟩
/-! clouds come -/
theorem cg_cloud {k n d : Nat} {o : Nat → Nat → Int32} (h : OI k o n d) (p1 p2 p3 : Int32) : Cg k o (D_X4_letCome o p1 p2 p3) := by
  obtain ⟨h1, h2, h3, h4, h5, h6, h7, h8, ⟨t, h9, h10, h11⟩, h12⟩ := id h
  unfold D_X4_letCome
  rcases vi_cases p1 with ⟨e, -⟩ | ⟨e, v, hv, rfl⟩
  · rw [e, if_pos rfl]; exact Cg.ref 2 p1 (by decide) rfl
  rw [e, if_neg one_ne]
  rcases wi_cases p2 (n := 6) (by decide) with ⟨e, -⟩ | ⟨e, s, hs, rfl⟩
  · rw [show D_X9_isWithin p2 6 = 0 from e, if_pos rfl]; exact Cg.ref 3 p2 (by decide) rfl
  rw [show D_X9_isWithin (nI s) 6 = 1 from e, if_neg one_ne]
  by_cases g1 : p3 < 1
  · rw [if_pos g1]; exact Cg.ref 3 p3 (by decide) rfl
  rw [if_neg g1]
  by_cases g2 : p3 ≤ 9
  · rw [if_pos g2, h2]
    rcases wi_cases (nI n) (n := 6) (by decide) with ⟨e, -⟩ | ⟨e, z, hz, ez⟩
    · rw [show D_X9_isWithin (nI n) 6 = 0 from e, if_pos rfl]; exact Cg.ref 1 (nI n) (by decide) rfl
    have hn : n < 6 := by have := nI_eqI (by omega) (by omega) ez; omega
    rw [show D_X9_isWithin (nI n) 6 = 1 from e, if_neg one_ne, if_pos (inb_nI hn (by decide)), nI_clamp (by omega), add1_sub1]
    have hp3 : rng p3 1 9 := by
      rw [lt_toInt, show (1 : Int32).toInt = 1 by decide] at g1
      rw [le_toInt, show (9 : Int32).toInt = 9 by decide] at g2
      exact ⟨by omega, by omega⟩
    refine ⟨_, _, rfl, Or.inr ⟨nn1 (by omega), n + 1, d, by omega, ?_, fun i hi => ?_, ?_, ?_, ?_, h7, ?_, ⟨t, by omega, ?_, h11⟩, ?_⟩⟩
    · rw [va_up_self, upd_self, nI_succ]
    · rw [vun _ _ _ (by omega)]
      by_cases hin : i = n
      · subst hin
        rw [va_up_self]
        refine ⟨CB.none (rng_of (by omega) (by omega) (by omega) : rng (nI v) (0 : Nat) (5 : Nat)) (rng_of (by omega) (by omega) (by omega) : rng (nI s) (0 : Nat) (5 : Nat)) hp3 rfl rfl, fun _ => rfl, fun z => absurd rfl z, fun z => absurd rfl z⟩
      · rw [vun _ _ _ (by omega)]; exact h3 i (by omega)
    · rw [vun _ _ _ (by omega), vun _ _ _ (by omega)]; exact h4
    · rw [vun _ _ _ (by omega), vun _ _ _ (by omega)]; exact h5.mono (by rw [SB_s]; omega)
    · unfold RBa at h6 ⊢
      rw [vun _ _ _ (by omega), vun _ _ _ (by omega), va_up_self, upd_ne _ _ (by omega), upd_ne _ _ (by omega)]
      exact h6
    · rw [vun _ _ _ (by omega), vun _ _ _ (by omega)]; exact h8
    · rw [va_up_self, upd_ne _ _ (by omega)]; exact h10
    · unfold DI
      rw [vun _ _ _ (by omega), vun _ _ _ (by omega), vun _ _ _ (by omega), vun _ _ _ (by omega)]
      exact h12
  · rw [if_neg g2]; exact Cg.ref 3 p3 (by decide) rfl
/-! vineyards are given -/
theorem ov_eq (o : Nat → Nat → Int32) : ∃ c : Nat, c ≤ 6 ∧ D_X4_ownedVineyards o = some (nI c) := by
  unfold D_X4_ownedVineyards
  rw [vb_eq]
  obtain ⟨c, hc, e⟩ := sumTo_cnt (f := fun j => if o 2 j = -1 then 1 else 0) (n := 6) (fun j _ => by (try dsimp only); split <;> simp)
  refine ⟨6 - c, by omega, ?_⟩
  rw [e]
  show some ((6 : Int32) - nI c) = _
  rw [show (6 : Int32) = nI 6 from rfl, nI_sub hc]
theorem vine_ok {k n d : Nat} {o : Nat → Nat → Int32} (h : OI k o n d) {v : Nat} {p : Int32} (hp : rng p (-1) 3) : OI (k + 1) (va_up o 2 (upd (o 2) v p)) n d := by
  obtain ⟨h1, h2, h3, h4, h5, h6, h7, h8, ⟨t, h9, h10, h11⟩, h12⟩ := h
  refine ⟨h1, by rw [vun _ _ _ (by omega)]; exact h2, fun i hi => by rw [vun _ _ _ (by omega)]; exact h3 i hi, fun u hu => ?_, by rw [vun _ _ _ (by omega)]; exact h5.mono (by rw [SB_s]; omega), ?_, h7, by rw [vun _ _ _ (by omega)]; exact h8, ⟨t, by omega, by rw [vun _ _ _ (by omega)]; exact h10, h11⟩, ?_⟩
  · rw [va_up_self]
    by_cases e : u = v
    · subst e; rw [upd_self]; exact hp
    · rw [upd_ne _ _ e]; exact h4 u hu
  · unfold RBa at h6 ⊢
    rw [vun _ _ _ (by omega), vun _ _ _ (by omega)]
    exact h6
  · unfold DI
    rw [vun _ _ _ (by omega), vun _ _ _ (by omega)]
    exact h12
theorem cg_vine {k n d : Nat} {o : Nat → Nat → Int32} (h : OI k o n d) (p1 p2 : Int32) : Cg k o (D_X4_giveVineyard o p1 p2) := by
  unfold D_X4_giveVineyard
  rcases vi_cases p1 with ⟨e, -⟩ | ⟨e, v, hv, rfl⟩
  · rw [e, if_pos rfl]; exact Cg.ref 2 p1 (by decide) rfl
  rw [e, if_neg one_ne]
  simp only [inb_nI hv (show 6 < 2 ^ 31 by decide), nI_clamp (show v < 2 ^ 31 by omega), ↓reduceIte]
  by_cases g : p2 = -1
  · rw [if_pos g]
    by_cases g1 : o 2 v = p2
    · rw [if_pos g1]; exact Cg.ref 4 p2 (by decide) rfl
    · rw [if_neg g1]
      obtain ⟨c, hc, e2⟩ := ov_eq (va_up o 2 (upd (o 2) v p2))
      rw [e2]
      exact ⟨_, _, rfl, Or.inr ⟨nn1 (by omega), n, d, vine_ok h (by rw [g]; exact rng_m1 (by decide))⟩⟩
  · rw [if_neg g]
    rcases ow_cases p2 with ⟨e, -⟩ | ⟨e, q, hq, rfl⟩
    · rw [e, if_pos rfl]; exact Cg.ref 2 p2 (by decide) rfl
    rw [e, if_neg one_ne]
    by_cases g1 : o 2 v = nI q
    · rw [if_pos g1]; exact Cg.ref 4 (nI q) (by decide) rfl
    · rw [if_neg g1]
      obtain ⟨c, hc, e2⟩ := ov_eq (va_up o 2 (upd (o 2) v (nI q)))
      rw [e2]
      exact ⟨_, _, rfl, Or.inr ⟨nn1 (by omega), n, d, vine_ok h (rng_ow hq)⟩⟩
/-! titles -/
theorem hc_of {o : Nat → Nat → Int32} {n : Nat} (h2 : o 0 1 = nI n) (h1 : n ≤ 6) (x : Int32) : D_X4_hasCloud o x = 0 ∨ (D_X4_hasCloud o x = 1 ∧ ∃ i, i < n ∧ x = nI i) := by
  unfold D_X4_hasCloud
  rw [h2]
  rcases wi_cases x (n := n) (by omega) with ⟨e, -⟩ | ⟨e, i, hi, ex⟩
  · exact Or.inl e
  · exact Or.inr ⟨e, i, hi, ex⟩
theorem cg_title {k n d : Nat} {o : Nat → Nat → Int32} (hk : k ≤ 600) (h : OI k o n d) (p1 p2 : Int32) : Cg k o (D_X4_giveTitle o p1 p2) := by
  obtain ⟨h1, h2, h3, h4, h5, h6, -⟩ := id h
  unfold D_X4_giveTitle
  rcases hc_of h2 h1 p1 with e | ⟨e, i, hi, rfl⟩
  · rw [e, if_pos rfl]; exact Cg.ref 2 p1 (by decide) rfl
  rw [e, if_neg one_ne]
  rcases ow_cases p2 with ⟨e, -⟩ | ⟨e, q, hq, rfl⟩
  · rw [e, if_pos rfl]; exact Cg.ref 2 p2 (by decide) rfl
  rw [e, if_neg one_ne]
  simp only [inb_nI (show i < 6 by omega) (show 6 < 2 ^ 31 by decide), nI_clamp (show i < 2 ^ 31 by omega), inb_nI hq (show 4 < 2 ^ 31 by decide), nI_clamp (show q < 2 ^ 31 by omega), ↓reduceIte, hT]
  by_cases g : o (i + 7) 3 = -1
  · rw [if_pos g]
    by_cases g1 : o (i + 7) 2 ≤ o 3 q
    · rw [if_pos g1]
      obtain ⟨z, z1, z9, ez⟩ := (h3 i hi).1.size
      have hle : nI z ≤ o 3 q := by rw [← ez]; exact g1
      obtain ⟨hz, hF, y, hy, ey⟩ := h5.sub (by unfold SB; omega) hq (show z < 2 ^ 30 by omega) hle
      refine ⟨_, _, rfl, Or.inr ⟨?_, n, d, OI.part h ?_ ?_ ?_ ?_ ?_ ?_ (fun j hj => ?_) ?_ ?_⟩⟩
      · rw [upd_self, ez, ey]; exact nn1 (by unfold SB at hy; omega)
      · rw [vun _ _ _ (by omega), va_up_self, upd_ne _ _ (by omega)]
      · rw [vun _ _ _ (by omega), va_up_self, upd_ne _ _ (by omega)]
      · rw [vun _ _ _ (by omega), vun _ _ _ (by omega), vun _ _ _ (by omega)]
      · rw [vun _ _ _ (by omega), vun _ _ _ (by omega), vun _ _ _ (by omega)]
      · rw [vun _ _ _ (by omega), vun _ _ _ (by omega), vun _ _ _ (by omega)]
      · rw [vun _ _ _ (by omega), vun _ _ _ (by omega), vun _ _ _ (by omega)]
      · by_cases hji : j = i
        · subst hji; rw [va_up_self]; exact entI (h3 j hj).1 hq
        · rw [vun _ _ _ (by omega), vun _ _ _ (by omega), vun _ _ _ (by omega)]; exact h3 j hj
      · rw [vun _ _ _ (by omega), vun _ _ _ (by omega), va_up_self, ez]; exact hF.mono (by rw [SB_s]; omega)
      · unfold RBa at h6 ⊢
        rw [vun _ _ _ (by omega), vun _ _ _ (by omega), va_up_self, vun _ _ _ (by omega), va_up_self, upd_ne (o 0) _ (show (11 : Nat) ≠ 10 by omega), upd_self, sum4 _ hq, h6]
        grind only
    · rw [if_neg g1]; exact Cg.ref 7 (o 3 q) (by decide) rfl
  · rw [if_neg g]; exact Cg.ref 5 (o (i + 7) 3) (by decide) rfl
/-! deals -/
theorem heldC {k n d : Nat} {o : Nat → Nat → Int32} (h : OI k o n d) {i p : Nat} (hi : i < n) (hp : p < 4) (x : Int32) :
    (D_X4_checkDeal o i (nI i) (nI p) x = some (0, o) ∧ (∃ q, q < 4 ∧ o (i + 7) 3 = nI q ∧ q ≠ p) ∧ o (i + 7) 5 = -1 ∧ x ≤ o 3 p) ∨
    ∃ w dt, ¬ w = 0 ∧ D_X4_checkDeal o i (nI i) (nI p) x = some (-1, va_up o 0 (upd (upd (o 0) 12 w) 13 dt)) := by
  have hB := (h.2.2.1 i hi).1
  unfold D_X4_checkDeal
  simp only [pu_eq o hp, hT, hPl, Option.bind_some]
  by_cases h3 : o (i + 7) 3 = -1
  · right
    exact ⟨6, nI i, by decide, by rw [if_pos h3]; rfl⟩
  · rw [if_neg h3]
    obtain ⟨q, hq, eq⟩ := hB.own h3
    by_cases h4 : o (i + 7) 3 = nI p
    · right
      exact ⟨4, nI p, by decide, by rw [if_pos h4]; rfl⟩
    · rw [if_neg h4]
      by_cases h5 : o (i + 7) 5 = -1
      · rw [if_pos h5]
        by_cases hx : x ≤ o 3 p
        · left
          rw [if_pos hx]
          exact ⟨rfl, ⟨q, hq, eq, fun e => h4 (by rw [eq, e])⟩, h5, hx⟩
        · right
          exact ⟨7, o 3 p, by decide, by rw [if_neg hx]; rfl⟩
      · right
        exact ⟨8, o (i + 7) 5, by decide, by rw [if_neg h5]; rfl⟩
/-- coins go from p to q: the purses behind it -/
theorem paid {k n d : Nat} {o : Nat → Nat → Int32} (hk : k ≤ 600) (h : OI k o n d) {p q z : Nat} (hp : p < 4) (hq : q < 4) (hz : z < 2 ^ 30) (hle : nI z ≤ o 3 p) {f : Nat → Int32} (hf : f = upd (upd (o 3) p (o 3 p - nI z)) q (upd (o 3) p (o 3 p - nI z) q + nI z)) :
    PF f (SB (k + 1)) ∧ f 0 + f 1 + f 2 + f 3 = o 3 0 + o 3 1 + o 3 2 + o 3 3 ∧ ∃ y, y < 2 ^ 30 ∧ f q = nI y := by
  obtain ⟨-, -, -, -, h5, -⟩ := h
  obtain ⟨hzB, hF, -⟩ := h5.sub (by unfold SB; omega) hp hz hle
  have hF2 := hF.add z hq
  subst hf
  have hF3 : PF (upd (upd (o 3) p (o 3 p - nI z)) q (upd (o 3) p (o 3 p - nI z) q + nI z)) (SB (k + 1)) := hF2.mono (by rw [SB_s]; omega)
  refine ⟨hF3, ?_, ?_⟩
  · rw [sum4 _ hq, sum4 _ hp]; grind only
  · obtain ⟨y, hy, e⟩ := hF3.at hq
    exact ⟨y, by unfold SB at hy; omega, e⟩
theorem deal_ok {k n d : Nat} {o : Nat → Nat → Int32} (h : OI k o n d) {i : Nat} {f c : Nat → Int32} (hc : CI c) (hF : PF f (SB (k + 1))) (hs : f 0 + f 1 + f 2 + f 3 = o 3 0 + o 3 1 + o 3 2 + o 3 3) : OI (k + 1) (va_up (va_up o 3 f) (i + 7) c) n d := by
  have h6 := h.2.2.2.2.2.1
  refine OI.part h ?_ ?_ ?_ ?_ ?_ ?_ (fun j hj => ?_) ?_ ?_
  · rw [vun _ _ _ (by omega), vun _ _ _ (by omega)]
  · rw [vun _ _ _ (by omega), vun _ _ _ (by omega)]
  · rw [vun _ _ _ (by omega), vun _ _ _ (by omega)]
  · rw [vun _ _ _ (by omega), vun _ _ _ (by omega)]
  · rw [vun _ _ _ (by omega), vun _ _ _ (by omega)]
  · rw [vun _ _ _ (by omega), vun _ _ _ (by omega)]
  · by_cases hji : j = i
    · subst hji; rw [va_up_self]; exact hc
    · rw [vun _ _ _ (by omega), vun _ _ _ (by omega)]; exact h.2.2.1 j hj
  · rw [vun _ _ _ (by omega), va_up_self]; exact hF
  · unfold RBa at h6 ⊢
    rw [vun _ _ _ (by omega), va_up_self, vun _ _ _ (by omega), vun _ _ _ (by omega), hs]
    exact h6
theorem cg_sell {k n d : Nat} {o : Nat → Nat → Int32} (hk : k ≤ 600) (h : OI k o n d) (p1 p2 p3 : Int32) : Cg k o (D_X4_sellTo o p1 p2 p3) := by
  obtain ⟨h1, h2, h3, -⟩ := id h
  unfold D_X4_sellTo
  rcases hc_of h2 h1 p1 with e | ⟨e, i, hi, rfl⟩
  · rw [e, if_pos rfl]; exact Cg.ref 2 p1 (by decide) rfl
  rw [e, if_neg one_ne]
  rcases ow_cases p2 with ⟨e, -⟩ | ⟨e, q, hq, rfl⟩
  · rw [e, if_pos rfl]; exact Cg.ref 2 p2 (by decide) rfl
  rw [e, if_neg one_ne]
  by_cases g1 : p3 < 0
  · rw [if_pos g1]; exact Cg.ref 3 p3 (by decide) rfl
  rw [if_neg g1]
  by_cases g2 : p3 ≤ 99
  · rw [if_pos g2, if_pos (inb_nI (show i < 6 by omega) (by decide)), nI_clamp (show i < 2 ^ 31 by omega)]
    obtain ⟨z, hz, rfl⟩ := toI99 g1 g2
    rcases heldC h hi hq (nI z) with ⟨e, ⟨r, hr, er, hne⟩, h5, hle⟩ | ⟨w, dt, hw, e⟩
    · rw [e]
      simp only [Option.bind_some]
      rw [if_neg (show ¬ (0 : Int32) = -1 by decide), er, pay_eq o hq hr]
      simp only [Option.bind_some]
      obtain ⟨hF, hs, y, hy, ey⟩ := paid hk h hq hr (show z < 2 ^ 30 by omega) hle rfl
      have hc7 : va_up o 3 (upd (upd (o 3) q (o 3 q - nI z)) r (upd (o 3) q (o 3 q - nI z) r + nI z)) (i + 7) = o (i + 7) := vun _ _ _ (by omega)
      rw [hc7, pu_eq _ hr, vun _ _ _ (show (3 : Nat) ≠ i + 7 by omega), va_up_self, ey]
      exact ⟨_, _, rfl, Or.inr ⟨nn1 (by omega), n, d, deal_ok h (entI (h3 i hi).1 hq) hF hs⟩⟩
    · rw [e]
      exact Cg.ref w dt hw (by simp only [Option.bind_some, ↓reduceIte])
  · rw [if_neg g2]; exact Cg.ref 3 p3 (by decide) rfl
theorem cg_pledge {k n d : Nat} {o : Nat → Nat → Int32} (hk : k ≤ 600) (h : OI k o n d) (p1 p2 : Int32) : Cg k o (D_X4_pledgeTo o p1 p2) := by
  obtain ⟨h1, h2, h3, -⟩ := id h
  unfold D_X4_pledgeTo
  rcases hc_of h2 h1 p1 with e | ⟨e, i, hi, rfl⟩
  · rw [e, if_pos rfl]; exact Cg.ref 2 p1 (by decide) rfl
  rw [e, if_neg one_ne]
  rcases ow_cases p2 with ⟨e, -⟩ | ⟨e, q, hq, rfl⟩
  · rw [e, if_pos rfl]; exact Cg.ref 2 p2 (by decide) rfl
  rw [e, if_neg one_ne, if_pos (inb_nI (show i < 6 by omega) (by decide)), nI_clamp (show i < 2 ^ 31 by omega)]
  obtain ⟨z, z1, z9, ez⟩ := (h3 i hi).1.size
  have hl : D_X1_loan (o (i + 7)) = nI (2 * z) := by unfold D_X1_loan; rw [ez, two_nI]
  rw [hl]
  rcases heldC h hi hq (nI (2 * z)) with ⟨e, ⟨r, hr, er, hne⟩, h5, hle⟩ | ⟨w, dt, hw, e⟩
  · rw [e]
    simp only [Option.bind_some]
    rw [if_neg (show ¬ (0 : Int32) = -1 by decide), er, pay_eq o hq hr]
    simp only [Option.bind_some]
    obtain ⟨hF, hs, -⟩ := paid hk h hq hr (show 2 * z < 2 ^ 30 by omega) hle rfl
    have hc7 : va_up o 3 (upd (upd (o 3) q (o 3 q - nI (2 * z))) r (upd (o 3) q (o 3 q - nI (2 * z)) r + nI (2 * z))) (i + 7) = o (i + 7) := vun _ _ _ (by omega)
    rw [hc7]
    have hB := (h3 i hi).1
    have hX := (h3 i hi).2
    have hne3 : ¬ o (i + 7) 3 = -1 := by rw [er]; exact nn1 (by omega)
    refine ⟨_, _, rfl, Or.inr ⟨nn1 (by omega), n, d, deal_ok h ⟨⟨hB.1, hB.2.1, hB.2.2.1, hB.2.2.2.1, ?_, fun _ => ⟨hne3, ?_⟩⟩, hX.1, hX.2.1, fun _ => ⟨?_, ?_⟩⟩ hF hs⟩⟩
    · show rng (upd (upd (o (i + 7)) 5 (nI q)) 6 (o (i + 7) 2) 5) (-1) 3
      rw [upd_ne _ _ (by omega), upd_self]; exact rng_ow hq
    · show rng (upd (upd (o (i + 7)) 5 (nI q)) 6 (o (i + 7) 2) 6) 1 9
      rw [upd_self]; exact hB.2.2.1
    · show ¬ upd (upd (o (i + 7)) 5 (nI q)) 6 (o (i + 7) 2) 5 = o (i + 7) 3
      rw [upd_ne _ _ (by omega), upd_self, er]
      exact fun e9 => hne (nI_eqI (by omega) (by omega) e9).symm
    · show o (i + 7) 2 ≤ upd (upd (o (i + 7)) 5 (nI q)) 6 (o (i + 7) 2) 6
      rw [upd_self]; exact Int32.le_refl _
  · rw [e]
    exact Cg.ref w dt hw (by simp only [Option.bind_some, ↓reduceIte])
theorem cg_redeem {k n d : Nat} {o : Nat → Nat → Int32} (hk : k ≤ 600) (h : OI k o n d) (p1 : Int32) : Cg k o (D_X4_redeemPledge o p1) := by
  obtain ⟨h1, h2, h3, -⟩ := id h
  unfold D_X4_redeemPledge
  rcases hc_of h2 h1 p1 with e | ⟨e, i, hi, rfl⟩
  · rw [e, if_pos rfl]; exact Cg.ref 2 p1 (by decide) rfl
  rw [e, if_neg one_ne, if_pos (inb_nI (show i < 6 by omega) (by decide)), nI_clamp (show i < 2 ^ 31 by omega)]
  simp only [hPl]
  by_cases g : o (i + 7) 5 = -1
  · rw [if_pos g]; exact Cg.ref 9 (nI i) (by decide) rfl
  rw [if_neg g]
  have hB := (h3 i hi).1
  have hX := (h3 i hi).2
  obtain ⟨q, hq, eq⟩ := hB.own (hB.2.2.2.2.2 g).1
  obtain ⟨r, hr, er⟩ := hB.len g
  obtain ⟨z, z1, z9, ez⟩ := hB.psize g
  have hl : D_X1_redemption (o (i + 7)) = nI (2 * z + 1) := by
    unfold D_X1_redemption
    rw [if_neg (fun w => g ((hPl _).mp w)), ez, two_nI, nI_succ]
  rw [hl, eq, pu_eq o hq]
  simp only [Option.bind_some]
  by_cases g1 : nI (2 * z + 1) ≤ o 3 q
  · rw [if_pos g1, er, pay_eq o hq hr]
    simp only [Option.bind_some]
    obtain ⟨hF, hs, -⟩ := paid hk h hq hr (show 2 * z + 1 < 2 ^ 30 by omega) g1 rfl
    have hc7 : va_up o 3 (upd (upd (o 3) q (o 3 q - nI (2 * z + 1))) r (upd (o 3) q (o 3 q - nI (2 * z + 1)) r + nI (2 * z + 1))) (i + 7) = o (i + 7) := vun _ _ _ (by omega)
    rw [hc7]
    refine ⟨_, _, rfl, Or.inr ⟨nn1 (by omega), n, d, deal_ok h ⟨⟨hB.1, hB.2.1, hB.2.2.1, hB.2.2.2.1, rng_m1 (by decide), fun z => absurd rfl z⟩, hX.1, hX.2.1, fun z => absurd rfl z⟩ hF hs⟩⟩
  · rw [if_neg g1]; exact Cg.ref 7 (o 3 q) (by decide) rfl
/-! winds, hail, dawns -/
theorem drI {c : Nat → Int32} (h : CI c) {w : Int32} (hw : rng w (-3) 3) : CI (drf c w) := ⟨drB h.1 hw, h.2⟩
theorem rng_33 {w : Int32} (h1 : ¬ w < -3) (h2 : w ≤ 3) : rng w (-3) 3 := by
  rw [lt_toInt, show (-3 : Int32).toInt = -3 by decide] at h1
  rw [le_toInt, show (3 : Int32).toInt = 3 by decide] at h2
  exact ⟨by omega, h2⟩
/-- clouds drift; what else there is stays -/
theorem OI.clouds {k n d : Nat} {o o' : Nat → Nat → Int32} (h : OI k o n d) (he : ∀ r, r < 7 → o' r = o r) (hc : ∀ i, i < n → CI (o' (i + 7))) : OI (k + 1) o' n d := by
  have h5 := h.2.2.2.2.1
  have h6 := h.2.2.2.2.2.1
  refine OI.part h (by rw [he 0 (by omega)]) (by rw [he 0 (by omega)]) (he 2 (by omega)) (by rw [he 4 (by omega)]) (he 5 (by omega)) (he 6 (by omega)) hc (by rw [he 3 (by omega)]; exact h5.mono (by rw [SB_s]; omega)) ?_
  unfold RBa at h6 ⊢
  rw [he 3 (by omega), he 0 (by omega)]
  exact h6
theorem blow_ok {k n d : Nat} {o : Nat → Nat → Int32} (h : OI k o n d) {w : Int32} (hw : rng w (-3) 3) :
    ∃ (c : Nat) (o' : Nat → Nat → Int32), L_X4_blow_26 200 o w 0 0 o = some (nI c, o') ∧ c ≤ n ∧ OI (k + 1) o' n d ∧ (∀ r, r < 7 → o' r = o r) ∧ ∀ i, i < n → o' (i + 7) = drf (o (i + 7)) w := by
  obtain ⟨o', e, h7, hc⟩ := blow_eq h.2.1 h.1 hw (fun i hi => (h.2.2.1 i hi).1)
  obtain ⟨c, hcn, ec⟩ := sumTo_cnt (f := fun j => if D_X1_hasTitleForOtherShape (drf (o (j + 7)) w) = 0 then 0 else 1) (n := n) (fun j _ => by (try dsimp only); split <;> simp)
  refine ⟨c, o', by rw [e, ec], hcn, OI.clouds h h7 (fun i hi => ?_), h7, hc⟩
  rw [hc i hi]; exact drI (h.2.2.1 i hi) hw
theorem cg_wind {k n d : Nat} {o : Nat → Nat → Int32} (h : OI k o n d) (w : Int32) : Cg k o (D_X4_blow o w) := by
  unfold D_X4_blow
  by_cases g0 : w = 0
  · rw [if_pos g0]; exact Cg.ref 3 w (by decide) rfl
  rw [if_neg g0]
  by_cases g1 : w < -3
  · rw [if_pos g1]; exact Cg.ref 3 w (by decide) rfl
  rw [if_neg g1]
  by_cases g2 : w ≤ 3
  · rw [if_pos g2]
    obtain ⟨c, o', e, hc, hO, -⟩ := blow_ok h (rng_33 g1 g2)
    exact ⟨_, _, e, Or.inr ⟨nn1 (by have := h.1; omega), n, d, hO⟩⟩
  · rw [if_neg g2]; exact Cg.ref 3 w (by decide) rfl
theorem hlX {c : Nat → Int32} (h : CI c) (p : Int32) : CX (hl c p) := by
  unfold hl
  by_cases g0 : c 0 = p
  · rw [if_pos g0]
    by_cases g5 : c 5 = -1
    · rw [if_pos g5]
      refine ⟨h.2.1, h.2.2.1, fun z => absurd g5 z⟩
    · rw [if_neg g5]
      obtain ⟨q, hq, e⟩ := h.1.len g5
      rw [e]
      exact (entI h.1 hq).2
  · rw [if_neg g0]; exact h.2
theorem cg_hail {k n d : Nat} {o : Nat → Nat → Int32} (h : OI k o n d) (p : Int32) : Cg k o (D_X4_hailDown o p) := by
  obtain ⟨h1, h2, h3, h4, h5, h6, h7, h8, ⟨t, h9, h10, h11⟩, h12⟩ := id h
  unfold D_X4_hailDown
  rcases vi_cases p with ⟨e, -⟩ | ⟨e, v, hv, rfl⟩
  · rw [e, if_pos rfl]; exact Cg.ref 2 p (by decide) rfl
  rw [e, if_neg one_ne]
  obtain ⟨s, e1, e2, e3⟩ := hail_eq h2 h1 (nI v)
  obtain ⟨c, hcn, ec⟩ := sumTo_cnt (f := fun j => hlf (o (j + 7)) (nI v)) (n := n) (fun j _ => by simp only [hlf]; split <;> (try split) <;> simp)
  rw [e1]
  obtain ⟨o', g1, g2, g3, g4, -, g6⟩ := gone_eq (o := va_up s 0 (upd (s 0) 8 (s 0 8 + sumTo (fun j => hlf (o (j + 7)) (nI v)) n))) (n := n) (by rw [va_up_self, upd_ne _ _ (by omega), e2 0 (by omega)]; exact h2) h1 (fun i => decide (¬ hl (o (i + 7)) (nI v) 2 ≤ 0)) (fun i hi => by rw [vun _ _ _ (by omega), e3 i hi]; exact decide_eq_true_iff)
  rw [g1]
  have hlen := flen (fun i => decide (¬ hl (o (i + 7)) (nI v) 2 ≤ 0)) n
  have hrow : ∀ r, 1 ≤ r → r < 7 → o' r = o r := fun r a b => by rw [g2 r a b, vun _ _ _ (by omega), e2 r b]
  have h0r : ∀ j, j ≠ 1 → j ≠ 9 → j ≠ 8 → o' 0 j = o 0 j := fun j a b c => by rw [g3 j a b, va_up_self, upd_ne _ _ c, e2 0 (by omega)]
  refine ⟨_, _, rfl, Or.inr ⟨by rw [ec]; exact nn1 (by omega), ((List.range n).filter fun i => decide (¬ hl (o (i + 7)) (nI v) 2 ≤ 0)).length, d, by omega, g4, fun j hj => ?_, ?_, ?_, ?_, h7, ?_, ⟨t, by omega, ?_, h11⟩, ?_⟩⟩
  · obtain ⟨i, hi⟩ : ∃ i, ((List.range n).filter fun i => decide (¬ hl (o (i + 7)) (nI v) 2 ≤ 0))[j]? = some i := ⟨_, List.getElem?_eq_getElem hj⟩
    have hm := List.mem_filter.mp (List.mem_of_getElem? hi)
    have hin : i < n := List.mem_range.mp hm.1
    have hkp : ¬ hl (o (i + 7)) (nI v) 2 ≤ 0 := of_decide_eq_true hm.2
    have hCI : CI (hl (o (i + 7)) (nI v)) := ⟨hlB (h3 i hin).1 _ hkp, hlX (h3 i hin) _⟩
    refine hCI.cg (fun f hf => ?_)
    rw [g6 j i hi f hf, vun _ _ _ (by omega), e3 i hin]
  · rw [hrow 2 (by omega) (by omega)]; exact h4
  · rw [hrow 3 (by omega) (by omega)]; exact h5.mono (by rw [SB_s]; omega)
  · unfold RBa at h6 ⊢
    rw [hrow 3 (by omega) (by omega), h0r 11 (by omega) (by omega) (by omega), h0r 10 (by omega) (by omega) (by omega)]
    exact h6
  · rw [hrow 4 (by omega) (by omega)]; exact h8
  · rw [h0r 5 (by omega) (by omega) (by omega)]; exact h10
  · unfold DI
    rw [hrow 5 (by omega) (by omega), hrow 6 (by omega) (by omega)]
    exact h12
theorem lpsI {c : Nat → Int32} (h : CI c) : CI (lps c) := by
  refine ⟨lpsB h.1, ?_⟩
  unfold lps
  split
  · exact h.2
  · exact ⟨fun _ => rfl, fun z => absurd rfl z, fun z => absurd rfl z⟩
theorem clmI {c : Nat → Int32} (h : CI c) {v : Int32} (hv : rng v (-1) 3) : CI (clm c v) := by
  unfold clm
  split
  · split
    · exact h
    · rename_i g3 gv
      rcases rng_m (b := 3) hv (by decide) with e | ⟨q, hq, e⟩
      · exact absurd e gv
      · rw [e]; exact entI h.1 (by omega)
  · exact h
theorem pyw_c (c : Nat → Int32) {v : Int32} (hv : rng v (-1) 3) : pyw c v = -1 ∨ ∃ p, p < 4 ∧ pyw c v = nI p := by
  unfold pyw
  split
  · exact Or.inl rfl
  · split
    · rcases rng_m (b := 3) hv (by decide) with e | ⟨q, hq, e⟩
      · exact Or.inl e
      · exact Or.inr ⟨q, by omega, e⟩
    · exact Or.inl rfl
/-- the vineyard's owner below cloud j -/
def below (o : Nat → Nat → Int32) (j : Nat) : Int32 := o 2 (o (j + 7) 0).toNatClampNeg
theorem rng_ix {x : Int32} (h : rng x 0 5) : x.toNatClampNeg < 6 := by
  obtain ⟨a, ha, e⟩ := rng_nI (b := 5) h (by decide)
  rw [e, nI_clamp (by omega)]; omega
theorem below_ok {k n d : Nat} {o : Nat → Nat → Int32} (h : OI k o n d) {i : Nat} (hi : i < n) : rng (below o i) (-1) 3 := h.2.2.2.1 _ (rng_ix (h.2.2.1 i hi).1.1)
theorem dawn_ok {k n d : Nat} {o : Nat → Nat → Int32} (hk : k ≤ 600) (h : OI k o n d) :
    ∃ (r : Int32) (o' : Nat → Nat → Int32) (d' : Nat), D_X4_letDawn o = some (r, o') ∧ OI (k + 1) o' n d' ∧ ∀ i, i < n → o' (i + 7) = clm (lps (o (i + 7))) (below o i) := by
  obtain ⟨h1, h2, h3, h4, h5, h6, h7, h8, ⟨t, h9, h10, h11⟩, h12⟩ := id h
  have hB : ∀ i, i < n → CB (o (i + 7)) := fun i hi => (h3 i hi).1
  have hV : ∀ i, i < n → o 2 (o (i + 7) 0).toNatClampNeg = below o i ∧ rng (below o i) (-1) 3 := fun i hi => ⟨rfl, below_ok h hi⟩
  obtain ⟨o', e, c1, c5, c6, c7, c8, c9, c10, c11, r2, r3, r4, rc, r5, r5a, r6, r6a⟩ := dawnC h2 h1 h7 h8 hB (below o) hV
  have hw : ∀ j, j < n → pyw (clm (lps (o (j + 7))) (below o j)) (below o j) = -1 ∨ ∃ p, p < 4 ∧ pyw (clm (lps (o (j + 7))) (below o j)) (below o j) = nI p := fun j hj => pyw_c _ (hV j hj).2
  have hd' : (if d = 5 then 5 else d + 1) ≤ 5 := by split <;> omega
  refine ⟨_, o', if d = 5 then 5 else d + 1, e, ⟨h1, c1, fun i hi => ?_, ?_, ?_, ?_, hd', r4, ⟨t + 1, by omega, ?_, ?_⟩, fun a ha => ?_⟩, rc⟩
  · rw [rc i hi]; exact clmI (lpsI (h3 i hi)) (hV i hi).2
  · rw [r2]; exact h4
  · rw [r3]; exact (payP_F h5 _ n hw).mono (by rw [SB_s]; omega)
  · unfold RBa at h6 ⊢
    rw [r3, c11, c10, payP_sum (o 3) _ n hw, h6]
    grind only
  · rw [c5, h10, nI_succ]
  · rw [h11]
    by_cases g : t < 5
    · rw [if_pos g]
      by_cases g4 : t + 1 < 5
      · rw [if_pos g4, if_neg (by omega)]
      · rw [if_neg g4, if_neg (by omega)]; omega
    · rw [if_neg g, if_pos rfl, if_neg (by omega)]
  · by_cases ha0 : a = 0
    · subst ha0
      refine ⟨n, h1, r6, fun i hi => ?_⟩
      rw [show 6 * 0 + i = i by omega, r5a i hi]
      exact (clmI (lpsI (h3 i hi)) (hV i hi).2).1.2.2.2.1
    · have ha' : a < 5 := by omega
      obtain ⟨q, q1, q2, q3⟩ := h12 (a - 1) (by split at ha <;> omega)
      refine ⟨q, q1, by rw [r6a a (by omega) (by omega)]; exact q2, fun i hi => ?_⟩
      rw [r5 _ (by omega) (by omega), show 6 * a + i - 6 = 6 * (a - 1) + i by omega]
      exact q3 i hi
