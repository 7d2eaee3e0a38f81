/-! run -/
theorem run_loop {k n c nx N0 D0 : Nat} {x x0 : Mem} {m m0 : Nat → Nat → Int32} (hk : k ≤ 512) (hn1 : 1 ≤ n) (hn : n ≤ 12)
    (hR0 : RO (x 0) (m 1) N0 D0) (hF0 : PF (x 0 3) (SB k)) (h1 : c ≤ 8) (h2 : nx < 8) (h3 : x 12 1 2 = nI c) (h4 : m 0 2 = nI c) (h5 : x 12 1 1 = nI nx) (h6 : ∀ i, 1 ≤ i → i ≤ c → KO k (x (hix nx c i)) (row m i)) (hS : ISav k x m) (hE : IRea x m) (hFa : x 12 0 8 = m 0 13) (hX : ITxt x m)
    (xq : ∀ q, 2 ≤ q → q ≠ 12 → x0 q = x q) (xb : EqO (x0 1) (x 0)) (xr : ∀ r, r ≠ 4 → ¬ (7 ≤ r ∧ r < 31) → x0 12 r = x 12 r) (x41 : x0 12 4 1 = nI 0) (x44 : x0 12 4 4 = nI n)
    (mr : ∀ r, 4 ≤ r → m0 r = m r) (mf : ∀ q, 96 ≤ q → ¬ (960 ≤ q ∧ q < 1056) → m0 1 q = m 1 q) (mt : ∀ j, j < 96 → m0 1 (960 + j) = m 1 j) (mz : ∀ z, z ≠ 10 → z ≠ 11 → z ≠ 12 → z ≠ 15 → m0 0 z = m 0 z) (m10 : m0 0 10 = nI 0) (m15 : m0 0 15 = nI n) (hO : ∀ e, e < n → ORD e x0 m0)
    (yy o2x : Mem) (r1 : Int32) (o9 mm oo o6 : Nat → Nat → Int32) :
    ∀ (d i F G N D : Nat) (y : Mem) (u : Nat → Nat → Int32), i + d = n → d < F → d < G → (∀ q, q ≠ 0 → y q = x0 q) → RO (y 0) (u 1) N D → PF (y 0 3) (SB k + 6 * i) → (∀ r, 2 ≤ r → u r = m0 r) → (∀ z, 96 ≤ z → u 1 z = m0 1 z) → (∀ z, z ≠ 4 → u 0 z = m0 0 z) →
    ∃ (code r : Int32) (x' : Mem) (bb : Int32) (m' : Nat → Nat → Int32), (code = 0 ∨ code = 1 ∨ code = 2) ∧ L_X9_run_48 F yy r1 o2x o9 (nI i) y = some (code, r, x') ∧ L_X10_run_37 G mm oo o6 (nI i) u = some (bb, m') ∧ D_X10_thrown m' = code ∧ (code = 0 → r = bb) ∧ Inv (k + 1) x' m' := by
  intro d
  induction d with
  | zero =>
    intro i F G N D y u hi hF hG yq hR hP ur uf uz
    obtain ⟨F, rfl⟩ : ∃ z, F = z + 1 := ⟨F - 1, by omega⟩
    obtain ⟨G, rfl⟩ : ∃ z, G = z + 1 := ⟨G - 1, by omega⟩
    have hin : i = n := by omega
    subst hin
    have y12 : y 12 = x0 12 := yq 12 (by omega)
    have y1r : y 12 1 = x 12 1 := by rw [y12, xr 1 (by omega) (by omega)]
    obtain ⟨x', ex, g1, g2, g3, g4, g5⟩ := push_eq y (c := c) (nx := nx) h1 h2 (by rw [y1r]; exact h5) (by rw [y1r]; exact h3) 1
    have u15 : u 0 15 = nI i := by rw [uz 15 (by omega)]; exact m15
    have v0 : ∀ z, z ≠ 4 → z ≠ 10 → z ≠ 11 → z ≠ 12 → z ≠ 15 → va_up u 0 (upd (u 0) 4 (u 0 15)) 0 z = m 0 z := fun z a b c d e => by rw [va_up_self, upd_ne _ _ a, uz z a, mz z b c d e]
    obtain ⟨m3, e3, d0, d2, dz, dr, dlo, dhi, dtop, drows⟩ := ends1 (va_up u 0 (upd (u 0) 4 (u 0 15))) h1 (by rw [v0 2 (by omega) (by omega) (by omega) (by omega) (by omega)]; exact h4)
    have f2 : ∀ q, 96 ≤ q → ¬ (960 ≤ q ∧ q < 1056) → va_up u 0 (upd (u 0) 4 (u 0 15)) 1 q = m 1 q := fun q a b => by rw [va_up_1of0, uf q a, mf q a b]
    have t2 : ∀ j, j < 96 → va_up u 0 (upd (u 0) 4 (u 0 15)) 1 (960 + j) = m 1 j := fun j hj => by rw [va_up_1of0, uf _ (by omega), mt j hj]
    have x'q : ∀ q, 2 ≤ q → q ≠ nx + 4 → q ≠ 12 → x' q = x q := fun q a b e => by rw [g1 q b e, yq q (by omega), xq q a e]
    have x'0 : x' 0 = y 0 := g1 0 (by omega) (by omega)
    have x'12 : ∀ r, r ≠ 1 → r ≠ 4 → ¬ (7 ≤ r ∧ r < 31) → x' 12 r = x 12 r := fun r a b e => by rw [g2 r a, y12, xr r b e]
    have m3z : ∀ z, z ≠ 0 → z ≠ 2 → z ≠ 4 → z ≠ 10 → z ≠ 11 → z ≠ 12 → z ≠ 15 → m3 0 z = m 0 z := fun z a b e f g h i => by rw [dz z a b, v0 z e f g h i]
    have KOb : KO k (x 0) (m 1) := ⟨⟨N0, D0, hR0⟩, hF0⟩
    have yb : EqO (x' (nx + 4)) (x 0) := by
      have e1 : y 1 = x0 1 := yq 1 (by omega)
      rw [e1] at g5
      exact g5.trans xb
    refine ⟨0, nI i, x', nI i, va_up m3 0 (upd (m3 0) 0 0), Or.inl rfl, ?_, ?_, th _ _, fun _ => rfl, ?_⟩
    · simp only [L_X9_run_48, y12, x44, nI_le (Nat.le_refl i) (show i < 2 ^ 31 by omega), ↓reduceIte, ex, Option.bind_some]
      rw [g2 4 (by omega), y12, x44]
    · simp only [L_X10_run_37, u15, nI_le (Nat.le_refl i) (show i < 2 ^ 31 by omega), ↓reduceIte]
      rw [u15] at e3
      simp only [e3, Option.bind_some, va_up_self, upd_self]
    · refine Inv.thr (k := k + 1) ?_ 0
      refine ⟨⟨⟨N, D, ?_⟩, ?_⟩, IHist.mono ⟨if c = 8 then 8 else c + 1, (nx + 1) % 8, by split <;> omega, by omega, g4, d2, g3, hist_done h1 h2 (m := m) h6 (fun q a b e => x'q q (by omega) e (by omega)) ?_ (fun i' a b j hj => ?_)⟩ (Nat.le_succ k), ISav.mono (ISav.cg hS (x'q 3 (by omega) (by omega) (by omega)) (by rw [x'12 0 (by omega) (by omega) (by omega)]) (m3z 3 (by omega) (by omega) (by omega) (by omega) (by omega) (by omega) (by omega)) (fun z a b => by rw [dhi z a, f2 z (by omega) (by omega)])) (Nat.le_succ k), hE.cg (x'12 3 (by omega) (by omega) (by omega)) (fun j a b => m3z j (by omega) (by omega) (by omega) (by omega) (by omega) (by omega) (by omega)), ⟨0, by omega, ?_, ?_, fun j hj => absurd hj (Nat.not_lt_zero j)⟩, by rw [x'12 0 (by omega) (by omega) (by omega), m3z 13 (by omega) (by omega) (by omega) (by omega) (by omega) (by omega) (by omega)]; exact hFa, hX.cg (x'12 31 (by omega) (by omega) (by omega)) (x'12 32 (by omega) (by omega) (by omega)) (m3z 17 (by omega) (by omega) (by omega) (by omega) (by omega) (by omega) (by omega)) (by rw [dr 4 (by omega), vun _ _ _ (by omega), ur 4 (by omega), mr 4 (by omega)])⟩
      · rw [x'0]
        exact hR.cg (EqO.refl _) (fun z hz => by rw [dlo z hz, va_up_1of0])
      · rw [x'0]; exact hP.mono (by unfold SB; omega)
      · exact KOb.cg yb (fun z hz => by rw [dtop z hz, t2 z hz])
      · rw [drows i' a b j hj]
        unfold row
        have : (if c = 8 then i' + 1 else i') ≤ 8 ∧ 1 ≤ (if c = 8 then i' + 1 else i') := by
          constructor <;> split <;> split at b <;> omega
        exact f2 _ (by omega) (by omega)
      · rw [g2 4 (by omega), y12, x41]
      · rw [dz 10 (by omega) (by omega), va_up_self, upd_ne _ _ (by omega), uz 10 (by omega), m10]
  | succ d ih =>
    intro i F G N D y u hi hF hG yq hR hP ur uf uz
    obtain ⟨F, rfl⟩ : ∃ z, F = z + 1 := ⟨F - 1, by omega⟩
    obtain ⟨G, rfl⟩ : ∃ z, G = z + 1 := ⟨G - 1, by omega⟩
    have hin : i < n := by omega
    have y12 : y 12 = x0 12 := yq 12 (by omega)
    have u15 : u 0 15 = nI n := by rw [uz 15 (by omega)]; exact m15
    obtain ⟨q, hq, o1, o2, o3⟩ := hO i hin
    obtain ⟨a, o', b, u1, ea, eb, r1', r2', r3', hcase⟩ := does_ok (i := i) (q := q) (g := x0 12 (i + 19)) hR hP (show SB k + 6 * i < 2 ^ 20 by unfold SB; omega) (by omega) hq (by rw [ur 3 (by omega)]; exact o2) (fun s hs => by rw [ur 3 (by omega)]; exact o3 s hs)
    have e4 : (4 : Int32) * nI i = nI (4 * i) := by rw [show (4 : Int32) = nI 4 from rfl, pk_mul]
    have hco : D_X5_carryOutIn y i 0 = some (a, va_up y 0 o') := by
      unfold D_X5_carryOutIn
      rw [y12, o1, if_pos (inb_nI hq (by decide)), if_pos (by decide), if_pos (by decide), if_pos (by decide), nI_clamp (show q < 2 ^ 31 by omega), cl0, cl1, cl2, ea]
      rfl
    have cstep : L_X9_run_48 (F + 1) yy r1 o2x o9 (nI i) y = if a = -1 then ((D_X4_copyFrom ((D_X6_keepOrder (va_up y 0 o') (nI i) 0) 0) ((D_X6_keepOrder (va_up y 0 o') (nI i) 0) 1)).bind (fun o25 => some (2, 0, (va_up (D_X6_keepOrder (va_up y 0 o') (nI i) 0) 0 o25)))) else L_X9_run_48 F yy r1 o2x o9 (nI (i + 1)) (va_up y 0 o') := by
      simp only [L_X9_run_48, y12, x44, nI_ge hin (show n < 2 ^ 31 by omega), inb_nI (show i < 12 by omega) (show 12 < 2 ^ 31 by decide), nI_clamp (show i < 2 ^ 31 by omega), hco, Option.bind_some, ↓reduceIte, nI_succ]
    rcases hcase with ⟨rfl, rfl, w, dt, ho', w5, w6⟩ | ⟨rfl, ha, w5, w6, w7, hPF, N', D', hRO⟩
    · -- refused
      rw [cstep, if_pos rfl]
      have k1 : (D_X6_keepOrder (va_up y 0 o') (nI i) 0) 1 = x0 1 := by
        unfold D_X6_keepOrder
        rw [xs_ne (by omega), xs_ne (by omega), yq 1 (by omega)]
      obtain ⟨o25, e25, he25⟩ := ccp ((D_X6_keepOrder (va_up y 0 o') (nI i) 0) 0) ((D_X6_keepOrder (va_up y 0 o') (nI i) 0) 1)
      rw [e25]
      rw [k1] at he25
      have u1z : ∀ z, z ≠ 4 → z ≠ 5 → z ≠ 6 → z ≠ 7 → u1 0 z = m0 0 z := fun z a b c d => by rw [r3' z a b c d, uz z a]
      have u115 : u1 0 15 = nI n := by rw [u1z 15 (by omega) (by omega) (by omega) (by omega)]; exact m15
      obtain ⟨m3, e3, d1, d2, d3, d4⟩ := ends0 (va_up u1 0 (upd (upd (upd (upd (upd (u1 0) 7 (u1 0 5)) 8 (u1 0 6)) 5 10) 6 (nI i)) 4 (u1 0 15)))
      have X12 : ∀ r, r ≠ 3 → (va_up (D_X6_keepOrder (va_up y 0 o') (nI i) 0) 0 o25) 12 r = x0 12 r := fun r hr => by
        rw [xs_ne (by omega)]
        unfold D_X6_keepOrder
        rw [xs_self, vun _ _ _ hr, xs_ne (by omega), y12]
      have X3 : (va_up (D_X6_keepOrder (va_up y 0 o') (nI i) 0) 0 o25) 12 3 = upd (upd (upd (upd (x0 12 3) 0 10) 1 (nI i)) 2 w) 3 dt := by
        rw [xs_ne (by omega)]
        unfold D_X6_keepOrder
        rw [xs_self, va_up_self, xs_self, xs_ne (by omega), y12, ho', va_up_self]
        rfl
      have Xq : ∀ q, 2 ≤ q → q ≠ 12 → (va_up (D_X6_keepOrder (va_up y 0 o') (nI i) 0) 0 o25) q = x q := fun q a b => by
        rw [xs_ne (by omega)]
        unfold D_X6_keepOrder
        rw [xs_ne b, xs_ne (by omega), yq q (by omega), xq q a b]
      have z3 : ∀ z, z ≠ 0 → z ≠ 4 → z ≠ 5 → z ≠ 6 → z ≠ 7 → z ≠ 8 → z ≠ 10 → z ≠ 11 → z ≠ 12 → z ≠ 15 → m3 0 z = m 0 z := fun z a b c d e f g h i j => by
        rw [d1, upd_ne _ _ a, va_up_self, upd_ne _ _ b, upd_ne _ _ d, upd_ne _ _ c, upd_ne _ _ f, upd_ne _ _ e, u1z z b c d e, mz z g h i j]
      have f3 : ∀ z, 96 ≤ z → ¬ (960 ≤ z ∧ z < 1056) → m3 1 z = m 1 z := fun z a b => by rw [d3 z a, va_up_1of0, r2' z a, uf z a, mf z a b]
      refine ⟨2, 0, va_up (D_X6_keepOrder (va_up y 0 o') (nI i) 0) 0 o25, 0, va_up m3 0 (upd (m3 0) 0 2), Or.inr (Or.inr rfl), rfl, ?_, th _ _, fun z => absurd z two_ne, ?_⟩
      · simp only [L_X10_run_37, u15, nI_ge hin (show n < 2 ^ 31 by omega), e4, eb, Option.bind_some, ↓reduceIte]
        rw [if_neg (show ¬ nI i = u1 0 15 by rw [u115]; exact nI_ne (by omega) (by omega) (by omega)), e3]
        rfl
      · refine Inv.thr (k := k + 1) ?_ 2
        refine Inv.mono (k := k) ⟨⟨⟨N0, D0, ?_⟩, ?_⟩, IHist.cg (x := x) (m := m) ⟨c, nx, h1, h2, h3, h4, h5, h6⟩ (fun q a b => Xq q (by omega) (by omega)) (by rw [X12 1 (by omega), xr 1 (by omega) (by omega)]) (by rw [X12 1 (by omega), xr 1 (by omega) (by omega)]) (z3 2 (by omega) (by omega) (by omega) (by omega) (by omega) (by omega) (by omega) (by omega) (by omega) (by omega)) (fun z a b => f3 z a (by omega)), ISav.cg hS (Xq 3 (by omega) (by omega)) (by rw [X12 0 (by omega), xr 0 (by omega) (by omega)]) (z3 3 (by omega) (by omega) (by omega) (by omega) (by omega) (by omega) (by omega) (by omega) (by omega) (by omega)) (fun z a b => f3 z (by omega) (by omega)), ⟨?_, fun _ => ?_, ?_, fun _ => ?_⟩, ⟨0, by omega, ?_, ?_, fun j hj => absurd hj (Nat.not_lt_zero j)⟩, by rw [X12 0 (by omega), xr 0 (by omega) (by omega), z3 13 (by omega) (by omega) (by omega) (by omega) (by omega) (by omega) (by omega) (by omega) (by omega) (by omega)]; exact hFa, hX.cg (by rw [X12 31 (by omega), xr 31 (by omega) (by omega)]) (by rw [X12 32 (by omega), xr 32 (by omega) (by omega)]) (z3 17 (by omega) (by omega) (by omega) (by omega) (by omega) (by omega) (by omega) (by omega) (by omega) (by omega)) (by rw [d2 4 (by omega), vun _ _ _ (by omega), r1' 4 (by omega), ur 4 (by omega), mr 4 (by omega)])⟩ (Nat.le_succ k)
        · rw [xs_self]
          exact hR0.cg (he25.trans xb) (fun z hz => by rw [d4 z hz, va_up_1of0, r2' _ (by omega), uf _ (by omega), mt z hz])
        · rw [xs_self]
          exact hF0.cg (he25.trans xb).2.2.2.1
        · rw [X3, d1, upd_ne _ _ (show 5 ≠ 0 by omega), va_up_self]
          simp only [up2]
          rfl
        · rw [X3, d1, upd_ne _ _ (show 6 ≠ 0 by omega), va_up_self]
          simp only [up2]
          rfl
        · rw [X3, d1, upd_ne _ _ (show 7 ≠ 0 by omega), va_up_self, ← w5]
          simp only [up2]
          rfl
        · rw [X3, d1, upd_ne _ _ (show 8 ≠ 0 by omega), va_up_self, ← w6]
          simp only [up2]
          rfl
        · rw [X12 4 (by omega), x41]
        · rw [d1, upd_ne _ _ (by omega), va_up_self, upd_ne _ _ (by omega), upd_ne _ _ (by omega), upd_ne _ _ (by omega), upd_ne _ _ (by omega), upd_ne _ _ (by omega), u1z 10 (by omega) (by omega) (by omega) (by omega), m10]
    · -- done
      rw [cstep, if_neg ha]
      obtain ⟨code, r, x', bb, m', t1, t2, t3, t4, t5, t6⟩ := ih (i + 1) F G N' D' (va_up y 0 o') u1 (by omega) (by omega) (by omega) (fun q hq => by rw [xs_ne hq]; exact yq q hq) (by rw [xs_self]; exact hRO) (by rw [xs_self]; exact hPF.mono (by omega)) (fun r hr => (r1' r hr).trans (ur r hr)) (fun z hz => (r2' z hz).trans (uf z hz)) (fun z hz => by
        by_cases z5 : z = 5
        · subst z5; rw [w5, uz 5 (by omega)]
        · by_cases z6 : z = 6
          · subst z6; rw [w6, uz 6 (by omega)]
          · by_cases z7 : z = 7
            · subst z7; rw [w7, uz 7 (by omega)]
            · rw [r3' z hz z5 z6 z7, uz z hz])
      refine ⟨code, r, x', bb, m', t1, t2, ?_, t4, t5, t6⟩
      rw [← t3]
      simp only [L_X10_run_37, u15, nI_ge hin (show n < 2 ^ 31 by omega), e4, eb, Option.bind_some, if_neg one_ne, ↓reduceIte, nI_succ]
