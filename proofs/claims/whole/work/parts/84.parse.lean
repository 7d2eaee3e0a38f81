/-! the tape, both ways -/
def XT (x x' : Mem) : Prop := (∀ q, q ≠ 12 → x' q = x q) ∧ (∀ r, r ≠ 4 → ¬ (7 ≤ r ∧ r < 31) → x' 12 r = x 12 r) ∧ ∀ z, z ≠ 2 → z ≠ 4 → x' 12 4 z = x 12 4 z
def MTp (m m' : Nat → Nat → Int32) : Prop := (∀ r, r ≠ 0 → r ≠ 3 → m' r = m r) ∧ ∀ z, z ≠ 11 → z ≠ 12 → z ≠ 15 → m' 0 z = m 0 z
theorem XT.refl (x : Mem) : XT x x := ⟨fun _ _ => rfl, fun _ _ _ => rfl, fun _ _ _ => rfl⟩
theorem MTp.refl (m : Nat → Nat → Int32) : MTp m m := ⟨fun _ _ _ => rfl, fun _ _ _ _ => rfl⟩
theorem XT.trans {x y z : Mem} (h : XT x y) (g : XT y z) : XT x z := ⟨fun q a => (g.1 q a).trans (h.1 q a), fun r a b => (g.2.1 r a b).trans (h.2.1 r a b), fun w a b => (g.2.2 w a b).trans (h.2.2 w a b)⟩
theorem MTp.trans {x y z : Nat → Nat → Int32} (h : MTp x y) (g : MTp y z) : MTp x z := ⟨fun q a b => (g.1 q a b).trans (h.1 q a b), fun w a b c => (g.2 w a b c).trans (h.2 w a b c)⟩
theorem XO.xt {j : Nat} (hj : j < 12) {x x' : Mem} (h : XO j x x') : XT x x' := ⟨h.1, fun r a b => h.2.1 r a (by omega) (by omega), fun z a _ => h.2.2 z a⟩
theorem ORD.keep {e j : Nat} (he : e < j) (hj : j < 12) {x x' : Mem} {m m' : Nat → Nat → Int32} (h : ORD e x m) (hx : XO j x x') (hm : ∀ z, z < 4 * j → m' 3 z = m 3 z) : ORD e x' m' := by
  obtain ⟨q, hq, h1, h2, h3⟩ := h
  have har : ar q ≤ 3 := by
    rcases (show q = 0 ∨ q = 1 ∨ q = 2 ∨ q = 3 ∨ q = 4 ∨ q = 5 ∨ q = 6 ∨ q = 7 ∨ q = 8 by omega) with rfl | rfl | rfl | rfl | rfl | rfl | rfl | rfl | rfl <;> decide
  refine ⟨q, hq, by rw [hx.2.1 _ (by omega) (by omega) (by omega)]; exact h1, by rw [hm _ (by omega)]; exact h2, fun s hs => ?_⟩
  rw [hx.2.1 _ (by omega) (by omega) (by omega), hm _ (by omega)]
  exact h3 s hs
theorem ORD.same {e : Nat} {x x' : Mem} {m m' : Nat → Nat → Int32} (h : ORD e x m) (h1 : x' 12 (e + 7) = x 12 (e + 7)) (h2 : x' 12 (e + 19) = x 12 (e + 19)) (h3 : m' 3 = m 3) : ORD e x' m' := by
  unfold ORD at h ⊢
  rw [h1, h2, h3]; exact h
theorem r12_s (f : Nat) (y x : Mem) {i : Nat} (hi : i < 12) : L_X8_read_12 (f + 1) y (nI i) x = (D_X8_readOrder x i).bind (fun (r4, o5) => if r4 = 0 then (some ((((o5 12) 4) 2), o5)) else (if (((o5 12) 4) 2) = (((o5 12) 4) 1) then (some ((-1), (va_up o5 12 (va_up (o5 12) 4 (upd ((o5 12) 4) 4 ((((o5 12) 4) 4) + 1)))))) else ((D_X8_readSign (va_up o5 12 (va_up (o5 12) 4 (upd ((o5 12) 4) 4 ((((o5 12) 4) 4) + 1)))) 59).bind (fun (r9, o10) => if r9 = 0 then (some ((((o10 12) 4) 2), o10)) else (L_X8_read_12 f y (nI (i + 1)) o10))))) := by
  simp only [L_X8_read_12, show ¬ (12 : Int32) ≤ nI i from nI_ge hi (by decide), inb_nI hi (show 12 < 2 ^ 31 by decide), nI_clamp (show i < 2 ^ 31 by omega), ↓reduceIte, nI_succ]
theorem p19_f {f : Nat} {m0 o2 s : Nat → Nat → Int32} (h : 0 ≤ s 0 12) : L_X10_parse_19 (f + 1) m0 o2 s = some s := by
  simp only [L_X10_parse_19, h, ↓reduceIte]
theorem p19_s (f : Nat) (m0 o2 s : Nat → Nat → Int32) (h : ¬ 0 ≤ s 0 12) : L_X10_parse_19 (f + 1) m0 o2 s = (D_X10_sign s).bind (fun r7 => if r7 = 59 then ((D_X10_order (va_up s 0 (upd (s 0) 11 (((s 0) 11) + 1)))).bind (fun o14 => L_X10_parse_19 f m0 o2 o14)) else (if ((s 0) 10) ≤ ((s 0) 11) then (some s) else (some (va_up s 0 (upd (s 0) 12 ((s 0) 11)))))) := by
  simp only [L_X10_parse_19, if_neg h]
theorem parse_ok {l : Nat} {T : Nat → Int32} (yy : Mem) (m0 o2 : Nat → Nat → Int32) : ∀ (d i p F G : Nat) (x : Mem) (m : Nat → Nat → Int32), i + d = 12 → d < F → d < G → 5 * i ≤ p → PJ l T p x m → x 12 4 4 = nI i → m 0 15 = nI i → (∀ e, e < i → ORD e x m) →
    ∃ (r : Int32) (x' : Mem) (m' : Nat → Nat → Int32), L_X8_read_12 F yy (nI i) x = some (r, x') ∧ (D_X10_order m).bind (fun o => L_X10_parse_19 G m0 o2 o) = some m' ∧ XT x x' ∧ MTp m m' ∧
      ((r = -1 ∧ m' 0 12 = -1 ∧ ∃ n, 1 ≤ n ∧ n ≤ 12 ∧ x' 12 4 4 = nI n ∧ m' 0 15 = nI n ∧ ∀ e, e < n → ORD e x' m') ∨ ∃ g, g ≤ l ∧ r = nI g ∧ m' 0 12 = nI g) := by
  intro d
  induction d with
  | zero =>
    intro i p F G x m hi hF hG h5 hP h4 h15 hO
    obtain ⟨F, rfl⟩ : ∃ z, F = z + 1 := ⟨F - 1, by omega⟩
    obtain ⟨G, rfl⟩ : ∃ z, G = z + 1 := ⟨G - 1, by omega⟩
    have hi : i = 12 := by omega
    subst hi
    have hl := hP.1
    have hpl := hP.2.1
    have hsg : sg l T p = -1 := by unfold sg; rw [if_neg (by omega)]
    obtain ⟨m', a1, a2⟩ := order_no (Nat.le_refl 12) hP h15 (fun q hq h => by
      rw [hsg] at h
      obtain ⟨c, hc1, hc2⟩ := wd_cons hq
      rw [hc2] at h
      have hlit := wd_lit ⟨q, hq⟩ c (by simp only; rw [hc1]; exact List.mem_cons_self)
      exact nn1 (by have := hlit.1; omega) h)
    obtain ⟨-, b2, b3, -, -, b6⟩ := a2
    rcases b6 with ⟨b, -⟩ | ⟨-, g, b7, b8, b9⟩
    · exact absurd b (by decide)
    · refine ⟨nI p, x, m', ?_, ?_, XT.refl x, ⟨b2, b3⟩, Or.inr ⟨g, b7, ?_, b9⟩⟩
      · simp only [L_X8_read_12, show (12 : Int32) ≤ nI 12 by decide, hP.2.2.2.1, ↓reduceIte]
      · rw [a1]
        show L_X10_parse_19 (G + 1) m0 o2 m' = some m'
        exact p19_f (by rw [b9]; exact nI_nn g (by omega))
      · rw [← b8, hP.2.2.2.1]
  | succ d ih =>
    intro i p F G x m hi hF hG h5 hP h4 h15 hO
    obtain ⟨F, rfl⟩ : ∃ z, F = z + 1 := ⟨F - 1, by omega⟩
    obtain ⟨G, rfl⟩ : ∃ z, G = z + 1 := ⟨G - 1, by omega⟩
    have hi12 : i < 12 := by omega
    have hl := hP.1
    obtain ⟨b, x1, m1, a1, a2, b1, b2, b3, b4, b5, b6⟩ := order_ok hi12 hP h15
    rw [r12_s _ _ _ hi12, a1, a2]
    simp only [Option.bind_some]
    rcases b6 with ⟨rfl, ⟨p1, hp1, hP1⟩, hO1⟩ | ⟨rfl, g, c1, c2, c3⟩
    · rw [if_neg one_ne, hP1.2.2.2.1, hP1.2.2.1, p19_s _ _ _ _ (by rw [hP1.2.2.2.2.2.2.1]; decide), msg hP1]
      simp only [Option.bind_some]
      have x144 : x1 12 4 4 = nI i := by rw [b1.2.2 4 (by omega)]; exact h4
      have hOk : ∀ e, e < i + 1 → ORD e x1 m1 := fun e he => by
        by_cases hei : e = i
        · subst hei; exact hO1
        · exact (hO e (by omega)).keep (by omega) hi12 b1 b5
      have hx2 : XT x1 (va_up x1 12 (va_up (x1 12) 4 (upd (x1 12 4) 4 (x1 12 4 4 + 1)))) := ⟨fun q a => xs_ne a, fun r a _ => by rw [xs_self, vun _ _ _ a], fun z _ a => by rw [xs_self, va_up_self, upd_ne _ _ a]⟩
      have hx24 : (va_up x1 12 (va_up (x1 12) 4 (upd (x1 12 4) 4 (x1 12 4 4 + 1)))) 12 4 4 = nI (i + 1) := by rw [xs_self, va_up_self, upd_self, x144, nI_succ]
      have hO2 : ∀ e, e < i + 1 → ORD e (va_up x1 12 (va_up (x1 12) 4 (upd (x1 12 4) 4 (x1 12 4 4 + 1)))) m1 := fun e he => (hOk e he).same (by rw [xs_self, vun _ _ _ (by omega)]) (by rw [xs_self, vun _ _ _ (by omega)]) rfl
      by_cases hpl : p1 = l
      · have hsg : ¬ sg l T p1 = 59 := by unfold sg; rw [if_neg (by omega)]; decide
        rw [if_pos (by rw [hpl]), if_neg hsg, hP1.2.2.2.2.1, hP1.2.2.2.2.2.1, if_pos (nI_le (by omega) (by omega))]
        exact ⟨-1, _, m1, rfl, rfl, (b1.xt hi12).trans hx2, ⟨b2, b3⟩, Or.inl ⟨rfl, hP1.2.2.2.2.2.2.1, i + 1, by omega, by omega, hx24, b4, hO2⟩⟩
      · have hp1l : p1 < l := by have := hP1.2.1; omega
        rw [if_neg (nI_ne (by omega) (by omega) hpl)]
        have hP2 : PJ l T p1 (va_up x1 12 (va_up (x1 12) 4 (upd (x1 12 4) 4 (x1 12 4 4 + 1)))) m1 := by
          have h := hP1
          unfold PJ at h ⊢
          rw [hx2.2.2 1 (by omega) (by omega), hx2.2.1 5 (by omega) (by omega), xs_self, va_up_self, upd_ne _ _ (by omega)]
          exact h
        rw [rsg hP2]
        by_cases hs : sg l T p1 = 59
        · rw [if_pos hs, if_pos hs]
          simp only [Option.bind_some, if_neg one_ne]
          have emadv : va_up m1 0 (upd (m1 0) 11 (m1 0 11 + 1)) = madv m1 p1 := by rw [hP1.2.2.2.2.2.1, ← nI_succ]; rfl
          rw [emadv]
          have hP3 := hP2.go hp1l
          have hA := adv_XO 100 (va_up x1 12 (va_up (x1 12) 4 (upd (x1 12 4) 4 (x1 12 4 4 + 1)))) p1
          obtain ⟨r, x', m', c1, c2, c3, c4, c5⟩ := ih (i + 1) (p1 + 1) F G _ (madv m1 p1) (by omega) (by omega) (by omega) (by omega) hP3 (by rw [hA.2.2 4 (by omega)]; exact hx24) (by rw [(madv_MO m1 p1).2 15 (by omega) (by omega)]; exact b4) (fun e he => (hO2 e he).same (hA.2.1 _ (by omega) (by omega) (by omega)) (hA.2.1 _ (by omega) (by omega) (by omega)) ((madv_MO m1 p1).1 3 (by omega)))
          have hAx : XT (va_up x1 12 (va_up (x1 12) 4 (upd (x1 12 4) 4 (x1 12 4 4 + 1)))) (adv (va_up x1 12 (va_up (x1 12) 4 (upd (x1 12 4) 4 (x1 12 4 4 + 1)))) p1) := ⟨hA.1, fun r a _ => adv_row a, fun z a _ => hA.2.2 z a⟩
          have hAm : MTp m1 (madv m1 p1) := ⟨fun r a _ => (madv_MO m1 p1).1 r a, fun z a b _ => (madv_MO m1 p1).2 z a b⟩
          exact ⟨r, x', m', c1, c2, (((b1.xt hi12).trans hx2).trans hAx).trans c3, (MTp.trans ⟨b2, b3⟩ hAm).trans c4, c5⟩
        · rw [if_neg hs, if_neg hs]
          simp only [Option.bind_some, ↓reduceIte]
          rw [hP1.2.2.2.2.1, hP1.2.2.2.2.2.1, if_neg (nI_ge hp1l (by omega)), hP2.2.2.2.1]
          refine ⟨nI p1, _, _, rfl, rfl, (b1.xt hi12).trans hx2, ?_, Or.inr ⟨p1, by omega, rfl, by rw [va_up_self, upd_self]⟩⟩
          exact MTp.trans ⟨b2, b3⟩ ⟨fun r a _ => vun _ _ _ a, fun z _ a _ => by rw [va_up_self, upd_ne _ _ a]⟩
    · rw [if_pos rfl]
      refine ⟨_, x1, m1, rfl, ?_, b1.xt hi12, ⟨b2, b3⟩, Or.inr ⟨g, c1, c2, c3⟩⟩
      exact p19_f (by rw [c3]; exact nI_nn g (by omega))
