/-! words, and chains of numbers -/
def w3 (m : Nat → Nat → Int32) (i : Nat) (v : Int32) : Nat → Nat → Int32 := va_up m 3 (upd (m 3) i v)
theorem w3_ne (m : Nat → Nat → Int32) (i : Nat) (v : Int32) {r : Nat} (h : r ≠ 3) : w3 m i v r = m r := vun _ _ _ h
theorem PJ.put {l p : Nat} {T : Nat → Int32} {x : Mem} {m : Nat → Nat → Int32} (h : PJ l T p x m) (i : Nat) (v : Int32) : PJ l T p x (w3 m i v) := by
  unfold PJ at h ⊢
  rw [w3_ne _ _ _ (by omega), w3_ne _ _ _ (by omega)]
  exact h
def chR : List ((Nat → Nat → Int32) → Option (Int32 × (Nat → Nat → Int32))) → Nat → (Nat → Nat → Int32) → Option (Nat → Nat → Int32)
  | [], _, m => some m
  | R :: Rs, i, m => (R m).bind (fun (v, o) => chR Rs (i + 1) (w3 o i v))
def M3 (i k : Nat) (m m' : Nat → Nat → Int32) : Prop := (∀ r, r ≠ 0 → r ≠ 3 → m' r = m r) ∧ (∀ z, z ≠ 11 → z ≠ 12 → m' 0 z = m 0 z) ∧ ∀ z, ¬ (i ≤ z ∧ z < i + k) → m' 3 z = m 3 z
theorem M3.refl (i k : Nat) (m : Nat → Nat → Int32) : M3 i k m m := ⟨fun _ _ _ => rfl, fun _ _ _ => rfl, fun _ _ => rfl⟩
theorem M3.step {i k : Nat} {m o m' : Nat → Nat → Int32} {v : Int32} (h : MO m o) (g : M3 (i + 1) k (w3 o i v) m') : M3 i (k + 1) m m' := by
  refine ⟨fun r a b => by rw [g.1 r a b, w3_ne _ _ _ b, h.1 r a], fun z a b => by rw [g.2.1 z a b, w3_ne _ _ _ (by omega), h.2 z a b], fun z hz => ?_⟩
  rw [g.2.2 z (by omega)]
  unfold w3
  rw [va_up_self, upd_ne _ _ (by omega), h.1 3 (by omega)]
def Pds (l : Nat) (T : Nat → Int32) (j q : Nat) (xx : Mem) : List (((Nat → Nat → Int32) → Option (Int32 × (Nat → Nat → Int32))) × Nat) → Nat → Nat → Prop
  | [], t, _ => t = formLen.getD q 0
  | (R, w) :: Rs, t, cn => (∀ (p : Nat) (x : Mem) (m : Nat → Nat → Int32), PJ l T p x m → x 12 (j + 7) 2 = nI cn → PR l T p j cn q t w xx x m R) ∧ (∀ m : Nat → Nat → Int32, 0 ≤ m 0 12 → R m = some (0, m)) ∧ Pds l T j q xx Rs (t + w) (cn + 1)
def wid : List (((Nat → Nat → Int32) → Option (Int32 × (Nat → Nat → Int32))) × Nat) → Nat
  | [] => 0
  | (_, w) :: Rs => w + wid Rs
theorem chR_flt {l : Nat} {T : Nat → Int32} {j q : Nat} {xx : Mem} : ∀ (Rs : List (((Nat → Nat → Int32) → Option (Int32 × (Nat → Nat → Int32))) × Nat)) (t cn i : Nat) (m : Nat → Nat → Int32), Pds l T j q xx Rs t cn → 0 ≤ m 0 12 → ∃ m' : Nat → Nat → Int32, chR (Rs.map Prod.fst) i m = some m' ∧ m' 0 12 = m 0 12 ∧ M3 i Rs.length m m'
  | [], _, _, i, m, _, _ => ⟨m, rfl, rfl, M3.refl _ _ _⟩
  | (R, w) :: Rs, t, cn, i, m, h, hm => by
    obtain ⟨m', a1, a2, a3⟩ := chR_flt Rs (t + w) (cn + 1) (i + 1) (w3 m i 0) h.2.2 (by rw [w3_ne _ _ _ (by omega)]; exact hm)
    refine ⟨m', ?_, by rw [a2, w3_ne _ _ _ (by omega)], M3.step (MO.refl m) a3⟩
    show (R m).bind _ = _
    rw [h.2.1 m hm]
    exact a1
theorem chain {l : Nat} {T : Nat → Int32} {j q : Nat} {xx : Mem} (hl : l ≤ 60) (hq : q < 9) (hj : j < 12) : ∀ (Rs : List (((Nat → Nat → Int32) → Option (Int32 × (Nat → Nat → Int32))) × Nat)) (t cn i p : Nat) (x : Mem) (m : Nat → Nat → Int32), Pds l T j q xx Rs t cn → PJ l T p x m → x 12 (j + 7) 2 = nI cn →
    ∃ (x' : Mem) (m' : Nat → Nat → Int32) (b : Int32), (∀ f, L_X8_readForm_2 (f + 1 + wid Rs) xx q j (nI t) x = some (b, x')) ∧ chR (Rs.map Prod.fst) i m = some m' ∧ XO j x x' ∧ M3 i Rs.length m m' ∧
      ((b = 1 ∧ x' 12 (j + 7) 0 = x 12 (j + 7) 0 ∧ (∃ p', p ≤ p' ∧ PJ l T p' x' m') ∧ (∀ z, z < cn → x' 12 (j + 19) z = x 12 (j + 19) z) ∧ ∀ s, s < Rs.length → x' 12 (j + 19) (cn + s) = m' 3 (i + s)) ∨ (b = 0 ∧ ∃ g, FL l g x' m'))
  | [], t, cn, i, p, x, m, h, hP, hc => by
    have h : t = formLen.getD q 0 := h
    subst h
    exact ⟨x, m, 1, fun f => rf_e hq, rfl, XO.refl j x, M3.refl _ _ _, Or.inl ⟨rfl, rfl, ⟨p, Nat.le_refl p, hP⟩, fun _ _ => rfl, fun s hs => absurd hs (Nat.not_lt_zero s)⟩⟩
  | (R, w) :: Rs, t, cn, i, p, x, m, h, hP, hc => by
    obtain ⟨h1, h2, h3⟩ := h
    have hfu : ∀ f : Nat, f + 1 + wid ((R, w) :: Rs) = (f + 1 + wid Rs) + w := fun f => by show f + 1 + (w + wid Rs) = _; omega
    rcases h1 p x m hP hc with ⟨x1, m1, v, p1, hp1, a1, a2, a3, a4, a5⟩ | ⟨x1, m1, g, v, a1, a2, a3, a4, a5⟩
    · obtain ⟨x', m', b, b1, b2, b3, b4, b5⟩ := chain hl hq hj Rs (t + w) (cn + 1) (i + 1) p1 x1 (w3 m1 i v) h3 (a3.put i v) a4.2.1
      refine ⟨x', m', b, fun f => ?_, ?_, a4.1.trans b3, M3.step a5 b4, ?_⟩
      · rw [hfu f, a1 (f + 1 + wid Rs)]; exact b1 f
      · show (R m).bind _ = _
        rw [a2]
        exact b2
      · rcases b5 with ⟨c1, b0, ⟨p', c2, c3⟩, c4, c5⟩ | ⟨c1, c2⟩
        · refine Or.inl ⟨c1, b0.trans a4.2.2.1, ⟨p', by omega, c3⟩, fun z hz => ?_, fun s hs => ?_⟩
          · rw [c4 z (by omega), a4.2.2.2, upd_ne _ _ (by omega)]
          · by_cases h0 : s = 0
            · subst h0
              show x' 12 (j + 19) cn = m' 3 i
              rw [c4 cn (by omega), a4.2.2.2, upd_self, b4.2.2 i (by omega)]
              unfold w3
              rw [va_up_self, upd_self]
            · have := c5 (s - 1) (by simp only [List.length_cons] at hs; omega)
              rw [show cn + 1 + (s - 1) = cn + s by omega, show i + 1 + (s - 1) = i + s by omega] at this
              exact this
        · exact Or.inr ⟨c1, c2⟩
    · obtain ⟨m', b1, b2, b3⟩ := chR_flt Rs (t + w) (cn + 1) (i + 1) (w3 m1 i v) h3 (by rw [w3_ne _ _ _ (by omega), a3.2.2]; exact nI_nn g (by have := a3.1; omega))
      refine ⟨x1, m', 0, fun f => ?_, ?_, a4, M3.step a5 b3, Or.inr ⟨rfl, g, a3.1, a3.2.1, ?_⟩⟩
      · rw [hfu f]; exact a1 (f + 1 + wid Rs)
      · show (R m).bind _ = _
        rw [a2]
        exact b1
      · rw [b2, w3_ne _ _ _ (by omega)]; exact a3.2.2
/-- signs that the reference wants, one behind the other -/
def nf : List Nat → (Nat → Nat → Int32) → Option (Nat → Nat → Int32)
  | [], m => some m
  | c :: cs, m => (D_X10_needs m (nI c)).bind (nf cs)
theorem nf_flt : ∀ (cs : List Nat) (m : Nat → Nat → Int32), 0 ≤ m 0 12 → nf cs m = some m
  | [], _, _ => rfl
  | c :: cs, m, h => by
    show (D_X10_needs m (nI c)).bind (nf cs) = some m
    rw [flt_needs h]
    exact nf_flt cs m h
def XA (x x' : Mem) : Prop := (∀ q, q ≠ 12 → x' q = x q) ∧ (∀ r, r ≠ 4 → x' 12 r = x 12 r) ∧ ∀ z, z ≠ 2 → x' 12 4 z = x 12 4 z
theorem XA.refl (x : Mem) : XA x x := ⟨fun _ _ => rfl, fun _ _ => rfl, fun _ _ => rfl⟩
theorem XA.xo {x x' : Mem} (h : XA x x') (j : Nat) : XO j x x' := ⟨h.1, fun r a _ _ => h.2.1 r a, h.2.2⟩
theorem XA.pre {x x' : Mem} {p : Nat} (h : XA (adv x p) x') : XA x x' := by
  have a := adv_XO 100 x p
  refine ⟨fun q hq => (h.1 q hq).trans (a.1 q hq), fun r hr => (h.2.1 r hr).trans (adv_row hr), fun z hz => (h.2.2 z hz).trans (a.2.2 z hz)⟩
theorem lits {l : Nat} {T : Nat → Int32} {j q : Nat} {xx : Mem} (hq : q < 9) : ∀ (cs : List Nat) (t p : Nat) (x : Mem) (m : Nat → Nat → Int32), (∀ c ∈ cs, litOK c) → (∀ i c, cs[i]? = some c → chAt q (t + i) = nI c) → t + cs.length ≤ formLen.getD q 0 → PJ l T p x m →
    (∃ (x' : Mem) (m' : Nat → Nat → Int32), (∀ f, L_X8_readForm_2 (f + cs.length) xx q j (nI t) x = L_X8_readForm_2 f xx q j (nI (t + cs.length)) x') ∧ nf cs m = some m' ∧ PJ l T (p + cs.length) x' m' ∧ XA x x' ∧ MO m m') ∨
    (∃ (x' : Mem) (m' : Nat → Nat → Int32) (g : Nat), (∀ f, L_X8_readForm_2 (f + cs.length) xx q j (nI t) x = some (0, x')) ∧ nf cs m = some m' ∧ FL l g x' m' ∧ XA x x' ∧ MO m m')
  | [], t, p, x, m, _, _, _, hP => Or.inl ⟨x, m, fun f => rfl, rfl, hP, XA.refl x, MO.refl m⟩
  | c :: cs, t, p, x, m, h1, h2, h3, hP => by
    have h3' : t + (cs.length + 1) ≤ formLen.getD q 0 := h3
    have hfu : ∀ f : Nat, f + (c :: cs).length = (f + cs.length) + 1 := fun f => by simp only [List.length_cons]; omega
    rcases cL1 (xx := xx) (j := j) hP hq (show t < formLen.getD q 0 by omega) (h1 c List.mem_cons_self) (h2 0 c rfl) with ⟨hp, hs, a1, a2, a3⟩ | ⟨a1, a2⟩
    · rcases lits (xx := xx) (j := j) hq cs (t + 1) (p + 1) (adv x p) (madv m p) (fun d hd => h1 d (List.mem_cons_of_mem c hd)) (fun i d hd => by
        have := h2 (i + 1) d (by rw [List.getElem?_cons_succ]; exact hd)
        rw [show t + 1 + i = t + (i + 1) by omega]; exact this) (by omega) a3 with ⟨x', m', b1, b2, b3, b4, b5⟩ | ⟨x', m', g, b1, b2, b3, b4, b5⟩
      · refine Or.inl ⟨x', m', fun f => ?_, ?_, ?_, b4.pre, (madv_MO m p).trans b5⟩
        · rw [hfu f, a1 (f + cs.length), b1 f, show t + 1 + cs.length = t + (c :: cs).length by simp only [List.length_cons]; omega]
        · show (D_X10_needs m (nI c)).bind (nf cs) = _
          rw [a2]; exact b2
        · rw [show p + (c :: cs).length = p + 1 + cs.length by simp only [List.length_cons]; omega]; exact b3
      · refine Or.inr ⟨x', m', g, fun f => ?_, ?_, b3, b4.pre, (madv_MO m p).trans b5⟩
        · rw [hfu f, a1 (f + cs.length), b1 f]
        · show (D_X10_needs m (nI c)).bind (nf cs) = _
          rw [a2]; exact b2
    · refine Or.inr ⟨x, mflt m p, p, fun f => ?_, ?_, mflt_FL hP, XA.refl x, mflt_MO m p⟩
      · rw [hfu f, a1 (f + cs.length)]
      · show (D_X10_needs m (nI c)).bind (nf cs) = _
        rw [a2]
        exact nf_flt cs _ (mflt_pos m (by have := hP.1; have := hP.2.1; omega))
