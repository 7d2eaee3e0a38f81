/-! longer pieces: a word, a sign and a number, an owner or none, a wind -/
def litOK (c : Nat) : Prop := c < 128 ∧ c ≠ 35 ∧ c ≠ 37 ∧ c ≠ 126 ∧ c ≠ 33
def chAt (q t : Nat) : Int32 := (formB.getD q []).getD t 0
def PR (l : Nat) (T : Nat → Int32) (p j cn q t w : Nat) (xx x : Mem) (m : Nat → Nat → Int32) (R : (Nat → Nat → Int32) → Option (Int32 × (Nat → Nat → Int32))) : Prop :=
  (∃ (x' : Mem) (m' : Nat → Nat → Int32) (v : Int32) (p' : Nat), p < p' ∧ (∀ f, L_X8_readForm_2 (f + w) xx q j (nI t) x = L_X8_readForm_2 f xx q j (nI (t + w)) x') ∧ R m = some (v, m') ∧ PJ l T p' x' m' ∧ OS j cn v x x' ∧ MO m m') ∨
  (∃ (x' : Mem) (m' : Nat → Nat → Int32) (g : Nat) (v : Int32), (∀ f, L_X8_readForm_2 (f + w) xx q j (nI t) x = some (0, x')) ∧ R m = some (v, m') ∧ FL l g x' m' ∧ XO j x x' ∧ MO m m')
section CP
variable {l p j cn q t : Nat} {T : Nat → Int32} {xx x : Mem} {m : Nat → Nat → Int32}
theorem mflt_FL (h : PJ l T p x m) : FL l p x (mflt m p) := ⟨h.2.1, h.2.2.2.1, by unfold mflt; rw [va_up_self, upd_self]⟩
theorem cL1 (h : PJ l T p x m) (hq : q < 9) (ht : t < formLen.getD q 0) {c : Nat} (hl : litOK c) (hc : chAt q t = nI c) :
    (p < l ∧ sg l T p = nI c ∧ (∀ f, L_X8_readForm_2 (f + 1) xx q j (nI t) x = L_X8_readForm_2 f xx q j (nI (t + 1)) (adv x p)) ∧ D_X10_needs m (nI c) = some (madv m p) ∧ PJ l T (p + 1) (adv x p) (madv m p)) ∨ ((∀ f, L_X8_readForm_2 (f + 1) xx q j (nI t) x = some (0, x)) ∧ D_X10_needs m (nI c) = some (mflt m p)) := by
  obtain ⟨l0, l1, l2, l3, l4⟩ := hl
  have hr := rp_lit (j := j) h (c := nI c) (nI_ne (b := 35) (by omega) (by omega) l1) (nI_ne (b := 37) (by omega) (by omega) l2) (nI_ne (b := 126) (by omega) (by omega) l3) (nI_ne (b := 33) (by omega) (by omega) l4)
  by_cases hs : sg l T p = nI c
  · left
    have hp := sg_lt (nn1 (n := c) (by omega)) hs
    refine ⟨hp, hs, fun f => ?_, ?_, h.go hp⟩
    · rw [rf_s hq ht, show (formB.getD q []).getD t 0 = nI c from hc, hr, if_pos hs]
      simp only [Option.bind_some, if_neg one_ne]
    · rw [msn h, if_pos hs]
  · right
    refine ⟨fun f => ?_, ?_⟩
    · rw [rf_s hq ht, show (formB.getD q []).getD t 0 = nI c from hc, hr, if_neg hs]
      simp only [Option.bind_some, ↓reduceIte]
    · rw [msn h, if_neg hs]
theorem one_mul' (a : Int32) : 1 * a = a := by grind only
theorem cDig (h : PJ l T p x m) (hq : q < 9) (ht : t < formLen.getD q 0) (hc : chAt q t = 35) (hj : j < 12) (hcn : x 12 (j + 7) 2 = nI cn) (h3 : cn < 3) :
    (∃ (x' : Mem) (v : Nat), (∀ f, L_X8_readForm_2 (f + 1) xx q j (nI t) x = L_X8_readForm_2 f xx q j (nI (t + 1)) x') ∧ D_X10_number m 1 = some (nI v, madv m p) ∧ PJ l T (p + 1) x' (madv m p) ∧ OS j cn (nI v) x x') ∨ ((∀ f, L_X8_readForm_2 (f + 1) xx q j (nI t) x = some (0, x)) ∧ D_X10_number m 1 = some (0, mflt m p)) := by
  rcases pdig h hj hcn h3 1 with ⟨x', v, hv, hp, a1, a2, a3, a4⟩ | ⟨a1, a2⟩
  · left
    rw [one_mul'] at a4
    refine ⟨x', v, fun f => ?_, a2, a3, a4⟩
    rw [rf_s hq ht, show (formB.getD q []).getD t 0 = 35 from hc]
    unfold D_X8_readPart
    rw [if_pos rfl, a1]
    simp only [Option.bind_some, is1, ↓reduceIte, if_neg one_ne]
  · right
    refine ⟨fun f => ?_, a2⟩
    rw [rf_s hq ht, show (formB.getD q []).getD t 0 = 35 from hc]
    unfold D_X8_readPart
    rw [if_pos rfl, a1]
    simp only [Option.bind_some, is0, ↓reduceIte]
theorem adv_row {r : Nat} (hr : r ≠ 4) : (adv x p) 12 r = x 12 r := by unfold adv; rw [xs_self, vun _ _ _ hr]
theorem OS.pre {v : Int32} {x' : Mem} (h : OS j cn v (adv x p) x') : OS j cn v x x' :=
  ⟨(adv_XO j x p).trans h.1, h.2.1, by rw [h.2.2.1, adv_row (by omega)], by rw [h.2.2.2, adv_row (by omega)]⟩
/-- a sign and a digit -/
theorem cBeh (h : PJ l T p x m) (hq : q < 9) (ht : t + 1 < formLen.getD q 0) {c : Nat} (hl : litOK c) (hc : chAt q t = nI c) (hc2 : chAt q (t + 1) = 35) (hj : j < 12) (hcn : x 12 (j + 7) 2 = nI cn) (h3 : cn < 3) :
    PR l T p j cn q t 2 xx x m (fun o => D_X10_behind o (nI c) 1) := by
  unfold PR D_X10_behind
  rcases cL1 (xx := xx) (j := j) h hq (show t < formLen.getD q 0 by omega) hl hc with ⟨hp, hs, a1, a2, a3⟩ | ⟨a1, a2⟩
  · rcases cDig (xx := xx) a3 hq ht hc2 hj (show (adv x p) 12 (j + 7) 2 = nI cn by rw [adv_row (by omega)]; exact hcn) h3 with ⟨x', v, b1, b2, b3, b4⟩ | ⟨b1, b2⟩
    · left
      refine ⟨x', madv (madv m p) (p + 1), nI v, p + 1 + 1, by omega, fun f => ?_, ?_, b3, b4.pre, (madv_MO _ _).trans (madv_MO _ _)⟩
      · rw [a1 (f + 1), b1 f]
      · simp only [a2, Option.bind_some, b2]
    · right
      refine ⟨adv x p, mflt (madv m p) (p + 1), p + 1, 0, fun f => ?_, ?_, mflt_FL a3, adv_XO j x p, (madv_MO _ _).trans (mflt_MO _ _)⟩
      · rw [a1 (f + 1), b1 f]
      · simp only [a2, Option.bind_some, b2]
  · right
    have hpos := mflt_pos m (p := p) (by have := h.1; have := h.2.1; omega)
    refine ⟨x, mflt m p, p, 0, fun f => ?_, ?_, mflt_FL h, XO.refl j x, mflt_MO _ _⟩
    · rw [a1 (f + 1)]
    · simp only [a2, Option.bind_some, flt_num hpos]
/-- a sign and a number of at most two digits -/
theorem cNum (h : PJ l T p x m) (hq : q < 9) (ht : t + 1 < formLen.getD q 0) {c : Nat} (hl : litOK c) (hc : chAt q t = nI c) (hc2 : chAt q (t + 1) = 37) (hj : j < 12) (hcn : x 12 (j + 7) 2 = nI cn) (h3 : cn < 3) :
    PR l T p j cn q t 2 xx x m (fun o => D_X10_behind o (nI c) 2) := by
  unfold PR D_X10_behind
  rcases cL1 (xx := xx) (j := j) h hq (show t < formLen.getD q 0 by omega) hl hc with ⟨hp, hs, a1, a2, a3⟩ | ⟨a1, a2⟩
  · have hrp : ∀ r, D_X8_readNumber (adv x p) j = some (r) → ∀ f, L_X8_readForm_2 (f + 1) xx q j (nI (t + 1)) (adv x p) = (if is01 r.1 then (some (r.1, r.2)) else none).bind (fun (r8, o9) => if r8 = 0 then (some (0, o9)) else (L_X8_readForm_2 f xx q j (nI (t + 1 + 1)) o9)) := fun r hr f => by
      rw [rf_s hq ht, show (formB.getD q []).getD (t + 1) 0 = 37 from hc2]
      unfold D_X8_readPart
      rw [if_neg (by decide), if_pos rfl, hr]
      rfl
    rcases pnum a3 hj (show (adv x p) 12 (j + 7) 2 = nI cn by rw [adv_row (by omega)]; exact hcn) h3 with ⟨x', m', v, p', hp', b1, b2, b3, b4, b5⟩ | ⟨b1, b2⟩
    · left
      refine ⟨x', m', nI v, p', by omega, fun f => ?_, ?_, b3, b4.pre, (madv_MO _ _).trans b5⟩
      · rw [a1 (f + 1), hrp _ b1 f]
        simp only [is1, ↓reduceIte, Option.bind_some, if_neg one_ne]
      · simp only [a2, Option.bind_some, b2]
    · right
      refine ⟨adv x p, mflt (madv m p) (p + 1), p + 1, 0, fun f => ?_, ?_, mflt_FL a3, adv_XO j x p, (madv_MO _ _).trans (mflt_MO _ _)⟩
      · rw [a1 (f + 1), hrp _ b1 f]
        simp only [is0, ↓reduceIte, Option.bind_some]
      · simp only [a2, Option.bind_some, b2]
  · right
    have hpos := mflt_pos m (p := p) (by have := h.1; have := h.2.1; omega)
    refine ⟨x, mflt m p, p, 0, fun f => ?_, ?_, mflt_FL h, XO.refl j x, mflt_MO _ _⟩
    · rw [a1 (f + 1)]
    · simp only [a2, Option.bind_some, flt_num hpos]
/-- an owner or none -/
theorem cOwn (h : PJ l T p x m) (hq : q < 9) (ht : t < formLen.getD q 0) (hc : chAt q t = 33) (hj : j < 12) (hcn : x 12 (j + 7) 2 = nI cn) (h3 : cn < 3) :
    PR l T p j cn q t 1 xx x m D_X10_vineOwner := by
  unfold PR
  have hn0 : ¬ (0 : Int32) ≤ m 0 12 := by rw [h.2.2.2.2.2.2.1]; decide
  have hrf : ∀ f, L_X8_readForm_2 (f + 1) xx q j (nI t) x = (D_X8_readPart x 33 j).bind (fun (r8, o9) => if r8 = 0 then (some (0, o9)) else (L_X8_readForm_2 f xx q j (nI (t + 1)) o9)) := fun f => by
    rw [rf_s hq ht, show (formB.getD q []).getD t 0 = 33 from hc]
  have hrp : D_X8_readPart x 33 j = (((D_X8_readSign x 45).bind (fun (r9, o10) => if r9 = 0 then ((D_X8_readSign o10 62).bind (fun (r13, o14) => if r13 = 0 then (some (0, o14)) else ((D_X8_readDigit o14 j 1).bind (fun (r17, o18) => if r17 = 0 then (some (0, o18)) else (some (1, o18)))))) else ((D_X5_add o10 j (-1)).bind (fun (r21, o22) => if is01 r21 then (some (r21, o22)) else none)))) : Option (Int32 × Mem)) := by
    unfold D_X8_readPart
    rw [if_neg (by decide), if_neg (by decide), if_neg (by decide), if_pos rfl]
  by_cases hs : sg l T p = 45
  · left
    have hp := sg_lt (by decide) hs
    have hA := h.go hp
    obtain ⟨x', a1, a2, a3⟩ := hA.add hj (show (adv x p) 12 (j + 7) 2 = nI cn by rw [adv_row (by omega)]; exact hcn) h3 (-1)
    refine ⟨x', madv m p, -1, p + 1, by omega, fun f => ?_, ?_, a2, a3.pre, madv_MO _ _⟩
    · rw [hrf, hrp, rsg h, if_pos hs]
      simp only [Option.bind_some, if_neg one_ne, a1, is1, ↓reduceIte]
    · unfold D_X10_vineOwner
      rw [if_neg hn0, msg h]
      simp only [Option.bind_some, if_pos hs, h.2.2.2.2.2.1, ← nI_succ]
      rfl
  · have hv : D_X10_vineOwner m = (D_X10_behind m 62 1).bind (fun (r9, o10) => some (r9, o10)) := by
      unfold D_X10_vineOwner
      rw [if_neg hn0, msg h]
      simp only [Option.bind_some, if_neg hs]
    rw [hv]
    unfold D_X10_behind
    rw [msn h]
    by_cases hs2 : sg l T p = 62
    · have hp := sg_lt (by decide) hs2
      have hA := h.go hp
      rw [if_pos hs2]
      rcases pdig hA hj (show (adv x p) 12 (j + 7) 2 = nI cn by rw [adv_row (by omega)]; exact hcn) h3 1 with ⟨x', v, hv, hp2, a1, a2, a3, a4⟩ | ⟨a1, a2⟩
      · left
        rw [one_mul'] at a4
        refine ⟨x', madv (madv m p) (p + 1), nI v, p + 1 + 1, by omega, fun f => ?_, ?_, a3, a4.pre, (madv_MO _ _).trans (madv_MO _ _)⟩
        · rw [hrf, hrp, rsg h, if_neg hs]
          simp only [Option.bind_some, ↓reduceIte]
          rw [rsg h, if_pos hs2]
          simp only [Option.bind_some, if_neg one_ne, a1]
        · simp only [Option.bind_some, a2]
      · right
        refine ⟨adv x p, mflt (madv m p) (p + 1), p + 1, 0, fun f => ?_, ?_, mflt_FL hA, adv_XO j x p, (madv_MO _ _).trans (mflt_MO _ _)⟩
        · rw [hrf, hrp, rsg h, if_neg hs]
          simp only [Option.bind_some, ↓reduceIte]
          rw [rsg h, if_pos hs2]
          simp only [Option.bind_some, if_neg one_ne, a1, ↓reduceIte]
        · simp only [Option.bind_some, a2]
    · right
      rw [if_neg hs2]
      have hpos := mflt_pos m (p := p) (by have := h.1; have := h.2.1; omega)
      refine ⟨x, mflt m p, p, 0, fun f => ?_, ?_, mflt_FL h, XO.refl j x, mflt_MO _ _⟩
      · rw [hrf, hrp, rsg h, if_neg hs]
        simp only [Option.bind_some, ↓reduceIte]
        rw [rsg h, if_neg hs2]
        simp only [Option.bind_some, ↓reduceIte]
      · simp only [Option.bind_some, flt_num hpos]
theorem neg_mul' (a : Int32) : -1 * a = -a := by grind only
/-- a wind -/
theorem cWind (h : PJ l T p x m) (hq : q < 9) (ht : t + 1 < formLen.getD q 0) (hc : chAt q t = 32) (hc2 : chAt q (t + 1) = 126) (hj : j < 12) (hcn : x 12 (j + 7) 2 = nI cn) (h3 : cn < 3) :
    PR l T p j cn q t 2 xx x m D_X10_windNow := by
  unfold PR D_X10_windNow
  rcases cL1 (xx := xx) (j := j) (c := 32) h hq (show t < formLen.getD q 0 by omega) ⟨by omega, by omega, by omega, by omega, by omega⟩ hc with ⟨hp, hs, a1, a2, a3⟩ | ⟨a1, a2⟩
  · have a2' : D_X10_needs m 32 = some (madv m p) := a2
    have hn0 : ¬ (0 : Int32) ≤ madv m p 0 12 := by rw [a3.2.2.2.2.2.2.1]; decide
    have hcA : (adv x p) 12 (j + 7) 2 = nI cn := by rw [adv_row (by omega)]; exact hcn
    have hrf : ∀ f, L_X8_readForm_2 (f + 1) xx q j (nI (t + 1)) (adv x p) = (D_X8_readPart (adv x p) 126 j).bind (fun (r8, o9) => if r8 = 0 then (some (0, o9)) else (L_X8_readForm_2 f xx q j (nI (t + 1 + 1)) o9)) := fun f => by
      rw [rf_s hq ht, show (formB.getD q []).getD (t + 1) 0 = 126 from hc2]
    have hrp : D_X8_readPart (adv x p) 126 j = (((D_X8_readSign (adv x p) 45).bind (fun (r25, o26) => if r25 = 0 then ((D_X8_readDigit o26 j 1).bind (fun (r29, o30) => if is01 r29 then (some (r29, o30)) else none)) else ((D_X8_readDigit o26 j (-1)).bind (fun (r33, o34) => if is01 r33 then (some (r33, o34)) else none)))) : Option (Int32 × Mem)) := by
      unfold D_X8_readPart
      rw [if_neg (by decide), if_neg (by decide), if_pos rfl]
    simp only [a2', Option.bind_some, if_neg hn0, msg a3]
    by_cases hs2 : sg l T (p + 1) = 45
    · have hp2 := sg_lt (by decide) hs2
      have hA := a3.go hp2
      have emadv : va_up (madv m p) 0 (upd (madv m p 0) 11 (madv m p 0 11 + 1)) = madv (madv m p) (p + 1) := by rw [a3.2.2.2.2.2.1, ← nI_succ]; rfl
      rw [if_pos hs2, emadv]
      rcases pdig hA hj (show (adv (adv x p) (p + 1)) 12 (j + 7) 2 = nI cn by rw [adv_row (by omega)]; exact hcA) h3 (-1) with ⟨x', v, hv, hp3, b1, b2, b3, b4⟩ | ⟨b1, b2⟩
      · left
        rw [neg_mul'] at b4
        refine ⟨x', madv (madv (madv m p) (p + 1)) (p + 1 + 1), -nI v, p + 1 + 1 + 1, by omega, fun f => ?_, ?_, b3, b4.pre.pre, ((madv_MO _ _).trans (madv_MO _ _)).trans (madv_MO _ _)⟩
        · rw [a1 (f + 1), hrf f, hrp, rsg a3, if_pos hs2]
          simp only [Option.bind_some, if_neg one_ne, b1, is1, ↓reduceIte]
        · simp only [Option.bind_some, b2]
      · right
        refine ⟨adv (adv x p) (p + 1), mflt (madv (madv m p) (p + 1)) (p + 1 + 1), p + 1 + 1, -0, fun f => ?_, ?_, mflt_FL hA, (adv_XO j x p).trans (adv_XO j _ _), ((madv_MO _ _).trans (madv_MO _ _)).trans (mflt_MO _ _)⟩
        · rw [a1 (f + 1), hrf f, hrp, rsg a3, if_pos hs2]
          simp only [Option.bind_some, if_neg one_ne, b1, is0, ↓reduceIte]
        · simp only [Option.bind_some, b2]
    · rw [if_neg hs2]
      rcases pdig a3 hj hcA h3 1 with ⟨x', v, hv, hp3, b1, b2, b3, b4⟩ | ⟨b1, b2⟩
      · left
        rw [one_mul'] at b4
        refine ⟨x', madv (madv m p) (p + 1), nI v, p + 1 + 1, by omega, fun f => ?_, ?_, b3, b4.pre, (madv_MO _ _).trans (madv_MO _ _)⟩
        · rw [a1 (f + 1), hrf f, hrp, rsg a3, if_neg hs2]
          simp only [Option.bind_some, b1, is1, ↓reduceIte, if_neg one_ne]
        · simp only [Option.bind_some, b2]
      · right
        refine ⟨adv x p, mflt (madv m p) (p + 1), p + 1, 0, fun f => ?_, ?_, mflt_FL a3, adv_XO j x p, (madv_MO _ _).trans (mflt_MO _ _)⟩
        · rw [a1 (f + 1), hrf f, hrp, rsg a3, if_neg hs2]
          simp only [Option.bind_some, b1, is0, ↓reduceIte]
        · simp only [Option.bind_some, b2]
  · right
    have a2' : D_X10_needs m 32 = some (mflt m p) := a2
    have hpos := mflt_pos m (p := p) (by have := h.1; have := h.2.1; omega)
    refine ⟨x, mflt m p, p, 0, fun f => ?_, ?_, mflt_FL h, XO.refl j x, mflt_MO _ _⟩
    · rw [a1 (f + 1)]
    · simp only [a2', Option.bind_some, if_pos hpos, flt_num hpos]
end CP
