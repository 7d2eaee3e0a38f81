/-! an order, both ways -/
def ar (q : Nat) : Nat := [3, 2, 2, 3, 2, 1, 1, 1, 0].getD q 0
def Wd (q : Nat) : List Nat := [[99, 108, 111, 117, 100], [118, 105, 110, 101], [116, 105, 116, 108, 101], [115, 101, 108, 108], [112, 108, 101, 100, 103, 101], [114, 101, 100, 101, 101, 109], [119, 105, 110, 100], [104, 97, 105, 108], [100, 97, 119, 110]].getD q []
abbrev RB (c : Int32) (d : Int32) : ((Nat → Nat → Int32) → Option (Int32 × (Nat → Nat → Int32))) := fun o => D_X10_behind o c d
def Rq (q : Nat) : List (((Nat → Nat → Int32) → Option (Int32 × (Nat → Nat → Int32))) × Nat) := match q with
  | 0 => [(RB 32 1, 2), (RB 32 1, 2), (RB 32 1, 2)]
  | 1 => [(RB 32 1, 2), (D_X10_vineOwner, 1)]
  | 2 => [(RB 32 1, 2), (RB 62 1, 2)]
  | 3 => [(RB 32 1, 2), (RB 62 1, 2), (RB 61 2, 2)]
  | 4 => [(RB 32 1, 2), (RB 62 1, 2)]
  | 5 => [(RB 32 1, 2)]
  | 6 => [(D_X10_windNow, 2)]
  | 7 => [(RB 32 1, 2)]
  | _ => []
def ORD (j : Nat) (x : Mem) (m : Nat → Nat → Int32) : Prop := ∃ q, q < 9 ∧ x 12 (j + 7) 0 = nI q ∧ m 3 (4 * j) = chAt q 0 ∧ ∀ s, s < ar q → x 12 (j + 19) s = m 3 (4 * j + 1 + s)
theorem flt_beh {c d : Int32} {m : Nat → Nat → Int32} (h : 0 ≤ m 0 12) : D_X10_behind m c d = some (0, m) := by
  unfold D_X10_behind
  rw [flt_needs h]
  simp only [Option.bind_some, flt_num h]
theorem flt_own {m : Nat → Nat → Int32} (h : 0 ≤ m 0 12) : D_X10_vineOwner m = some (0, m) := by
  unfold D_X10_vineOwner
  rw [if_pos h, flt_beh h]
  rfl
theorem flt_wnd {m : Nat → Nat → Int32} (h : 0 ≤ m 0 12) : D_X10_windNow m = some (0, m) := by
  unfold D_X10_windNow
  rw [flt_needs h]
  simp only [Option.bind_some]
  rw [if_pos h, flt_num h]
  rfl
theorem lo32 : litOK 32 := by unfold litOK; decide
theorem lo62 : litOK 62 := by unfold litOK; decide
theorem lo61 : litOK 61 := by unfold litOK; decide
theorem pds_q {l : Nat} {T : Nat → Int32} {j q : Nat} {xx : Mem} (hj : j < 12) (hq : q < 9) : Pds l T j q xx (Rq q) (Wd q).length 0 := by
  have B : ∀ (q t cn c : Nat), q < 9 → t + 1 < formLen.getD q 0 → litOK c → chAt q t = nI c → chAt q (t + 1) = 35 → cn < 3 → (∀ (p : Nat) (x : Mem) (m : Nat → Nat → Int32), PJ l T p x m → x 12 (j + 7) 2 = nI cn → PR l T p j cn q t 2 xx x m (RB (nI c) 1)) ∧ ∀ m : Nat → Nat → Int32, 0 ≤ m 0 12 → RB (nI c) 1 m = some (0, m) :=
    fun q t cn c hq ht hl h1 h2 h3 => ⟨fun p x m hP hc => cBeh hP hq ht hl h1 h2 hj hc h3, fun m h => flt_beh h⟩
  rcases (show q = 0 ∨ q = 1 ∨ q = 2 ∨ q = 3 ∨ q = 4 ∨ q = 5 ∨ q = 6 ∨ q = 7 ∨ q = 8 by omega) with rfl | rfl | rfl | rfl | rfl | rfl | rfl | rfl | rfl
  · exact ⟨(B 0 5 0 32 (by decide) (by decide) lo32 rfl rfl (by decide)).1, (B 0 5 0 32 (by decide) (by decide) lo32 rfl rfl (by decide)).2, (B 0 7 1 32 (by decide) (by decide) lo32 rfl rfl (by decide)).1, (B 0 7 1 32 (by decide) (by decide) lo32 rfl rfl (by decide)).2, (B 0 9 2 32 (by decide) (by decide) lo32 rfl rfl (by decide)).1, (B 0 9 2 32 (by decide) (by decide) lo32 rfl rfl (by decide)).2, rfl⟩
  · exact ⟨(B 1 4 0 32 (by decide) (by decide) lo32 rfl rfl (by decide)).1, (B 1 4 0 32 (by decide) (by decide) lo32 rfl rfl (by decide)).2, fun p x m hP hc => cOwn hP (by decide) (by decide) rfl hj hc (by decide), fun m h => flt_own h, rfl⟩
  · exact ⟨(B 2 5 0 32 (by decide) (by decide) lo32 rfl rfl (by decide)).1, (B 2 5 0 32 (by decide) (by decide) lo32 rfl rfl (by decide)).2, (B 2 7 1 62 (by decide) (by decide) lo62 rfl rfl (by decide)).1, (B 2 7 1 62 (by decide) (by decide) lo62 rfl rfl (by decide)).2, rfl⟩
  · exact ⟨(B 3 4 0 32 (by decide) (by decide) lo32 rfl rfl (by decide)).1, (B 3 4 0 32 (by decide) (by decide) lo32 rfl rfl (by decide)).2, (B 3 6 1 62 (by decide) (by decide) lo62 rfl rfl (by decide)).1, (B 3 6 1 62 (by decide) (by decide) lo62 rfl rfl (by decide)).2, fun p x m hP hc => cNum (c := 61) hP (by decide) (by decide) lo61 rfl rfl hj hc (by decide), fun m h => flt_beh h, rfl⟩
  · exact ⟨(B 4 6 0 32 (by decide) (by decide) lo32 rfl rfl (by decide)).1, (B 4 6 0 32 (by decide) (by decide) lo32 rfl rfl (by decide)).2, (B 4 8 1 62 (by decide) (by decide) lo62 rfl rfl (by decide)).1, (B 4 8 1 62 (by decide) (by decide) lo62 rfl rfl (by decide)).2, rfl⟩
  · exact ⟨(B 5 6 0 32 (by decide) (by decide) lo32 rfl rfl (by decide)).1, (B 5 6 0 32 (by decide) (by decide) lo32 rfl rfl (by decide)).2, rfl⟩
  · exact ⟨fun p x m hP hc => cWind hP (by decide) (by decide) rfl rfl hj hc (by decide), fun m h => flt_wnd h, rfl⟩
  · exact ⟨(B 7 4 0 32 (by decide) (by decide) lo32 rfl rfl (by decide)).1, (B 7 4 0 32 (by decide) (by decide) lo32 rfl rfl (by decide)).2, rfl⟩
  · exact rfl
theorem wd_ok (q : Nat) (hq : q < 9) : (Wd q).length ≤ formLen.getD q 0 ∧ 4 ≤ (Wd q).length ∧ (Rq q).length = ar q ∧ wid (Rq q) ≤ 6 ∧ (Wd q).length ≤ 6 := by
  rcases (show q = 0 ∨ q = 1 ∨ q = 2 ∨ q = 3 ∨ q = 4 ∨ q = 5 ∨ q = 6 ∨ q = 7 ∨ q = 8 by omega) with rfl | rfl | rfl | rfl | rfl | rfl | rfl | rfl | rfl <;> exact ⟨by decide, by decide, rfl, by simp [Rq, wid], by decide⟩
theorem wd_lit : ∀ q : Fin 9, ∀ c ∈ Wd q.val, litOK c := by unfold litOK; decide
theorem wd_chr (q i : Nat) (hq : q < 9) (hi : i < 6) (c : Nat) : (Wd q)[i]? = some c → chAt q i = nI c := by
  rcases (show q = 0 ∨ q = 1 ∨ q = 2 ∨ q = 3 ∨ q = 4 ∨ q = 5 ∨ q = 6 ∨ q = 7 ∨ q = 8 by omega) with rfl | rfl | rfl | rfl | rfl | rfl | rfl | rfl | rfl <;> rcases (show i = 0 ∨ i = 1 ∨ i = 2 ∨ i = 3 ∨ i = 4 ∨ i = 5 by omega) with rfl | rfl | rfl | rfl | rfl | rfl <;> intro h <;> simp [Wd] at h <;> subst h <;> rfl
/-- the form of a kind and the reference's reading of it -/
theorem form_ok {l p j q : Nat} {T : Nat → Int32} {x : Mem} {z : Nat → Nat → Int32} (hj : j < 12) (hq : q < 9) (hP : PJ l T p x z) (hc : x 12 (j + 7) 2 = nI 0) (hk : x 12 (j + 7) 0 = nI q) :
    ∃ (b : Int32) (x' : Mem) (m' : Nat → Nat → Int32), D_X8_readForm x q j = some (b, x') ∧ (nf (Wd q) z).bind (fun o => chR ((Rq q).map Prod.fst) (4 * j + 1) (w3 o (4 * j) (chAt q 0))) = some m' ∧ XO j x x' ∧ M3 (4 * j) (ar q + 1) z m' ∧
      ((b = 1 ∧ (∃ p', p + 4 ≤ p' ∧ PJ l T p' x' m') ∧ ORD j x' m') ∨ (b = 0 ∧ ∃ g, FL l g x' m')) := by
  obtain ⟨w1, w2, w3', w4, w5⟩ := wd_ok q hq
  have hl := hP.1
  have hpd := pds_q (l := l) (T := T) (xx := x) hj hq
  have hf0 : D_X8_readForm x q j = L_X8_readForm_2 (200 - (Wd q).length + (Wd q).length) x q j (nI 0) x := by
    rw [Nat.sub_add_cancel (by omega)]; rfl
  rcases lits (xx := x) (j := j) hq (Wd q) 0 p x z (wd_lit ⟨q, hq⟩) (fun i c hi => by
      have hlt : i < (Wd q).length := (List.getElem?_eq_some_iff.mp hi).1
      rw [Nat.zero_add]
      exact wd_chr q i hq (by omega) c hi) (by omega) hP with ⟨x1, m1, a1, a2, a3, a4, a5⟩ | ⟨x1, m1, g, a1, a2, a3, a4, a5⟩
  · have hc1 : x1 12 (j + 7) 2 = nI 0 := by rw [a4.2.1 _ (by omega)]; exact hc
    obtain ⟨x', m', b, b1, b2, b3, b4, b5⟩ := chain (xx := x) hl hq hj (Rq q) (Wd q).length 0 (4 * j + 1) (p + (Wd q).length) x1 (w3 m1 (4 * j) (chAt q 0)) hpd (a3.put _ _) hc1
    refine ⟨b, x', m', ?_, ?_, (a4.xo j).trans b3, ?_, ?_⟩
    · rw [hf0, a1, Nat.zero_add]
      have := b1 (199 - (Wd q).length - wid (Rq q))
      rw [show 199 - (Wd q).length - wid (Rq q) + 1 + wid (Rq q) = 200 - (Wd q).length by omega] at this
      exact this
    · rw [a2]; exact b2
    · rw [← w3']; exact M3.step a5 b4
    · rcases b5 with ⟨c1, c0, ⟨p', c2, c3⟩, c4, c5⟩ | ⟨c1, c2⟩
      · refine Or.inl ⟨c1, ⟨p', by omega, c3⟩, q, hq, by rw [c0, a4.2.1 _ (by omega)]; exact hk, ?_, fun s hs => ?_⟩
        · rw [b4.2.2 _ (by omega)]
          unfold w3
          rw [va_up_self, upd_self]
        · have := c5 s (by rw [w3']; exact hs)
          rw [Nat.zero_add] at this
          exact this
      · exact Or.inr ⟨c1, c2⟩
  · obtain ⟨m', b1, b2, b3⟩ := chR_flt (Rq q) (Wd q).length 0 (4 * j + 1) (w3 m1 (4 * j) (chAt q 0)) hpd (by rw [w3_ne _ _ _ (by omega), a3.2.2]; exact nI_nn g (by have := a3.1; omega))
    refine ⟨0, x1, m', ?_, ?_, a4.xo j, ?_, Or.inr ⟨rfl, g, a3.1, a3.2.1, ?_⟩⟩
    · rw [hf0, a1]
    · rw [a2]; exact b1
    · rw [← w3']; exact M3.step a5 b3
    · rw [b2, w3_ne _ _ _ (by omega)]; exact a3.2.2
