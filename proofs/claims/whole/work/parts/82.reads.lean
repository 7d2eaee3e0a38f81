/-! the reference's order, told as a chain -/
theorem nf_c (c : Nat) (cs : List Nat) : nf (c :: cs) = fun m => (D_X10_needs m (nI c)).bind (nf cs) := rfl
theorem nf_n : nf [] = some := rfl
theorem word_q {q : Nat} (hq : q < 9) (m : Nat → Nat → Int32) : D_X10_word m (chAt q 0) = nf (Wd q).tail m := by
  rcases (show q = 0 ∨ q = 1 ∨ q = 2 ∨ q = 3 ∨ q = 4 ∨ q = 5 ∨ q = 6 ∨ q = 7 ∨ q = 8 by omega) with rfl | rfl | rfl | rfl | rfl | rfl | rfl | rfl | rfl
  · show D_X10_word m 99 = nf [108, 111, 117, 100] m
    simp [D_X10_word, D_X10_signs, nf_c, nf_n, Option.bind_assoc, show nI 108 = 108 from rfl, show nI 111 = 111 from rfl, show nI 117 = 117 from rfl, show nI 100 = 100 from rfl]
  · show D_X10_word m 118 = nf [105, 110, 101] m
    simp [D_X10_word, D_X10_signs, nf_c, nf_n, Option.bind_assoc, show nI 105 = 105 from rfl, show nI 110 = 110 from rfl, show nI 101 = 101 from rfl]
  · show D_X10_word m 116 = nf [105, 116, 108, 101] m
    simp [D_X10_word, D_X10_signs, nf_c, nf_n, Option.bind_assoc, show nI 105 = 105 from rfl, show nI 116 = 116 from rfl, show nI 108 = 108 from rfl, show nI 101 = 101 from rfl]
  · show D_X10_word m 115 = nf [101, 108, 108] m
    simp [D_X10_word, D_X10_signs, nf_c, nf_n, Option.bind_assoc, show nI 101 = 101 from rfl, show nI 108 = 108 from rfl]
  · show D_X10_word m 112 = nf [108, 101, 100, 103, 101] m
    simp [D_X10_word, D_X10_signs, nf_c, nf_n, Option.bind_assoc, show nI 108 = 108 from rfl, show nI 101 = 101 from rfl, show nI 100 = 100 from rfl, show nI 103 = 103 from rfl]
  · show D_X10_word m 114 = nf [101, 100, 101, 101, 109] m
    simp [D_X10_word, D_X10_signs, nf_c, nf_n, Option.bind_assoc, show nI 101 = 101 from rfl, show nI 100 = 100 from rfl, show nI 109 = 109 from rfl]
  · show D_X10_word m 119 = nf [105, 110, 100] m
    simp [D_X10_word, D_X10_signs, nf_c, nf_n, Option.bind_assoc, show nI 105 = 105 from rfl, show nI 110 = 110 from rfl, show nI 100 = 100 from rfl]
  · show D_X10_word m 104 = nf [97, 105, 108] m
    simp [D_X10_word, D_X10_signs, nf_c, nf_n, Option.bind_assoc, show nI 97 = 97 from rfl, show nI 105 = 105 from rfl, show nI 108 = 108 from rfl]
  · show D_X10_word m 100 = nf [97, 119, 110] m
    simp [D_X10_word, D_X10_signs, nf_c, nf_n, Option.bind_assoc, show nI 97 = 97 from rfl, show nI 119 = 119 from rfl, show nI 110 = 110 from rfl]
theorem wd_cons {q : Nat} (hq : q < 9) : ∃ c, Wd q = c :: (Wd q).tail ∧ chAt q 0 = nI c := by
  rcases (show q = 0 ∨ q = 1 ∨ q = 2 ∨ q = 3 ∨ q = 4 ∨ q = 5 ∨ q = 6 ∨ q = 7 ∨ q = 8 by omega) with rfl | rfl | rfl | rfl | rfl | rfl | rfl | rfl | rfl <;> exact ⟨_, rfl, rfl⟩
theorem isw_q {q : Nat} (hq : q < 9) : ¬ D_X10_isWord (chAt q 0) = 0 := by
  rcases (show q = 0 ∨ q = 1 ∨ q = 2 ∨ q = 3 ∨ q = 4 ∨ q = 5 ∨ q = 6 ∨ q = 7 ∨ q = 8 by omega) with rfl | rfl | rfl | rfl | rfl | rfl | rfl | rfl | rfl <;> decide
theorem isw_no {r : Int32} (h : ∀ q, q < 9 → ¬ chAt q 0 = r) : D_X10_isWord r = 0 := by
  unfold D_X10_isWord
  rw [if_neg (fun z => h 0 (by omega) z.symm), if_neg (fun z => h 1 (by omega) z.symm), if_neg (fun z => h 2 (by omega) z.symm), if_neg (fun z => h 3 (by omega) z.symm), if_neg (fun z => h 4 (by omega) z.symm), if_neg (fun z => h 5 (by omega) z.symm), if_neg (fun z => h 6 (by omega) z.symm), if_neg (fun z => h 7 (by omega) z.symm), if_neg (fun z => h 8 (by omega) z.symm)]
theorem i4 {j t : Nat} (hj : j < 13) (ht : t < 4) : inb (nI (4 * j + t)) 244 = true ∧ (nI (4 * j + t)).toNatClampNeg = 4 * j + t := ⟨inb_nI (by omega) (by decide), nI_clamp (by omega)⟩
theorem tail_q {l p j q f : Nat} {T : Nat → Int32} {x : Mem} {m z : Nat → Nat → Int32} (hj : j < 12) (hq : q < 9) (hP : PJ l T p x z) (hs : sg l T p = chAt q 0) (h15 : m 0 15 = nI j) :
    L_X10_order_24 (f + 1) m (chAt q 0) 4 z = (nf (Wd q) z).bind (fun o => chR ((Rq q).map Prod.fst) (4 * j + 1) (w3 o (4 * j) (chAt q 0))) := by
  have e0 : (4 : Int32) * nI j = nI (4 * j) := by rw [show (4 : Int32) = nI 4 from rfl, pk_mul]
  have e1 : nI (4 * j) + 1 = nI (4 * j + 1) := (nI_succ _).symm
  have e2 : nI (4 * j) + 2 = nI (4 * j + 2) := by rw [show (2 : Int32) = nI 2 from rfl, nI_add]
  have e3 : nI (4 * j) + 3 = nI (4 * j + 3) := by rw [show (3 : Int32) = nI 3 from rfl, nI_add]
  have b0 : inb (nI (4 * j)) 244 = true := (i4 (t := 0) (by omega) (by omega)).1
  have b1 := (i4 (j := j) (t := 1) (by omega) (by omega)).1
  have b2 := (i4 (j := j) (t := 2) (by omega) (by omega)).1
  have b3 := (i4 (j := j) (t := 3) (by omega) (by omega)).1
  have c0 : (nI (4 * j)).toNatClampNeg = 4 * j := nI_clamp (by omega)
  have c1 : (nI (4 * j + 1)).toNatClampNeg = 4 * j + 1 := nI_clamp (by omega)
  have c2 : (nI (4 * j + 2)).toNatClampNeg = 4 * j + 2 := nI_clamp (by omega)
  have c3 : (nI (4 * j + 3)).toNatClampNeg = 4 * j + 3 := nI_clamp (by omega)
  have emadv : va_up z 0 (upd (z 0) 11 (z 0 11 + 1)) = madv z p := by rw [hP.2.2.2.2.2.1, ← nI_succ]; rfl
  obtain ⟨c, hc1, hc2⟩ := wd_cons hq
  have hnf : nf (Wd q) z = nf (Wd q).tail (madv z p) := by
    rw [hc1, nf_c]
    show (D_X10_needs z (nI c)).bind _ = _
    rw [msn hP, if_pos (hs.trans hc2)]
    rfl
  rw [hnf, ← word_q hq]
  have hiw := isw_q hq
  rcases (show q = 0 ∨ q = 1 ∨ q = 2 ∨ q = 3 ∨ q = 4 ∨ q = 5 ∨ q = 6 ∨ q = 7 ∨ q = 8 by omega) with rfl | rfl | rfl | rfl | rfl | rfl | rfl | rfl | rfl
  all_goals
    simp only [L_X10_order_24, show (4 : Int32) ≤ 4 by decide, hiw, emadv, h15, e0, e1, e2, e3, b0, b1, b2, b3, c0, c1, c2, c3, ↓reduceIte]
    congr 1
