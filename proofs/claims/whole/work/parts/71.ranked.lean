/-! the owners in their order -/
theorem subN {a b : Nat} (ha : a < 2 ^ 30) (hb : b < 2 ^ 30) : ((0 : Int32) < nI a - nI b ↔ b < a) ∧ (nI a - nI b = 0 ↔ a = b) ∧ (nI a - nI b ≤ 0 ↔ a ≤ b) := by
  have e : (nI a - nI b).toInt = (a : Int) - b := pk_sub_toInt (a := a) (b := b) (by omega) (by omega)
  refine ⟨?_, ⟨fun h => ?_, fun h => ?_⟩, ?_⟩
  · rw [lt_toInt, toInt_0, e]; omega
  · have : (nI a - nI b).toInt = 0 := by rw [h, toInt_0]
    rw [e] at this; omega
  · refine of_toInt ?_
    rw [e, toInt_0]; omega
  · rw [le_toInt, toInt_0, e]; omega
def kr (c f i : Nat) : Nat := ((6 - c) * 2 ^ 20 + (2 ^ 20 - 1 - f)) * 4 + i
theorem kr_lt {c d f g i j : Nat} (hc : c ≤ 6) (hd : d ≤ 6) (hf : f < 2 ^ 20) (hg : g < 2 ^ 20) (hi : i < 4) (hj : j < 4) : kr c f i < kr d g j ↔ (d < c ∨ (d = c ∧ (g < f ∨ (g = f ∧ i < j)))) := by
  unfold kr; omega
theorem kr_inj (C F : Nat → Nat) : ∀ i, i < 4 → ∀ j, j < 4 → kr (C i) (F i) i = kr (C j) (F j) j → i = j := by
  intro i hi j hj e
  unfold kr at e
  omega
section RK
variable {o : Nat → Nat → Int32} {n : Nat} {C F K : Nat → Nat}
theorem oahead_eq (hn : o 0 1 = nI n) (h6 : n ≤ 6) (hC : ∀ j, j < 4 → sumTo (fun i => if o (i + 7) 3 = nI j then 1 else 0) n = nI (C j) ∧ C j ≤ 6) (hF : ∀ j, j < 4 → o 3 j = nI (F j) ∧ F j < 2 ^ 20) (hK : ∀ i, i < 4 → ∀ j, j < 4 → (K j < K i ↔ (C i < C j ∨ (C i = C j ∧ (F i < F j ∨ (F i = F j ∧ j < i)))))) {i j : Nat} (hi : i < 4) (hj : j < 4) : D_X4_isOwnerAhead o (nI j) (nI i) = some (if K j < K i then 1 else 0) := by
  unfold D_X4_isOwnerAhead
  rw [cc_eq hn h6, cc_eq hn h6, (hC j hj).1, (hC i hi).1, pu_eq o hj, pu_eq o hi, (hF j hj).1, (hF i hi).1]
  have hCj := (hC j hj).2
  have hCi := (hC i hi).2
  have hFj := (hF j hj).2
  have hFi := (hF i hi).2
  have s1 := subN (a := C j) (b := C i) (by omega) (by omega)
  have key := hK i hi j hj
  simp only [Option.bind_some, s1.2.1, s1.2.2, nI_leJ (show i < 2 ^ 31 by omega) (show j < 2 ^ 31 by omega), nI_leJ (show F j < 2 ^ 31 by omega) (show F i < 2 ^ 31 by omega), nI_eq (show F j < 2 ^ 31 by omega) (show F i < 2 ^ 31 by omega)]
  by_cases hk : K j < K i
  · rw [if_pos hk]
    have hk := key.mp hk
    clear key
    grind only
  · rw [if_neg hk]
    have hk : ¬ _ := fun z => hk (key.mpr z)
    clear key
    grind only
theorem oahead_all (hn : o 0 1 = nI n) (h6 : n ≤ 6) (hC : ∀ j, j < 4 → sumTo (fun i => if o (i + 7) 3 = nI j then 1 else 0) n = nI (C j) ∧ C j ≤ 6) (hF : ∀ j, j < 4 → o 3 j = nI (F j) ∧ F j < 2 ^ 20) (hK : ∀ i, i < 4 → ∀ j, j < 4 → (K j < K i ↔ (C i < C j ∨ (C i = C j ∧ (F i < F j ∨ (F i = F j ∧ j < i)))))) {i : Nat} (hi : i < 4) : D_X4_ownersAheadOf o (nI i) = some (nI (cnt K (K i) 4)) := by
  rw [← sumTo_lt]
  refine loop_sumG (L := fun q j a => L_X4_ownersAheadOf_4 q o (nI i) j a) some 4 _ (fun q j a hj => ?_) (fun q a => ?_) 200 (by omega)
  · simp only [L_X4_ownersAheadOf_4, show ¬ (4 : Int32) ≤ nI j from nI_ge hj (by decide), oahead_eq hn h6 hC hF hK hi hj, Option.bind_some, ↓reduceIte, nI_succ]
    by_cases hk : K j < K i
    · simp only [if_pos hk, if_neg one_ne]
    · simp only [if_neg hk, ↓reduceIte, Int32.add_zero]
  · simp only [L_X4_ownersAheadOf_4, show (4 : Int32) ≤ nI 4 by decide, ↓reduceIte]
theorem oplace_eq (hinj : ∀ i, i < 4 → ∀ j, j < 4 → K i = K j → i = j) (hn : o 0 1 = nI n) (h6 : n ≤ 6) (hC : ∀ j, j < 4 → sumTo (fun i => if o (i + 7) 3 = nI j then 1 else 0) n = nI (C j) ∧ C j ≤ 6) (hF : ∀ j, j < 4 → o 3 j = nI (F j) ∧ F j < 2 ^ 20) (hK : ∀ i, i < 4 → ∀ j, j < 4 → (K j < K i ↔ (C i < C j ∨ (C i = C j ∧ (F i < F j ∨ (F i = F j ∧ j < i)))))) {p i : Nat} (hp : p < 4) (hi : i < 4) (e : cnt K (K i) 4 = p) : D_X4_ownerAtPlace o (nI p) = some (nI i) := by
  obtain ⟨z, s', e1, -⟩ := loop_find (L := fun q j (_ : Unit) => L_X4_ownerAtPlace_2 q o (nI p) j) i (fun _ => True) (fun q j s hj _ => ⟨(), by
    have hne : ¬ nI (cnt K (K j) 4) = nI p := fun z => by
      have hc := cnt_le K (K j) 4
      have := nI_eqI (by omega) (by omega) z
      have := place_un K hinj (show j < 4 by omega) hi (by rw [e]; exact this)
      omega
    simp only [L_X4_ownerAtPlace_2, show ¬ (4 : Int32) ≤ nI j from nI_ge (show j < 4 by omega) (by decide), oahead_all hn h6 hC hF hK (show j < 4 by omega), Option.bind_some, if_neg hne, ↓reduceIte, nI_succ], trivial⟩) 200 () (by omega) trivial
  show L_X4_ownerAtPlace_2 200 o (nI p) (nI 0) = _
  refine Eq.trans e1 ?_
  simp only [L_X4_ownerAtPlace_2, show ¬ (4 : Int32) ≤ nI i from nI_ge hi (by decide), oahead_all hn h6 hC hF hK hi, Option.bind_some, e, ↓reduceIte]
theorem mranked {m s : Nat → Nat → Int32} (p1 : Int32) (hs : s 1 = m 1) (hO : ∀ j, j < 4 → D_X10_ofOwner s (nI j) 5 = some (nI (C j)) ∧ C j ≤ 6) (hF : ∀ j, j < 4 → s 1 (9 + j) = nI (F j) ∧ F j < 2 ^ 20) (hK : ∀ i, i < 4 → ∀ j, j < 4 → (K j < K i ↔ (C i < C j ∨ (C i = C j ∧ (F i < F j ∨ (F i = F j ∧ j < i)))))) {i : Nat} (hi : i < 4) (kont : Int32 → Int32 → Option (Int32 × (Nat → Nat → Int32))) :
    L_X10_ranked_12 200 m p1 (nI i) s 0 0 kont = kont (nI 4) (nI (cnt K (K i) 4)) := by
  rw [← sumTo_lt]
  refine loop_sumG (L := fun q j a => L_X10_ranked_12 q m p1 (nI i) s j a kont) (fun a => kont (nI 4) a) 4 _ (fun q j a hj => ?_) (fun q a => ?_) 200 (by omega)
  · have hCj := (hO j hj).2
    have hCi := (hO i hi).2
    have hFj := (hF j hj).2
    have hFi := (hF i hi).2
    have key := hK i hi j hj
    have s1 := subN (a := C j) (b := C i) (by omega) (by omega)
    have s2 := subN (a := F j) (b := F i) (by omega) (by omega)
    have hle : nI i ≤ nI j ↔ i ≤ j := nI_leJ (by omega) (by omega)
    simp only [L_X10_ranked_12, show ¬ (4 : Int32) ≤ nI j from nI_ge hj (by decide), (hO j hj).1, (hO i hi).1, co_eq s hj, co_eq s hi, (hF j hj).1, (hF i hi).1, s1.1, s1.2.1, s2.1, s2.2.1, hle, Option.bind_some, ↓reduceIte, nI_succ]
    have hz0 : a + 0 = a := Int32.add_zero a
    clear s1 s2 hO hF
    by_cases hk : K j < K i
    · rw [if_pos hk]
      have hk := key.mp hk
      clear key
      grind only
    · rw [if_neg hk]
      have hk : ¬ _ := fun z => hk (key.mpr z)
      clear key
      grind only
  · simp only [L_X10_ranked_12, show (4 : Int32) ≤ nI 4 by decide, ↓reduceIte]
end RK
theorem g_ranked : Good_ranked Inv := by
  intro k x m hk hI p1
  unfold OK_ranked D_X9_ranked D_X10_ranked
  obtain ⟨⟨⟨n, d, hR⟩, ⟨F, f1, f2⟩⟩, -⟩ := id hI
  have h6 := hR.1
  have hn := hR.2.2.1
  have hm := hR.2.2.2.1
  have g7 := hR.2.2.2.2.2.2.1
  have h9 := hR.2.2.2.2.2.2.2.2.1
  have hSB := SB_lt (k := k) (by omega)
  have hF : ∀ j, j < 4 → x 0 3 j = nI (F j) ∧ F j < 2 ^ 20 := fun j hj => ⟨f1 j hj, by
    rcases (show j = 0 ∨ j = 1 ∨ j = 2 ∨ j = 3 by omega) with rfl | rfl | rfl | rfl <;> omega⟩
  obtain ⟨C, hC0⟩ : ∃ C : Nat → Nat, ∀ j, sumTo (fun i => if x 0 (i + 7) 3 = nI j then 1 else 0) n = nI (C j) ∧ C j ≤ 6 := by
    have hex : ∀ j : Nat, ∃ c : Nat, sumTo (fun i => if x 0 (i + 7) 3 = nI j then 1 else 0) n = nI c ∧ c ≤ 6 := fun j => ?_
    · exact Classical.axiomOfChoice hex
    obtain ⟨c, hc, e⟩ := sumTo_cnt (f := fun i => if x 0 (i + 7) 3 = nI j then 1 else 0) (n := n) (fun i _ => by split <;> simp)
    exact ⟨c, e, by omega⟩
  have hC : ∀ j, j < 4 → sumTo (fun i => if x 0 (i + 7) 3 = nI j then 1 else 0) n = nI (C j) ∧ C j ≤ 6 := fun j _ => hC0 j
  obtain ⟨K, hK, hinj⟩ : ∃ K : Nat → Nat, (∀ i, i < 4 → ∀ j, j < 4 → (K j < K i ↔ (C i < C j ∨ (C i = C j ∧ (F i < F j ∨ (F i = F j ∧ j < i)))))) ∧ ∀ i, i < 4 → ∀ j, j < 4 → K i = K j → i = j := ⟨fun j => kr (C j) (F j) j, fun i hi j hj => kr_lt (hC j hj).2 (hC i hi).2 (hF j hj).2 (hF i hi).2 hj hi, kr_inj C F⟩
  have rel : ∀ s, (s = m ∨ s = va_up m 0 (upd (m 0) 0 1)) → s 1 = m 1 ∧ va_up s 0 (upd (s 0) 0 1) = va_up m 0 (upd (m 0) 0 1) ∧ va_up s 0 (upd (s 0) 0 0) = va_up m 0 (upd (m 0) 0 0) := fun s hs => by
    rcases hs with rfl | rfl
    · exact ⟨rfl, rfl, rfl⟩
    · refine ⟨rfl, ?_, ?_⟩
      · rw [va_up_up, va_up_self, upd_upd]
      · rw [va_up_up, va_up_self, upd_upd]
  have hO : ∀ s : Nat → Nat → Int32, s 1 = m 1 → ∀ j, j < 4 → D_X10_ofOwner s (nI j) 5 = some (nI (C j)) ∧ C j ≤ 6 := fun s hs j hj => by
    refine ⟨?_, (hC j hj).2⟩
    rw [oo_eq (m := s) (cs := fun i => x 0 (i + 7)) (by rw [hs]; exact hm) h6 (by rw [hs]; exact h9), ← (hC j hj).1]
    rfl
  have hFs : ∀ s : Nat → Nat → Int32, s 1 = m 1 → ∀ j, j < 4 → s 1 (9 + j) = nI (F j) ∧ F j < 2 ^ 20 := fun s hs j hj => ⟨by rw [hs, ← g7 j hj]; exact (hF j hj).1, (hF j hj).2⟩
  have outer : ∀ (N : Nat), N ≤ 4 → (∀ i, i < N → ¬ nI (cnt K (K i) 4) = p1) → ∃ (z : Nat) (s : Nat → Nat → Int32), L_X10_ranked_2 200 m p1 0 m = L_X10_ranked_2 (z + 1) m p1 (nI N) s ∧ (s = m ∨ s = va_up m 0 (upd (m 0) 0 1)) := fun N hN hno =>
    loop_find (L := fun q j s => L_X10_ranked_2 q m p1 j s) N (fun s => s = m ∨ s = va_up m 0 (upd (m 0) 0 1)) (fun q i s hi hs => by
      obtain ⟨r1, r2, r3⟩ := rel s hs
      refine ⟨va_up m 0 (upd (m 0) 0 1), ?_, Or.inr rfl⟩
      simp only [L_X10_ranked_2, show ¬ (4 : Int32) ≤ nI i from nI_ge (show i < 4 by omega) (by decide), mranked p1 r1 (hO s r1) (hFs s r1) hK (show i < 4 by omega), if_neg (hno i hi), it0, r2, ↓reduceIte, nI_succ]) 200 m (by omega) (Or.inl rfl)
  rcases wi_cases p1 (n := 4) (by omega) with ⟨e1, e2⟩ | ⟨e1, p, hp, rfl⟩
  · rw [show D_X9_isWithin p1 4 = 0 from e1, if_pos rfl]
    obtain ⟨z, s, es, hs⟩ := outer 4 (Nat.le_refl 4) (fun i hi h => by
      have hc := cnt_top K hi
      rw [← h, nI_toInt (by omega)] at e2
      omega)
    obtain ⟨r1, r2, r3⟩ := rel s hs
    refine ⟨1, 0, 0, va_up m 0 (upd (m 0) 0 1), Or.inr rfl, rfl, ?_, th _ _, fun z => absurd z one_ne, rd hI 1⟩
    rw [es]
    simp only [L_X10_ranked_2, show (4 : Int32) ≤ nI 4 by decide, r2, ↓reduceIte]
  · rw [show D_X9_isWithin (nI p) 4 = 1 from e1, if_neg one_ne]
    obtain ⟨i, hi, hi2⟩ := place_ex K hinj hp
    rw [oplace_eq hinj hn h6 hC hF hK hp hi hi2]
    obtain ⟨z, s, es, hs⟩ := outer i (by omega) (fun j hj h => by
      have hc := cnt_le K (K j) 4
      have := nI_eqI (by omega) (by omega) h
      have := place_un K hinj (show j < 4 by omega) hi (by rw [this]; exact hi2.symm)
      omega)
    obtain ⟨r1, r2, r3⟩ := rel s hs
    refine ⟨0, nI i, nI i, va_up m 0 (upd (m 0) 0 0), Or.inl rfl, rfl, ?_, th _ _, fun _ => rfl, rd hI 0⟩
    rw [es]
    simp only [L_X10_ranked_2, show ¬ (4 : Int32) ≤ nI i from nI_ge hi (by decide), mranked (nI p) r1 (hO s r1) (hFs s r1) hK hi, hi2, it1, r3, ↓reduceIte]
