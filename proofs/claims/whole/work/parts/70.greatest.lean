/-! the greatest clouds -/
theorem sub9 : ∀ s t : Fin 10, ((0 : Int32) < nI s.val - nI t.val ↔ t.val < s.val) ∧ (nI s.val - nI t.val = 0 ↔ s.val = t.val) := by decide
theorem sub9' {s t : Nat} (hs : s ≤ 9) (ht : t ≤ 9) : ((0 : Int32) < nI s - nI t ↔ t < s) ∧ (nI s - nI t = 0 ↔ s = t) := sub9 ⟨s, by omega⟩ ⟨t, by omega⟩
theorem cahead_all {o : Nat → Nat → Int32} {n : Nat} (hn : o 0 1 = nI n) (h6 : n ≤ 6) (hB : ∀ i, i < n → CB (o (i + 7))) {i : Nat} (hi : i < n) : D_X4_cloudsAheadOf o (nI i) = some (nI (cnt (fun j => kc (o (j + 7)) j) (kc (o (i + 7)) i) n)) := by
  rw [← sumTo_lt]
  refine loop_sumG (L := fun q j a => L_X4_cloudsAheadOf_4 q o (nI i) j a) some n _ (fun q j a hj => ?_) (fun q a => ?_) 200 (by omega)
  · simp only [L_X4_cloudsAheadOf_4, hn, nI_ge hj (show n < 2 ^ 31 by omega), cahead_eq hn h6 hB hi hj, Option.bind_some, ↓reduceIte, nI_succ]
    by_cases hk : kc (o (j + 7)) j < kc (o (i + 7)) i
    · simp only [if_pos hk, if_neg one_ne]
    · simp only [if_neg hk, ↓reduceIte, Int32.add_zero]
  · simp only [L_X4_cloudsAheadOf_4, hn, nI_le (Nat.le_refl n) (show n < 2 ^ 31 by omega), ↓reduceIte]
/-- a search that finds its first hit -/
theorem loop_find {S R : Type} {L : Nat → Int32 → S → Option R} (n : Nat) (Rel : S → Prop) (step : ∀ (q k : Nat) (s : S), k < n → Rel s → ∃ s', L (q + 1) (nI k) s = L q (nI (k + 1)) s' ∧ Rel s') (q : Nat) (s : S) (hq : n < q) (hR : Rel s) : ∃ (z : Nat) (s' : S), L q (nI 0) s = L (z + 1) (nI n) s' ∧ Rel s' := by
  obtain ⟨s', e, h⟩ := loop_up (L := L) n (fun _ s => Rel s) (fun q k s hk h => step q k s hk h) q s (by omega) hR
  exact ⟨q - n - 1, s', by rw [e]; congr 1; omega, h⟩
theorem cplace_eq {o : Nat → Nat → Int32} {n : Nat} (hn : o 0 1 = nI n) (h6 : n ≤ 6) (hB : ∀ i, i < n → CB (o (i + 7))) {p i : Nat} (hp : p < n) (hi : i < n) (e : cnt (fun j => kc (o (j + 7)) j) (kc (o (i + 7)) i) n = p) : D_X4_cloudAtPlace o (nI p) = some (nI i) := by
  obtain ⟨z, s', e1, -⟩ := loop_find (L := fun q j (_ : Unit) => L_X4_cloudAtPlace_2 q o (nI p) j) i (fun _ => True) (fun q j s hj _ => ⟨(), by
    have hne : ¬ nI (cnt (fun j => kc (o (j + 7)) j) (kc (o (j + 7)) j) n) = nI p := fun z => by
      have hc := cnt_le (fun j => kc (o (j + 7)) j) (kc (o (j + 7)) j) n
      have := nI_eqI (by omega) (by omega) z
      have := place_un (fun j => kc (o (j + 7)) j) (kc_inj (fun j => o (j + 7)) h6) (show j < n by omega) hi (by rw [e]; exact this)
      omega
    simp only [L_X4_cloudAtPlace_2, hn, nI_ge (show j < n by omega) (show n < 2 ^ 31 by omega), cahead_all hn h6 hB (show j < n by omega), Option.bind_some, if_neg hne, ↓reduceIte, nI_succ], trivial⟩) 200 () (by omega) trivial
  show L_X4_cloudAtPlace_2 200 o (nI p) (nI 0) = _
  refine Eq.trans e1 ?_
  simp only [L_X4_cloudAtPlace_2, hn, nI_ge hi (show n < 2 ^ 31 by omega), cahead_all hn h6 hB hi, Option.bind_some, e, ↓reduceIte]
theorem mgreat {m s : Nat → Nat → Int32} {n : Nat} {cs : Nat → Nat → Int32} (p1 : Int32) (hs : s 1 = m 1) (hn : m 1 0 = nI n) (h6 : n ≤ 6) (hc : ∀ i, i < n → CR (cs i) (mcl (m 1) i) ∧ CB (cs i)) {i : Nat} (hi : i < n) (kont : Int32 → Int32 → Option (Int32 × (Nat → Nat → Int32))) :
    L_X10_greatest_17 200 m p1 (nI i) s 0 0 kont = kont (nI n) (nI (cnt (fun j => kc (cs j) j) (kc (cs i) i) n)) := by
  rw [← sumTo_lt]
  have hz : s 1 0 = nI n := by rw [hs]; exact hn
  refine loop_sumG (L := fun q j a => L_X10_greatest_17 q m p1 (nI i) s j a kont) (fun a => kont (nI n) a) n _ (fun q j a hj => ?_) (fun q a => ?_) 200 (by omega)
  · obtain ⟨hrj, hbj⟩ := hc j hj
    obtain ⟨hri, hbi⟩ := hc i hi
    rw [← hs] at hrj hri
    obtain ⟨u, -, hu, eu⟩ := hbj.size
    obtain ⟨t, -, ht, et⟩ := hbi.size
    have key := kc_lt (c := cs j) (d := cs i) (show j < 6 by omega) (show i < 6 by omega) hu ht eu et
    have hle : nI i ≤ nI j ↔ i ≤ j := nI_leJ (by omega) (by omega)
    simp only [L_X10_greatest_17, ib0, cl0, hz, nI_ge hj (show n < 2 ^ 31 by omega), c2A hrj (show j < 100 by omega), c2A hri (show i < 100 by omega), oA hrj (show j < 100 by omega), oA hri (show i < 100 by omega), eu, et, pos_m1 hbj.2.2.2.1, pos_m1 hbi.2.2.2.1, (sub9' hu ht).1, (sub9' hu ht).2, hle, Option.bind_some, ↓reduceIte, nI_succ]
    clear hrj hri hbj hbi
    have hz0 : a + 0 = a := Int32.add_zero a
    by_cases hk : kc (cs j) j < kc (cs i) i
    · rw [if_pos hk]
      have hk := key.mp hk
      clear key
      grind only
    · rw [if_neg hk]
      have hk : ¬ _ := fun z => hk (key.mpr z)
      clear key
      grind only
  · simp only [L_X10_greatest_17, ib0, cl0, hz, nI_le (Nat.le_refl n) (show n < 2 ^ 31 by omega), ↓reduceIte]
theorem g_greatest : Good_greatest Inv := by
  intro k x m hk hI p1
  unfold OK_greatest D_X9_greatest D_X10_greatest
  obtain ⟨⟨⟨n, d, hR⟩, hF⟩, -⟩ := id hI
  have h6 := hR.1
  have hn := hR.2.2.1
  have hm := hR.2.2.2.1
  have h9 := hR.2.2.2.2.2.2.2.2.1
  have hB : ∀ i, i < n → CB (x 0 (i + 7)) := fun i hi => (h9 i hi).2
  have rel : ∀ s, (s = m ∨ s = va_up m 0 (upd (m 0) 0 1)) → s 1 = m 1 ∧ va_up s 0 (upd (s 0) 0 1) = va_up m 0 (upd (m 0) 0 1) ∧ va_up s 0 (upd (s 0) 0 0) = va_up m 0 (upd (m 0) 0 0) := fun s hs => by
    rcases hs with rfl | rfl
    · exact ⟨rfl, rfl, rfl⟩
    · refine ⟨rfl, ?_, ?_⟩
      · rw [va_up_up, va_up_self, upd_upd]
      · rw [va_up_up, va_up_self, upd_upd]
  have outer : ∀ (N : Nat), N ≤ n → (∀ i, i < N → ¬ nI (cnt (fun j => kc (x 0 (j + 7)) j) (kc (x 0 (i + 7)) i) n) = p1) → ∃ (z : Nat) (s : Nat → Nat → Int32), L_X10_greatest_2 200 m p1 0 m = L_X10_greatest_2 (z + 1) m p1 (nI N) s ∧ (s = m ∨ s = va_up m 0 (upd (m 0) 0 1)) := fun N hN hno =>
    loop_find (L := fun q j s => L_X10_greatest_2 q m p1 j s) N (fun s => s = m ∨ s = va_up m 0 (upd (m 0) 0 1)) (fun q i s hi hs => by
      obtain ⟨r1, r2, r3⟩ := rel s hs
      refine ⟨va_up m 0 (upd (m 0) 0 1), ?_, Or.inr rfl⟩
      have hz : s 1 0 = nI n := by rw [r1]; exact hm
      simp only [L_X10_greatest_2, ib0, cl0, hz, nI_ge (show i < n by omega) (show n < 2 ^ 31 by omega), mgreat p1 r1 hm h6 h9 (show i < n by omega), if_neg (hno i hi), it0, r2, ↓reduceIte, nI_succ]) 200 m (by omega) (Or.inl rfl)
  rw [hn]
  rcases wi_cases p1 (n := n) (by omega) with ⟨e1, e2⟩ | ⟨e1, p, hp, rfl⟩
  · rw [if_pos e1]
    obtain ⟨z, s, es, hs⟩ := outer n (Nat.le_refl n) (fun i hi h => by
      have hc := cnt_top (fun j => kc (x 0 (j + 7)) j) hi
      rw [← h, nI_toInt (by omega)] at e2
      omega)
    obtain ⟨r1, r2, r3⟩ := rel s hs
    have hz : s 1 0 = nI n := by rw [r1]; exact hm
    refine ⟨1, 0, 0, va_up m 0 (upd (m 0) 0 1), Or.inr rfl, rfl, ?_, th _ _, fun z => absurd z one_ne, rd hI 1⟩
    rw [es]
    simp only [L_X10_greatest_2, ib0, cl0, hz, nI_le (Nat.le_refl n) (show n < 2 ^ 31 by omega), r2, ↓reduceIte]
  · rw [e1, if_neg one_ne]
    obtain ⟨i, hi, hi2⟩ := place_ex (fun j => kc (x 0 (j + 7)) j) (kc_inj (fun j => x 0 (j + 7)) h6) hp
    rw [cplace_eq hn h6 hB hp hi hi2]
    obtain ⟨z, s, es, hs⟩ := outer i (by omega) (fun j hj h => by
      have hc := cnt_le (fun j => kc (x 0 (j + 7)) j) (kc (x 0 (j + 7)) j) n
      have := nI_eqI (by omega) (by omega) h
      have := place_un (fun j => kc (x 0 (j + 7)) j) (kc_inj (fun j => x 0 (j + 7)) h6) (show j < n by omega) hi (by rw [this]; exact hi2.symm)
      omega)
    obtain ⟨r1, r2, r3⟩ := rel s hs
    have hz : s 1 0 = nI n := by rw [r1]; exact hm
    refine ⟨0, nI i, nI i, va_up m 0 (upd (m 0) 0 0), Or.inl rfl, rfl, ?_, th _ _, fun _ => rfl, rd hI 0⟩
    rw [es]
    simp only [L_X10_greatest_2, ib0, cl0, hz, nI_ge hi (show n < 2 ^ 31 by omega), mgreat (nI p) r1 hm h6 h9 hi, hi2, it1, r3, ↓reduceIte]
