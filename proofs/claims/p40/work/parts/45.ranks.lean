/-! the orders of clouds and of owners -/
theorem choose_lt {n : Nat} {P : Nat → Nat → Prop} (h : ∀ p, p < n → ∃ i, P p i) : ∃ G : Nat → Nat, ∀ p, p < n → P p (G p) := by
  have h' : ∀ p, ∃ i, p < n → P p i := fun p => by
    by_cases hp : p < n
    · obtain ⟨i, hi⟩ := h p hp
      exact ⟨i, fun _ => hi⟩
    · exact ⟨0, fun z => absurd z hp⟩
  exact Classical.axiomOfChoice h'
def ti (c : Nat → Int32) : Int32 := if 0 ≤ c 3 then 1 else 0
theorem ti_1 {c : Nat → Int32} (h : CB c) (h3 : ¬ c 3 = -1) : ti c = 1 := by unfold ti; rw [if_pos ((pos_m1 h.2.2.2.1).mpr h3)]
theorem ti_0 {c : Nat → Int32} (h : CB c) (h3 : c 3 = -1) : ti c = 0 := by unfold ti; rw [if_neg (fun z => (pos_m1 h.2.2.2.1).mp z h3)]
/-- what the law asks of two clouds, one behind the other -/
def okC (c e : Nat → Int32) (i j : Nat) : Prop := ¬ c 2 - e 2 < 0 ∧ (c 2 - e 2 = 0 → ¬ ti c - ti e < 0 ∧ (ti c - ti e = 0 → nI i ≤ nI j))
theorem ge_sub {a b : Nat} (ha : a < 2 ^ 30) (hb : b < 2 ^ 30) : ¬ nI a - nI b < 0 ↔ b ≤ a := by
  have e : (nI a - nI b).toInt = (a : Int) - b := pk_sub_toInt (a := a) (b := b) (by omega) (by omega)
  rw [lt_toInt, e, toInt_0]; omega
theorem okC_of {c e : Nat → Int32} {i j : Nat} (hc : CB c) (he : CB e) (hi : i < 6) (hj : j < 6) (h : kc c i < kc e j) : okC c e i j := by
  obtain ⟨s, -, hs, es⟩ := hc.size
  obtain ⟨t, -, ht, et⟩ := he.size
  have h' := (kc_lt hi hj hs ht es et).mp h
  unfold okC
  rw [es, et]
  refine ⟨(ge_sub (by omega) (by omega)).mpr (by omega), fun hz => ?_⟩
  have hst := (sub9' hs ht).2.mp hz
  rcases h' with h' | ⟨-, h'⟩
  · omega
  · rcases h' with ⟨a, b⟩ | ⟨a, b⟩
    · rw [ti_1 hc a, ti_0 he b]
      exact ⟨by decide, fun z => absurd z (by decide)⟩
    · have hle : nI i ≤ nI j := nI_le (Nat.le_of_lt b) (by omega)
      by_cases h3 : c 3 = -1
      · rw [ti_0 hc h3, ti_0 he (a.mp h3)]
        exact ⟨by decide, fun _ => hle⟩
      · rw [ti_1 hc h3, ti_1 he (fun z => h3 (a.mpr z))]
        exact ⟨by decide, fun _ => hle⟩
theorem f_greatest {k n d : Nat} {x : Mem} (h : IV k x n d) : ∃ G : Nat → Nat, (∀ p, p < n → G p < n ∧ D_X9_greatest x (nI p) = some (0, nI (G p))) ∧ ∀ p, p + 1 < n → okC (x 0 (G p + 7)) (x 0 (G (p + 1) + 7)) (G p) (G (p + 1)) := by
  have h6 := h.1.1
  have hn := h.1.2.1
  have hB : ∀ i, i < n → CB (x 0 (i + 7)) := fun i hi => (h.1.2.2.1 i hi).1
  have hinj := kc_inj (fun j => x 0 (j + 7)) h6
  obtain ⟨G, hG⟩ := choose_lt (n := n) (P := fun p i => i < n ∧ cnt (fun j => kc (x 0 (j + 7)) j) (kc (x 0 (i + 7)) i) n = p) (fun p hp => place_ex (fun j => kc (x 0 (j + 7)) j) hinj hp)
  refine ⟨G, fun p hp => ⟨(hG p hp).1, ?_⟩, fun p hp => ?_⟩
  · unfold D_X9_greatest
    rw [hn, show D_X9_isWithin (nI p) (nI n) = 1 by rw [wi_iff, nI_toInt (by omega), nI_toInt (by omega), if_pos (by omega)], if_neg one_ne, cplace_eq hn h6 hB hp (hG p hp).1 (hG p hp).2]
    rfl
  · obtain ⟨a1, a2⟩ := hG p (by omega)
    obtain ⟨b1, b2⟩ := hG (p + 1) hp
    refine okC_of (hB _ a1) (hB _ b1) (by omega) (by omega) (Nat.lt_of_not_le fun hle => ?_)
    have := cnt_mono (fun j => kc (x 0 (j + 7)) j) hle n
    omega
theorem f_greatestN {k n d : Nat} {x : Mem} (h : IV k x n d) : D_X9_greatest x (nI n) = some (1, 0) := by
  have h6 := h.1.1
  unfold D_X9_greatest
  rw [h.1.2.1, show D_X9_isWithin (nI n) (nI n) = 0 by rw [wi_iff, nI_toInt (by omega), if_neg (by omega)], if_pos rfl]
/-- the clouds of owner p -/
def cO (o : Nat → Nat → Int32) (n p : Nat) : Int32 := sumTo (fun j => if o (j + 7) 3 = nI p then 1 else 0) n
def okR (o : Nat → Nat → Int32) (n i j : Nat) : Prop := ¬ cO o n i - cO o n j < 0 ∧ (cO o n i - cO o n j = 0 → ¬ o 3 i - o 3 j < 0 ∧ (o 3 i - o 3 j = 0 → nI i ≤ nI j))
theorem f_ranked {k n d : Nat} {x : Mem} (hk : k ≤ 500) (h : IV k x n d) : ∃ G : Nat → Nat, (∀ p, p < 4 → G p < 4 ∧ D_X9_ranked x (nI p) = some (0, nI (G p))) ∧ ∀ p, p + 1 < 4 → okR (x 0) n (G p) (G (p + 1)) := by
  have h6 := h.1.1
  have hn := h.1.2.1
  obtain ⟨C, hC⟩ := choose_lt (n := 4) (P := fun p c => cO (x 0) n p = nI c ∧ c ≤ 6) (fun p _ => by
    obtain ⟨c, hc, e⟩ := sumTo_cnt (f := fun j => if x 0 (j + 7) 3 = nI p then 1 else 0) (n := n) (fun j _ => by (try dsimp only); split <;> simp)
    exact ⟨c, e, by omega⟩)
  obtain ⟨F, hF⟩ := choose_lt (n := 4) (P := fun p f => x 0 3 p = nI f ∧ f < 2 ^ 20) (fun p hp => by
    obtain ⟨f, hf, e⟩ := h.1.2.2.2.2.1.at hp
    exact ⟨f, e, by unfold SB at hf; omega⟩)
  have hinj := kr_inj C F
  have hK : ∀ i, i < 4 → ∀ j, j < 4 → (kr (C j) (F j) j < kr (C i) (F i) i ↔ (C i < C j ∨ (C i = C j ∧ (F i < F j ∨ (F i = F j ∧ j < i))))) := fun i hi j hj => kr_lt (hC j hj).2 (hC i hi).2 (hF j hj).2 (hF i hi).2 hj hi
  obtain ⟨K, hKe⟩ : ∃ K : Nat → Nat, K = fun j => kr (C j) (F j) j := ⟨_, rfl⟩
  have hinj' : ∀ i, i < 4 → ∀ j, j < 4 → K i = K j → i = j := by rw [hKe]; exact hinj
  have hK' : ∀ i, i < 4 → ∀ j, j < 4 → (K j < K i ↔ (C i < C j ∨ (C i = C j ∧ (F i < F j ∨ (F i = F j ∧ j < i))))) := by rw [hKe]; exact hK
  clear hinj hK hKe
  obtain ⟨G, hG⟩ := choose_lt (n := 4) (P := fun p i => i < 4 ∧ cnt K (K i) 4 = p) (fun p hp => place_ex K hinj' hp)
  refine ⟨G, fun p hp => ⟨(hG p hp).1, ?_⟩, fun p hp => ?_⟩
  · unfold D_X9_ranked
    rw [show D_X9_isWithin (nI p) 4 = 1 by rw [wi_iff, nI_toInt (by omega), show (4 : Int32).toInt = 4 by decide, if_pos (by omega)], if_neg one_ne, oplace_eq hinj' hn h6 hC hF hK' hp (hG p hp).1 (hG p hp).2]
    rfl
  · obtain ⟨a1, a2⟩ := hG p (by omega)
    obtain ⟨b1, b2⟩ := hG (p + 1) hp
    have hlt : K (G p) < K (G (p + 1)) := Nat.lt_of_not_le fun hle => by
      have := cnt_mono K hle 4
      omega
    have h' := (hK' _ b1 _ a1).mp hlt
    have c1 := hC _ a1
    have c2 := hC _ b1
    have f1 := hF _ a1
    have f2 := hF _ b1
    unfold okR
    rw [c1.1, c2.1, f1.1, f2.1]
    refine ⟨(ge_sub (by omega) (by omega)).mpr (by omega), fun hz => ?_⟩
    have hcc := (subN (a := C (G p)) (b := C (G (p + 1))) (by omega) (by omega)).2.1.mp hz
    refine ⟨(ge_sub (by omega) (by omega)).mpr (by omega), fun hy => ?_⟩
    have hff := (subN (a := F (G p)) (b := F (G (p + 1))) (by omega) (by omega)).2.1.mp hy
    exact nI_le (by omega) (by omega)
theorem f_ranked4 (x : Mem) : D_X9_ranked x 4 = some (1, 0) := by
  unfold D_X9_ranked
  rw [show D_X9_isWithin 4 4 = 0 by decide, if_pos rfl]
/-! balanced -/
theorem f_bal {k n d : Nat} {x : Mem} (h : IV k x n d) : D_X9_isBalanced x = some 1 := by
  have h6 := h.1.1
  have hn := h.1.2.1
  have hB : ∀ i, i < n → CB (x 0 (i + 7)) := fun i hi => (h.1.2.2.1 i hi).1
  have hA : D_X4_areCloudsAlike (x 0) = some 1 := by
    obtain ⟨s', e, -⟩ := loop_up (L := fun q i (_ : Unit) => L_X4_areCloudsAlike_2 q (x 0) i) 4 (fun _ _ => True) (fun q p s hp _ => ⟨(), by
      simp only [L_X4_areCloudsAlike_2, show ¬ (4 : Int32) ≤ nI p from nI_ge hp (by decide), cc_eq hn h6, left_eq hn h6 hB hp, Option.bind_some, ↓reduceIte, nI_succ], trivial⟩) 200 () (by decide) trivial
    have e0 : D_X4_areCloudsAlike (x 0) = L_X4_areCloudsAlike_2 200 (x 0) (nI 0) := rfl
    rw [e0]
    refine Eq.trans e ?_
    show L_X4_areCloudsAlike_2 (195 + 1) (x 0) (nI 4) = some 1
    simp only [L_X4_areCloudsAlike_2, show (4 : Int32) ≤ nI 4 by decide, ↓reduceIte]
  have hC : D_X4_coinsCounted (x 0) = some (D_X4_coinsByPayments (x 0)) := by
    rw [coi_eq, sum4z]
    have h5 := h.1.2.2.2.2.2.1
    unfold RBa at h5
    rw [h5]
    rfl
  have hW : D_X4_areWindsAlike (x 0) = some 1 := by
    have inner : ∀ (i : Nat), i < n → ∀ (K : Int32 → Option Int32), L_X4_areWindsAlike_12 200 (x 0) (nI i) 0 K = K (nI 6) := by
      intro i hi K
      obtain ⟨s', e, -⟩ := loop_up (L := fun q v (_ : Unit) => L_X4_areWindsAlike_12 q (x 0) (nI i) v K) 6 (fun _ _ => True) (fun q v s hv _ => ⟨(), by
        obtain ⟨w1, w2⟩ := wbt_eq (hB i hi).1 hv
        simp only [L_X4_areWindsAlike_12, show ¬ (6 : Int32) ≤ nI v from nI_ge hv (by decide), inb_nI (show i < 6 by omega) (show 6 < 2 ^ 31 by decide), nI_clamp (show i < 2 ^ 31 by omega), w1, w2, Option.bind_some, ↓reduceIte, nI_succ], trivial⟩) 200 () (by decide) trivial
      refine Eq.trans e ?_
      show L_X4_areWindsAlike_12 (193 + 1) (x 0) (nI i) (nI 6) K = K (nI 6)
      simp only [L_X4_areWindsAlike_12, show (6 : Int32) ≤ nI 6 by decide, ↓reduceIte]
    obtain ⟨s', e, -⟩ := loop_up (L := fun q i (_ : Unit) => L_X4_areWindsAlike_2 q (x 0) i) n (fun _ _ => True) (fun q i s hi _ => ⟨(), by
      simp only [L_X4_areWindsAlike_2, hn, nI_ge hi (show n < 2 ^ 31 by omega), inner i hi, ↓reduceIte, nI_succ], trivial⟩) 200 () (by omega) trivial
    have e0 : D_X4_areWindsAlike (x 0) = L_X4_areWindsAlike_2 200 (x 0) (nI 0) := rfl
    rw [e0]
    refine Eq.trans e ?_
    obtain ⟨z, hz⟩ : ∃ z, 200 - n = z + 1 := ⟨199 - n, by omega⟩
    rw [hz]
    simp only [L_X4_areWindsAlike_2, hn, nI_le (Nat.le_refl n) (show n < 2 ^ 31 by omega), ↓reduceIte]
  unfold D_X9_isBalanced
  rw [hA]
  simp only [Option.bind_some, if_neg one_ne]
  rw [hC]
  simp only [Option.bind_some, ↓reduceIte]
  rw [hW]
  simp only [Option.bind_some, if_neg one_ne]
