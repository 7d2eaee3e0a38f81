/-! places in an order -/
theorem php : ∀ (n : Nat) (f : Nat → Nat), (∀ i, i < n → f i < n) → (∀ i, i < n → ∀ j, j < n → f i = f j → i = j) → ∀ p, p < n → ∃ i, i < n ∧ f i = p
  | 0, _, _, _, p, hp => absurd hp (Nat.not_lt_zero p)
  | n + 1, f, hf, hi, p, hp => by
    have ih := php n (fun i => if f i = n then f n else f i) (fun i h => by
      show (if f i = n then f n else f i) < n
      have h1 := hf i (by omega)
      have h2 := hf n (by omega)
      split
      · rename_i he
        have : f n ≠ n := fun z => by have := hi i (by omega) n (by omega) (by rw [he, z]); omega
        omega
      · omega) (fun i h j h2 e => by
      have e : (if f i = n then f n else f i) = (if f j = n then f n else f j) := e
      split at e
      · rename_i a
        split at e
        · rename_i b
          exact hi i (by omega) j (by omega) (by rw [a, b])
        · have := hi n (by omega) j (by omega) e; omega
      · split at e
        · have := hi i (by omega) n (by omega) e; omega
        · exact hi i (by omega) j (by omega) e)
    by_cases ha : p = f n
    · exact ⟨n, by omega, ha.symm⟩
    · by_cases hpn : p = n
      · obtain ⟨i, h1, h2⟩ := ih (f n) (by have := hf n (by omega); omega)
        have h2 : (if f i = n then f n else f i) = f n := h2
        split at h2
        · rename_i a
          exact ⟨i, by omega, by rw [a, hpn]⟩
        · have := hi i (by omega) n (by omega) h2; omega
      · obtain ⟨i, h1, h2⟩ := ih p (by omega)
        have h2 : (if f i = n then f n else f i) = p := h2
        split at h2
        · exact absurd h2.symm ha
        · exact ⟨i, by omega, h2⟩
def cnt (f : Nat → Nat) (v : Nat) : Nat → Nat
  | 0 => 0
  | n + 1 => cnt f v n + (if f n < v then 1 else 0)
theorem cnt_le (f : Nat → Nat) (v : Nat) : ∀ n, cnt f v n ≤ n
  | 0 => Nat.le_refl 0
  | n + 1 => by
    have := cnt_le f v n
    show cnt f v n + (if f n < v then 1 else 0) ≤ n + 1
    split <;> omega
theorem cnt_mono (f : Nat → Nat) {v w : Nat} (h : v ≤ w) : ∀ n, cnt f v n ≤ cnt f w n
  | 0 => Nat.le_refl 0
  | n + 1 => by
    have := cnt_mono f h n
    show cnt f v n + (if f n < v then 1 else 0) ≤ cnt f w n + (if f n < w then 1 else 0)
    split <;> split <;> omega
/-- a number between counts for the greater one alone -/
theorem cnt_lt (f : Nat → Nat) {v w : Nat} (h : v ≤ w) : ∀ (n i : Nat), i < n → v ≤ f i → f i < w → cnt f v n < cnt f w n
  | 0, i, hi, _, _ => absurd hi (Nat.not_lt_zero i)
  | n + 1, i, hi, h1, h2 => by
    show cnt f v n + (if f n < v then 1 else 0) < cnt f w n + (if f n < w then 1 else 0)
    by_cases e : i = n
    · subst e
      have := cnt_mono f h i
      rw [if_neg (by omega), if_pos h2]; omega
    · have := cnt_lt f h n i (by omega) h1 h2
      split <;> split <;> omega
theorem cnt_top (f : Nat → Nat) {n i : Nat} (hi : i < n) : cnt f (f i) n < n := by
  have h1 : cnt f (f i) n < cnt f (f i + 1) n := cnt_lt f (Nat.le_succ (f i)) n i hi (Nat.le_refl _) (Nat.lt_succ_self _)
  have h2 := cnt_le f (f i + 1) n
  omega
/-- each place is somebody's -/
theorem place_ex (f : Nat → Nat) {n : Nat} (hf : ∀ i, i < n → ∀ j, j < n → f i = f j → i = j) {p : Nat} (hp : p < n) : ∃ i, i < n ∧ cnt f (f i) n = p := by
  refine php n (fun i => cnt f (f i) n) (fun i hi => cnt_top f hi) (fun i hi j hj e => ?_) p hp
  have e : cnt f (f i) n = cnt f (f j) n := e
  rcases Nat.lt_trichotomy (f i) (f j) with h | h | h
  · have := cnt_lt f (Nat.le_of_lt h) n i hi (Nat.le_refl _) h; omega
  · exact hf i hi j hj h
  · have := cnt_lt f (Nat.le_of_lt h) n j hj (Nat.le_refl _) h; omega
theorem place_un (f : Nat → Nat) {n : Nat} (hf : ∀ i, i < n → ∀ j, j < n → f i = f j → i = j) {i j : Nat} (hi : i < n) (hj : j < n) (e : cnt f (f i) n = cnt f (f j) n) : i = j := by
  rcases Nat.lt_trichotomy (f i) (f j) with h | h | h
  · have := cnt_lt f (Nat.le_of_lt h) n i hi (Nat.le_refl _) h; omega
  · exact hf i hi j hj h
  · have := cnt_lt f (Nat.le_of_lt h) n j hj (Nat.le_refl _) h; omega
theorem sumTo_lt (f : Nat → Nat) (v : Nat) : ∀ n, sumTo (fun j => if f j < v then (1 : Int32) else 0) n = nI (cnt f v n)
  | 0 => rfl
  | n + 1 => by
    rw [sumTo_s, sumTo_lt f v n]
    show _ = nI (cnt f v n + (if f n < v then 1 else 0))
    by_cases h : f n < v
    · simp only [if_pos h, nI_succ]
    · simp only [if_neg h, Int32.add_zero, Nat.add_zero]
/-- the order of clouds, as a number: the less, the more ahead -/
def kc (c : Nat → Int32) (i : Nat) : Nat := ((9 - (c 2).toInt.toNat) * 2 + (if c 3 = -1 then 1 else 0)) * 8 + i
theorem kc_inj (cs : Nat → Nat → Int32) {n : Nat} (h6 : n ≤ 6) : ∀ i, i < n → ∀ j, j < n → kc (cs i) i = kc (cs j) j → i = j := by
  intro i hi j hj e
  unfold kc at e
  omega
theorem kc_lt {c d : Nat → Int32} {i j s t : Nat} (hi : i < 6) (hj : j < 6) (hs : s ≤ 9) (ht : t ≤ 9) (es : c 2 = nI s) (et : d 2 = nI t) :
    kc c i < kc d j ↔ (t < s ∨ (t = s ∧ (¬ c 3 = -1 ∧ d 3 = -1 ∨ ((c 3 = -1 ↔ d 3 = -1) ∧ i < j)))) := by
  unfold kc
  rw [es, et, nI_toInt (by omega), nI_toInt (by omega)]
  by_cases h1 : c 3 = -1 <;> by_cases h2 : d 3 = -1 <;> simp [h1, h2] <;> omega
theorem ahead_eq {c d : Nat → Int32} {s t : Nat} (hs : s ≤ 9) (ht : t ≤ 9) (es : c 2 = nI s) (et : d 2 = nI t) : D_X1_isAheadOf c d = if t < s ∨ (t = s ∧ ¬ c 3 = -1 ∧ d 3 = -1) then 1 else 0 := by
  unfold D_X1_isAheadOf
  rw [es, et]
  simp only [hT]
  by_cases h : s = t
  · subst h
    rw [if_pos rfl]
    by_cases h1 : c 3 = -1
    · rw [if_pos h1, if_neg (by grind)]
    · rw [if_neg h1]
      by_cases h2 : d 3 = -1
      · rw [if_pos h2, if_pos (by grind)]
      · rw [if_neg h2, if_neg (by grind)]
  · rw [if_neg (nI_ne (by omega) (by omega) h)]
    by_cases h1 : s ≤ t
    · rw [if_pos ((nI_leJ (by omega) (by omega)).mpr h1), if_neg (by grind)]
    · rw [if_neg (fun z => h1 ((nI_leJ (by omega) (by omega)).mp z)), if_pos (by grind)]
theorem cahead_eq {o : Nat → Nat → Int32} {n : Nat} (hn : o 0 1 = nI n) (h6 : n ≤ 6) (hB : ∀ i, i < n → CB (o (i + 7))) {i j : Nat} (hi : i < n) (hj : j < n) : D_X4_isCloudAhead o (nI j) (nI i) = some (if kc (o (j + 7)) j < kc (o (i + 7)) i then 1 else 0) := by
  have hc : ∀ q : Nat, q < n → D_X4_hasCloud o (nI q) = 1 := fun q hq => by
    unfold D_X4_hasCloud
    rw [hn, wi_iff, nI_toInt (by omega), nI_toInt (by omega), if_pos (by grind)]
  obtain ⟨s, -, hs, es⟩ := (hB j hj).size
  obtain ⟨t, -, ht, et⟩ := (hB i hi).size
  unfold D_X4_isCloudAhead
  rw [hc j hj, hc i hi, if_neg one_ne, if_neg one_ne, if_pos (inb_nI (show j < 6 by omega) (by decide)), if_pos (inb_nI (show i < 6 by omega) (by decide)), nI_clamp (show j < 2 ^ 31 by omega), nI_clamp (show i < 2 ^ 31 by omega), ahead_eq hs ht es et, ahead_eq ht hs et es, if_pos (inb_nI (show i < 6 by omega) (by decide)), if_pos (inb_nI (show j < 6 by omega) (by decide))]
  have key := kc_lt (c := o (j + 7)) (d := o (i + 7)) (show j < 6 by omega) (show i < 6 by omega) hs ht es et
  have hle : nI i ≤ nI j ↔ i ≤ j := nI_leJ (by omega) (by omega)
  by_cases c1 : t < s ∨ (t = s ∧ ¬ o (j + 7) 3 = -1 ∧ o (i + 7) 3 = -1)
  · rw [if_pos c1, if_neg one_ne, if_pos (key.mpr (by grind))]
  · rw [if_neg c1, if_pos rfl]
    by_cases c2 : i ≤ j
    · rw [if_pos (hle.mpr c2), if_neg (fun z => by have := key.mp z; grind)]
    · rw [if_neg (fun z => c2 (hle.mp z))]
      by_cases c3 : s < t ∨ (s = t ∧ ¬ o (i + 7) 3 = -1 ∧ o (j + 7) 3 = -1)
      · rw [if_pos c3, if_neg one_ne, if_neg (fun z => by have := key.mp z; grind)]
      · rw [if_neg c3, if_pos rfl, if_pos (key.mpr (by grind))]
