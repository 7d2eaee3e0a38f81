/-! what holds between calls of the whole class; the nine changes keep it -/
def IH (x : Mem) : Prop := ∃ c nx : Nat, c ≤ 8 ∧ nx < 8 ∧ x 12 1 1 = nI nx ∧ x 12 1 2 = nI c
def IT (x : Mem) : Prop := ∃ l : Nat, l ≤ 16 ∧ x 12 31 1 = 0 ∧ x 12 31 3 = nI l
def IV (k : Nat) (x : Mem) (n d : Nat) : Prop := OI k (x 0) n d ∧ IH x ∧ IT x
def INV (k : Nat) (x : Mem) : Prop := ∃ n d, IV k x n d
theorem IV.mono {k l n d : Nat} {x : Mem} (h : IV k x n d) (hl : k ≤ l) : IV l x n d := ⟨h.1.mono hl, h.2⟩
theorem INV.mono {k l : Nat} {x : Mem} (h : INV k x) (hl : k ≤ l) : INV l x := by
  obtain ⟨n, d, h⟩ := h
  exact ⟨n, d, h.mono hl⟩
/-- nothing but what is imagined and the text -/
theorem IV.text {k n d : Nat} {x x' : Mem} (h : IV k x n d) (h0 : x' 0 = x 0) (h1 : x' 12 1 = x 12 1) (ht : IT x') : IV k x' n d := by
  refine ⟨by rw [h0]; exact h.1, ?_, ht⟩
  unfold IH
  rw [h1]
  exact h.2.1
theorem change_c {k n d : Nat} {x : Mem} (hI : IV k x n d) (kd : Nat) (p2 p3 p4 : Int32) (hc : Cg k (x 0) (D_X4_carryOut (x 0) kd p2 p3 p4)) :
    ∃ (code r : Int32) (x' : Mem), (code = 0 ∨ code = 1) ∧ D_X9_change x kd p2 p3 p4 = some (code, r, x') ∧ (code = 1 → ¬ x' 12 3 0 = 0) ∧ INV (k + 1) x' := by
  obtain ⟨hO, ⟨c, nx, h1, h2, h3, h4⟩, hT⟩ := hI
  obtain ⟨o2, e2, he2⟩ := ccp (x 1) (x 0)
  obtain ⟨a, o5, ea, h⟩ := hc
  unfold D_X9_change
  rw [e2, ea]
  simp only [Option.bind_some]
  have x12 : (va_up (va_up x 1 o2) 0 o5) 12 = x 12 := by rw [xs_ne (by omega), xs_ne (by omega)]
  rcases h with ⟨rfl, w, dt, hw, rfl⟩ | ⟨hne, n', d', hO'⟩
  · rw [if_pos rfl]
    have e0 : D_X6_keep (va_up (va_up x 1 o2) 0 (va_up (x 0) 0 (upd (upd (x 0 0) 12 w) 13 dt))) 0 0 = va_up (x 0) 0 (upd (upd (x 0 0) 12 w) 13 dt) := by
      unfold D_X6_keep; rw [xs_ne (by omega), xs_self]
    have e12 : ∀ r, r ≠ 3 → D_X6_keep (va_up (va_up x 1 o2) 0 (va_up (x 0) 0 (upd (upd (x 0 0) 12 w) 13 dt))) 0 12 r = x 12 r := fun r hr => by
      unfold D_X6_keep; rw [xs_self, vun _ _ _ hr, x12]
    refine ⟨1, 0, _, Or.inr rfl, rfl, fun _ => ?_, n, d, ?_, ⟨c, nx, h1, h2, by rw [e12 1 (by omega)]; exact h3, by rw [e12 1 (by omega)]; exact h4⟩, ?_⟩
    · have e : D_X6_keep (va_up (va_up x 1 o2) 0 (va_up (x 0) 0 (upd (upd (x 0 0) 12 w) 13 dt))) 0 12 3 0 = w := by
        unfold D_X6_keep
        rw [xs_self, va_up_self, upd_ne _ _ (by omega), upd_ne _ _ (by omega), upd_ne _ _ (by omega), upd_self, xs_self, va_up_self, upd_ne _ _ (by omega), upd_self]
      rw [e]; exact hw
    · rw [e0]; exact (hO.cg (EqO.refuse _ _ _)).mono (Nat.le_succ k)
    · unfold IT; rw [e12 31 (by omega)]; exact hT
  · rw [if_neg hne]
    obtain ⟨x', ex, q1, q2, q3, q4, -⟩ := push_eq (va_up (va_up x 1 o2) 0 o5) h1 h2 (by rw [x12]; exact h3) (by rw [x12]; exact h4) 1
    rw [ex]
    refine ⟨0, a, x', Or.inl rfl, rfl, fun z => absurd z (by decide), n', d', ?_, ⟨_, _, ?_, Nat.mod_lt _ (by omega), q3, q4⟩, ?_⟩
    · rw [q1 0 (by omega) (by omega), xs_self]; exact hO'
    · split <;> omega
    · unfold IT; rw [q2 31 (by omega), x12]; exact hT
/-- a change by its own name -/
def OKc (k : Nat) (v : Option (Int32 × Int32 × Mem)) : Prop := ∃ (code r : Int32) (x' : Mem), (code = 0 ∨ code = 1) ∧ v = some (code, r, x') ∧ (code = 1 → ¬ x' 12 3 0 = 0) ∧ INV (k + 1) x'
theorem okc_of {k : Nat} {v : Option (Int32 × Int32 × Mem)} (h : OKc k v) : OKc k (v.bind (fun (cd6, r1, o2) => if cd6 = 0 then (some (0, r1, o2)) else (some (1, 0, o2)))) := by
  obtain ⟨code, r, x', h1, h2, h3, h4⟩ := h
  subst h2
  rcases h1 with rfl | rfl
  · exact ⟨0, r, x', Or.inl rfl, by simp only [Option.bind_some, ↓reduceIte], h3, h4⟩
  · exact ⟨1, 0, x', Or.inr rfl, by simp only [Option.bind_some, if_neg one_ne], h3, h4⟩
theorem f_cloud {k n d : Nat} {x : Mem} (h : IV k x n d) (p1 p2 p3 : Int32) : OKc k (D_X9_cloud x p1 p2 p3) := okc_of (change_c h 0 p1 p2 p3 (by rw [co_cloud]; exact cg_cloud h.1 _ _ _))
theorem f_vine {k n d : Nat} {x : Mem} (h : IV k x n d) (p1 p2 : Int32) : OKc k (D_X9_vine x p1 p2) := okc_of (change_c h 1 p1 p2 0 (by rw [co_vine]; exact cg_vine h.1 _ _))
theorem f_title {k n d : Nat} {x : Mem} (hk : k ≤ 600) (h : IV k x n d) (p1 p2 : Int32) : OKc k (D_X9_title x p1 p2) := okc_of (change_c h 2 p1 p2 0 (by rw [co_title]; exact cg_title hk h.1 _ _))
theorem f_sell {k n d : Nat} {x : Mem} (hk : k ≤ 600) (h : IV k x n d) (p1 p2 p3 : Int32) : OKc k (D_X9_sell x p1 p2 p3) := okc_of (change_c h 3 p1 p2 p3 (by rw [co_sell]; exact cg_sell hk h.1 _ _ _))
theorem f_pledge {k n d : Nat} {x : Mem} (hk : k ≤ 600) (h : IV k x n d) (p1 p2 : Int32) : OKc k (D_X9_pledge x p1 p2) := okc_of (change_c h 4 p1 p2 0 (by rw [co_pledge]; exact cg_pledge hk h.1 _ _))
theorem f_redeem {k n d : Nat} {x : Mem} (hk : k ≤ 600) (h : IV k x n d) (p1 : Int32) : OKc k (D_X9_redeem x p1) := okc_of (change_c h 5 p1 0 0 (by rw [co_redeem]; exact cg_redeem hk h.1 _))
theorem f_wind {k n d : Nat} {x : Mem} (h : IV k x n d) (p1 : Int32) : OKc k (D_X9_wind x p1) := okc_of (change_c h 6 p1 0 0 (by rw [co_wind]; exact cg_wind h.1 _))
theorem f_hail {k n d : Nat} {x : Mem} (h : IV k x n d) (p1 : Int32) : OKc k (D_X9_hail x p1) := okc_of (change_c h 7 p1 0 0 (by rw [co_hail]; exact cg_hail h.1 _))
theorem f_dawn {k n d : Nat} {x : Mem} (hk : k ≤ 600) (h : IV k x n d) : ∃ (r : Int32) (x' : Mem), D_X9_dawn x = some (r, x') ∧ INV (k + 1) x' := by
  obtain ⟨hO, ⟨c, nx, h1, h2, h3, h4⟩, hT⟩ := h
  obtain ⟨y, ey, q1, q2, q3, q4, -⟩ := push_eq x h1 h2 h3 h4 0
  have hy0 : y 0 = x 0 := q1 0 (by omega) (by omega)
  obtain ⟨r, o', d', e, hO', -⟩ := dawn_ok hk hO
  unfold D_X9_dawn
  rw [ey]
  simp only [Option.bind_some]
  rw [hy0, e]
  refine ⟨r, _, rfl, n, d', ?_, ⟨_, _, ?_, Nat.mod_lt _ (by omega), by rw [xs_ne (by omega)]; exact q3, by rw [xs_ne (by omega)]; exact q4⟩, ?_⟩
  · rw [xs_self]; exact hO'
  · split <;> omega
  · unfold IT; rw [xs_ne (by omega), q2 31 (by omega)]; exact hT
/-! what is asked -/
theorem f_n {k n d : Nat} {x : Mem} (h : IV k x n d) : D_X9_account x 0 = some (0, nI n) := by
  unfold D_X9_account D_X4_tellAccount
  rw [if_neg (show ¬ D_X9_isWithin 0 13 = 0 by decide), if_neg (show ¬ (0 : Int32) = 11 by decide), if_neg (show ¬ (0 : Int32) = 12 by decide), if_pos rfl, h.1.2.1]
  rfl
theorem hc1 {o : Nat → Nat → Int32} {n : Nat} (h2 : o 0 1 = nI n) (h1 : n ≤ 6) {a : Nat} (ha : a < n) : D_X4_hasCloud o (nI a) = 1 := by
  unfold D_X4_hasCloud
  rw [h2, wi_iff, nI_toInt (by omega), nI_toInt (by omega), if_pos (by omega)]
theorem f_cloudOf {k n d : Nat} {x : Mem} (h : IV k x n d) {a : Nat} (ha : a < n) {j : Int32} (hj : D_X9_isWithin j 7 = 1) : D_X9_cloudOf x (nI a) j = some (0, D_X1_tell (x 0 (a + 7)) j) := by
  have h1 := h.1.1
  unfold D_X9_cloudOf
  rw [hc1 h.1.2.1 h1 ha, if_neg one_ne, hj, if_neg one_ne, if_pos (inb_nI (show a < 6 by omega) (by decide)), nI_clamp (show a < 2 ^ 31 by omega)]
theorem vi1 {v : Nat} (hv : v < 6) : D_X9_isVineyard (nI v) = 1 := by rw [vi_iff, nI_toInt (by omega), if_pos (by omega)]
theorem f_vineyardOf0 (x : Mem) {v : Nat} (hv : v < 6) : D_X9_vineyardOf x (nI v) 0 = some (0, x 0 2 v) := by
  unfold D_X9_vineyardOf D_X4_tellOfVineyard
  rw [vi1 hv, if_neg one_ne, if_neg (show ¬ D_X9_isWithin 0 3 = 0 by decide), if_pos rfl, if_neg one_ne, if_pos (inb_nI hv (by decide)), nI_clamp (show v < 2 ^ 31 by omega)]
  rfl
theorem f_vineyardOf1 {k n d : Nat} {x : Mem} (h : IV k x n d) {v : Nat} (hv : v < 6) : D_X9_vineyardOf x (nI v) 1 = some (0, sumTo (fun j => if x 0 (j + 7) 0 = nI v then 1 else 0) n) := by
  unfold D_X9_vineyardOf D_X4_tellOfVineyard
  rw [vi1 hv, if_neg one_ne, if_neg (show ¬ D_X9_isWithin 1 3 = 0 by decide), if_neg one_ne, tv_eq h.1.2.1 h.1.1]
  simp only [Option.bind_some, ↓reduceIte]
theorem f_vineyardOf2 {k n d : Nat} {x : Mem} (h : IV k x n d) {v : Nat} (hv : v < 6) : D_X9_vineyardOf x (nI v) 2 = some (0, sumTo (fun j => if x 0 (j + 7) 0 = nI v then x 0 (j + 7) 2 else 0) n) := by
  unfold D_X9_vineyardOf D_X4_tellOfVineyard
  rw [vi1 hv, if_neg one_ne, if_neg (show ¬ D_X9_isWithin 2 3 = 0 by decide), if_neg two_ne, tv_eq h.1.2.1 h.1.1]
  simp only [Option.bind_some, if_neg (show ¬ (2 : Int32) = 1 by decide)]
theorem dem0 {p : Nat} (hp : p < 4) : D_X9_demandOwner (nI p) = 0 := (dem_iff _).mpr (ow1 hp)
theorem f_ownerOf0 (x : Mem) {p : Nat} (hp : p < 4) : D_X9_ownerOf x (nI p) 0 = some (0, x 0 3 p) := by
  unfold D_X9_ownerOf D_X4_tellOfOwner
  rw [dem0 hp, if_pos rfl, if_neg (show ¬ D_X9_isWithin 0 5 = 0 by decide), if_pos rfl, pu_eq _ hp]
  rfl
theorem f_ownerOf1 (x : Mem) {p : Nat} (hp : p < 4) : D_X9_ownerOf x (nI p) 1 = some (0, sumTo (fun j => if x 0 2 j = nI p then 1 else 0) 6) := by
  unfold D_X9_ownerOf D_X4_tellOfOwner
  rw [dem0 hp, if_pos rfl, if_neg (show ¬ D_X9_isWithin 1 5 = 0 by decide), if_neg one_ne, if_pos rfl, vb_eq]
  rfl
theorem f_ownerOf2 {k n d : Nat} {x : Mem} (h : IV k x n d) {p : Nat} (hp : p < 4) : D_X9_ownerOf x (nI p) 2 = some (0, sumTo (fun j => if x 0 (j + 7) 5 = nI p then 1 else 0) n) := by
  unfold D_X9_ownerOf D_X4_tellOfOwner
  rw [dem0 hp, if_pos rfl, if_neg (show ¬ D_X9_isWithin 2 5 = 0 by decide), if_neg two_ne, if_neg (show ¬ (2 : Int32) = 1 by decide), to_eq h.1.2.1 h.1.1]
  simp only [Option.bind_some, ↓reduceIte]
theorem f_ownerOf3 {k n d : Nat} {x : Mem} (h : IV k x n d) {p : Nat} (hp : p < 4) : D_X9_ownerOf x (nI p) 3 = some (0, sumTo (fun j => if x 0 (j + 7) 3 = nI p then (if D_X1_isPledged (x 0 (j + 7)) = 0 then 0 else 1) else 0) n) := by
  unfold D_X9_ownerOf D_X4_tellOfOwner
  rw [dem0 hp, if_pos rfl, if_neg (show ¬ D_X9_isWithin 3 5 = 0 by decide), if_neg (show ¬ (3 : Int32) = 0 by decide), if_neg (show ¬ (3 : Int32) = 1 by decide), to_eq h.1.2.1 h.1.1]
  simp only [Option.bind_some, if_neg (show ¬ (3 : Int32) = 2 by decide), ↓reduceIte]
theorem f_ownerOf4 {k n d : Nat} {x : Mem} (h : IV k x n d) {p : Nat} (hp : p < 4) : D_X9_ownerOf x (nI p) 4 = some (0, sumTo (fun j => if x 0 (j + 7) 3 = nI p then x 0 (j + 7) 2 else 0) n) := by
  unfold D_X9_ownerOf D_X4_tellOfOwner
  rw [dem0 hp, if_pos rfl, if_neg (show ¬ D_X9_isWithin 4 5 = 0 by decide), if_neg (show ¬ (4 : Int32) = 0 by decide), if_neg (show ¬ (4 : Int32) = 1 by decide), to_eq h.1.2.1 h.1.1]
  simp only [Option.bind_some, if_neg (show ¬ (4 : Int32) = 2 by decide), if_neg (show ¬ (4 : Int32) = 3 by decide), ↓reduceIte]
theorem f_clouds {k n d : Nat} {x : Mem} (h : IV k x n d) {p : Nat} (hp : p < 4) : D_X9_clouds x (nI p) = some (0, sumTo (fun j => if x 0 (j + 7) 3 = nI p then 1 else 0) n) := by
  unfold D_X9_clouds
  rw [dem0 hp, if_pos rfl, cc_eq h.1.2.1 h.1.1]
  rfl
theorem f_cloudsAgain {k n d : Nat} {x : Mem} (h : IV k x n d) {p : Nat} (hp : p < 4) : D_X9_cloudsAgain x (nI p) = some (0, sumTo (fun j => if x 0 (j + 7) 3 = nI p then 1 else 0) n) := by
  unfold D_X9_cloudsAgain
  rw [dem0 hp, if_pos rfl, left_eq h.1.2.1 h.1.1 (fun i hi => (h.1.2.2.1 i hi).1) hp]
  rfl
theorem f_windTo {k n d : Nat} {x : Mem} (h : IV k x n d) {a v : Nat} (ha : a < n) (hv : v < 6) : D_X9_windTo x (nI a) (nI v) = some (0, wdist (x 0 (a + 7) 0) (nI v)) ∧ D_X9_windToAgain x (nI a) (nI v) = some (0, wdist (x 0 (a + 7) 0) (nI v)) := by
  have h1 := h.1.1
  obtain ⟨w1, w2⟩ := wbt_eq (h.1.2.2.1 a ha).1.1 hv
  unfold D_X9_windTo D_X9_windToAgain
  rw [hc1 h.1.2.1 h1 ha, if_neg one_ne, vi1 hv, if_neg one_ne, if_pos (inb_nI (show a < 6 by omega) (by decide)), nI_clamp (show a < 2 ^ 31 by omega), w1, w2]
  simp only [Option.bind_some, if_neg one_ne, inb_nI (show a < 6 by omega) (show 6 < 2 ^ 31 by decide), ↓reduceIte, and_self]
theorem f_coins (x : Mem) : D_X9_coins x = some (sumTo (fun j => x 0 3 j) 4) := by
  unfold D_X9_coins
  rw [coi_eq]
  rfl
theorem f_acc {x : Mem} {p : Nat} (hp : p = 4 ∨ p = 9 ∨ p = 10) : D_X9_account x (nI p) = some (0, x 0 0 (p + 1)) := by
  rcases hp with rfl | rfl | rfl <;> rfl
theorem f_acc1 {k n d : Nat} {x : Mem} (h : IV k x n d) : D_X9_account x 1 = some (0, sumTo (fun j => if x 0 (j + 7) 3 = -1 then 0 else 1) n) := by
  unfold D_X9_account D_X4_tellAccount
  rw [if_neg (show ¬ D_X9_isWithin 1 13 = 0 by decide), if_neg (show ¬ (1 : Int32) = 11 by decide), if_neg (show ¬ (1 : Int32) = 12 by decide), if_neg one_ne, if_pos rfl, titled_eq h.1.2.1 h.1.1]
  rfl
theorem f_acc2 {k n d : Nat} {x : Mem} (h : IV k x n d) : D_X9_account x 2 = some (0, sumTo (fun j => if D_X1_isPledged (x 0 (j + 7)) = 0 then 0 else 1) n) := by
  unfold D_X9_account D_X4_tellAccount
  rw [if_neg (show ¬ D_X9_isWithin 2 13 = 0 by decide), if_neg (show ¬ (2 : Int32) = 11 by decide), if_neg (show ¬ (2 : Int32) = 12 by decide), if_neg two_ne, if_neg (show ¬ (2 : Int32) = 1 by decide), if_pos rfl, pc_eq h.1.2.1 h.1.1]
  rfl
theorem f_acc3 (x : Mem) : D_X9_account x 3 = some (0, 6 - sumTo (fun j => if x 0 2 j = -1 then 1 else 0) 6) := by
  unfold D_X9_account D_X4_tellAccount D_X4_ownedVineyards
  rw [if_neg (show ¬ D_X9_isWithin 3 13 = 0 by decide), if_neg (show ¬ (3 : Int32) = 11 by decide), if_neg (show ¬ (3 : Int32) = 12 by decide), if_neg (show ¬ (3 : Int32) = 0 by decide), if_neg (show ¬ (3 : Int32) = 1 by decide), if_neg (show ¬ (3 : Int32) = 2 by decide), if_pos rfl, vb_eq]
  rfl
theorem f_mean {k n d : Nat} {x : Mem} (h : IV k x n d) (hn : 0 < n) : (∃ s : Nat, s ≤ 54 ∧ sumTo (fun j => x 0 (j + 7) 2) n = nI s) ∧ D_X9_meanSize x = some (0, FP.ddiv (FP.i2d (sumTo (fun j => x 0 (j + 7) 2) n)) (FP.i2d (nI n))) := by
  have h1 := h.1.1
  obtain ⟨s, hs, e⟩ := sumTo_max (f := fun j => x 0 (j + 7) 2) (b := 9) (n := n) (fun j hj => by
    obtain ⟨q, -, q9, eq⟩ := (h.1.2.2.1 j hj).1.size
    exact ⟨q, q9, eq⟩)
  refine ⟨⟨s, by omega, e⟩, ?_⟩
  unfold D_X9_meanSize
  rw [h.1.2.1, if_neg (nI_neZ (by omega) (by omega)), sz_eq h.1.2.1 h1, e]
  have hf := (fin_mean ⟨s, by omega⟩ ⟨n - 1, by omega⟩).1
  rw [show n - 1 + 1 = n by omega] at hf
  simp only [Option.bind_some]
  rw [if_pos hf]
theorem f_share {k n d : Nat} {x : Mem} (h : IV k x n d) (hn : 0 < n) : (∃ s : Nat, s ≤ 6 ∧ sumTo (fun j => if x 0 (j + 7) 3 = -1 then (0 : Int32) else 1) n = nI s) ∧ D_X9_titledShare x = some (0, FP.fdiv (FP.i2f (sumTo (fun j => if x 0 (j + 7) 3 = -1 then (0 : Int32) else 1) n)) (FP.i2f (nI n))) := by
  have h1 := h.1.1
  obtain ⟨s, hs, e⟩ := sumTo_cnt (f := fun j => if x 0 (j + 7) 3 = -1 then (0 : Int32) else 1) (n := n) (fun j _ => by (try dsimp only); split <;> simp)
  refine ⟨⟨s, by omega, e⟩, ?_⟩
  unfold D_X9_titledShare
  rw [h.1.2.1, if_neg (nI_neZ (by omega) (by omega)), titled_eq h.1.2.1 h1, e]
  have hf := (fin_share ⟨s, by omega⟩ ⟨n - 1, by omega⟩).1
  rw [show n - 1 + 1 = n by omega] at hf
  simp only [Option.bind_some]
  rw [if_pos hf]
