/-! the law: arrays, and its first counts -/
section LAWA
variable {p : Program} {l : Launch} {e : Env} {s : State} {m : MethodId} {args : Array Value} {below : List Frame} {meth : Method} {c : Code} {b L : Nat} {xs : Nat → Int32} {A : Nat → Prop} {D : va_G} {cy : Nat → ClassId} {en g : Nat → Nat} {Q : State → Prop} {H : Heap} {locs : List Loc} {ls : Array Slot} {cells slots : Nat} {ad : Nat → Nat → Nat} {x : Mem} {oo : Nat → Nat → Int32} {k n d o : Nat} {aa : Nat → Nat} {f : Nat → Nat → Int32} {kc ks : Nat}
theorem ar_get {cc : ByteArray} {i p9 N pc : Nat} {a : Nat} {F : Nat → Int32} {rest : List Value} (hx : p.tables.exec = Jvm.exec) (hb : c.code = cc) (hK : va_K D vwCl (tyL cy) s) (hP : va_P D vwCl (cW cy ad en x ++ lW cy aa f) H) (h : (lW cy aa f)[i]? = some (a, .inl (cy 0, N, .inl F))) (hp : p9 < N) (hN : N < 2 ^ 31) (hdg : decode cc pc = .ok (.iaload, 1))
    (k : W p l e room_1 s m args below meth c H locs cells slots Q (F0 m (pc + 1) ls (.int (F p9) :: rest))) : W p l e room_1 s m args below meth c H locs cells slots Q (F0 m pc ls (.int (nI p9) :: .ref a :: rest)) := by
  refine va_iald hx hb hK hP _ 0 (gW cW_len h) rfl (vp_in_nI hp hN) hdg ?_
  rw [nI_clamp (by omega)]
  exact k
theorem ar_set {cc : ByteArray} {i p9 N pc : Nat} {a : Nat} {F : Nat → Int32} {v : Int32} {rest : List Value} (hx : p.tables.exec = Jvm.exec) (hb : c.code = cc) (hK : va_K D vwCl (tyL cy) s) (hP : va_P D vwCl (cW cy ad en x ++ lW cy aa f) H) (hD : va_D A (cW cy ad en x ++ lW cy aa f)) (hS : va_S A s.heap H locs) (h : (lW cy aa f)[i]? = some (a, .inl (cy 0, N, .inl F))) (hs : (lW cy aa f).set i (a, .inl (cy 0, N, .inl (upd F p9 v))) = lW cy aa (va_up f i (upd F p9 v))) (hp : p9 < N) (hN : N < 2 ^ 31) (hdg : decode cc pc = .ok (.iastore, 1))
    (kk : ∀ (f' : Nat → Nat → Int32) (H : Heap) (locs : List Loc), f' = va_up f i (upd F p9 v) → va_P D vwCl (cW cy ad en x ++ lW cy aa f') H → va_D A (cW cy ad en x ++ lW cy aa f') → va_S A s.heap H locs → W p l e room_1 s m args below meth c H locs cells slots Q (F0 m (pc + 1) ls rest)) : W p l e room_1 s m args below meth c H locs cells slots Q (F0 m pc ls (.int v :: .int (nI p9) :: .ref a :: rest)) := by
  refine iast' (t0 := 0) (ws' := cW cy ad en x ++ lW cy aa (va_up f i (upd F p9 v))) hx hb hK hP hD hS (gW cW_len h) rfl (vp_in_nI hp hN) hdg (sW cW_len (by rw [nI_clamp (by omega)]; exact hs)) (fun H locs hP hD hS => ?_)
  exact kk _ H locs rfl hP hD hS
/-- counts by keys -/
def AS (N : Nat) (K V : Nat → Int32) (t : Nat) (F : Nat → Int32) : Prop := ∀ p, p < N → F p = sumTo (fun j => if K j = nI p then V j else 0) t
theorem AS.zero {N : Nat} {K V F : Nat → Int32} (h : ∀ p, F p = 0) : AS N K V 0 F := fun p _ => h p
theorem AS.hit {N t q : Nat} {K V F : Nat → Int32} (h : AS N K V t F) (hN : N < 2 ^ 31) (hq : q < N) (hk : K t = nI q) : AS N K V (t + 1) (upd F q (F q + V t)) := by
  intro p hp
  rw [sumTo_s, hk]
  by_cases e : p = q
  · subst e; rw [upd_self, if_pos rfl, h p hp]
  · rw [upd_ne _ _ e, if_neg (fun z => e (nI_eqI (by omega) (by omega) z).symm), h p hp, Int32.add_zero]
theorem AS.miss {N t : Nat} {K V F : Nat → Int32} (h : AS N K V t F) (hN : N < 2 ^ 31) (hk : K t = -1) : AS N K V (t + 1) F := by
  intro p hp
  rw [sumTo_s, hk, if_neg (fun z => by have := congrArg Int32.toInt z; rw [toInt_m1, nI_toInt (by omega)] at this; omega), h p hp, Int32.add_zero]
theorem AS.hit' {N t q : Nat} {K V F : Nat → Int32} {v : Int32} (h : AS N K V t F) (hN : N < 2 ^ 31) (hq : q < N) (hk : K t = nI q) (hv : v = V t) : AS N K V (t + 1) (upd F q (F q + v)) := by subst hv; exact h.hit hN hq hk
def q2 (o : Nat → Nat → Int32) (j : Nat) : Int32 := if o 2 j = -1 then 0 else 1
def qT (o : Nat → Nat → Int32) (j : Nat) : Int32 := if o (j + 7) 3 = -1 then 0 else 1
def qP (o : Nat → Nat → Int32) (j : Nat) : Int32 := if o (j + 7) 5 = -1 then 0 else 1
def qS (o : Nat → Nat → Int32) (j : Nat) : Int32 := o (j + 7) 2
theorem g_vy0 {v : Nat} (hxo : x 0 = oo) (hv : v < 6) : D_X9_vineyardOf x (nI v) 0 = some (0, oo 2 v) := by rw [← hxo]; exact f_vineyardOf0 x hv
theorem g_co0 {a : Nat} (h : IV k x n d) (hxo : x 0 = oo) (ha : a < n) : D_X9_cloudOf x (nI a) 0 = some (0, oo (a + 7) 0) := by rw [← hxo]; exact f_co0 h ha
theorem g_co1 {a : Nat} (h : IV k x n d) (hxo : x 0 = oo) (ha : a < n) : D_X9_cloudOf x (nI a) 1 = some (0, oo (a + 7) 1) := by rw [← hxo]; exact f_co1 h ha
theorem g_co2 {a : Nat} (h : IV k x n d) (hxo : x 0 = oo) (ha : a < n) : D_X9_cloudOf x (nI a) 2 = some (0, oo (a + 7) 2) := by rw [← hxo]; exact f_co2 h ha
theorem g_co3 {a : Nat} (h : IV k x n d) (hxo : x 0 = oo) (ha : a < n) : D_X9_cloudOf x (nI a) 3 = some (0, oo (a + 7) 3) := by rw [← hxo]; exact f_co3 h ha
theorem g_co4 {a : Nat} (h : IV k x n d) (hxo : x 0 = oo) (ha : a < n) : D_X9_cloudOf x (nI a) 4 = some (0, oo (a + 7) 4) := by rw [← hxo]; exact f_co4 h ha
theorem g_co5 {a : Nat} (h : IV k x n d) (hxo : x 0 = oo) (ha : a < n) : D_X9_cloudOf x (nI a) 5 = some (0, oo (a + 7) 5) := by rw [← hxo]; exact f_co5 h ha
theorem g_co6 {a : Nat} (h : IV k x n d) (hxo : x 0 = oo) (ha : a < n) : D_X9_cloudOf x (nI a) 6 = some (0, D_X1_redemption (oo (a + 7))) := by rw [← hxo]; exact f_co6 h ha
set_option maxHeartbeats 8000000 in
theorem seg_S1 (hC : LX p s m c args b L xs A D cy en g) (hst0 : l.stackTraces = false) (hI : IV k x n d) (hkc : kc ≤ 400000) (hks : ks ≤ 3000000) (hl : lv_has ls 27 [(0, .ref b), (1, .ref (ad 12 0)), (2, .int (nI o))]) (hc : cells ≤ kc) (hs : slots ≤ ks) (hP : va_P D vwCl (cW cy ad en x) H) (hD : va_D A (cW cy ad en x)) (hS : va_S A s.heap H locs)
    (kk : ∀ (aa : Nat → Nat) (H : Heap) (locs : List Loc) (ls : Array Slot) (cells slots : Nat), cells ≤ kc + 9 → slots ≤ ks + 44 → va_P D vwCl (cW cy ad en x ++ lW cy aa (fun _ _ => 0)) H → va_D A (cW cy ad en x ++ lW cy aa (fun _ _ => 0)) → va_S A s.heap H locs → lv_has ls 27 [(16, .int 0), (0, .ref b), (1, .ref (ad 12 0)), (2, .int (nI o)), (3, .int (nI n)), (4, .int 0), (5, .int 0), (6, .int 0), (7, .int 0), (8, .int 0), (9, .ref (aa 0)), (10, .ref (aa 1)), (11, .ref (aa 2)), (12, .ref (aa 3)), (13, .ref (aa 4)), (14, .ref (aa 5)), (15, .ref (aa 6))] → W p l e room_1 s m args below meth c H locs cells slots Q (F0 m 81 ls [])) : W p l e room_1 s m args below meth c H locs cells slots Q (F0 m 20 ls []) := by
  obtain ⟨hx, hb, hml, hown, hw, hK, hN, hST, hSC, hA⟩ := id hC
  rw [show (cW cy ad en x) = cW cy ad en x ++ [] from (List.append_nil _).symm] at hP hD
  refine lv_aload_n hx hb dL_law_20 rfl (lv_at hl 1 rfl) ?_
  refine lv_iconst (v := 0) hx hb dL_law_21 (by decide) ?_
  refine xfT (w1 := cW cy ad en x) (w2 := ([] : va_W)) (As := [.int 0]) (rest := []) hx hb hml hown hw hK hN hA hl.1 hP hD hS hST k_885 k_886 k_887 k_21 k_888 (met_X9_account l hst0 D cy _ ad en g x 0 0 (nI n) (f_n hI)) (gY (x := x) (r := 0) (f := x 12 0) (by decide) rfl) rfl ⟨rfl, rfl⟩ (n := 1) (by decide +kernel) rfl ⟨Nat.le_of_ble_eq_true rfl, Nat.le_of_ble_eq_true rfl⟩ ⟨show _ ≤ 975572 by omega, show _ ≤ 6174753 by omega⟩ (Nat.le_of_ble_eq_true rfl) rfl dL_law_22 (fun H locs q9 ce9 hne hP hD hS hce hcv hcl => absurd rfl hne) (fun H locs h0 hP hD hS => ?_)
  rw [List.append_nil] at hP hD
  refine lv_istore_n (lv' := [(3, .int (nI n)), (0, .ref b), (1, .ref (ad 12 0)), (2, .int (nI o))]) hx hb dL_law_25 rfl hl (by decide) rfl (fun ls hl => ?_)
  refine lv_iconst (v := 0) hx hb dL_law_26 (by decide) ?_
  refine lv_istore (lv' := [(4, .int 0), (3, .int (nI n)), (0, .ref b), (1, .ref (ad 12 0)), (2, .int (nI o))]) hx hb dL_law_27 hl (by decide) rfl (fun ls hl => ?_)
  refine lv_iconst (v := 0) hx hb dL_law_29 (by decide) ?_
  refine lv_istore (lv' := [(5, .int 0), (4, .int 0), (3, .int (nI n)), (0, .ref b), (1, .ref (ad 12 0)), (2, .int (nI o))]) hx hb dL_law_30 hl (by decide) rfl (fun ls hl => ?_)
  refine lv_iconst (v := 0) hx hb dL_law_32 (by decide) ?_
  refine lv_istore (lv' := [(6, .int 0), (5, .int 0), (4, .int 0), (3, .int (nI n)), (0, .ref b), (1, .ref (ad 12 0)), (2, .int (nI o))]) hx hb dL_law_33 hl (by decide) rfl (fun ls hl => ?_)
  refine lv_iconst (v := 0) hx hb dL_law_35 (by decide) ?_
  refine lv_istore (lv' := [(7, .int 0), (6, .int 0), (5, .int 0), (4, .int 0), (3, .int (nI n)), (0, .ref b), (1, .ref (ad 12 0)), (2, .int (nI o))]) hx hb dL_law_36 hl (by decide) rfl (fun ls hl => ?_)
  refine lv_iconst (v := 0) hx hb dL_law_38 (by decide) ?_
  refine lv_istore (lv' := [(8, .int 0), (7, .int 0), (6, .int 0), (5, .int 0), (4, .int 0), (3, .int (nI n)), (0, .ref b), (1, .ref (ad 12 0)), (2, .int (nI o))]) hx hb dL_law_39 hl (by decide) rfl (fun ls hl => ?_)
  refine lv_iconst (v := 4) hx hb dL_law_41 (by decide) ?_
  refine va_newa (atype := .int) (a0 := (4, .inl (fun _ => 0))) hx hb (hw _ k_84) rfl hK hP hD hS hA (N' := 4) (fun _ => rfl) (by decide) rfl (by decide) (show _ ≤ 975572 by omega) (show _ ≤ 6174753 by omega) dL_law_42 (fun b0 cA H hK9 hP hD hS => ?_)
  have e9 := cA_eq hK9 0 rfl
  subst e9
  clear hK9
  refine lv_astore (lv' := [(9, .ref b0), (8, .int 0), (7, .int 0), (6, .int 0), (5, .int 0), (4, .int 0), (3, .int (nI n)), (0, .ref b), (1, .ref (ad 12 0)), (2, .int (nI o))]) hx hb dL_law_44 hl (by decide) rfl (fun ls hl => ?_)
  refine lv_iconst (v := 4) hx hb dL_law_46 (by decide) ?_
  refine va_newa (atype := .int) (a0 := (4, .inl (fun _ => 0))) hx hb (hw _ k_84) rfl hK hP hD hS hA (N' := 4) (fun _ => rfl) (by decide) rfl (by decide) (show _ ≤ 975572 by omega) (show _ ≤ 6174753 by omega) dL_law_47 (fun b1 cA H hK9 hP hD hS => ?_)
  have e9 := cA_eq hK9 0 rfl
  subst e9
  clear hK9
  refine lv_astore (lv' := [(10, .ref b1), (9, .ref b0), (8, .int 0), (7, .int 0), (6, .int 0), (5, .int 0), (4, .int 0), (3, .int (nI n)), (0, .ref b), (1, .ref (ad 12 0)), (2, .int (nI o))]) hx hb dL_law_49 hl (by decide) rfl (fun ls hl => ?_)
  refine lv_iconst (v := 4) hx hb dL_law_51 (by decide) ?_
  refine va_newa (atype := .int) (a0 := (4, .inl (fun _ => 0))) hx hb (hw _ k_84) rfl hK hP hD hS hA (N' := 4) (fun _ => rfl) (by decide) rfl (by decide) (show _ ≤ 975572 by omega) (show _ ≤ 6174753 by omega) dL_law_52 (fun b2 cA H hK9 hP hD hS => ?_)
  have e9 := cA_eq hK9 0 rfl
  subst e9
  clear hK9
  refine lv_astore (lv' := [(11, .ref b2), (10, .ref b1), (9, .ref b0), (8, .int 0), (7, .int 0), (6, .int 0), (5, .int 0), (4, .int 0), (3, .int (nI n)), (0, .ref b), (1, .ref (ad 12 0)), (2, .int (nI o))]) hx hb dL_law_54 hl (by decide) rfl (fun ls hl => ?_)
  refine lv_iconst (v := 4) hx hb dL_law_56 (by decide) ?_
  refine va_newa (atype := .int) (a0 := (4, .inl (fun _ => 0))) hx hb (hw _ k_84) rfl hK hP hD hS hA (N' := 4) (fun _ => rfl) (by decide) rfl (by decide) (show _ ≤ 975572 by omega) (show _ ≤ 6174753 by omega) dL_law_57 (fun b3 cA H hK9 hP hD hS => ?_)
  have e9 := cA_eq hK9 0 rfl
  subst e9
  clear hK9
  refine lv_astore (lv' := [(12, .ref b3), (11, .ref b2), (10, .ref b1), (9, .ref b0), (8, .int 0), (7, .int 0), (6, .int 0), (5, .int 0), (4, .int 0), (3, .int (nI n)), (0, .ref b), (1, .ref (ad 12 0)), (2, .int (nI o))]) hx hb dL_law_59 hl (by decide) rfl (fun ls hl => ?_)
  refine lv_bipush (v := 6) hx hb dL_law_61 (by decide) ?_
  refine va_newa (atype := .int) (a0 := (6, .inl (fun _ => 0))) hx hb (hw _ k_84) rfl hK hP hD hS hA (N' := 6) (fun _ => rfl) (by decide) rfl (by decide) (show _ ≤ 975572 by omega) (show _ ≤ 6174753 by omega) dL_law_63 (fun b4 cA H hK9 hP hD hS => ?_)
  have e9 := cA_eq hK9 0 rfl
  subst e9
  clear hK9
  refine lv_astore (lv' := [(13, .ref b4), (12, .ref b3), (11, .ref b2), (10, .ref b1), (9, .ref b0), (8, .int 0), (7, .int 0), (6, .int 0), (5, .int 0), (4, .int 0), (3, .int (nI n)), (0, .ref b), (1, .ref (ad 12 0)), (2, .int (nI o))]) hx hb dL_law_65 hl (by decide) rfl (fun ls hl => ?_)
  refine lv_bipush (v := 6) hx hb dL_law_67 (by decide) ?_
  refine va_newa (atype := .int) (a0 := (6, .inl (fun _ => 0))) hx hb (hw _ k_84) rfl hK hP hD hS hA (N' := 6) (fun _ => rfl) (by decide) rfl (by decide) (show _ ≤ 975572 by omega) (show _ ≤ 6174753 by omega) dL_law_69 (fun b5 cA H hK9 hP hD hS => ?_)
  have e9 := cA_eq hK9 0 rfl
  subst e9
  clear hK9
  refine lv_astore (lv' := [(14, .ref b5), (13, .ref b4), (12, .ref b3), (11, .ref b2), (10, .ref b1), (9, .ref b0), (8, .int 0), (7, .int 0), (6, .int 0), (5, .int 0), (4, .int 0), (3, .int (nI n)), (0, .ref b), (1, .ref (ad 12 0)), (2, .int (nI o))]) hx hb dL_law_71 hl (by decide) rfl (fun ls hl => ?_)
  refine lv_iconst (v := 4) hx hb dL_law_73 (by decide) ?_
  refine va_newa (atype := .int) (a0 := (4, .inl (fun _ => 0))) hx hb (hw _ k_84) rfl hK hP hD hS hA (N' := 4) (fun _ => rfl) (by decide) rfl (by decide) (show _ ≤ 975572 by omega) (show _ ≤ 6174753 by omega) dL_law_74 (fun b6 cA H hK9 hP hD hS => ?_)
  have e9 := cA_eq hK9 0 rfl
  subst e9
  clear hK9
  refine lv_astore (lv' := [(15, .ref b6), (14, .ref b5), (13, .ref b4), (12, .ref b3), (11, .ref b2), (10, .ref b1), (9, .ref b0), (8, .int 0), (7, .int 0), (6, .int 0), (5, .int 0), (4, .int 0), (3, .int (nI n)), (0, .ref b), (1, .ref (ad 12 0)), (2, .int (nI o))]) hx hb dL_law_76 hl (by decide) rfl (fun ls hl => ?_)
  refine lv_iconst (v := 0) hx hb dL_law_78 (by decide) ?_
  refine lv_istore (lv' := [(16, .int 0), (15, .ref b6), (14, .ref b5), (13, .ref b4), (12, .ref b3), (11, .ref b2), (10, .ref b1), (9, .ref b0), (8, .int 0), (7, .int 0), (6, .int 0), (5, .int 0), (4, .int 0), (3, .int (nI n)), (0, .ref b), (1, .ref (ad 12 0)), (2, .int (nI o))]) hx hb dL_law_79 hl (by decide) rfl (fun ls hl => ?_)
  have ew : ((((((((cW cy ad en x) ++ [(b0, .inl (cy 0, 4, .inl (fun _ => 0)))]) ++ [(b1, .inl (cy 0, 4, .inl (fun _ => 0)))]) ++ [(b2, .inl (cy 0, 4, .inl (fun _ => 0)))]) ++ [(b3, .inl (cy 0, 4, .inl (fun _ => 0)))]) ++ [(b4, .inl (cy 0, 6, .inl (fun _ => 0)))]) ++ [(b5, .inl (cy 0, 6, .inl (fun _ => 0)))]) ++ [(b6, .inl (cy 0, 4, .inl (fun _ => 0)))] : va_W) = cW cy ad en x ++ lW cy (fun i => [b0, b1, b2, b3, b4, b5, b6].getD i 0) (fun _ _ => 0) := by simp only [List.append_assoc]; rfl
  rw [ew] at hP hD
  exact kk (fun i => [b0, b1, b2, b3, b4, b5, b6].getD i 0) H locs ls _ _ (by omega) (by omega) hP hD hS (lv_sub hl [0, 14, 15, 16, 13, 12, 11, 10, 9, 8, 7, 6, 5, 4, 3, 2, 1] rfl)
set_option maxHeartbeats 8000000 in
theorem seg_S2 (hC : LX p s m c args b L xs A D cy en g) (hst0 : l.stackTraces = false) (hI : IV k x n d) (hxo : x 0 = oo) (hkc : kc ≤ 400000) (hks : ks ≤ 3000000)
    (kk : ∀ (f : Nat → Nat → Int32) (H : Heap) (locs : List Loc) (ls : Array Slot) (cells slots : Nat), (∀ r, r < 6 → ∀ p, f r p = 0) → AS 4 (oo 2) (fun _ => 1) 6 (f 6) → cells ≤ kc + 12 → slots ≤ ks + 72 → va_P D vwCl (cW cy ad en x ++ lW cy aa f) H → va_D A (cW cy ad en x ++ lW cy aa f) → va_S A s.heap H locs → lv_has ls 27 [(0, .ref b), (1, .ref (ad 12 0)), (2, .int (nI o)), (3, .int (nI n)), (4, .int 0), (5, .int 0), (6, .int 0), (7, .int (sumTo (q2 oo) 6)), (8, .int 0), (9, .ref (aa 0)), (10, .ref (aa 1)), (11, .ref (aa 2)), (12, .ref (aa 3)), (13, .ref (aa 4)), (14, .ref (aa 5)), (15, .ref (aa 6))] → W p l e room_1 s m args below meth c H locs cells slots Q (F0 m 132 ls [])) :
    ∀ i, i ≤ 6 → ∀ (f : Nat → Nat → Int32) (H : Heap) (locs : List Loc) (ls : Array Slot) (cells slots : Nat), (∀ r, r < 6 → ∀ p, f r p = 0) → AS 4 (oo 2) (fun _ => 1) i (f 6) → cells ≤ kc + 2 * i → slots ≤ ks + 12 * i → va_P D vwCl (cW cy ad en x ++ lW cy aa f) H → va_D A (cW cy ad en x ++ lW cy aa f) → va_S A s.heap H locs → lv_has ls 27 [(16, .int (nI i)), (0, .ref b), (1, .ref (ad 12 0)), (2, .int (nI o)), (3, .int (nI n)), (4, .int 0), (5, .int 0), (6, .int 0), (7, .int (sumTo (q2 oo) i)), (8, .int 0), (9, .ref (aa 0)), (10, .ref (aa 1)), (11, .ref (aa 2)), (12, .ref (aa 3)), (13, .ref (aa 4)), (14, .ref (aa 5)), (15, .ref (aa 6))] → W p l e room_1 s m args below meth c H locs cells slots Q (F0 m 81 ls []) := by
  obtain ⟨hx, hb, hml, hown, hw, hK, hN, hST, hSC, hA⟩ := id hC
  refine lp ?_ ?_
  · intro f H locs ls cells slots hz hF hc hs hP hD hS hl
    refine lv_iload hx hb dL_law_81 (lv_at hl 0 rfl) ?_
    refine lv_bipush (v := 6) hx hb dL_law_83 (by decide) ?_
    refine lv_icmp_ge (tgt := 132) hx hb dL_law_85 (by decide) (fun _ => ?_) (fun h => absurd (show (6 : Int32) ≤ nI 6 by decide) h)
    exact kk f H locs ls cells slots hz hF hc hs hP hD hS (lv_sub hl [1, 2, 3, 4, 5, 6, 7, 8, 9, 10, 11, 12, 13, 14, 15, 16] rfl)
  · intro i hi ih f H locs ls cells slots hz hF hc hs hP hD hS hl
    refine lv_iload hx hb dL_law_81 (lv_at hl 0 rfl) ?_
    refine lv_bipush (v := 6) hx hb dL_law_83 (by decide) ?_
    refine lv_icmp_ge (tgt := 132) hx hb dL_law_85 (by decide) (fun h => absurd h (show ¬ (6 : Int32) ≤ nI i from nI_ge hi (by decide))) (fun _ => ?_)
    refine lv_aload_n hx hb dL_law_88 rfl (lv_at hl 2 rfl) ?_
    refine lv_iload hx hb dL_law_89 (lv_at hl 0 rfl) ?_
    refine lv_iconst (v := 0) hx hb dL_law_91 (by decide) ?_
    refine xfT (w1 := cW cy ad en x) (w2 := lW cy aa f) (As := [.int (nI i), .int 0]) (rest := []) hx hb hml hown hw hK hN hA hl.1 hP hD hS hST k_450 k_451 k_452 k_21 k_453 (met_X9_vineyardOf l hst0 D cy _ ad en g x (nI i) 0 0 (oo 2 i) (g_vy0 hxo hi)) (gY (x := x) (r := 0) (f := x 12 0) (by decide) rfl) rfl ⟨rfl, rfl⟩ (n := 2) (by decide +kernel) rfl ⟨Nat.le_of_ble_eq_true rfl, Nat.le_of_ble_eq_true rfl⟩ ⟨show _ ≤ 975572 by omega, show _ ≤ 6174753 by omega⟩ (Nat.le_of_ble_eq_true rfl) rfl dL_law_92 (fun H locs q9 ce9 hne hP hD hS hce hcv hcl => absurd rfl hne) (fun H locs h0 hP hD hS => ?_)
    have hr := hI.1.2.2.2.1 i hi
    rw [hxo] at hr
    refine lv_istore (lv' := [(17, .int (oo 2 i)), (16, .int (nI i)), (0, .ref b), (1, .ref (ad 12 0)), (2, .int (nI o)), (3, .int (nI n)), (4, .int 0), (5, .int 0), (6, .int 0), (7, .int (sumTo (q2 oo) i)), (8, .int 0), (9, .ref (aa 0)), (10, .ref (aa 1)), (11, .ref (aa 2)), (12, .ref (aa 3)), (13, .ref (aa 4)), (14, .ref (aa 5)), (15, .ref (aa 6))]) hx hb dL_law_95 hl (by decide) rfl (fun ls hl => ?_)
    refine lv_iload hx hb dL_law_97 (lv_at hl 9 rfl) ?_
    refine lv_iload hx hb dL_law_99 (lv_at hl 0 rfl) ?_
    refine lv_if_lt (tgt := 108) hx hb dL_law_101 (by decide) (fun h1 => ?_) (fun h2 => ?_)
    · have e9 : oo 2 i = -1 := (neg_m1 hr).mp h1
      refine lv_iconst (v := 0) hx hb dL_law_108 (by decide) ?_
      refine lv_iadd hx hb dL_law_109 ?_
      rw [show ((sumTo (q2 oo) i) + 0) = sumTo (q2 oo) (i + 1) from by rw [sumTo_s]; unfold q2; rw [if_pos e9]]
      refine lv_istore (lv' := [(7, .int (sumTo (q2 oo) (i + 1))), (17, .int (oo 2 i)), (16, .int (nI i)), (0, .ref b), (1, .ref (ad 12 0)), (2, .int (nI o)), (3, .int (nI n)), (4, .int 0), (5, .int 0), (6, .int 0), (8, .int 0), (9, .ref (aa 0)), (10, .ref (aa 1)), (11, .ref (aa 2)), (12, .ref (aa 3)), (13, .ref (aa 4)), (14, .ref (aa 5)), (15, .ref (aa 6))]) hx hb dL_law_110 hl (by decide) rfl (fun ls hl => ?_)
      refine lv_iload hx hb dL_law_112 (lv_at hl 1 rfl) ?_
      refine lv_if_lt (tgt := 126) hx hb dL_law_114 (by decide) (fun _ => ?_) (fun h => absurd h1 h)
      refine lv_iinc (v := nI (i + 1)) (lv' := [(16, .int (nI (i + 1))), (7, .int (sumTo (q2 oo) (i + 1))), (17, .int (oo 2 i)), (0, .ref b), (1, .ref (ad 12 0)), (2, .int (nI o)), (3, .int (nI n)), (4, .int 0), (5, .int 0), (6, .int 0), (8, .int 0), (9, .ref (aa 0)), (10, .ref (aa 1)), (11, .ref (aa 2)), (12, .ref (aa 3)), (13, .ref (aa 4)), (14, .ref (aa 5)), (15, .ref (aa 6))]) hx hb dL_law_126 hl (k := 2) rfl (by rw [nI_succ]; rfl) (by decide) rfl (fun ls hl => ?_)
      refine lv_goto (tgt := 81) hx hb dL_law_129 (by decide) ?_
      exact ih f H locs _ _ _ hz (hF.miss (by decide) e9) (by omega) (by omega) hP hD hS (lv_sub hl [0, 3, 4, 5, 6, 7, 8, 9, 1, 10, 11, 12, 13, 14, 15, 16, 17] rfl)
    · have e9 : ¬ oo 2 i = -1 := fun z => h2 ((neg_m1 hr).mpr z)
      obtain ⟨q, hq, eq⟩ : ∃ q : Nat, q < 4 ∧ oo 2 i = nI q := by
        rcases rng_m (b := 3) hr (by decide) with h | ⟨q, hq, h⟩
        · exact absurd h e9
        · exact ⟨q, by omega, h⟩
      refine lv_iconst (v := 1) hx hb dL_law_104 (by decide) ?_
      refine lv_goto (tgt := 109) hx hb dL_law_105 (by decide) ?_
      refine lv_iadd hx hb dL_law_109 ?_
      rw [show ((sumTo (q2 oo) i) + 1) = sumTo (q2 oo) (i + 1) from by rw [sumTo_s]; unfold q2; rw [if_neg e9]]
      refine lv_istore (lv' := [(7, .int (sumTo (q2 oo) (i + 1))), (17, .int (oo 2 i)), (16, .int (nI i)), (0, .ref b), (1, .ref (ad 12 0)), (2, .int (nI o)), (3, .int (nI n)), (4, .int 0), (5, .int 0), (6, .int 0), (8, .int 0), (9, .ref (aa 0)), (10, .ref (aa 1)), (11, .ref (aa 2)), (12, .ref (aa 3)), (13, .ref (aa 4)), (14, .ref (aa 5)), (15, .ref (aa 6))]) hx hb dL_law_110 hl (by decide) rfl (fun ls hl => ?_)
      refine lv_iload hx hb dL_law_112 (lv_at hl 1 rfl) ?_
      refine lv_if_lt (tgt := 126) hx hb dL_law_114 (by decide) (fun h => absurd h h2) (fun _ => ?_)
      refine lv_aload hx hb dL_law_117 (lv_at hl 17 rfl) ?_
      refine lv_iload hx hb dL_law_119 (lv_at hl 1 rfl) ?_
      rw [eq]
      refine lv_dup2_11 hx hb dL_law_121 rfl rfl ?_
      refine ar_get hx hb hK hP (i := 6) (p9 := q) rfl hq (by decide) dL_law_122 ?_
      refine lv_iconst (v := 1) hx hb dL_law_123 (by decide) ?_
      refine lv_iadd hx hb dL_law_124 ?_
      refine ar_set hx hb hK hP hD hS (i := 6) (p9 := q) rfl rfl hq (by decide) dL_law_125 (fun f9 H locs hU hP hD hS => ?_)
      subst hU
      refine lv_iinc (v := nI (i + 1)) (lv' := [(16, .int (nI (i + 1))), (7, .int (sumTo (q2 oo) (i + 1))), (17, .int (oo 2 i)), (0, .ref b), (1, .ref (ad 12 0)), (2, .int (nI o)), (3, .int (nI n)), (4, .int 0), (5, .int 0), (6, .int 0), (8, .int 0), (9, .ref (aa 0)), (10, .ref (aa 1)), (11, .ref (aa 2)), (12, .ref (aa 3)), (13, .ref (aa 4)), (14, .ref (aa 5)), (15, .ref (aa 6))]) hx hb dL_law_126 hl (k := 2) rfl (by rw [nI_succ]; rfl) (by decide) rfl (fun ls hl => ?_)
      refine lv_goto (tgt := 81) hx hb dL_law_129 (by decide) ?_
      exact ih (va_up f 6 (upd (f 6) q (f 6 q + 1))) H locs _ _ _ (fun r hr => by rw [va_up_ne _ _ (by omega)]; exact hz r hr) (by rw [va_up_self]; exact hF.hit (V := fun _ => 1) (by decide) hq eq) (by omega) (by omega) hP hD hS (lv_sub hl [0, 3, 4, 5, 6, 7, 8, 9, 1, 10, 11, 12, 13, 14, 15, 16, 17] rfl)
end LAWA
