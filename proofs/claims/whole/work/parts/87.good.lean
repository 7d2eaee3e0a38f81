/-! run is good; all calls are -/
theorem emp_q (x : Mem) {q : Nat} (h : q ≠ 12) : D_X8_empty x q = x q := by unfold D_X8_empty; exact xs_ne h
theorem emp_r (x : Mem) {r : Nat} (h : r ≠ 4) : D_X8_empty x 12 r = x 12 r := by unfold D_X8_empty; rw [xs_self, vun _ _ _ h]
theorem emp_1 (x : Mem) : D_X8_empty x 12 4 1 = 0 := by unfold D_X8_empty; rw [xs_self, va_up_self, upd_self]
theorem emp_z (x : Mem) {z : Nat} (h : z ≠ 1) : D_X8_empty x 12 4 z = x 12 4 z := by unfold D_X8_empty; rw [xs_self, va_up_self, upd_ne _ _ h]
theorem g_run : Good_run Inv := by
  intro k x m hk hI
  obtain ⟨⟨⟨n0, d0, hR⟩, hF⟩, ⟨c, nx, h1, h2, h3, h4, h5, h6⟩, hS, hE, ⟨l, l1, l2, l3, l4⟩, hFa, hX⟩ := id hI
  have hP : PJ l (m 2) 0 (va_up x 12 (va_up (x 12) 4 (upd (upd (x 12 4) 2 0) 4 0))) (va_up m 0 (upd (upd (upd (m 0) 11 0) 12 (-1)) 15 0)) := by
    refine ⟨l1, by omega, ?_, ?_, ?_, ?_, ?_, fun i hi => ⟨?_, ?_⟩⟩
    · rw [xs_self, va_up_self, upd_ne _ _ (by omega), upd_ne _ _ (by omega)]; exact l2
    · rw [xs_self, va_up_self, upd_ne _ _ (by omega), upd_self]; rfl
    · rw [va_up_self, upd_ne _ _ (by omega), upd_ne _ _ (by omega), upd_ne _ _ (by omega)]; exact l3
    · rw [va_up_self, upd_ne _ _ (by omega), upd_ne _ _ (by omega), upd_self]; rfl
    · rw [va_up_self, upd_ne _ _ (by omega), upd_self]
    · rw [xs_self, vun _ _ _ (by omega)]; exact l4 i hi
    · rw [vun _ _ _ (by omega)]
  obtain ⟨r, x1, m2, a1, a2, a3, a4, a5⟩ := parse_ok (l := l) (T := m 2) x m m 12 0 0 200 200 _ _ (by omega) (by omega) (by omega) (by omega) hP (by rw [xs_self, va_up_self, upd_self]; rfl) (by rw [va_up_self, upd_self]; rfl) (fun e he => absurd he (Nat.not_lt_zero e))
  have ec : D_X8_read x = some (r, x1) := a1
  have em : D_X10_parse m = some m2 := by
    unfold D_X10_parse
    rw [show (fun o2 => L_X10_parse_19 200 m o2 o2) = (fun o => L_X10_parse_19 200 m m o) from funext fun o => p19_m 200 m o m o]
    exact a2
  have hx : XT x x1 := XT.trans ⟨fun q a => xs_ne a, fun q a _ => by rw [xs_self, vun _ _ _ a], fun z a b => by rw [xs_self, va_up_self, upd_ne _ _ b, upd_ne _ _ a]⟩ a3
  have hm : MTp m m2 := MTp.trans ⟨fun q a _ => vun _ _ _ a, fun z a b c => by rw [va_up_self, upd_ne _ _ c, upd_ne _ _ b, upd_ne _ _ a]⟩ a4
  unfold OK_run D_X9_run D_X10_run
  rw [ec, em]
  simp only [Option.bind_some]
  rcases a5 with ⟨rfl, f1, n, n1, n2, n3, n4, n5⟩ | ⟨g, hg, rfl, f1⟩
  · rw [if_pos rfl, f1, if_pos m1_lt]
    obtain ⟨o9, e9, he9⟩ := ccp (D_X8_empty x1 1) (D_X8_empty x1 0)
    obtain ⟨m3, b0, b1, b2, b3⟩ := begins_eq (va_up m2 0 (upd (m2 0) 10 0))
    rw [e9, b0]
    simp only [Option.bind_some]
    have x00 : D_X8_empty x1 0 = x 0 := by rw [emp_q _ (by omega)]; exact hx.1 0 (by omega)
    rw [x00] at he9
    have m31 : ∀ z, z < 96 → m3 1 z = m 1 z := fun z hz => by rw [b2 z (by omega), va_up_1of0, hm.1 1 (by omega) (by omega)]
    have m30 : ∀ z, z ≠ 10 → m3 0 z = m2 0 z := fun z hz => by rw [b1 0 (by omega), va_up_self, upd_ne _ _ hz]
    have q1 : ∀ q, 2 ≤ q → q ≠ 12 → (va_up (D_X8_empty x1) 1 o9) q = x q := fun q a b => by rw [xs_ne (by omega), emp_q _ b]; exact hx.1 q b
    have q2 : EqO ((va_up (D_X8_empty x1) 1 o9) 1) (x 0) := by rw [xs_self]; exact he9
    have q3 : ∀ r, r ≠ 4 → ¬ (7 ≤ r ∧ r < 31) → (va_up (D_X8_empty x1) 1 o9) 12 r = x 12 r := fun r a b => by rw [xs_ne (by omega), emp_r _ a]; exact hx.2.1 r a b
    have q4 : (va_up (D_X8_empty x1) 1 o9) 12 4 1 = nI 0 := by rw [xs_ne (by omega), emp_1]; rfl
    have q5 : (va_up (D_X8_empty x1) 1 o9) 12 4 4 = nI n := by rw [xs_ne (by omega), emp_z _ (by omega)]; exact n3
    have q6 : ∀ r, 4 ≤ r → m3 r = m r := fun r hr => by rw [b1 r (by omega), vun _ _ _ (by omega), hm.1 r (by omega) (by omega)]
    have q7 : ∀ q, 96 ≤ q → ¬ (960 ≤ q ∧ q < 1056) → m3 1 q = m 1 q := fun q a b => by rw [b2 q b, va_up_1of0, hm.1 1 (by omega) (by omega)]
    have q8 : ∀ j, j < 96 → m3 1 (960 + j) = m 1 j := fun j hj => by rw [b3 j hj, va_up_1of0, hm.1 1 (by omega) (by omega)]
    have q9 : ∀ z, z ≠ 10 → z ≠ 11 → z ≠ 12 → z ≠ 15 → m3 0 z = m 0 z := fun z a b c d => by rw [m30 z a, hm.2 z b c d]
    have q10 : m3 0 10 = nI 0 := by rw [b1 0 (by omega), va_up_self, upd_self]; rfl
    have q11 : m3 0 15 = nI n := by rw [m30 15 (by omega)]; exact n4
    have q12 : ∀ e, e < n → ORD e (va_up (D_X8_empty x1) 1 o9) m3 := fun e he => (n5 e he).same (by rw [xs_ne (by omega), emp_r _ (by omega)]) (by rw [xs_ne (by omega), emp_r _ (by omega)]) (by rw [b1 3 (by omega), vun _ _ _ (by omega)])
    exact run_loop (k := k) (n := n) (c := c) (nx := nx) (x := x) (m := m) hk n1 n2 hR hF h1 h2 h3 h4 h5 h6 hS hE hFa hX q1 q2 q3 q4 q5 q6 q7 q8 q9 q10 q11 q12 x x1 (-1) o9 m m2 m3 n 0 200 200 n0 d0 (va_up (D_X8_empty x1) 1 o9) m3 (by omega) (by omega) (by omega) (fun _ _ => rfl) (by rw [xs_ne (by omega), x00]; exact hR.cg (EqO.refl _) m31) (by rw [xs_ne (by omega), x00]; exact hF.mono (by omega)) (fun _ _ => rfl) (fun _ _ => rfl) (fun _ _ => rfl)
  · have hgl : g < 2 ^ 31 := by omega
    rw [if_neg (nn1 hgl), f1, if_neg (show ¬ nI g < 0 by rw [lt_toInt, toInt_0, nI_toInt hgl]; omega)]
    have m0 : ∀ z, z ≠ 0 → z ≠ 10 → z ≠ 11 → z ≠ 12 → z ≠ 13 → z ≠ 15 → va_up m2 0 (upd (upd (upd (m2 0) 10 0) 13 (nI g)) 0 1) 0 z = m 0 z := fun z a b c d e f => by rw [va_up_self, upd_ne _ _ a, upd_ne _ _ e, upd_ne _ _ b, hm.2 z c d f]
    have mr : ∀ r, r ≠ 0 → r ≠ 3 → va_up m2 0 (upd (upd (upd (m2 0) 10 0) 13 (nI g)) 0 1) r = m r := fun r a b => by rw [vun _ _ _ a, hm.1 r a b]
    have xq : ∀ q, q ≠ 12 → (va_up (D_X8_empty x1) 12 (va_up (D_X8_empty x1 12) 0 (upd (D_X8_empty x1 12 0) 8 (nI g)))) q = x q := fun q a => by rw [xs_ne a, emp_q _ a]; exact hx.1 q a
    have xr : ∀ r, r ≠ 0 → r ≠ 4 → ¬ (7 ≤ r ∧ r < 31) → (va_up (D_X8_empty x1) 12 (va_up (D_X8_empty x1 12) 0 (upd (D_X8_empty x1 12 0) 8 (nI g)))) 12 r = x 12 r := fun r a b c => by rw [xs_self, vun _ _ _ a, emp_r _ b]; exact hx.2.1 r b c
    have x0 : ∀ z, z ≠ 8 → (va_up (D_X8_empty x1) 12 (va_up (D_X8_empty x1 12) 0 (upd (D_X8_empty x1 12 0) 8 (nI g)))) 12 0 z = x 12 0 z := fun z a => by rw [xs_self, va_up_self, upd_ne _ _ a, emp_r _ (by omega), hx.2.1 0 (by omega) (by omega)]
    refine ⟨1, 0, _, 0, _, Or.inr (Or.inl rfl), rfl, rfl, ?_, fun z => absurd z one_ne, Inv.mono (k := k) ⟨?_, IHist.cg (x := x) (m := m) ⟨c, nx, h1, h2, h3, h4, h5, h6⟩ (fun q a b => xq q (by omega)) (by rw [xr 1 (by omega) (by omega) (by omega)]) (by rw [xr 1 (by omega) (by omega) (by omega)]) (m0 2 (by omega) (by omega) (by omega) (by omega) (by omega) (by omega)) (fun z _ _ => by rw [mr 1 (by omega) (by omega)]), ISav.cg hS (xq 3 (by omega)) (x0 4 (by omega)) (m0 3 (by omega) (by omega) (by omega) (by omega) (by omega) (by omega)) (fun z _ _ => by rw [mr 1 (by omega) (by omega)]), hE.cg (xr 3 (by omega) (by omega) (by omega)) (fun j a b => m0 j (by omega) (by omega) (by omega) (by omega) (by omega) (by omega)), ⟨0, by omega, ?_, ?_, fun j hj => absurd hj (Nat.not_lt_zero j)⟩, ?_, hX.cg (xr 31 (by omega) (by omega) (by omega)) (xr 32 (by omega) (by omega) (by omega)) (m0 17 (by omega) (by omega) (by omega) (by omega) (by omega) (by omega)) (mr 4 (by omega) (by omega))⟩ (Nat.le_succ k)⟩
    · show upd (upd (upd (m2 0) 10 0) 13 (nI g)) 0 1 0 = 1
      rw [upd_self]
    · rw [xq 0 (by omega), mr 1 (by omega) (by omega)]
      exact ⟨⟨n0, d0, hR⟩, hF⟩
    · rw [xs_self, vun _ _ _ (by omega), emp_1]; rfl
    · rw [va_up_self, upd_ne _ _ (by omega), upd_ne _ _ (by omega), upd_self]; rfl
    · rw [xs_self, va_up_self, upd_self, va_up_self, upd_ne _ _ (by omega), upd_self]
theorem law_ok : LawOK Inv := ⟨fun k x m _ h => h.mono (Nat.le_succ k), g_cloud, g_vine, g_title, g_sell, g_pledge, g_redeem, g_wind, g_hail, g_dawn, g_cloudOf, g_ownerOf, g_vineyardOf, g_clouds, g_cloudsAgain, g_windTo, g_windToAgain, g_would, g_bestWind, g_recorded, g_coins, g_coinsAgain, g_greatest, g_ranked, g_feed, g_run, g_faultPosition, g_reason, g_line, g_dawnLine, g_character, g_meanSize, g_titledShare, g_account, g_isBalanced, g_undo, g_save, g_restore⟩
