abbrev rm_X9_copyNumbers : Room := { frames := 1, cells := 0, slots := 0, locals := 60 }
set_option maxHeartbeats 4000000 in
set_option maxRecDepth 100000 in
theorem met_X9_copyNumbers (l : Launch) (D : va_G) (cy : Nat → ClassId) (sz : Nat) (ws : va_W) (q1 q2 a1 a2 n : Nat) (f1 f2 : Nat → Int32) (h1 : ws[q1]? = some (a1, .inl (cy 0, n, .inl f1))) (h2 : ws[q2]? = some (a2, .inl (cy 0, n, .inl f2))) (hn : n ≤ 1000) : MV l yX9_copyNumbers cX9_copyNumbers 2 rm_X9_copyNumbers D cy ws sz (fun _ => True) [.ref a1, .ref a2] (ws.set q2 (a2, .inl (cy 0, n, .inl (va_cpy f1 f2 0 0 n)))) := by
  refine MV.of (by decide +kernel) (Nat.le_of_ble_eq_true rfl) ?_
  intro p e s m args below meth c A ls Q hAt _ hP hD hA hS hl hret
  obtain ⟨hx, hb, hr, hml, hown, hw, hlk, hK, hN⟩ := hAt
  have hown : s.vm.findClass "CloudDeeds" = some m.cls := hown
  have hl : lv_has ls 2 [(0, .ref a1), (1, .ref a2)] := hl
  have hn31 : n < 2 ^ 31 := by omega
  refine lv_aload_n hx hb dX9_copyNumbers_0 rfl (lv_at hl 0 rfl) ?_
  refine lv_iconst (v := 0) hx hb dX9_copyNumbers_1 (by decide) ?_
  refine lv_aload_n hx hb dX9_copyNumbers_2 rfl (lv_at hl 1 rfl) ?_
  refine lv_iconst (v := 0) hx hb dX9_copyNumbers_3 (by decide) ?_
  refine lv_aload_n hx hb dX9_copyNumbers_4 rfl (lv_at hl 0 rfl) ?_
  refine va_alen (v := nI n) hx hb hK hP _ 0 h1 rfl rfl dX9_copyNumbers_5 ?_
  refine lv_aload_n hx hb dX9_copyNumbers_6 rfl (lv_at hl 1 rfl) ?_
  refine va_alen (v := nI n) hx hb hK hP _ 0 h2 rfl rfl dX9_copyNumbers_7 ?_
  refine va_mmin hx hb (hml.trans hl.1.symm) hown (hw _ k_525) (hw _ k_526) (hw _ k_35) (hw _ k_527) (Nat.le_of_ble_eq_true rfl) (Nat.le_of_ble_eq_true rfl) (Nat.zero_le _) (Nat.zero_le _) dX9_copyNumbers_8 ?_
  have e1 : (if nI n < nI n then nI n else nI n) = nI n := by split <;> rfl
  rw [e1]
  have e2 : (nI n).toNatClampNeg = n := nI_clamp hn31
  refine va_copyi (sp := 0) (dp := 0) (n := nI n) hx hb (hml.trans hl.1.symm) hown (hw _ k_528) (hw _ k_530) (hw _ k_529) (hw _ k_36) hK hP hD hS _ _ 0 0 h1 h2 rfl rfl rfl (by decide) (by decide) (nI_pos hn31) (by rw [e2]; exact Nat.le_of_eq (Nat.zero_add n)) (by rw [e2]; exact Nat.le_of_eq (Nat.zero_add n)) (fun i _ => rfl) (Nat.le_of_ble_eq_true rfl) (Nat.le_of_ble_eq_true rfl) dX9_copyNumbers_11 (fun H locs hP hD hS => ?_)
  refine hret _ _ _ _ _ hP hD hS ?_ dX9_copyNumbers_14
  rw [e2]
  rfl
