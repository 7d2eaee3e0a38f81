/-! the eight changes that may be refused -/
theorem bind_pair {A B : Type} (v : Option (A × B)) : (v.bind (fun (a, b) => some (a, b))) = v := by
  cases v with
  | none => rfl
  | some p => rfl
theorem co_dawn (o : Nat → Nat → Int32) (p2 p3 p4 : Int32) : D_X4_carryOut o 8 p2 p3 p4 = D_X4_letDawn o := by
  unfold D_X4_carryOut
  rw [if_neg (by decide), if_neg (by decide), if_neg (by decide), if_neg (by decide), if_neg (by decide), if_neg (by decide), if_neg (by decide), if_neg (by decide)]
  exact bind_pair _
theorem ch_r0 {x : Mem} {kd : Nat} {p1 p2 p3 r : Int32} {x' : Mem} (h : D_X9_change x kd p1 p2 p3 = some (1, r, x')) : r = 0 := by
  unfold D_X9_change at h
  obtain ⟨o2, -, h⟩ := bind_some h
  obtain ⟨⟨r4, o5⟩, -, h⟩ := bind_some h
  by_cases hr : r4 = -1
  · simp only [hr, ↓reduceIte, Option.some.injEq, Prod.mk.injEq] at h
    exact h.2.1.symm
  · simp only [hr, ↓reduceIte] at h
    obtain ⟨o9, -, h⟩ := bind_some h
    simp only [Option.some.injEq, Prod.mk.injEq] at h
    exact absurd h.1.symm one_ne
theorem co_cloud (o : Nat → Nat → Int32) (p2 p3 p4 : Int32) : D_X4_carryOut o 0 p2 p3 p4 = D_X4_letCome o p2 p3 p4 := by
  unfold D_X4_carryOut
  rw [if_pos (by decide)]
  exact bind_pair _
theorem g_cloud : Good_cloud Inv := by
  intro k x m hk hI p1 p2 p3
  obtain ⟨code, r, x', bb, m', h1, h2, h3, h4, h5, h6⟩ := change_ok hk hI 0 p1 p2 p3 (fun o => D_X10_comes o p1 p2 p3) (fun B n d m' hR hF hB => by
    rw [co_cloud]
    exact ch_come hR hF p1 p2 p3)
  refine ⟨code, r, x', bb, m', h1, ?_, h3, h4, h5, h6⟩
  unfold D_X9_cloud
  rw [h2]
  rcases h1 with rfl | rfl
  · simp only [Option.bind_some, ↓reduceIte]
  · have hr : r = 0 := ch_r0 h2
    subst hr
    simp only [Option.bind_some, if_neg one_ne]
theorem co_vine (o : Nat → Nat → Int32) (p2 p3 p4 : Int32) : D_X4_carryOut o 1 p2 p3 p4 = D_X4_giveVineyard o p2 p3 := by
  unfold D_X4_carryOut
  rw [if_neg (by decide), if_pos (by decide)]
  exact bind_pair _
theorem g_vine : Good_vine Inv := by
  intro k x m hk hI p1 p2
  obtain ⟨code, r, x', bb, m', h1, h2, h3, h4, h5, h6⟩ := change_ok hk hI 1 p1 p2 0 (fun o => D_X10_belongs o p1 p2) (fun B n d m' hR hF hB => by
    rw [co_vine]
    exact ch_vine hR hF p1 p2)
  refine ⟨code, r, x', bb, m', h1, ?_, h3, h4, h5, h6⟩
  unfold D_X9_vine
  rw [h2]
  rcases h1 with rfl | rfl
  · simp only [Option.bind_some, ↓reduceIte]
  · have hr : r = 0 := ch_r0 h2
    subst hr
    simp only [Option.bind_some, if_neg one_ne]
theorem co_title (o : Nat → Nat → Int32) (p2 p3 p4 : Int32) : D_X4_carryOut o 2 p2 p3 p4 = D_X4_giveTitle o p2 p3 := by
  unfold D_X4_carryOut
  rw [if_neg (by decide), if_neg (by decide), if_pos (by decide)]
  exact bind_pair _
theorem g_title : Good_title Inv := by
  intro k x m hk hI p1 p2
  obtain ⟨code, r, x', bb, m', h1, h2, h3, h4, h5, h6⟩ := change_ok hk hI 2 p1 p2 0 (fun o => D_X10_entitles o p1 p2) (fun B n d m' hR hF hB => by
    rw [co_title]
    exact ch_title hR hF hB p1 p2)
  refine ⟨code, r, x', bb, m', h1, ?_, h3, h4, h5, h6⟩
  unfold D_X9_title
  rw [h2]
  rcases h1 with rfl | rfl
  · simp only [Option.bind_some, ↓reduceIte]
  · have hr : r = 0 := ch_r0 h2
    subst hr
    simp only [Option.bind_some, if_neg one_ne]
theorem co_sell (o : Nat → Nat → Int32) (p2 p3 p4 : Int32) : D_X4_carryOut o 3 p2 p3 p4 = D_X4_sellTo o p2 p3 p4 := by
  unfold D_X4_carryOut
  rw [if_neg (by decide), if_neg (by decide), if_neg (by decide), if_pos (by decide)]
  exact bind_pair _
theorem g_sell : Good_sell Inv := by
  intro k x m hk hI p1 p2 p3
  obtain ⟨code, r, x', bb, m', h1, h2, h3, h4, h5, h6⟩ := change_ok hk hI 3 p1 p2 p3 (fun o => D_X10_sells o p1 p2 p3) (fun B n d m' hR hF hB => by
    rw [co_sell]
    exact ch_sell hR hF hB p1 p2 p3)
  refine ⟨code, r, x', bb, m', h1, ?_, h3, h4, h5, h6⟩
  unfold D_X9_sell
  rw [h2]
  rcases h1 with rfl | rfl
  · simp only [Option.bind_some, ↓reduceIte]
  · have hr : r = 0 := ch_r0 h2
    subst hr
    simp only [Option.bind_some, if_neg one_ne]
theorem co_pledge (o : Nat → Nat → Int32) (p2 p3 p4 : Int32) : D_X4_carryOut o 4 p2 p3 p4 = D_X4_pledgeTo o p2 p3 := by
  unfold D_X4_carryOut
  rw [if_neg (by decide), if_neg (by decide), if_neg (by decide), if_neg (by decide), if_pos (by decide)]
  exact bind_pair _
theorem g_pledge : Good_pledge Inv := by
  intro k x m hk hI p1 p2
  obtain ⟨code, r, x', bb, m', h1, h2, h3, h4, h5, h6⟩ := change_ok hk hI 4 p1 p2 0 (fun o => D_X10_pledges o p1 p2) (fun B n d m' hR hF hB => by
    rw [co_pledge]
    exact ch_pledge hR hF hB p1 p2)
  refine ⟨code, r, x', bb, m', h1, ?_, h3, h4, h5, h6⟩
  unfold D_X9_pledge
  rw [h2]
  rcases h1 with rfl | rfl
  · simp only [Option.bind_some, ↓reduceIte]
  · have hr : r = 0 := ch_r0 h2
    subst hr
    simp only [Option.bind_some, if_neg one_ne]
theorem co_redeem (o : Nat → Nat → Int32) (p2 p3 p4 : Int32) : D_X4_carryOut o 5 p2 p3 p4 = D_X4_redeemPledge o p2 := by
  unfold D_X4_carryOut
  rw [if_neg (by decide), if_neg (by decide), if_neg (by decide), if_neg (by decide), if_neg (by decide), if_pos (by decide)]
  exact bind_pair _
theorem g_redeem : Good_redeem Inv := by
  intro k x m hk hI p1
  obtain ⟨code, r, x', bb, m', h1, h2, h3, h4, h5, h6⟩ := change_ok hk hI 5 p1 0 0 (fun o => D_X10_redeems o p1) (fun B n d m' hR hF hB => by
    rw [co_redeem]
    exact ch_redeem hR hF hB p1)
  refine ⟨code, r, x', bb, m', h1, ?_, h3, h4, h5, h6⟩
  unfold D_X9_redeem
  rw [h2]
  rcases h1 with rfl | rfl
  · simp only [Option.bind_some, ↓reduceIte]
  · have hr : r = 0 := ch_r0 h2
    subst hr
    simp only [Option.bind_some, if_neg one_ne]
theorem co_wind (o : Nat → Nat → Int32) (p2 p3 p4 : Int32) : D_X4_carryOut o 6 p2 p3 p4 = D_X4_blow o p2 := by
  unfold D_X4_carryOut
  rw [if_neg (by decide), if_neg (by decide), if_neg (by decide), if_neg (by decide), if_neg (by decide), if_neg (by decide), if_pos (by decide)]
  exact bind_pair _
theorem g_wind : Good_wind Inv := by
  intro k x m hk hI p1
  obtain ⟨code, r, x', bb, m', h1, h2, h3, h4, h5, h6⟩ := change_ok hk hI 6 p1 0 0 (fun o => D_X10_blows o p1) (fun B n d m' hR hF hB => by
    rw [co_wind]
    exact ch_wind hR hF p1)
  refine ⟨code, r, x', bb, m', h1, ?_, h3, h4, h5, h6⟩
  unfold D_X9_wind
  rw [h2]
  rcases h1 with rfl | rfl
  · simp only [Option.bind_some, ↓reduceIte]
  · have hr : r = 0 := ch_r0 h2
    subst hr
    simp only [Option.bind_some, if_neg one_ne]
theorem co_hail (o : Nat → Nat → Int32) (p2 p3 p4 : Int32) : D_X4_carryOut o 7 p2 p3 p4 = D_X4_hailDown o p2 := by
  unfold D_X4_carryOut
  rw [if_neg (by decide), if_neg (by decide), if_neg (by decide), if_neg (by decide), if_neg (by decide), if_neg (by decide), if_neg (by decide), if_pos (by decide)]
  exact bind_pair _
theorem g_hail : Good_hail Inv := by
  intro k x m hk hI p1
  obtain ⟨code, r, x', bb, m', h1, h2, h3, h4, h5, h6⟩ := change_ok hk hI 7 p1 0 0 (fun o => D_X10_hails o p1) (fun B n d m' hR hF hB => by
    rw [co_hail]
    exact ch_hail hR hF p1)
  refine ⟨code, r, x', bb, m', h1, ?_, h3, h4, h5, h6⟩
  unfold D_X9_hail
  rw [h2]
  rcases h1 with rfl | rfl
  · simp only [Option.bind_some, ↓reduceIte]
  · have hr : r = 0 := ch_r0 h2
    subst hr
    simp only [Option.bind_some, if_neg one_ne]
