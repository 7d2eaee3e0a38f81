/-! the law's entry -/
theorem ilv {α : Type} (f g : Nat → α) : ∀ (l : List Nat), (l.flatMap (fun j => [f j, g j])).Perm (l.map f ++ l.map g)
  | [] => List.Perm.refl _
  | j :: l => by
    have h := ilv f g l
    refine List.Perm.cons (f j) ?_
    exact (List.Perm.cons (g j) h).trans List.perm_middle.symm
theorem px {α : Type} (O B T : List α) (a h k r t : α) : (a :: (O ++ (h :: (k :: (B ++ (r :: (t :: T))))))).Perm (O ++ (B ++ (a :: h :: k :: r :: t :: T))) := by
  refine List.perm_middle.symm.trans ?_
  refine List.Perm.append_left O ?_
  exact List.perm_append_comm_assoc [a, h, k] B (r :: t :: T)
/-- all addresses of the class's objects -/
def adX (o0 o1 o2 o3 : Nat → Nat) (bb : Nat → Nat → Nat) (a hb kb rb tb sb ob : Nat) (o n : Nat → Nat) (xb vb : Nat) (k r : Nat) : Nat :=
  if k = 0 then o0 r else if k = 1 then o1 r else if k = 2 then o2 r else if k = 3 then o3 r else if k < 12 then bb (k - 4) r else
  if r = 0 then a else if r = 1 then hb else if r = 2 then kb else if r = 3 then rb else if r = 4 then tb else if r = 5 then sb else if r = 6 then ob else if r < 19 then o (r - 7) else if r < 31 then n (r - 19) else if r = 31 then xb else vb
set_option maxRecDepth 100000 in
theorem rng189 {α : Type} (f : Nat → α) : (List.range 189).map f = (List.range 13).map (fun r => f (0 + r)) ++ ((List.range 13).map (fun r => f (13 + r)) ++ ((List.range 13).map (fun r => f (26 + r)) ++ ((List.range 13).map (fun r => f (39 + r)) ++ ((List.range 13).map (fun r => f (52 + r)) ++ ((List.range 13).map (fun r => f (65 + r)) ++ ((List.range 13).map (fun r => f (78 + r)) ++ ((List.range 13).map (fun r => f (91 + r)) ++ ((List.range 13).map (fun r => f (104 + r)) ++ ((List.range 13).map (fun r => f (117 + r)) ++ ((List.range 13).map (fun r => f (130 + r)) ++ ((List.range 13).map (fun r => f (143 + r)) ++ ((List.range 33).map (fun r => f (156 + r)))))))))))))) := rfl
abbrev va_E_x (en : Nat → Nat) (o0 o1 o2 o3 : Nat → Nat) (hb rb tb xb : Nat) : va_E := .inr (11, [.ref (o0 0), .ref (o1 0), .ref (o2 0), .ref (o3 0), .int 0, .ref hb, .ref rb, .ref tb, .int (-1), .ref xb])
section MK
variable {cy : Nat → ClassId} {en : Nat → Nat} {o0 o1 o2 o3 : Nat → Nat} {bb : Nat → Nat → Nat} {a hb kb rb tb sb ob : Nat} {o n : Nat → Nat} {xb vb : Nat}
theorem of_0 : (List.range 13).map (fun r => cellAt cy (adX o0 o1 o2 o3 bb a hb kb rb tb sb ob o n xb vb) en zX (0 + r)) = ofull cy o0 := rfl
theorem of_1 : (List.range 13).map (fun r => cellAt cy (adX o0 o1 o2 o3 bb a hb kb rb tb sb ob o n xb vb) en zX (13 + r)) = ofull cy o1 := rfl
theorem of_2 : (List.range 13).map (fun r => cellAt cy (adX o0 o1 o2 o3 bb a hb kb rb tb sb ob o n xb vb) en zX (26 + r)) = ofull cy o2 := rfl
theorem of_3 : (List.range 13).map (fun r => cellAt cy (adX o0 o1 o2 o3 bb a hb kb rb tb sb ob o n xb vb) en zX (39 + r)) = ofull cy o3 := rfl
theorem of_4 : (List.range 13).map (fun r => cellAt cy (adX o0 o1 o2 o3 bb a hb kb rb tb sb ob o n xb vb) en zX (52 + r)) = ofull cy (bb 0) := rfl
theorem of_5 : (List.range 13).map (fun r => cellAt cy (adX o0 o1 o2 o3 bb a hb kb rb tb sb ob o n xb vb) en zX (65 + r)) = ofull cy (bb 1) := rfl
theorem of_6 : (List.range 13).map (fun r => cellAt cy (adX o0 o1 o2 o3 bb a hb kb rb tb sb ob o n xb vb) en zX (78 + r)) = ofull cy (bb 2) := rfl
theorem of_7 : (List.range 13).map (fun r => cellAt cy (adX o0 o1 o2 o3 bb a hb kb rb tb sb ob o n xb vb) en zX (91 + r)) = ofull cy (bb 3) := rfl
theorem of_8 : (List.range 13).map (fun r => cellAt cy (adX o0 o1 o2 o3 bb a hb kb rb tb sb ob o n xb vb) en zX (104 + r)) = ofull cy (bb 4) := rfl
theorem of_9 : (List.range 13).map (fun r => cellAt cy (adX o0 o1 o2 o3 bb a hb kb rb tb sb ob o n xb vb) en zX (117 + r)) = ofull cy (bb 5) := rfl
theorem of_10 : (List.range 13).map (fun r => cellAt cy (adX o0 o1 o2 o3 bb a hb kb rb tb sb ob o n xb vb) en zX (130 + r)) = ofull cy (bb 6) := rfl
theorem of_11 : (List.range 13).map (fun r => cellAt cy (adX o0 o1 o2 o3 bb a hb kb rb tb sb ob o n xb vb) en zX (143 + r)) = ofull cy (bb 7) := rfl
def r33 (cy : Nat → ClassId) (en : Nat → Nat) (o0 o1 o2 o3 : Nat → Nat) (bb : Nat → Nat → Nat) (a hb kb rb tb sb ob : Nat) (o n : Nat → Nat) (xb vb : Nat) : va_W := [(a, .inr (11, [.ref (o0 0), .ref (o1 0), .ref (o2 0), .ref (o3 0), .int 0, .ref hb, .ref rb, .ref tb, .int (-1), .ref xb])), (hb, .inr (5, [.ref kb, .int 0, .int 0])), (kb, .inl (cy 4, 8, .inr (.inr (.inr (.inr (fun j => some (bb j 0))))))), (rb, .inr (8, [.int 0, .int 0, .int 0, .int 0])), (tb, .inr (10, [.ref sb, .int 0, .int 0, .ref ob, .int 0])), (sb, .inl (cy 1, 60, .inl (fun _ => 0))), (ob, .inl (cy 5, 12, .inr (.inr (.inr (.inr (fun j => some (o j))))))), (o 0, .inr (7, [.ref (en 8), .ref (n 0), .int 0])), (o 1, .inr (7, [.ref (en 8), .ref (n 1), .int 0])), (o 2, .inr (7, [.ref (en 8), .ref (n 2), .int 0])), (o 3, .inr (7, [.ref (en 8), .ref (n 3), .int 0])), (o 4, .inr (7, [.ref (en 8), .ref (n 4), .int 0])), (o 5, .inr (7, [.ref (en 8), .ref (n 5), .int 0])), (o 6, .inr (7, [.ref (en 8), .ref (n 6), .int 0])), (o 7, .inr (7, [.ref (en 8), .ref (n 7), .int 0])), (o 8, .inr (7, [.ref (en 8), .ref (n 8), .int 0])), (o 9, .inr (7, [.ref (en 8), .ref (n 9), .int 0])), (o 10, .inr (7, [.ref (en 8), .ref (n 10), .int 0])), (o 11, .inr (7, [.ref (en 8), .ref (n 11), .int 0])), (n 0, .inl (cy 0, 3, .inl (fun _ => 0))), (n 1, .inl (cy 0, 3, .inl (fun _ => 0))), (n 2, .inl (cy 0, 3, .inl (fun _ => 0))), (n 3, .inl (cy 0, 3, .inl (fun _ => 0))), (n 4, .inl (cy 0, 3, .inl (fun _ => 0))), (n 5, .inl (cy 0, 3, .inl (fun _ => 0))), (n 6, .inl (cy 0, 3, .inl (fun _ => 0))), (n 7, .inl (cy 0, 3, .inl (fun _ => 0))), (n 8, .inl (cy 0, 3, .inl (fun _ => 0))), (n 9, .inl (cy 0, 3, .inl (fun _ => 0))), (n 10, .inl (cy 0, 3, .inl (fun _ => 0))), (n 11, .inl (cy 0, 3, .inl (fun _ => 0))), (xb, .inr (1, [.ref vb, .int 0, .int 0, .int 0])), (vb, .inl (cy 2, 16, .inl (fun _ => 0)))]
/-- the references' arrays hold what their cells say, in their lengths -/
theorem kept_eq {D : va_G} {cl : List vw_C} {H : Heap} (h : va_at D cl (kb, .inl (cy 4, 8, .inr (.inr (.inr (.inr (fun j => some (bb j 0))))))) H) : va_at D cl (cellAt cy (adX o0 o1 o2 o3 bb a hb kb rb tb sb ob o n xb vb) en zX 158) H := atR (f := fun j => some (bb j 0)) (g := fun j => some ((adX o0 o1 o2 o3 bb a hb kb rb tb sb ob o n xb vb) (j + 4) 0)) (fun j hj => by
  show some (bb j 0) = some ((adX o0 o1 o2 o3 bb a hb kb rb tb sb ob o n xb vb) (j + 4) 0)
  unfold adX
  rw [if_neg (by omega), if_neg (by omega), if_neg (by omega), if_neg (by omega), if_pos (by omega), Nat.add_sub_cancel]) h
theorem ords_eq {D : va_G} {cl : List vw_C} {H : Heap} (h : va_at D cl (ob, .inl (cy 5, 12, .inr (.inr (.inr (.inr (fun j => some (o j))))))) H) : va_at D cl (cellAt cy (adX o0 o1 o2 o3 bb a hb kb rb tb sb ob o n xb vb) en zX 162) H := atR (f := fun j => some (o j)) (g := fun j => some ((adX o0 o1 o2 o3 bb a hb kb rb tb sb ob o n xb vb) 12 (j + 7))) (fun j hj => by
  show some (o j) = some ((adX o0 o1 o2 o3 bb a hb kb rb tb sb ob o n xb vb) 12 (j + 7))
  unfold adX
  rw [if_neg (by omega), if_neg (by omega), if_neg (by omega), if_neg (by omega), if_neg (by omega), if_neg (by omega), if_neg (by omega), if_neg (by omega), if_neg (by omega), if_neg (by omega), if_neg (by omega), if_neg (by omega), if_pos (by omega), Nat.add_sub_cancel]) h
theorem r33_len : (r33 cy en o0 o1 o2 o3 bb a hb kb rb tb sb ob o n xb vb).length = 33 := rfl
theorem rest_P {D : va_G} {cl : List vw_C} {H : Heap} (h : va_P D cl (r33 cy en o0 o1 o2 o3 bb a hb kb rb tb sb ob o n xb vb) H) : va_P D cl ((List.range 33).map (fun r => cellAt cy (adX o0 o1 o2 o3 bb a hb kb rb tb sb ob o n xb vb) en zX (156 + r))) H := by
  intro k q hq
  have hk : k < 33 := by
    have := (List.getElem?_eq_some_iff.mp hq).1
    rw [List.length_map, List.length_range] at this
    exact this
  rcases (show k = 0 ∨ k = 1 ∨ k = 2 ∨ k = 3 ∨ k = 4 ∨ k = 5 ∨ k = 6 ∨ k = 7 ∨ k = 8 ∨ k = 9 ∨ k = 10 ∨ k = 11 ∨ k = 12 ∨ k = 13 ∨ k = 14 ∨ k = 15 ∨ k = 16 ∨ k = 17 ∨ k = 18 ∨ k = 19 ∨ k = 20 ∨ k = 21 ∨ k = 22 ∨ k = 23 ∨ k = 24 ∨ k = 25 ∨ k = 26 ∨ k = 27 ∨ k = 28 ∨ k = 29 ∨ k = 30 ∨ k = 31 ∨ k = 32 by omega) with rfl | rfl | rfl | rfl | rfl | rfl | rfl | rfl | rfl | rfl | rfl | rfl | rfl | rfl | rfl | rfl | rfl | rfl | rfl | rfl | rfl | rfl | rfl | rfl | rfl | rfl | rfl | rfl | rfl | rfl | rfl | rfl | rfl
  · cases hq; exact h 0 _ rfl
  · cases hq; exact h 1 _ rfl
  · cases hq; exact kept_eq (h 2 _ rfl)
  · cases hq; exact h 3 _ rfl
  · cases hq; exact h 4 _ rfl
  · cases hq; exact h 5 _ rfl
  · cases hq; exact ords_eq (h 6 _ rfl)
  · cases hq; exact h 7 _ rfl
  · cases hq; exact h 8 _ rfl
  · cases hq; exact h 9 _ rfl
  · cases hq; exact h 10 _ rfl
  · cases hq; exact h 11 _ rfl
  · cases hq; exact h 12 _ rfl
  · cases hq; exact h 13 _ rfl
  · cases hq; exact h 14 _ rfl
  · cases hq; exact h 15 _ rfl
  · cases hq; exact h 16 _ rfl
  · cases hq; exact h 17 _ rfl
  · cases hq; exact h 18 _ rfl
  · cases hq; exact h 19 _ rfl
  · cases hq; exact h 20 _ rfl
  · cases hq; exact h 21 _ rfl
  · cases hq; exact h 22 _ rfl
  · cases hq; exact h 23 _ rfl
  · cases hq; exact h 24 _ rfl
  · cases hq; exact h 25 _ rfl
  · cases hq; exact h 26 _ rfl
  · cases hq; exact h 27 _ rfl
  · cases hq; exact h 28 _ rfl
  · cases hq; exact h 29 _ rfl
  · cases hq; exact h 30 _ rfl
  · cases hq; exact h 31 _ rfl
  · cases hq; exact h 32 _ rfl
theorem rest_ad : ((List.range 33).map (fun r => cellAt cy (adX o0 o1 o2 o3 bb a hb kb rb tb sb ob o n xb vb) en zX (156 + r))).map Prod.fst = (r33 cy en o0 o1 o2 o3 bb a hb kb rb tb sb ob o n xb vb).map Prod.fst := rfl
theorem mk_perm : ((a, va_E_x en o0 o1 o2 o3 hb rb tb xb) :: xseg cy en o0 o1 o2 o3 hb kb bb rb tb sb ob o n xb vb).Perm ((ofull cy o0 ++ (ofull cy o1 ++ (ofull cy o2 ++ (ofull cy o3)))) ++ ((ofull cy (bb 0) ++ (ofull cy (bb 1) ++ (ofull cy (bb 2) ++ (ofull cy (bb 3) ++ (ofull cy (bb 4) ++ (ofull cy (bb 5) ++ (ofull cy (bb 6) ++ (ofull cy (bb 7))))))))) ++ r33 cy en o0 o1 o2 o3 bb a hb kb rb tb sb ob o n xb vb)) := by
  have e1 : ((a, va_E_x en o0 o1 o2 o3 hb rb tb xb) :: xseg cy en o0 o1 o2 o3 hb kb bb rb tb sb ob o n xb vb) = (a, va_E_x en o0 o1 o2 o3 hb rb tb xb) :: ((ofull cy o0 ++ (ofull cy o1 ++ (ofull cy o2 ++ (ofull cy o3)))) ++ ((hb, .inr (5, [.ref kb, .int 0, .int 0])) :: ((kb, .inl (cy 4, 8, .inr (.inr (.inr (.inr (fun j => some (bb j 0))))))) :: ((ofull cy (bb 0) ++ (ofull cy (bb 1) ++ (ofull cy (bb 2) ++ (ofull cy (bb 3) ++ (ofull cy (bb 4) ++ (ofull cy (bb 5) ++ (ofull cy (bb 6) ++ (ofull cy (bb 7))))))))) ++ ((rb, .inr (8, [.int 0, .int 0, .int 0, .int 0])) :: ((tb, .inr (10, [.ref sb, .int 0, .int 0, .ref ob, .int 0])) :: (tseg cy en sb ob o n ++ [(xb, .inr (1, [.ref vb, .int 0, .int 0, .int 0])), (vb, .inl (cy 2, 16, .inl (fun _ => 0)))]))))))) := by
    unfold xseg hseg
    simp only [List.append_assoc, List.cons_append, List.nil_append]
  rw [e1]
  refine (px (ofull cy o0 ++ (ofull cy o1 ++ (ofull cy o2 ++ (ofull cy o3)))) (ofull cy (bb 0) ++ (ofull cy (bb 1) ++ (ofull cy (bb 2) ++ (ofull cy (bb 3) ++ (ofull cy (bb 4) ++ (ofull cy (bb 5) ++ (ofull cy (bb 6) ++ (ofull cy (bb 7))))))))) _ _ _ _ _ _).trans ?_
  refine List.Perm.append_left _ (List.Perm.append_left _ ?_)
  refine List.Perm.cons _ (List.Perm.cons _ (List.Perm.cons _ (List.Perm.cons _ (List.Perm.cons _ ?_))))
  refine List.Perm.cons _ (List.Perm.cons _ ?_)
  exact List.Perm.append_right [(xb, .inr (1, [.ref vb, .int 0, .int 0, .int 0])), (vb, .inl (cy 2, 16, .inl (fun _ => 0)))] (ilv (fun j => ((o j, .inr (7, [.ref (en 8), .ref (n j), .int 0])) : Nat × va_E)) (fun j => (n j, .inl (cy 0, 3, .inl (fun _ => 0)))) (List.range 12))
theorem mk_P {D : va_G} {H : Heap} (hP : va_P D vwCl ((a, va_E_x en o0 o1 o2 o3 hb rb tb xb) :: xseg cy en o0 o1 o2 o3 hb kb bb rb tb sb ob o n xb vb) H) : va_P D vwCl (cW cy (adX o0 o1 o2 o3 bb a hb kb rb tb sb ob o n xb vb) en zX) H := by
  have h := pm_P mk_perm hP
  unfold cW
  rw [rng189, of_0, of_1, of_2, of_3, of_4, of_5, of_6, of_7, of_8, of_9, of_10, of_11]
  have h2 := fr_r (fr_r h)
  have h3 := fr_l h
  have h4 := fr_l (fr_r h)
  have h5 := h3.app (h4.app (rest_P h2))
  simp only [List.append_assoc] at h5
  exact h5
theorem mk_D {A : Nat → Prop} (hD : va_D A ((a, va_E_x en o0 o1 o2 o3 hb rb tb xb) :: xseg cy en o0 o1 o2 o3 hb kb bb rb tb sb ob o n xb vb)) : va_D A (cW cy (adX o0 o1 o2 o3 bb a hb kb rb tb sb ob o n xb vb) en zX) := by
  have h := pm_D mk_perm hD
  have h1 := D_nodup h
  have e : (cW cy (adX o0 o1 o2 o3 bb a hb kb rb tb sb ob o n xb vb) en zX).map Prod.fst = ((ofull cy o0 ++ (ofull cy o1 ++ (ofull cy o2 ++ (ofull cy o3)))) ++ ((ofull cy (bb 0) ++ (ofull cy (bb 1) ++ (ofull cy (bb 2) ++ (ofull cy (bb 3) ++ (ofull cy (bb 4) ++ (ofull cy (bb 5) ++ (ofull cy (bb 6) ++ (ofull cy (bb 7))))))))) ++ r33 cy en o0 o1 o2 o3 bb a hb kb rb tb sb ob o n xb vb)).map Prod.fst := by
    unfold cW
    rw [rng189, of_0, of_1, of_2, of_3, of_4, of_5, of_6, of_7, of_8, of_9, of_10, of_11]
    simp only [List.map_append, rest_ad, List.append_assoc]
  refine D_of (by rw [e]; exact h1) (fun x hx => ?_)
  have hm : x.1 ∈ (cW cy (adX o0 o1 o2 o3 bb a hb kb rb tb sb ob o n xb vb) en zX).map Prod.fst := List.mem_map.mpr ⟨x, hx, rfl⟩
  rw [e] at hm
  obtain ⟨y, hy, hxy⟩ := List.mem_map.mp hm
  obtain ⟨i, hi⟩ := List.getElem?_of_mem hy
  rw [← hxy]
  exact h.2 i y hi
end MK
theorem inv_0 : INV 0 zX := by
  refine ⟨0, 0, ⟨by decide, rfl, fun i h => absurd h (by omega), fun v hv => ?_, ⟨fun _ => 20, fun p hp => ?_, by decide⟩, ?_, by decide, rfl, ⟨0, Nat.le_refl 0, rfl, rfl⟩, fun e he => absurd he (by omega)⟩, ⟨0, 0, by decide, by decide, rfl, rfl⟩, ⟨0, by decide, rfl, rfl⟩⟩
  · exact rng_m1 (by omega)
  · rfl
  · unfold RBa
    decide
set_option maxHeartbeats 4000000 in
/-- from the entry to the end -/
theorem whole_at {p : Program} {e : Env} {s : State} {m : MethodId} {below : List Frame} {meth : Method} {c : Code} (l : Launch) (hflags : l.flags = flags0) {b L : Nat} {xs : Nat → Int32} (hL : L ≤ 260) (C0 : lw_At p s m meth c b L xs) : W p l e room_1 s m #[Value.ref b] below meth c s.heap [] 0 0 (lw_Z below #[Value.ref b] s) (entryFrame m ([Value.ref b] : List Value).toArray 27) := by
  obtain ⟨hx, hb, hr, hml, hown, hts, hX, hbl, hlk, hgv⟩ := C0
  have hst0 : l.stackTraces = false := by
    unfold Launch.stackTraces
    rw [hflags]
    decide +kernel
  have hown : s.vm.findClass "CloudDeedsLaw" = some m.cls := hown
  have hb : c.code = cL_law := hb
  have hw : ∀ w ∈ WA, w.before #[Value.ref b] s = true := by
    intro w h
    rcases List.mem_cons.mp (List.mem_filter.mp h).1 with rfl | h
    · exact sel_priv (x0 := ⟨"java/lang/AbstractStringBuilder", "isLatin1", "()Z"⟩) (hts _ (List.mem_of_getElem? (i := 719) (by decide +kernel))) (hts _ (List.mem_of_getElem? (i := 686) (by decide +kernel))) (hts _ (List.mem_of_getElem? (i := 687) (by decide +kernel))) rfl (by decide)
    · rcases List.mem_cons.mp h with rfl | h
      · exact sel_priv (x0 := ⟨"java/lang/AbstractStringBuilder", "isLatin1", "()Z"⟩) (hts _ (List.mem_of_getElem? (i := 719) (by decide +kernel))) (hts _ (List.mem_of_getElem? (i := 1213) (by decide +kernel))) (hts _ (List.mem_of_getElem? (i := 1214) (by decide +kernel))) rfl (by decide)
      · rcases List.mem_cons.mp h with rfl | h
        · exact sel_priv (x0 := ⟨"java/lang/AbstractStringBuilder", "isLatin1", "()Z"⟩) (hts _ (List.mem_of_getElem? (i := 719) (by decide +kernel))) (hts _ (List.mem_of_getElem? (i := 1217) (by decide +kernel))) (hts _ (List.mem_of_getElem? (i := 1218) (by decide +kernel))) rfl (by decide)
        · exact hts w h
  have hN : NW s := fun w h => by
    have h1 := hts w (nwL_in w h)
    have h2 := nwL_nest w h
    cases w <;> first | exact va_tabs rfl rfl h1 | (rename_i t9; cases t9 <;> first | exact va_AO.of h1 | exact absurd h2 (by simp [isNest])) | exact absurd h2 (by simp [isNest])
  obtain ⟨D, cy, hK⟩ := start_K hw hN
  obtain ⟨en, g, hST⟩ := start_ST hts hgv
  have hA : ∀ q : Nat, s.heap.size ≤ q → (fun q => s.heap.size ≤ q) q := fun q h => h
  generalize hAq : (fun q : Nat => s.heap.size ≤ q) = A at hST hA
  have hbA : ¬ A b := by rw [← hAq]; exact Nat.not_le.mpr hbl
  have hAl : ∀ q, A q → s.heap.size ≤ q := by intro q h; rw [← hAq] at h; exact h
  have hSC : SC b L xs A s s.heap := ⟨hX, hbl, hbA⟩
  refine W.base ?_
  show W p l e room_1 s m #[Value.ref b] below meth c s.heap [] 0 0 (lw_Z below #[Value.ref b] s) (entryFrame m ([Value.ref b] : List Value).toArray 27)
  have hl := lv_entry ([.ref b]) (n := 27) (Nat.le_of_ble_eq_true rfl)
  rw [lg_entry_eq]
  have hP : va_P D vwCl [] s.heap := fun k q h => (by simp at h)
  have hD : va_D A [] := ⟨fun i j p q h => (by simp at h), fun k q h => (by simp at h)⟩
  have hS : va_S A s.heap s.heap [] := va_S.rf
  generalize (lg_sl ([.ref b]) ++ List.replicate (27 - (lg_sl ([.ref b])).length) Slot.unset).toArray = ls at hl ⊢
  have hl : lv_has ls 27 [(0, .ref b)] := hl
  refine va_new hx hb hw inWX9 tyX9 tyX9_ok hown (hw _ k_52) (hw _ k_53) (hw _ k_21) hK hP hD hS hA (ci := 11) rfl df_X9 (Nat.le_of_ble_eq_true rfl) (Nat.le_of_ble_eq_true rfl) dL_law_0 (fun a H hP hD hS => ?_)
  refine lv_dup hx hb dL_law_3 rfl ?_
  refine cI_k (As := []) (rest := [.ref a]) hx hb hml hown hw hK hN hA hl.1 hP hD hS k_54 k_55 k_21 k_56 (met_X9_init l D cy _ en g _ _ _ gL) (ST_call hST hS (free_all hD hS hA)) Xok_S ⟨rfl, rfl⟩ rfl (n := 0) (by decide +kernel) rfl ⟨Nat.le_of_ble_eq_true rfl, Nat.le_of_ble_eq_true rfl⟩ ⟨Nat.le_of_ble_eq_true rfl, Nat.le_of_ble_eq_true rfl⟩ (Nat.le_of_ble_eq_true rfl) rfl dL_law_4 (fun w9 H locs hw9 hP hD hS => ?_)
  obtain ⟨o0, o1, o2, o3, hb9, kb, bb, rb, tb, sb, ob9, o, n, xb, vb, hw9⟩ := hw9
  have hw9 := hw9.trans (congrArg (fun z => z ++ xseg cy en o0 o1 o2 o3 hb9 kb bb rb tb sb ob9 o n xb vb) sL)
  have hP := mk_P (cvP hP hw9)
  have hD := mk_D (cvD hD hw9)
  generalize hadX : adX o0 o1 o2 o3 bb a hb9 kb rb tb sb ob9 o n xb vb = ad at hP hD
  have had0 : ad 12 0 = a := by rw [← hadX]; rfl
  refine lv_astore_n (lv' := [(1, .ref a), (0, .ref b)]) hx hb dL_law_7 rfl hl (by decide) rfl (fun ls hl => ?_)
  refine lv_aload_n hx hb dL_law_8 rfl (lv_at hl 0 rfl) ?_
  refine lv_aload_n hx hb dL_law_9 rfl (lv_at hl 1 rfl) ?_
  have hP9 := hP
  have hD9 := hD
  have hS9 := hS
  have hl9 := hl
  subst had0
  refine uSk (As := [.ref (ad 12 0), .ref b]) (rest := []) hx hb hml hown hw hK hN hA hl9.1 hP9 hD9 hS9 k_963 k_964 k_20 k_965 (met_L_build l hst0 D cy _ ad en g b L xs zX inv_0 hL) (XL_call hST hSC hS9 (free_all hD9 hS9 hA)) Xok_L ⟨rfl, rfl⟩ (n := 2) (by decide +kernel) rfl ⟨Nat.le_of_ble_eq_true rfl, Nat.le_of_ble_eq_true rfl⟩ ⟨Nat.le_of_ble_eq_true rfl, Nat.le_of_ble_eq_true rfl⟩ (Nat.le_of_ble_eq_true rfl) rfl dL_law_10 (fun w9 H locs h9 hP hD hS => ?_)
  obtain ⟨x', hJ, hw9⟩ := h9
  subst hw9
  refine lv_iconst (v := 0) hx hb dL_law_13 (by decide) ?_
  refine lv_istore_n (lv' := [(2, .int 0), (1, .ref (ad 12 0)), (0, .ref b)]) hx hb dL_law_14 rfl hl9 (by decide) rfl (fun ls hl => ?_)
  refine seg_turns (args := #[Value.ref b]) (L := L) (xs := xs) ⟨hx, hb, hml, hown, hw, hK, hN, hST, hSC, hA⟩ hst0 hL (fun H locs ls cells slots hc hs hS => ?_) 0 (Nat.zero_le _) x' H locs ls _ _ hJ (Nat.le_of_ble_eq_true rfl) (Nat.le_of_ble_eq_true rfl) hP hD hS (lv_sub hl [2, 1, 0] rfl)
  refine va_forget (fun q hq => hAl _ (hS.2.2 q hq)) (W.widen (k := 975572) (n := 6174753) (Nat.le_trans hc (Nat.le_of_ble_eq_true rfl)) (Nat.le_trans hs (Nat.le_of_ble_eq_true rfl)) ?_)
  exact lw_ret (d0 := s.drawn) (Drawn.sameBut.refl s.drawn lw_cs) hx hb hr hlk dL_law_1453
