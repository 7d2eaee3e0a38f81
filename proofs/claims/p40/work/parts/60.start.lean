/-! the start: what the Statement gives -/
theorem hArr {s : State} {args : Array Value} {ty : FieldType} (h : (Cond.arrayClass ty).before args s = true) (ho : ∀ C, ty ≠ .object C) : ∃ cA, ArrOfT s cA ty ∧ va_RA s cA ty := by
  obtain ⟨cA, kA, comp, h1, h2, h3⟩ := Cond.arrayClass_spec h
  refine ⟨cA, fun n z => ⟨fun k hk => (by cases hk), kA, h2, comp, h3⟩, ?_⟩
  cases ty with
  | object C => exact absurd rfl (ho C)
  | _ => exact h1
theorem hArrO {s : State} {args : Array Value} {C : String} (h : (Cond.arrayOver (.object C)).before args s = true) : ∃ cA, ArrOfT s cA (.object C) ∧ va_RA s cA (.object C) := by
  obtain ⟨comp, cA, kA, h1, -, h2, h3, h4⟩ := Cond.arrayOver_spec h
  exact ⟨cA, fun n z => ⟨fun k hk => (by cases hk), kA, h2, comp, h3⟩, kA, comp, h2, h3, h1, h4⟩
abbrev FN : List Cond := flatC (Jvm.Cond.and given_1 narrow_1)
theorem inFN (L : List Cond) (ps : List Nat) (h : L = ps.filterMap (fun i => FN[i]?)) : ∀ c ∈ L, c ∈ FN := by
  intro c hc
  rw [h] at hc
  obtain ⟨i, -, hi⟩ := List.mem_filterMap.mp hc
  exact List.mem_of_getElem? hi
theorem nar_all (L : List Cond) (h : ∀ c ∈ L, c ∈ FN) {args : Array Value} {s : State} (hg : (Jvm.Cond.and given_1 narrow_1).before args s = true) : ∀ c ∈ L, c.before args s = true :=
  fun c hc => flat_of_before _ hg c (h c hc)
theorem lt7 {i : Nat} (h : i < 7) : i = 0 ∨ i = 1 ∨ i = 2 ∨ i = 3 ∨ i = 4 ∨ i = 5 ∨ i = 6 := by omega
theorem start_K {s : State} {args : Array Value} (hw : ∀ w ∈ WA, w.before args s = true) (hN : NW s) : ∃ (D : va_G) (cy : Nat → ClassId), va_K D vwCl (tyL cy) s := by
  have h : ∀ c : Nat, ∃ p : ClassId × (Nat → Nat), ∀ q : vw_C, vwCl[c]? = some q → u_Kn s q.1 q.2.1 q.2.2 p.1 p.2 := by
    intro c
    by_cases hc : c < 12
    · rcases (show c = 0 ∨ c = 1 ∨ c = 2 ∨ c = 3 ∨ c = 4 ∨ c = 5 ∨ c = 6 ∨ c = 7 ∨ c = 8 ∨ c = 9 ∨ c = 10 ∨ c = 11 by omega) with rfl | rfl | rfl | rfl | rfl | rfl | rfl | rfl | rfl | rfl | rfl | rfl
      · obtain ⟨cC, iS, hk⟩ := u_known hw inWJ0 (hw _ k_1233)
        exact ⟨(cC, iS), fun q hq => by cases hq; exact hk⟩
      · obtain ⟨cC, iS, hk⟩ := u_known hw inWJ4 (hw _ k_252)
        exact ⟨(cC, iS), fun q hq => by cases hq; exact hk⟩
      · obtain ⟨cC, iS, hk⟩ := u_known hw inWJ0 (hw _ k_1233)
        exact ⟨(cC, iS), fun q hq => by cases hq; exact hk⟩
      · obtain ⟨cC, iS, hk⟩ := u_known hw inWJ0 (hw _ k_1233)
        exact ⟨(cC, iS), fun q hq => by cases hq; exact hk⟩
      · obtain ⟨cC, iS, hk⟩ := u_known hw inWX1 (hw _ k_85)
        exact ⟨(cC, iS), fun q hq => by cases hq; exact hk⟩
      · obtain ⟨cC, iS, hk⟩ := u_known hw inWX2 (hw _ k_166)
        exact ⟨(cC, iS), fun q hq => by cases hq; exact hk⟩
      · obtain ⟨cC, iS, hk⟩ := u_known hw inWX4 (hw _ k_61)
        exact ⟨(cC, iS), fun q hq => by cases hq; exact hk⟩
      · obtain ⟨cC, iS, hk⟩ := u_known hw inWX5 (hw _ k_216)
        exact ⟨(cC, iS), fun q hq => by cases hq; exact hk⟩
      · obtain ⟨cC, iS, hk⟩ := u_known hw inWX6 (hw _ k_186)
        exact ⟨(cC, iS), fun q hq => by cases hq; exact hk⟩
      · obtain ⟨cC, iS, hk⟩ := u_known hw inWX7 (hw _ k_69)
        exact ⟨(cC, iS), fun q hq => by cases hq; exact hk⟩
      · obtain ⟨cC, iS, hk⟩ := u_known hw inWX8 (hw _ k_209)
        exact ⟨(cC, iS), fun q hq => by cases hq; exact hk⟩
      · obtain ⟨cC, iS, hk⟩ := u_known hw inWX9 (hw _ k_53)
        exact ⟨(cC, iS), fun q hq => by cases hq; exact hk⟩
    · exact ⟨(0, fun _ => 0), fun q hq => absurd (List.getElem?_eq_some_iff.mp hq).1 hc⟩
  obtain ⟨f, hf⟩ := Classical.axiomOfChoice h
  obtain ⟨c0, a0, b0⟩ := hArr (hw _ k_84) (fun C => by simp)
  obtain ⟨c1, a1, b1⟩ := hArr (hw _ k_233) (fun C => by simp)
  obtain ⟨c2, a2, b2⟩ := hArr (hw _ k_283) (fun C => by simp)
  obtain ⟨c3, a3, b3⟩ := hArrO (hN _ n_67)
  obtain ⟨c4, a4, b4⟩ := hArrO (hN _ n_172)
  obtain ⟨c5, a5, b5⟩ := hArrO (hN _ n_215)
  refine ⟨(fun c => (f c).1, fun c => (f c).2), fun n => [c0, c1, c2, c3, c4, c5].getD n c0, fun c q hq => hf c q hq, fun k q hq => ?_⟩
  have hk : k < 6 := (List.getElem?_eq_some_iff.mp hq).1
  rcases (show k = 0 ∨ k = 1 ∨ k = 2 ∨ k = 3 ∨ k = 4 ∨ k = 5 by omega) with rfl | rfl | rfl | rfl | rfl | rfl
  · cases hq; exact ⟨a0, b0⟩
  · cases hq; exact ⟨a1, b1⟩
  · cases hq; exact ⟨a2, b2⟩
  · cases hq; exact ⟨a3, b3⟩
  · cases hq; exact ⟨a4, b4⟩
  · cases hq; exact ⟨a5, b5⟩
def kindAt (i : Nat) : Term := .string "CloudDeedsLaw" ([135, 140, 142, 144, 150, 152, 154].getD i 0)
def kindSt (i : Nat) : Term := .static "CloudDeeds$Kind" (nmKind.getD i "") "LCloudDeeds$Kind;"
def LA : List Cond := (List.range 9).map (fun i => .exactly (kindSt i) "CloudDeeds$Kind")
def LB : List Cond := (List.range 9).map (fun i => .eq (.field (kindSt i) "java/lang/Enum" "ordinal" "I") (.int (([0, 1, 2, 3, 4, 5, 6, 7, 8] : List Int32).getD i 0)))
def LE : List Cond := (List.range 7).map (fun i => .exactly (kindAt i) "java/lang/String") ++ (List.range 7).map (fun i => .eq (.field (kindAt i) "java/lang/String" "coder" "B") (.int 0)) ++ (List.range 7).map (fun i => .arrayOf (.field (kindAt i) "java/lang/String" "value" "[B") .byte) ++ (List.range 7).map (fun i => .eq (.length (.field (kindAt i) "java/lang/String" "value" "[B")) (.int (Int32.ofNat (formLen.getD i 0))))
def LF : List Cond := (List.range 7).flatMap (fun i => (List.range (formLen.getD i 0)).map (fun j => .eq (.elem (.field (kindAt i) "java/lang/String" "value" "[B") (.int (Int32.ofNat j))) (.int ((formB.getD i []).getD j 0))))
def swT : Term := .static "CloudDeeds$1" "$SwitchMap$CloudDeeds$Kind" "[I"
def doT : Term := .static "java/lang/Integer" "DigitOnes" "[B"
def LG : List Cond := [.arrayOf swT .int, .eq (.length swT) (.int (Int32.ofNat 9)), .arrayOf doT .byte, .eq (.length doT) (.int (Int32.ofNat 100))] ++ (List.range 9).map (fun j => .eq (.elem swT (.int (Int32.ofNat j))) (.int (nI ((j + 1) % 9))))
def LH : List Cond := (List.range 100).map (fun j => .eq (.elem doT (.int (Int32.ofNat j))) (.int (nI (48 + j % 10))))
def LI : List Cond := [.isRef (.static Bundle.tN "UNASSIGNED_STACK" Bundle.steD), .isRef (.static Bundle.tN "SUPPRESSED_SENTINEL" Bundle.listD), .eq (.static "java/lang/String" "COMPACT_STRINGS" "Z") (.int 1), .isRef (.static "jdk/internal/util/Preconditions" "SIOOBE_FORMATTER" "Ljava/util/function/BiFunction;")] ++ msgs.map (fun q => .exactly (.string "CloudDeeds" q.1) "java/lang/String")
def LDP : List (Nat × Nat) := [(0, 1), (0, 2), (0, 3), (0, 4), (0, 5), (0, 6), (0, 7), (1, 2), (1, 3), (1, 4), (1, 5), (1, 6), (1, 7), (2, 3), (2, 4), (2, 5), (2, 6), (2, 7), (3, 4), (3, 5), (3, 6), (3, 7), (4, 5), (4, 6), (4, 7), (5, 6), (5, 7), (6, 7), (8, 0), (8, 1), (8, 2), (8, 3), (8, 4), (8, 5), (8, 6), (8, 7)]
def LD : List Cond := LDP.map (fun q => .not (.eq (kindSt q.1) (kindSt q.2)))
theorem LD_fin : ∀ i j : Fin 9, i ≠ j → (i.val, j.val) ∈ LDP ∨ (j.val, i.val) ∈ LDP := by decide
theorem LD_all (i : Nat) (hi : i < 9) (j : Nat) (hj : j < 9) (hne : i ≠ j) : (i, j) ∈ LDP ∨ (j, i) ∈ LDP := LD_fin ⟨i, hi⟩ ⟨j, hj⟩ (fun h => hne (Fin.mk.inj h))
theorem LA_in : ∀ c ∈ LA, c ∈ FN := inFN LA [219, 234, 238, 243, 249, 256, 264, 273, 4] (by decide +kernel)
theorem LB_in : ∀ c ∈ LB, c ∈ FN := inFN LB [220, 235, 239, 244, 250, 257, 265, 274, 5] (by decide +kernel)
theorem LE_in : ∀ c ∈ LE, c ∈ FN := inFN LE [949, 970, 992, 1015, 1039, 1063, 1089, 950, 971, 993, 1016, 1040, 1064, 1090, 951, 972, 994, 1017, 1041, 1065, 1091, 952, 973, 995, 1018, 1042, 1066, 1092] (by decide +kernel)
theorem LF_in : ∀ c ∈ LF, c ∈ FN := inFN LF [953, 974, 996, 1019, 1067, 1093] (by decide +kernel)
theorem LG_in : ∀ c ∈ LG, c ∈ FN := inFN LG [223, 224, 10, 11, 225, 226, 227, 228, 229, 230, 231, 232, 233] (by decide +kernel)
theorem LH_in : ∀ c ∈ LH, c ∈ FN := inFN LH [12, 13, 14, 15, 16, 17, 18, 19, 20, 21, 22, 23, 24, 25, 26, 27, 28, 29, 30, 31, 32, 33, 34, 35, 36, 37, 38, 39, 40, 41, 42, 43, 44, 45, 46, 47, 48, 49, 50, 51, 52, 53, 54, 55, 56, 57, 58, 59, 60, 61, 62, 63, 64, 65, 66, 67, 68, 69, 70, 71, 72, 73, 74, 75, 76, 77, 78, 79, 80, 81, 82, 83, 84, 85, 86, 87, 88, 89, 90, 91, 92, 93, 94, 95, 96, 97, 98, 99, 100, 101, 102, 103, 104, 105, 106, 107, 108, 109, 110, 111] (by decide +kernel)
theorem LI_in : ∀ c ∈ LI, c ∈ FN := inFN LI [7, 8, 6, 215, 874, 361, 387, 418, 446, 480, 513, 551, 595, 771, 630, 874, 874, 874, 874, 907, 836, 664, 699, 732, 874, 874] (by decide +kernel)
theorem LD_in : ∀ c ∈ LD, c ∈ FN := inFN LD [237, 241, 246, 252, 259, 267, 276, 242, 247, 253, 260, 268, 277, 248, 254, 261, 269, 278, 255, 262, 270, 279, 263, 271, 280, 272, 281, 282, 221, 236, 240, 245, 251, 258, 266, 275] (by decide +kernel)
theorem mem_r {α : Type} {n i : Nat} {f : Nat → α} (h : i < n) : f i ∈ (List.range n).map f := List.mem_map.mpr ⟨i, List.mem_range.mpr h, rfl⟩
theorem msgs_ls : msgs.all (fun q => decide (Cond.stringRef "CloudDeeds" q.1 q.2 ∈ lw_tbl)) = true := by decide +kernel
theorem lmsgs_ls : lmsgs.all (fun q => decide (Cond.stringRef "CloudDeedsLaw" q.1 q.2 ∈ lw_tbl)) = true := by decide +kernel
theorem sts_ls : ((List.range 9).all fun i => decide (Cond.laysStatic "CloudDeeds$Kind" (nmKind.getD i "") "LCloudDeeds$Kind;" ∈ lw_tbl)) = true := by decide +kernel
/-- the forms: their texts differ in the first sign -/
theorem start_S {args : Array Value} {s : State} {A : Nat → Prop} (hg : (Jvm.Cond.and given_1 narrow_1).before args s = true) (hA : ∀ a : Nat, a < s.heap.size → ¬ A a) :
    ∃ adK adV : Nat → Nat, vk_S 7 formLen formB adK adV A s s.heap ∧ ∀ i : Nat, i < 7 → (kindAt i).eval args s none [] s = some (.ref (adK i)) := by
  have hE := nar_all LE LE_in hg
  have hF := nar_all LF LF_in hg
  have hlen : ∀ i : Nat, i < 7 → formLen.getD i 0 < 2 ^ 31 := by
    intro i hi
    rcases lt7 hi with rfl | rfl | rfl | rfl | rfl | rfl | rfl <;> decide
  have h0 : ∀ i : Nat, ∃ q : Nat × Nat, i < 7 → (kindAt i).eval args s none [] s = some (.ref q.1) ∧ va_O "java/lang/String" q.1 A s s.heap ∧ va_OF "java/lang/String" "coder" "B" (.int 0) q.1 A s s.heap ∧ va_OF "java/lang/String" "value" "[B" (.ref q.2) q.1 A s s.heap ∧ va_T .byte q.2 (formLen.getD i 0) (fun j => .int ((formB.getD i []).getD j 0)) A s s.heap := by
    intro i
    by_cases hi : i < 7
    · have e1 := hE _ (List.mem_append_left _ (List.mem_append_left _ (List.mem_append_left _ (mem_r (f := fun i => Cond.exactly (kindAt i) "java/lang/String") hi))))
      have e2 := hE _ (List.mem_append_left _ (List.mem_append_left _ (List.mem_append_right _ (mem_r (f := fun i => Cond.eq (.field (kindAt i) "java/lang/String" "coder" "B") (.int 0)) hi))))
      have e3 := hE _ (List.mem_append_left _ (List.mem_append_right _ (mem_r (f := fun i => Cond.arrayOf (.field (kindAt i) "java/lang/String" "value" "[B") .byte) hi)))
      have e4 := hE _ (List.mem_append_right _ (mem_r (f := fun i => Cond.eq (.length (.field (kindAt i) "java/lang/String" "value" "[B")) (.int (Int32.ofNat (formLen.getD i 0)))) hi))
      obtain ⟨a, c, cA, kA, q1, q2, q3, q4, q5, q6, -⟩ := Cond.exactly_spec (args := args) (first := s) (o := none) (s := s) (idx := []) (t := kindAt i) (cls := "java/lang/String") e1
      obtain ⟨t, ht, hT⟩ := va_Tof (f := fun j => .int ((formB.getD i []).getD j 0)) (A := A) (hlen i hi) e3 (va_eqt e4) (fun j hj => va_eqt (hF _ (List.mem_flatMap.mpr ⟨i, List.mem_range.mpr hi, mem_r (f := fun j => Cond.eq (.elem (.field (kindAt i) "java/lang/String" "value" "[B") (.int (Int32.ofNat j))) (.int ((formB.getD i []).getD j 0))) hj⟩))) hA
      exact ⟨(a, t), fun _ => ⟨q1, ⟨cA, q3, q5, by rw [q6]; exact q2, hA a (Array.getElem?_eq_some_iff.mp q3).1⟩, vk_OFof q1 (va_eqt e2) hA, vk_OFof q1 ht hA, hT⟩⟩
    · exact ⟨(0, 0), fun h => absurd h hi⟩
  obtain ⟨ad, had⟩ := Classical.axiomOfChoice h0
  refine ⟨fun i => (ad i).1, fun i => (ad i).2, ⟨fun i hi => (had i hi).2, fun i j hi hj e => ?_⟩, fun i hi => (had i hi).1⟩
  obtain ⟨-, -, -, hvi, hTi⟩ := had i hi
  obtain ⟨-, -, -, hvj, hTj⟩ := had j hj
  have ev : (ad i).2 = (ad j).2 := by
    obtain ⟨cf, k, n, f, cell, g1, g2, g3, g4, g5, g6⟩ := hvi
    obtain ⟨cf', k', n', f', cell', g1', g2', g3', g4', g5', g6'⟩ := hvj
    cases g1.symm.trans g1'
    have e' : (ad i).1 = (ad j).1 := e
    rw [e'] at g3
    cases g3.symm.trans g3'
    have e9 := g5.symm.trans g5'
    first | (simpa using e9) | (simpa using e9.symm)
  rw [ev] at hTi
  obtain ⟨cell, t1, t2, t3, t4, t5, t6, t7⟩ := hTi
  obtain ⟨cell', u1, u2, u3, u4, u5, u6, u7⟩ := hTj
  cases t1.symm.trans u1
  have e5 : Int32.ofNat (formLen.getD i 0) = Int32.ofNat (formLen.getD j 0) := t5.symm.trans u5
  have e7 : 0 < formLen.getD i 0 → 0 < formLen.getD j 0 → (formB.getD i []).getD 0 0 = (formB.getD j []).getD 0 0 := by
    intro p1 p2
    have e8 : (Value.int ((formB.getD i []).getD 0 0)) = .int ((formB.getD j []).getD 0 0) := Option.some.inj ((t6 0 p1).symm.trans (u6 0 p2))
    injection e8
  revert e5 e7
  rcases lt7 hi with rfl | rfl | rfl | rfl | rfl | rfl | rfl <;> rcases lt7 hj with rfl | rfl | rfl | rfl | rfl | rfl | rfl <;> intro e5 e7 <;> first | rfl | exact absurd e5 (by decide) | exact absurd (e7 (by decide) (by decide)) (by decide)

theorem va_Z_inj {C n d : String} {v w : Value} {A : Nat → Prop} {U : State} {H : Heap} (h1 : va_Z C n d v A U H) (h2 : va_Z C n d w A U H) : v = w := by
  obtain ⟨cf, kf, fi, f, a, cell, p1, p2, p3, p4, p5, p6, p7, -⟩ := h1
  obtain ⟨cf', kf', fi', f', a', cell', q1, q2, q3, q4, q5, q6, q7, -⟩ := h2
  cases p1.symm.trans q1
  cases p4.symm.trans q4
  cases p5.symm.trans q5
  exact Option.some.inj (p7.symm.trans q7)
theorem start_ST {b : Nat} {s : State} (hts : ∀ w ∈ lw_tbl, w.before #[Value.ref b] s = true) (hg : (Jvm.Cond.and given_1 narrow_1).before #[Value.ref b] s = true) : ∃ en g : Nat → Nat, ST en g (fun q => s.heap.size ≤ q) s s.heap := by
  have hA : ∀ a : Nat, a < s.heap.size → ¬ (fun q => s.heap.size ≤ q) a := fun a h1 h2 => Nat.not_lt.mpr h2 h1
  obtain ⟨adK, adV, hS, hSe⟩ := start_S hg hA
  have hLI := nar_all LI LI_in hg
  have hLG := nar_all LG LG_in hg
  have hLH := nar_all LH LH_in hg
  obtain ⟨en, hEn⟩ := va_Enof (args := #[Value.ref b]) (s := s) (E := "CloudDeeds$Kind") (d := "LCloudDeeds$Kind;") (nm := nmKind) (F := [("java/lang/Enum", "ordinal", "I", [0, 1, 2, 3, 4, 5, 6, 7, 8])]) (A := fun q => s.heap.size ≤ q)
    (fun i hi => hts _ (of_decide_eq_true (List.all_eq_true.mp sts_ls i (List.mem_range.mpr hi)))) (hts _ (List.mem_of_getElem? (i := 30) (by decide +kernel)))
    (fun i hi => nar_all LA LA_in hg _ (mem_r (f := fun i => Cond.exactly (kindSt i) "CloudDeeds$Kind") hi))
    (fun q hq i hi => by
      cases List.mem_singleton.mp hq
      exact nar_all LB LB_in hg _ (mem_r (f := fun i => Cond.eq (.field (kindSt i) "java/lang/Enum" "ordinal" "I") (.int (([0, 1, 2, 3, 4, 5, 6, 7, 8] : List Int32).getD i 0))) hi))
    (fun i j hi hj hne => by
      have h := LD_all i hi j hj hne
      rcases h with h | h
      · exact Or.inl (nar_all LD LD_in hg _ (List.mem_map.mpr ⟨(i, j), h, rfl⟩))
      · exact Or.inr (nar_all LD LD_in hg _ (List.mem_map.mpr ⟨(j, i), h, rfl⟩))) hA
  obtain ⟨t1, ht1, hT1⟩ := va_Tof (tm := swT) (ty := .int) (N := 9) (f := fun i => .int (nI ((i + 1) % 9))) (A := fun q => s.heap.size ≤ q) (by decide) (hLG _ (List.mem_append_left _ (by simp))) (va_eqt (hLG _ (List.mem_append_left _ (by simp))))
    (fun j hj => va_eqt (hLG _ (List.mem_append_right _ (mem_r (f := fun j => Cond.eq (.elem swT (.int (Int32.ofNat j))) (.int (nI ((j + 1) % 9)))) hj)))) hA
  obtain ⟨t2, ht2, hT2⟩ := va_Tof (tm := doT) (ty := .byte) (N := 100) (f := fun j => .int (nI (48 + j % 10))) (A := fun q => s.heap.size ≤ q) (by decide) (hLG _ (List.mem_append_left _ (by simp))) (va_eqt (hLG _ (List.mem_append_left _ (by simp))))
    (fun j hj => va_eqt (hLH _ (mem_r (f := fun j => Cond.eq (.elem doT (.int (Int32.ofNat j))) (.int (nI (48 + j % 10)))) hj))) hA
  have hm : ∀ i : Nat, ∃ a : Nat, ∀ q : Nat × String, msgs[i]? = some q → vk_R "CloudDeeds" q.1 q.2 a s := by
    intro i
    cases hi : msgs[i]? with
    | none => exact ⟨0, fun q hq => nomatch hq⟩
    | some q0 =>
      have hmem := List.mem_of_getElem? hi
      obtain ⟨a, c, cA, kA, q1, -⟩ := Cond.exactly_spec (args := #[Value.ref b]) (first := s) (o := none) (s := s) (idx := []) (hLI _ (List.mem_append_right _ (List.mem_map.mpr ⟨q0, hmem, rfl⟩)))
      refine ⟨a, fun q hq => ?_⟩
      cases hq
      exact vk_R.of (hts _ (of_decide_eq_true (List.all_eq_true.mp msgs_ls q0 hmem))) q1
  obtain ⟨sA, hsA⟩ := Classical.axiomOfChoice hm
  have hm2 : ∀ (i : Nat) (q : Nat × String), lmsgs[i]? = some q → vk_R "CloudDeedsLaw" q.1 q.2 (adK i) s := by
    intro i q hq
    have hi : i < 7 := (List.getElem?_eq_some_iff.mp hq).1
    have e : q.1 = [135, 140, 142, 144, 150, 152, 154].getD i 0 := by
      rcases lt7 hi with rfl | rfl | rfl | rfl | rfl | rfl | rfl <;> (cases hq; rfl)
    refine vk_R.of (hts _ (of_decide_eq_true (List.all_eq_true.mp lmsgs_ls q (List.mem_of_getElem? hq)))) ?_
    rw [e]
    exact hSe i hi
  have hI : ∀ c ∈ LI, c.before #[Value.ref b] s = true := hLI
  refine ⟨en, fun n => if n = 1 then t1 else if n = 2 then t2 else if n < 100 then sA (n - 10) else if n < 200 then adK (n - 100) else adV (n - 200), ?_⟩
  have g1 : ∀ i : Nat, i < 7 → (fun n => if n = 1 then t1 else if n = 2 then t2 else if n < 100 then sA (n - 10) else if n < 200 then adK (n - 100) else adV (n - 200)) (100 + i) = adK i := by
    intro i hi
    simp only []
    rw [if_neg (by omega), if_neg (by omega), if_neg (by omega), if_pos (by omega), Nat.add_sub_cancel_left]
  have g2 : ∀ i : Nat, i < 7 → (fun n => if n = 1 then t1 else if n = 2 then t2 else if n < 100 then sA (n - 10) else if n < 200 then adK (n - 100) else adV (n - 200)) (200 + i) = adV i := by
    intro i hi
    simp only []
    rw [if_neg (by omega), if_neg (by omega), if_neg (by omega), if_neg (by omega), Nat.add_sub_cancel_left]
  have g3 : ∀ i : Nat, i < 22 → (fun n => if n = 1 then t1 else if n = 2 then t2 else if n < 100 then sA (n - 10) else if n < 200 then adK (n - 100) else adV (n - 200)) (10 + i) = sA i := by
    intro i hi
    simp only []
    rw [if_neg (by omega), if_neg (by omega), if_pos (by omega), Nat.add_sub_cancel_left]
  generalize hG : (fun n => if n = 1 then t1 else if n = 2 then t2 else if n < 100 then sA (n - 10) else if n < 200 then adK (n - 100) else adV (n - 200)) = G at g1 g2 g3 ⊢
  have G1 : G 1 = t1 := by rw [← hG]; rfl
  have G2 : G 2 = t2 := by rw [← hG]; rfl
  refine ⟨vx_Zqof (hts _ (List.mem_of_getElem? (i := 353) (by decide +kernel))) (hts _ (List.mem_of_getElem? (i := 38) (by decide +kernel))) (hI _ (List.mem_append_left _ (by simp [LI]))) hA, vx_Zqof (hts _ (List.mem_of_getElem? (i := 355) (by decide +kernel))) (hts _ (List.mem_of_getElem? (i := 38) (by decide +kernel))) (hI _ (List.mem_append_left _ (by simp))) hA, fun i q hq => ?_, hEn, fun i q hq => ?_, trivial, ?_, ?_, trivial, ⟨fun i hi => ?_, fun i j hi hj e => ?_⟩, va_Zof (hts _ (List.mem_of_getElem? (i := 261) (by decide +kernel))) (hts _ (List.mem_of_getElem? (i := 33) (by decide +kernel))) (va_eqi (hI _ (List.mem_append_left _ (by simp)))) hA, trivial, trivial, va_Zqof (hts _ (List.mem_of_getElem? (i := 764) (by decide +kernel))) (hts _ (List.mem_of_getElem? (i := 49) (by decide +kernel))) (hI _ (List.mem_append_left _ (by simp))) hA, ?_, ?_⟩
  · have hi : i < 22 := (List.getElem?_eq_some_iff.mp hq).1
    rw [g3 i hi]
    exact hsA i q hq
  · have hi : i < 7 := (List.getElem?_eq_some_iff.mp hq).1
    rw [g1 i hi]
    exact hm2 i q hq
  · rw [G1]; exact va_Zref (hts _ (List.mem_of_getElem? (i := 991) (by decide +kernel))) (hts _ (List.mem_of_getElem? (i := 37) (by decide +kernel))) ht1 hA
  · rw [G1]; exact hT1
  · show va_O "java/lang/String" (G (100 + i)) _ _ _ ∧ va_OF "java/lang/String" "coder" "B" (.int 0) (G (100 + i)) _ _ _ ∧ va_OF "java/lang/String" "value" "[B" (.ref (G (200 + i))) (G (100 + i)) _ _ _ ∧ va_T .byte (G (200 + i)) _ _ _ _ _
    rw [g1 i hi, g2 i hi]
    exact hS.1 i hi
  · have e' : G (100 + i) = G (100 + j) := e
    rw [g1 i hi, g1 j hj] at e'
    exact hS.2 i j hi hj e'
  · rw [G2]; exact va_Zref (hts _ (List.mem_of_getElem? (i := 748) (by decide +kernel))) (hts _ (List.mem_of_getElem? (i := 46) (by decide +kernel))) ht2 hA
  · rw [G2]; exact hT2

