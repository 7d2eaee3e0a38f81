/-! the start: what the Statement gives -/
theorem hArr {s : State} {args : Array Value} {ty : FieldType} (h : (Cond.arrayClass ty).before args s = true) (ho : ∀ C, ty ≠ .object C) : ∃ cA, ArrOfT s cA ty ∧ va_RA s cA ty := by
  obtain ⟨cA, kA, comp, h1, h2, h3⟩ := Cond.arrayClass_spec h
  refine ⟨cA, fun n z => ⟨fun k hk => (by cases hk), kA, h2, comp, h3⟩, ?_⟩
  cases ty with
  | object C => exact absurd rfl (ho C)
  | _ => exact h1
theorem hArrO {s : State} {args : Array Value} {C : String} (h : (Cond.arrayOver (.object C)).before args s = true) : ∃ cA, ArrOfT s cA (.object C) ∧ va_RA s cA (.object C) := by
  obtain ⟨comp, cA, kA, h1, -, h2, h3, h4⟩ := Cond.arrayOver_spec h
  exact ⟨cA, fun n z => ⟨fun k hk => (by cases hk), kA, h2, comp, h3⟩, kA, comp, h2, h3, h1, h4⟩
abbrev FN : List Cond := flatC (Jvm.Cond.and given_1 narrow_1)
theorem inFN (L : List Cond) (ps : List Nat) (h : L = ps.filterMap (fun i => FN[i]?)) : ∀ c ∈ L, c ∈ FN := by
  intro c hc
  rw [h] at hc
  obtain ⟨i, -, hi⟩ := List.mem_filterMap.mp hc
  exact List.mem_of_getElem? hi
theorem nar_all (L : List Cond) (h : ∀ c ∈ L, c ∈ FN) {args : Array Value} {s : State} (hg : (Jvm.Cond.and given_1 narrow_1).before args s = true) : ∀ c ∈ L, c.before args s = true :=
  fun c hc => flat_of_before _ hg c (h c hc)
theorem lt9 {i : Nat} (h : i < 9) : i = 0 ∨ i = 1 ∨ i = 2 ∨ i = 3 ∨ i = 4 ∨ i = 5 ∨ i = 6 ∨ i = 7 ∨ i = 8 := by omega
theorem start_K {s : State} {args : Array Value} (hw : ∀ w ∈ WA, w.before args s = true) (hN : NW s) : ∃ (D : va_G) (cy : Nat → ClassId), va_K D vwCl (tyQ cy) s := by
  have h : ∀ c : Nat, ∃ p : ClassId × (Nat → Nat), ∀ q : vw_C, vwCl[c]? = some q → u_Kn s q.1 q.2.1 q.2.2 p.1 p.2 := by
    intro c
    by_cases hc : c < 13
    · rcases (show c = 0 ∨ c = 1 ∨ c = 2 ∨ c = 3 ∨ c = 4 ∨ c = 5 ∨ c = 6 ∨ c = 7 ∨ c = 8 ∨ c = 9 ∨ c = 10 ∨ c = 11 ∨ c = 12 by omega) with rfl | rfl | rfl | rfl | rfl | rfl | rfl | rfl | rfl | rfl | rfl | rfl | rfl
      · obtain ⟨cC, iS, hk⟩ := u_known hw inWJ0 (hw _ k_806)
        exact ⟨(cC, iS), fun q hq => by cases hq; exact hk⟩
      · obtain ⟨cC, iS, hk⟩ := u_known hw inWJ4 (hw _ k_313)
        exact ⟨(cC, iS), fun q hq => by cases hq; exact hk⟩
      · obtain ⟨cC, iS, hk⟩ := u_known hw inWJx00060 (hw _ k_788)
        exact ⟨(cC, iS), fun q hq => by cases hq; exact hk⟩
      · obtain ⟨cC, iS, hk⟩ := u_known hw inWJx7c733 (hw _ k_1207)
        exact ⟨(cC, iS), fun q hq => by cases hq; exact hk⟩
      · obtain ⟨cC, iS, hk⟩ := u_known hw inWX1 (hw _ k_144)
        exact ⟨(cC, iS), fun q hq => by cases hq; exact hk⟩
      · obtain ⟨cC, iS, hk⟩ := u_known hw inWX2 (hw _ k_225)
        exact ⟨(cC, iS), fun q hq => by cases hq; exact hk⟩
      · obtain ⟨cC, iS, hk⟩ := u_known hw inWX4 (hw _ k_120)
        exact ⟨(cC, iS), fun q hq => by cases hq; exact hk⟩
      · obtain ⟨cC, iS, hk⟩ := u_known hw inWX5 (hw _ k_275)
        exact ⟨(cC, iS), fun q hq => by cases hq; exact hk⟩
      · obtain ⟨cC, iS, hk⟩ := u_known hw inWX6 (hw _ k_245)
        exact ⟨(cC, iS), fun q hq => by cases hq; exact hk⟩
      · obtain ⟨cC, iS, hk⟩ := u_known hw inWX7 (hw _ k_128)
        exact ⟨(cC, iS), fun q hq => by cases hq; exact hk⟩
      · obtain ⟨cC, iS, hk⟩ := u_known hw inWX8 (hw _ k_268)
        exact ⟨(cC, iS), fun q hq => by cases hq; exact hk⟩
      · obtain ⟨cC, iS, hk⟩ := u_known hw inWX9 (hw _ k_112)
        exact ⟨(cC, iS), fun q hq => by cases hq; exact hk⟩
      · obtain ⟨cC, iS, hk⟩ := u_known hw inWX10 (hw _ k_1565)
        exact ⟨(cC, iS), fun q hq => by cases hq; exact hk⟩
    · exact ⟨(0, fun _ => 0), fun q hq => absurd (List.getElem?_eq_some_iff.mp hq).1 hc⟩
  obtain ⟨f, hf⟩ := Classical.axiomOfChoice h
  obtain ⟨c0, a0, b0⟩ := hArr (hw _ k_143) (fun C => by simp)
  obtain ⟨c1, a1, b1⟩ := hArr (hw _ k_292) (fun C => by simp)
  obtain ⟨c2, a2, b2⟩ := hArr (hw _ k_344) (fun C => by simp)
  obtain ⟨c3, a3, b3⟩ := hArrO (hN _ n_126)
  obtain ⟨c4, a4, b4⟩ := hArrO (hN _ n_231)
  obtain ⟨c5, a5, b5⟩ := hArrO (hN _ n_274)
  obtain ⟨c6, a6, b6⟩ := hArr (hw _ k_1980) (fun C => by simp)
  obtain ⟨c7, a7, b7⟩ := hArr (hw _ k_1981) (fun C => by simp)
  refine ⟨(fun c => (f c).1, fun c => (f c).2), fun n => [c0, c1, c2, c3, c4, c5, c6, c7].getD n c0, fun c q hq => hf c q hq, fun k q hq => ?_⟩
  have hk : k < 8 := (List.getElem?_eq_some_iff.mp hq).1
  rcases (show k = 0 ∨ k = 1 ∨ k = 2 ∨ k = 3 ∨ k = 4 ∨ k = 5 ∨ k = 6 ∨ k = 7 by omega) with rfl | rfl | rfl | rfl | rfl | rfl | rfl | rfl
  · cases hq; exact ⟨a0, b0⟩
  · cases hq; exact ⟨a1, b1⟩
  · cases hq; exact ⟨a2, b2⟩
  · cases hq; exact ⟨a3, b3⟩
  · cases hq; exact ⟨a4, b4⟩
  · cases hq; exact ⟨a5, b5⟩
  · cases hq; exact ⟨a6, b6⟩
  · cases hq; exact ⟨a7, b7⟩
def kindAt (i : Nat) : Term := .string "CloudDeeds$Kind" ([65, 71, 74, 77, 80, 83, 86, 89, 92].getD i 0)
def kindSt (i : Nat) : Term := .static "CloudDeeds$Kind" (nmKind.getD i "") "LCloudDeeds$Kind;"
def LA : List Cond := (List.range 9).map (fun i => .exactly (kindSt i) "CloudDeeds$Kind")
def LB : List Cond := (List.range 9).map (fun i => .eq (.field (kindSt i) "java/lang/Enum" "ordinal" "I") (.int (([0, 1, 2, 3, 4, 5, 6, 7, 8] : List Int32).getD i 0)))
def LCf : List Cond := (List.range 9).map (fun i => .eq (.field (kindSt i) "CloudDeeds$Kind" "form" "Ljava/lang/String;") (kindAt i))
def LE : List Cond := (List.range 9).map (fun i => .exactly (kindAt i) "java/lang/String") ++ (List.range 9).map (fun i => .eq (.field (kindAt i) "java/lang/String" "coder" "B") (.int 0)) ++ (List.range 9).map (fun i => .arrayOf (.field (kindAt i) "java/lang/String" "value" "[B") .byte) ++ (List.range 9).map (fun i => .eq (.length (.field (kindAt i) "java/lang/String" "value" "[B")) (.int (Int32.ofNat (formLen.getD i 0))))
def LF : List Cond := (List.range 9).flatMap (fun i => (List.range (formLen.getD i 0)).map (fun j => .eq (.elem (.field (kindAt i) "java/lang/String" "value" "[B") (.int (Int32.ofNat j))) (.int ((formB.getD i []).getD j 0))))
def kinT : Term := .static "CloudDeeds" "KINDS" "[LCloudDeeds$Kind;"
def swT : Term := .static "CloudDeeds$1" "$SwitchMap$CloudDeeds$Kind" "[I"
def doT : Term := .static "java/lang/Integer" "DigitOnes" "[B"
def LG : List Cond := [.arrayOf kinT (.object "CloudDeeds$Kind"), .eq (.length kinT) (.int (Int32.ofNat 9)), .arrayOf swT .int, .eq (.length swT) (.int (Int32.ofNat 9)), .arrayOf doT .byte, .eq (.length doT) (.int (Int32.ofNat 100))] ++ (List.range 9).map (fun j => .eq (.elem kinT (.int (Int32.ofNat j))) (kindSt j)) ++ (List.range 9).map (fun j => .eq (.elem swT (.int (Int32.ofNat j))) (.int (nI ((j + 1) % 9))))
def LH : List Cond := (List.range 100).map (fun j => .eq (.elem doT (.int (Int32.ofNat j))) (.int (nI (48 + j % 10))))
def LI : List Cond := [.isRef (.static Bundle.tN "UNASSIGNED_STACK" Bundle.steD), .isRef (.static Bundle.tN "SUPPRESSED_SENTINEL" Bundle.listD), .eq (.static "java/lang/String" "COMPACT_STRINGS" "Z") (.int 1), .not (.castable "java/lang/IllegalArgumentException" "java/lang/IndexOutOfBoundsException"), .not (.castable "java/lang/UnsupportedOperationException" "java/lang/IllegalArgumentException"), .isRef (.static "jdk/internal/util/Preconditions" "SIOOBE_FORMATTER" "Ljava/util/function/BiFunction;")] ++ msgs.map (fun q => .exactly (.string "CloudDeeds" q.1) "java/lang/String")
def LDP : List (Nat × Nat) := [(0, 1), (0, 2), (0, 3), (0, 4), (0, 5), (0, 6), (0, 7), (1, 2), (1, 3), (1, 4), (1, 5), (1, 6), (1, 7), (2, 3), (2, 4), (2, 5), (2, 6), (2, 7), (3, 4), (3, 5), (3, 6), (3, 7), (4, 5), (4, 6), (4, 7), (5, 6), (5, 7), (6, 7), (8, 0), (8, 1), (8, 2), (8, 3), (8, 4), (8, 5), (8, 6), (8, 7)]
def LD : List Cond := LDP.map (fun q => .not (.eq (kindSt q.1) (kindSt q.2)))
theorem LD_fin : ∀ i j : Fin 9, i ≠ j → (i.val, j.val) ∈ LDP ∨ (j.val, i.val) ∈ LDP := by decide
theorem LD_all (i : Nat) (hi : i < 9) (j : Nat) (hj : j < 9) (hne : i ≠ j) : (i, j) ∈ LDP ∨ (j, i) ∈ LDP := LD_fin ⟨i, hi⟩ ⟨j, hj⟩ (fun h => hne (Fin.mk.inj h))
theorem LA_in : ∀ c ∈ LA, c ∈ FN := inFN LA [8, 26, 31, 37, 44, 52, 61, 71, 4] (by decide +kernel)
theorem LB_in : ∀ c ∈ LB, c ∈ FN := inFN LB [9, 27, 32, 38, 45, 53, 62, 72, 5] (by decide +kernel)
theorem LCf_in : ∀ c ∈ LCf, c ∈ FN := inFN LCf [10, 28, 33, 39, 46, 54, 63, 73, 6] (by decide +kernel)
theorem LE_in : ∀ c ∈ LE, c ∈ FN := inFN LE [1197, 1212, 1223, 1236, 1250, 1264, 1276, 1286, 1189, 1198, 1213, 1224, 1237, 1251, 1265, 1277, 1287, 1190, 1199, 1214, 1225, 1238, 1252, 1266, 1278, 1288, 1191, 1200, 1215, 1226, 1239, 1253, 1267, 1279, 1289, 1192] (by decide +kernel)
theorem LF_in : ∀ c ∈ LF, c ∈ FN := inFN LF [1201, 1202, 1203, 1204, 1205, 1206, 1207, 1208, 1209, 1210, 1211, 1216, 1217, 1218, 1219, 1220, 1221, 1222, 1227, 1228, 1229, 1230, 1231, 1232, 1233, 1234, 1235, 1240, 1241, 1242, 1243, 1244, 1245, 1246, 1247, 1248, 1249, 1254, 1255, 1256, 1257, 1258, 1259, 1260, 1261, 1262, 1263, 1268, 1269, 1270, 1271, 1272, 1273, 1274, 1275, 1280, 1281, 1282, 1283, 1284, 1285, 1290, 1291, 1292, 1293, 1294, 1295, 1193, 1194, 1195, 1196] (by decide +kernel)
theorem LG_in : ∀ c ∈ LG, c ∈ FN := inFN LG [84, 85, 13, 14, 101, 102, 87, 88, 89, 90, 91, 92, 93, 94, 95, 15, 16, 17, 18, 19, 20, 21, 22, 23] (by decide +kernel)
theorem LH_in : ∀ c ∈ LH, c ∈ FN := inFN LH [103, 104, 105, 106, 107, 108, 109, 110, 111, 112, 113, 114, 115, 116, 117, 118, 119, 120, 121, 122, 123, 124, 125, 126, 127, 128, 129, 130, 131, 132, 133, 134, 135, 136, 137, 138, 139, 140, 141, 142, 143, 144, 145, 146, 147, 148, 149, 150, 151, 152, 153, 154, 155, 156, 157, 158, 159, 160, 161, 162, 163, 164, 165, 166, 167, 168, 169, 170, 171, 172, 173, 174, 175, 176, 177, 178, 179, 180, 181, 182, 183, 184, 185, 186, 187, 188, 189, 190, 191, 192, 193, 194, 195, 196, 197, 198, 199, 200, 201, 202] (by decide +kernel)
theorem LI_in : ∀ c ∈ LI, c ∈ FN := inFN LI [24, 25, 7, 337, 353, 96, 478, 497, 523, 553, 579, 610, 639, 672, 710, 738, 791, 817, 837, 861, 888, 911, 1041, 1066, 1092, 1115, 1143, 1168] (by decide +kernel)
theorem LD_in : ∀ c ∈ LD, c ∈ FN := inFN LD [30, 35, 41, 48, 56, 65, 75, 36, 42, 49, 57, 66, 76, 43, 50, 58, 67, 77, 51, 59, 68, 78, 60, 69, 79, 70, 80, 81, 11, 29, 34, 40, 47, 55, 64, 74] (by decide +kernel)
theorem mem_r {α : Type} {n i : Nat} {f : Nat → α} (h : i < n) : f i ∈ (List.range n).map f := List.mem_map.mpr ⟨i, List.mem_range.mpr h, rfl⟩
theorem msgs_ls : msgs.all (fun q => decide (Cond.stringRef "CloudDeeds" q.1 q.2 ∈ lw_tbl)) = true := by decide +kernel
theorem sts_ls : ((List.range 9).all fun i => decide (Cond.laysStatic "CloudDeeds$Kind" (nmKind.getD i "") "LCloudDeeds$Kind;" ∈ lw_tbl)) = true := by decide +kernel
/-- the forms: their texts differ in the first sign -/
theorem start_S {args : Array Value} {s : State} {A : Nat → Prop} (hg : (Jvm.Cond.and given_1 narrow_1).before args s = true) (hA : ∀ a : Nat, a < s.heap.size → ¬ A a) :
    ∃ adK adV : Nat → Nat, vk_S 9 formLen formB adK adV A s s.heap ∧ ∀ i : Nat, i < 9 → (kindAt i).eval args s none [] s = some (.ref (adK i)) := by
  have hE := nar_all LE LE_in hg
  have hF := nar_all LF LF_in hg
  have hlen : ∀ i : Nat, i < 9 → formLen.getD i 0 < 2 ^ 31 := by
    intro i hi
    rcases lt9 hi with rfl | rfl | rfl | rfl | rfl | rfl | rfl | rfl | rfl <;> decide
  have h0 : ∀ i : Nat, ∃ q : Nat × Nat, i < 9 → (kindAt i).eval args s none [] s = some (.ref q.1) ∧ va_O "java/lang/String" q.1 A s s.heap ∧ va_OF "java/lang/String" "coder" "B" (.int 0) q.1 A s s.heap ∧ va_OF "java/lang/String" "value" "[B" (.ref q.2) q.1 A s s.heap ∧ va_T .byte q.2 (formLen.getD i 0) (fun j => .int ((formB.getD i []).getD j 0)) A s s.heap := by
    intro i
    by_cases hi : i < 9
    · have e1 := hE _ (List.mem_append_left _ (List.mem_append_left _ (List.mem_append_left _ (mem_r (f := fun i => Cond.exactly (kindAt i) "java/lang/String") hi))))
      have e2 := hE _ (List.mem_append_left _ (List.mem_append_left _ (List.mem_append_right _ (mem_r (f := fun i => Cond.eq (.field (kindAt i) "java/lang/String" "coder" "B") (.int 0)) hi))))
      have e3 := hE _ (List.mem_append_left _ (List.mem_append_right _ (mem_r (f := fun i => Cond.arrayOf (.field (kindAt i) "java/lang/String" "value" "[B") .byte) hi)))
      have e4 := hE _ (List.mem_append_right _ (mem_r (f := fun i => Cond.eq (.length (.field (kindAt i) "java/lang/String" "value" "[B")) (.int (Int32.ofNat (formLen.getD i 0)))) hi))
      obtain ⟨a, c, cA, kA, q1, q2, q3, q4, q5, q6, -⟩ := Cond.exactly_spec (args := args) (first := s) (o := none) (s := s) (idx := []) (t := kindAt i) (cls := "java/lang/String") e1
      obtain ⟨t, ht, hT⟩ := va_Tof (f := fun j => .int ((formB.getD i []).getD j 0)) (A := A) (hlen i hi) e3 (va_eqt e4) (fun j hj => va_eqt (hF _ (List.mem_flatMap.mpr ⟨i, List.mem_range.mpr hi, mem_r (f := fun j => Cond.eq (.elem (.field (kindAt i) "java/lang/String" "value" "[B") (.int (Int32.ofNat j))) (.int ((formB.getD i []).getD j 0))) hj⟩))) hA
      exact ⟨(a, t), fun _ => ⟨q1, ⟨cA, q3, q5, by rw [q6]; exact q2, hA a (Array.getElem?_eq_some_iff.mp q3).1⟩, vk_OFof q1 (va_eqt e2) hA, vk_OFof q1 ht hA, hT⟩⟩
    · exact ⟨(0, 0), fun h => absurd h hi⟩
  obtain ⟨ad, had⟩ := Classical.axiomOfChoice h0
  refine ⟨fun i => (ad i).1, fun i => (ad i).2, ⟨fun i hi => (had i hi).2, fun i j hi hj e => ?_⟩, fun i hi => (had i hi).1⟩
  obtain ⟨-, -, -, hvi, hTi⟩ := had i hi
  obtain ⟨-, -, -, hvj, hTj⟩ := had j hj
  have ev : (ad i).2 = (ad j).2 := by
    obtain ⟨cf, k, n, f, cell, g1, g2, g3, g4, g5, g6⟩ := hvi
    obtain ⟨cf', k', n', f', cell', g1', g2', g3', g4', g5', g6'⟩ := hvj
    cases g1.symm.trans g1'
    have e' : (ad i).1 = (ad j).1 := e
    rw [e'] at g3
    cases g3.symm.trans g3'
    have e9 := g5.symm.trans g5'
    first | (simpa using e9) | (simpa using e9.symm)
  rw [ev] at hTi
  obtain ⟨cell, t1, t2, t3, t4, t5, t6, t7⟩ := hTi
  obtain ⟨cell', u1, u2, u3, u4, u5, u6, u7⟩ := hTj
  cases t1.symm.trans u1
  have pos : ∀ i : Nat, i < 9 → 0 < formLen.getD i 0 := by
    intro i hi
    rcases lt9 hi with rfl | rfl | rfl | rfl | rfl | rfl | rfl | rfl | rfl <;> decide
  have e8 : (Value.int ((formB.getD i []).getD 0 0)) = .int ((formB.getD j []).getD 0 0) := Option.some.inj ((t6 0 (pos i hi)).symm.trans (u6 0 (pos j hj)))
  have e7 : (formB.getD i []).getD 0 0 = (formB.getD j []).getD 0 0 := by
    injection e8
  revert e7
  rcases lt9 hi with rfl | rfl | rfl | rfl | rfl | rfl | rfl | rfl | rfl <;> rcases lt9 hj with rfl | rfl | rfl | rfl | rfl | rfl | rfl | rfl | rfl <;> decide

theorem va_Z_inj {C n d : String} {v w : Value} {A : Nat → Prop} {U : State} {H : Heap} (h1 : va_Z C n d v A U H) (h2 : va_Z C n d w A U H) : v = w := by
  obtain ⟨cf, kf, fi, f, a, cell, p1, p2, p3, p4, p5, p6, p7, -⟩ := h1
  obtain ⟨cf', kf', fi', f', a', cell', q1, q2, q3, q4, q5, q6, q7, -⟩ := h2
  cases p1.symm.trans q1
  cases p4.symm.trans q4
  cases p5.symm.trans q5
  exact Option.some.inj (p7.symm.trans q7)
theorem start_ST {b : Nat} {s : State} (hts : ∀ w ∈ lw_tbl, w.before #[Value.ref b] s = true) (hg : (Jvm.Cond.and given_1 narrow_1).before #[Value.ref b] s = true) : ∃ en g : Nat → Nat, ST en g (fun q => s.heap.size ≤ q) s s.heap := by
  have hA : ∀ a : Nat, a < s.heap.size → ¬ (fun q => s.heap.size ≤ q) a := fun a h1 h2 => Nat.not_lt.mpr h2 h1
  obtain ⟨adK, adV, hS, hSe⟩ := start_S hg hA
  have hLI := nar_all LI LI_in hg
  have hLG := nar_all LG LG_in hg
  have hLH := nar_all LH LH_in hg
  obtain ⟨en, hEn⟩ := va_Enof (args := #[Value.ref b]) (s := s) (E := "CloudDeeds$Kind") (d := "LCloudDeeds$Kind;") (nm := nmKind) (F := [("java/lang/Enum", "ordinal", "I", [0, 1, 2, 3, 4, 5, 6, 7, 8])]) (A := fun q => s.heap.size ≤ q)
    (fun i hi => hts _ (of_decide_eq_true (List.all_eq_true.mp sts_ls i (List.mem_range.mpr hi)))) (hts _ (List.mem_of_getElem? (i := 85) (by decide +kernel)))
    (fun i hi => nar_all LA LA_in hg _ (mem_r (f := fun i => Cond.exactly (kindSt i) "CloudDeeds$Kind") hi))
    (fun q hq i hi => by
      cases List.mem_singleton.mp hq
      exact nar_all LB LB_in hg _ (mem_r (f := fun i => Cond.eq (.field (kindSt i) "java/lang/Enum" "ordinal" "I") (.int (([0, 1, 2, 3, 4, 5, 6, 7, 8] : List Int32).getD i 0))) hi))
    (fun i j hi hj hne => by
      have h := LD_all i hi j hj hne
      rcases h with h | h
      · exact Or.inl (nar_all LD LD_in hg _ (List.mem_map.mpr ⟨(i, j), h, rfl⟩))
      · exact Or.inr (nar_all LD LD_in hg _ (List.mem_map.mpr ⟨(j, i), h, rfl⟩))) hA
  have hen : ∀ i : Nat, i < 9 → (kindSt i).eval #[Value.ref b] s none [] s = some (.ref (en i)) := by
    intro i hi
    obtain ⟨a, c, cA, kA, q1, -⟩ := Cond.exactly_spec (args := #[Value.ref b]) (first := s) (o := none) (s := s) (idx := []) (nar_all LA LA_in hg _ (mem_r (f := fun i => Cond.exactly (kindSt i) "CloudDeeds$Kind") hi))
    have h1 := (hEn.1 i hi).1
    have h2 := va_Zref (A := fun q => s.heap.size ≤ q) (hts _ (of_decide_eq_true (List.all_eq_true.mp sts_ls i (List.mem_range.mpr hi)))) (hts _ (List.mem_of_getElem? (i := 85) (by decide +kernel))) q1 hA
    have e := va_Z_inj h1 h2
    rw [q1]
    injection e with e
    rw [e]
  obtain ⟨t0, ht0, hT0⟩ := va_Tof (tm := kinT) (ty := .object "CloudDeeds$Kind") (N := 9) (f := fun i => .ref (en i)) (A := fun q => s.heap.size ≤ q) (by decide) (hLG _ (List.mem_append_left _ (List.mem_append_left _ (by simp)))) (va_eqt (hLG _ (List.mem_append_left _ (List.mem_append_left _ (by simp)))))
    (fun j hj => va_eqv (hLG _ (List.mem_append_left _ (List.mem_append_right _ (mem_r (f := fun j => Cond.eq (.elem kinT (.int (Int32.ofNat j))) (kindSt j)) hj)))) (hen j hj)) hA
  obtain ⟨t1, ht1, hT1⟩ := va_Tof (tm := swT) (ty := .int) (N := 9) (f := fun i => .int (nI ((i + 1) % 9))) (A := fun q => s.heap.size ≤ q) (by decide) (hLG _ (List.mem_append_left _ (List.mem_append_left _ (by simp)))) (va_eqt (hLG _ (List.mem_append_left _ (List.mem_append_left _ (by simp)))))
    (fun j hj => va_eqt (hLG _ (List.mem_append_right _ (mem_r (f := fun j => Cond.eq (.elem swT (.int (Int32.ofNat j))) (.int (nI ((j + 1) % 9)))) hj)))) hA
  obtain ⟨t2, ht2, hT2⟩ := va_Tof (tm := doT) (ty := .byte) (N := 100) (f := fun j => .int (nI (48 + j % 10))) (A := fun q => s.heap.size ≤ q) (by decide) (hLG _ (List.mem_append_left _ (List.mem_append_left _ (by simp)))) (va_eqt (hLG _ (List.mem_append_left _ (List.mem_append_left _ (by simp)))))
    (fun j hj => va_eqt (hLH _ (mem_r (f := fun j => Cond.eq (.elem doT (.int (Int32.ofNat j))) (.int (nI (48 + j % 10)))) hj))) hA
  have hm : ∀ i : Nat, ∃ a : Nat, ∀ q : Nat × String, msgs[i]? = some q → vk_R "CloudDeeds" q.1 q.2 a s := by
    intro i
    cases hi : msgs[i]? with
    | none => exact ⟨0, fun q hq => nomatch hq⟩
    | some q0 =>
      have hmem := List.mem_of_getElem? hi
      obtain ⟨a, c, cA, kA, q1, -⟩ := Cond.exactly_spec (args := #[Value.ref b]) (first := s) (o := none) (s := s) (idx := []) (hLI _ (List.mem_append_right _ (List.mem_map.mpr ⟨q0, hmem, rfl⟩)))
      refine ⟨a, fun q hq => ?_⟩
      cases hq
      exact vk_R.of (hts _ (of_decide_eq_true (List.all_eq_true.mp msgs_ls q0 hmem))) q1
  obtain ⟨sA, hsA⟩ := Classical.axiomOfChoice hm
  have hI : ∀ c ∈ LI, c.before #[Value.ref b] s = true := hLI
  refine ⟨en, fun n => if n = 0 then t0 else if n = 1 then t1 else if n = 2 then t2 else if n < 100 then sA (n - 10) else if n < 200 then adK (n - 100) else adV (n - 200), ?_⟩
  have g1 : ∀ i : Nat, i < 9 → (fun n => if n = 0 then t0 else if n = 1 then t1 else if n = 2 then t2 else if n < 100 then sA (n - 10) else if n < 200 then adK (n - 100) else adV (n - 200)) (100 + i) = adK i := by
    intro i hi
    simp only []
    rw [if_neg (by omega), if_neg (by omega), if_neg (by omega), if_neg (by omega), if_pos (by omega), Nat.add_sub_cancel_left]
  have g2 : ∀ i : Nat, i < 9 → (fun n => if n = 0 then t0 else if n = 1 then t1 else if n = 2 then t2 else if n < 100 then sA (n - 10) else if n < 200 then adK (n - 100) else adV (n - 200)) (200 + i) = adV i := by
    intro i hi
    simp only []
    rw [if_neg (by omega), if_neg (by omega), if_neg (by omega), if_neg (by omega), if_neg (by omega), Nat.add_sub_cancel_left]
  have g3 : ∀ i : Nat, i < 22 → (fun n => if n = 0 then t0 else if n = 1 then t1 else if n = 2 then t2 else if n < 100 then sA (n - 10) else if n < 200 then adK (n - 100) else adV (n - 200)) (10 + i) = sA i := by
    intro i hi
    simp only []
    rw [if_neg (by omega), if_neg (by omega), if_neg (by omega), if_pos (by omega), Nat.add_sub_cancel_left]
  generalize hG : (fun n => if n = 0 then t0 else if n = 1 then t1 else if n = 2 then t2 else if n < 100 then sA (n - 10) else if n < 200 then adK (n - 100) else adV (n - 200)) = G at g1 g2 g3 ⊢
  have G0 : G 0 = t0 := by rw [← hG]; rfl
  have G1 : G 1 = t1 := by rw [← hG]; rfl
  have G2 : G 2 = t2 := by rw [← hG]; rfl
  refine ⟨vx_Zqof (hts _ (List.mem_of_getElem? (i := 676) (by decide +kernel))) (hts _ (List.mem_of_getElem? (i := 94) (by decide +kernel))) (hI _ (List.mem_append_left _ (by simp [LI]))) hA, vx_Zqof (hts _ (List.mem_of_getElem? (i := 678) (by decide +kernel))) (hts _ (List.mem_of_getElem? (i := 94) (by decide +kernel))) (hI _ (List.mem_append_left _ (by simp))) hA, fun i q hq => ?_, hEn, ?_, ?_, ?_, ?_, fun i hi => ?_, ⟨fun i hi => ?_, fun i j hi hj e => ?_⟩, va_Zof (hts _ (List.mem_of_getElem? (i := 322) (by decide +kernel))) (hts _ (List.mem_of_getElem? (i := 88) (by decide +kernel))) (va_eqi (hI _ (List.mem_append_left _ (by simp)))) hA, va_Nc.of (hI _ (List.mem_append_left _ (by simp))), va_Nc.of (hI _ (List.mem_append_left _ (by simp))), va_Zqof (hts _ (List.mem_of_getElem? (i := 1096) (by decide +kernel))) (hts _ (List.mem_of_getElem? (i := 104) (by decide +kernel))) (hI _ (List.mem_append_left _ (by simp))) hA, ?_, ?_⟩
  · have hi : i < 22 := (List.getElem?_eq_some_iff.mp hq).1
    rw [g3 i hi]
    exact hsA i q hq
  · rw [G0]; exact va_Zref (hts _ (List.mem_of_getElem? (i := 1067) (by decide +kernel))) (hts _ (List.mem_of_getElem? (i := 76) (by decide +kernel))) ht0 hA
  · rw [G0]; exact hT0
  · rw [G1]; exact va_Zref (hts _ (List.mem_of_getElem? (i := 542) (by decide +kernel))) (hts _ (List.mem_of_getElem? (i := 93) (by decide +kernel))) ht1 hA
  · rw [G1]; exact hT1
  · rw [g1 i hi]
    exact vk_OFof (hen i hi) (va_eqv (nar_all LCf LCf_in hg _ (mem_r (f := fun i => Cond.eq (.field (kindSt i) "CloudDeeds$Kind" "form" "Ljava/lang/String;") (kindAt i)) hi)) (hSe i hi)) hA
  · show va_O "java/lang/String" (G (100 + i)) _ _ _ ∧ va_OF "java/lang/String" "coder" "B" (.int 0) (G (100 + i)) _ _ _ ∧ va_OF "java/lang/String" "value" "[B" (.ref (G (200 + i))) (G (100 + i)) _ _ _ ∧ va_T .byte (G (200 + i)) _ _ _ _ _
    rw [g1 i hi, g2 i hi]
    exact hS.1 i hi
  · have e' : G (100 + i) = G (100 + j) := e
    rw [g1 i hi, g1 j hj] at e'
    exact hS.2 i j hi hj e'
  · rw [G2]; exact va_Zref (hts _ (List.mem_of_getElem? (i := 1325) (by decide +kernel))) (hts _ (List.mem_of_getElem? (i := 109) (by decide +kernel))) ht2 hA
  · rw [G2]; exact hT2

