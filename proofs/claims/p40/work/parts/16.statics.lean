/-! what the statics hold, of which nobody writes any: g is a table of addresses -/
def msgs : List (Nat × String) := [(335, "this is refused"), (106, "there is no such cloud"), (117, "a cloud has no such number"), (343, "there is no such owner"), (134, "an owner has no such number"), (143, "there is no such vineyard"), (145, "a vineyard has no such number"), (156, "there is no such cloud or vineyard"), (164, "the wind is out of range"), (183, "there is no such dawn, or there was no such cloud"), (198, "there is no such place"), (335, "this is refused"), (335, "this is refused"), (335, "this is refused"), (335, "this is refused"), (260, "there is no such reason"), (281, "there is no such dawn"), (286, "there is no such index"), (294, "there are no clouds"), (303, "there is no such account"), (335, "this is refused"), (335, "this is refused")]
def nmKind : List String := ["CLOUD", "VINE", "TITLE", "SELL", "PLEDGE", "REDEEM", "WIND", "HAIL", "DAWN"]
/-- the texts of the law: "@", ":", "/", "=", "", "?", "*" -/
def formLen : List Nat := [1, 1, 1, 1, 0, 1, 1]
def formB : List (List Int32) := [[64], [58], [47], [61], [], [63], [42]]
def lmsgs : List (Nat × String) := [(135, "@"), (140, ":"), (142, "/"), (144, "="), (150, ""), (152, "?"), (154, "*")]
def ST (en g : Nat → Nat) (A : Nat → Prop) (U : State) (H : Heap) : Prop :=
  vx_Zq Bundle.tN "UNASSIGNED_STACK" Bundle.steD A U H ∧ vx_Zq Bundle.tN "SUPPRESSED_SENTINEL" Bundle.listD A U H ∧
  (∀ (i : Nat) (q : Nat × String), msgs[i]? = some q → vk_R "CloudDeeds" q.1 q.2 (g (10 + i)) U) ∧
  va_En "CloudDeeds$Kind" "LCloudDeeds$Kind;" nmKind [("java/lang/Enum", "ordinal", "I", [0, 1, 2, 3, 4, 5, 6, 7, 8])] en A U H ∧
  (∀ (i : Nat) (q : Nat × String), lmsgs[i]? = some q → vk_R "CloudDeedsLaw" q.1 q.2 (g (100 + i)) U) ∧ True ∧
  va_Z "CloudDeeds$1" "$SwitchMap$CloudDeeds$Kind" "[I" (.ref (g 1)) A U H ∧ va_T .int (g 1) 9 (fun i => .int (nI ((i + 1) % 9))) A U H ∧
  True ∧
  vk_S 7 formLen formB (fun i => g (100 + i)) (fun i => g (200 + i)) A U H ∧
  va_Z "java/lang/String" "COMPACT_STRINGS" "Z" (.int 1) A U H ∧
  True ∧ True ∧
  va_Zq "jdk/internal/util/Preconditions" "SIOOBE_FORMATTER" "Ljava/util/function/BiFunction;" A U H ∧
  va_Z "java/lang/Integer" "DigitOnes" "[B" (.ref (g 2)) A U H ∧ va_T .byte (g 2) 100 (fun j => .int (nI (48 + j % 10))) A U H
theorem Nc_moved {C T : String} {u U : State} (hvm : u.vm.Alike U.vm) (h : va_Nc C T u) : va_Nc C T U := va_Nc.moved hvm h
/-- the statics, told to a callee over the world ws -/
theorem ST_call {en g : Nat → Nat} {A : Nat → Prop} {s : State} {H : Heap} {locs : List Loc} {ws : va_W} (h : ST en g A s s.heap) (hS : va_S A s.heap H locs) (hF : ∀ q, va_A ws H.size q → A q) : ∀ U : State, U.heap = H → s.WarmedH U.vm → ST en g (va_A ws H.size) U U.heap := by
  intro U hU hW
  obtain ⟨h1, h2, h3, h4, h5, h6, h7, h8, h9, h10, h11, h12, h13, h14, h15, h16⟩ := h
  have hvm := hW.alike
  have hk : ∀ a : Nat, a < s.heap.size → ¬ A a → H[a]? = s.heap[a]? := hS.2.1
  rw [hU]
  exact ⟨((h1.kept hk).narrow hF).moved hvm, ((h2.kept hk).narrow hF).moved hvm, fun i q hq => (h3 i q hq).warm hW, va_En.moved hvm ((h4.kept hk).narrow hF), fun i q hq => (h5 i q hq).warm hW, trivial, va_Z.moved hvm ((h7.kept hk).narrow hF), va_T.moved hvm ((h8.kept hk).narrow hF), trivial, vk_S.moved hvm ((h10.kept hk).narrow hF), va_Z.moved hvm ((h11.kept hk).narrow hF), trivial, trivial, va_Zq.moved hvm ((h14.kept hk).narrow hF), va_Z.moved hvm ((h15.kept hk).narrow hF), va_T.moved hvm ((h16.kept hk).narrow hF)⟩
def XS (en g : Nat → Nat) (ws : va_W) (sz : Nat) : State → Prop := fun U => ST en g (va_A ws sz) U U.heap
theorem Xok_S {en g : Nat → Nat} {ws : va_W} {sz : Nat} : Xok (XS en g ws sz) := by
  intro U V hh hv h
  obtain ⟨h1, h2, h3, h4, h5, h6, h7, h8, h9, h10, h11, h12, h13, h14, h15, h16⟩ := h
  have hvm : U.vm.Alike V.vm := by rw [hv]; exact Vm.Alike.refl V.vm
  unfold XS
  rw [← hh]
  exact ⟨h1.moved hvm, h2.moved hvm, fun i q hq => (h3 i q hq).same hv.symm, va_En.moved hvm h4, fun i q hq => (h5 i q hq).same hv.symm, trivial, va_Z.moved hvm h7, va_T.moved hvm h8, trivial, vk_S.moved hvm h10, va_Z.moved hvm h11, trivial, trivial, va_Zq.moved hvm h14, va_Z.moved hvm h15, va_T.moved hvm h16⟩
