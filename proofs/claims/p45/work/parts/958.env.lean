/-! THE LAW'S START: what the tables and the premises give. -/
def R_law : String := "FirstWordsLaw"
def lw_At (p : Program) (s : State) (m : MethodId) (meth : Method) (c : Code) (b L : Nat) (xs : Nat → Int32) : Prop :=
  p.tables.exec = Jvm.exec ∧ c.code = code ∧ meth.sig.returnType = ret ∧ c.maxLocals = 28 ∧ s.vm.findClass R_law = some m.cls ∧ (∀ w ∈ lw_tbl, w.before #[Value.ref b] s = true) ∧ va_X b L xs s s.heap ∧ b < s.heap.size ∧ meth.locks = false ∧ (Jvm.Cond.and given_1 narrow_1).before #[Value.ref b] s = true
def Es (D : va_G) (cs : Nat → ClassId) (st adV : Nat → Nat) (A : Nat → Prop) (s : State) : Prop :=
  va_K D vwCl (tyL cs) s ∧ vk_S 12 sln sT st adV A s s.heap ∧ va_Z RJ0 "COMPACT_STRINGS" "Z" (.int 1) A s s.heap ∧ va_Zq RJ3 "SIOOBE_FORMATTER" "Ljava/util/function/BiFunction;" A s s.heap ∧
  (∀ i : Nat, i < 12 → vk_R RX3 (sdx_.getD i 0) (stx_.getD i "") (st i) s) ∧ ∀ q ∈ nst_, va_Nw (.methodLinkNest q.1 q.2.1 q.2.2.1 q.2.2.2) s
abbrev tmS (i : Nat) : Term := .string RX3 (sdx_.getD i 0)
def flP : List Jvm.Cond := flatC (Jvm.Cond.and given_1 narrow_1)
theorem fp_ex : ∀ i, i < 12 → Cond.exactly (tmS i) "java/lang/String" ∈ flP := by decide +kernel
theorem fp_co : ∀ i, i < 12 → Cond.eq (.field (tmS i) "java/lang/String" "coder" "B") (.int 0) ∈ flP := by decide +kernel
theorem fp_ar : ∀ i, i < 12 → Cond.arrayOf (.field (tmS i) "java/lang/String" "value" "[B") .byte ∈ flP := by decide +kernel
theorem fp_le : ∀ i, i < 12 → Cond.eq (.length (.field (tmS i) "java/lang/String" "value" "[B")) (.int (Int32.ofNat (sln.getD i 0))) ∈ flP := by decide +kernel
theorem fp_el : ∀ i, i < 12 → ∀ j, j < sln.getD i 0 → Cond.eq (.elem (.field (tmS i) "java/lang/String" "value" "[B") (.int (Int32.ofNat j))) (.int ((sT.getD i []).getD j 0)) ∈ flP := by decide +kernel
theorem fp_ne : ∀ i, i < 12 → ∀ j, j < 12 → i ≠ j → Cond.not (Cond.eq (tmS i) (tmS j)) ∈ flP ∨ Cond.not (Cond.eq (tmS j) (tmS i)) ∈ flP := by decide +kernel
theorem fp_st : Cond.eq (.static RJ0 "COMPACT_STRINGS" "Z") (.int 1) ∈ flP ∧ Cond.isRef (.static RJ3 "SIOOBE_FORMATTER" "Ljava/util/function/BiFunction;") ∈ flP := by decide +kernel
theorem tb_st : Cond.laysStatic RJ0 "COMPACT_STRINGS" "Z" ∈ lw_tbl ∧ Cond.laysStatic RJ3 "SIOOBE_FORMATTER" "Ljava/util/function/BiFunction;" ∈ lw_tbl ∧ Cond.initialized RJ0 ∈ lw_tbl ∧ Cond.initialized RJ3 ∈ lw_tbl ∧ Cond.arrayOver (.object RX1) ∈ lw_tbl ∧ Cond.arrayOver (.object RX0) ∈ lw_tbl ∧ Cond.arrayOver (.array .int) ∈ lw_tbl := by decide +kernel
theorem tb_rf : ∀ i, i < 12 → Cond.stringRef RX3 (sdx_.getD i 0) (stx_.getD i "") ∈ lw_tbl := by decide +kernel
theorem tb_ns : ∀ q ∈ nst_, Cond.methodLinkNest q.1 q.2.1 q.2.2.1 q.2.2.2 ∈ lw_tbl := by decide +kernel
