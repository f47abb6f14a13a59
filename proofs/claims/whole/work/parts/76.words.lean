def D0 : Dat := (fun _ _ => 0, fun _ _ => 0, fun _ _ => none)
def nrw : List Cond := flatC (Jvm.Cond.and given_1 narrow_1)
def tmS (i : Nat) : Term := .string "FlowChain$Reader" (stxt.getD i (0, "")).1
theorem nr_ex : ∀ i, i < 10 → Cond.exactly (tmS i) "java/lang/String" ∈ nrw := by decide +kernel
theorem nr_co : ∀ i, i < 10 → Cond.eq (.field (tmS i) "java/lang/String" "coder" "B") (.int 0) ∈ nrw := by decide +kernel
theorem nr_ar : ∀ i, i < 10 → Cond.arrayOf (.field (tmS i) "java/lang/String" "value" "[B") .byte ∈ nrw := by decide +kernel
theorem nr_le : ∀ i, i < 10 → Cond.eq (.length (.field (tmS i) "java/lang/String" "value" "[B")) (.int (Int32.ofNat (slen.getD i 0))) ∈ nrw := by decide +kernel
theorem nr_el : ∀ i, i < 10 → ∀ j, j < slen.getD i 0 → Cond.eq (.elem (.field (tmS i) "java/lang/String" "value" "[B") (.int (Int32.ofNat j))) (.int ((sbyt.getD i []).getD j 0)) ∈ nrw := by decide +kernel
theorem nr_ne : ∀ i, i < 10 → ∀ j, j < 10 → i ≠ j → (Cond.not (Cond.eq (tmS i) (tmS j)) ∈ nrw ∨ Cond.not (Cond.eq (tmS j) (tmS i)) ∈ nrw) := by decide +kernel
theorem nr_tk : ∀ j, j < 16 → Cond.eq (.elem (.static "FlowChain$Code" "TAKEN" "[I") (.int (Int32.ofNat j))) (.int (takenl.getD j 0)) ∈ nrw := by decide +kernel
theorem nr_pt : ∀ j, j < 16 → Cond.eq (.elem (.static "FlowChain$Code" "PUT" "[I") (.int (Int32.ofNat j))) (.int (putl.getD j 0)) ∈ nrw := by decide +kernel
theorem nr_nc : ∀ E ∈ exl, ∀ F ∈ exl, E ≠ F → Cond.not (.castable E F) ∈ nrw := by decide +kernel
theorem tb_nest : ∀ q ∈ nestl, Cond.methodLinkNest q.1 q.2.1 q.2.2 "FlowChain" ∈ lw_tbl := by decide +kernel
theorem tb_cast : ∀ E ∈ exl, Cond.castable E E ∈ lw_tbl := by decide +kernel
theorem tb_decl : ∀ x ∈ decll, Cond.declares x ∈ lw_tbl := by decide +kernel
theorem tb_text : ∀ i, i < 10 → Cond.stringRef "FlowChain$Reader" (stxt.getD i (0, "")).1 (stxt.getD i (0, "")).2 ∈ lw_tbl := by decide +kernel
