/-! ===== the strings at the start ===== -/
def kS : List Nat := [15, 17, 19, 21, 23, 25, 27, 7, 9, 11, 13]
def tmS (i : Nat) : Term := .string "CalledTouches$Start" (kS.getD i 0)
def litS : List String := ["145", "147", "14", "34", "123", "1234", "12347", "x.14.x.14.x.14.x.12", "5.1.5.1.5.1.5.1.5.125", "x.16.x.16.x.16.x.16.x.16.x.12", "7.1.7.1.7.1.7.1.7.1.7.1.7.127"]
theorem qlay : Cond.laysStatic "java/lang/String" "COMPACT_STRINGS" "Z" ∈ lw_tbl := by decide +kernel
theorem qini : Cond.initialized "java/lang/String" ∈ lw_tbl := by decide +kernel
theorem qref : ∀ i, i < 11 → Cond.stringRef "CalledTouches$Start" (kS.getD i 0) (litS.getD i "") ∈ lw_tbl := by decide +kernel
abbrev lw_flat : List Cond := flatC (given_1.and narrow_1)
theorem m_ex : ∀ i, i < 11 → Cond.exactly (tmS i) "java/lang/String" ∈ lw_flat := by decide +kernel
theorem m_co : ∀ i, i < 11 → Cond.eq (.field (tmS i) "java/lang/String" "coder" "B") (.int 0) ∈ lw_flat := by decide +kernel
theorem m_ar : ∀ i, i < 11 → Cond.arrayOf (.field (tmS i) "java/lang/String" "value" "[B") .byte ∈ lw_flat := by decide +kernel
theorem m_le : ∀ i, i < 11 → Cond.eq (.length (.field (tmS i) "java/lang/String" "value" "[B")) (.int (Int32.ofNat (lenS.getD i 0))) ∈ lw_flat := by decide +kernel
theorem m_el : ∀ i, i < 11 → ∀ j, j < lenS.getD i 0 → Cond.eq (.elem (.field (tmS i) "java/lang/String" "value" "[B") (.int (Int32.ofNat j))) (.int ((bytS.getD i []).getD j 0)) ∈ lw_flat := by decide +kernel
theorem m_ne : ∀ i, i < 11 → ∀ j, j < 11 → i = j ∨ (Cond.not (Cond.eq (tmS i) (tmS j)) ∈ lw_flat ∨ Cond.not (Cond.eq (tmS j) (tmS i)) ∈ lw_flat) := by decide +kernel
theorem m_cs : Cond.eq (.static "java/lang/String" "COMPACT_STRINGS" "Z") (.int 1) ∈ lw_flat := by decide +kernel
