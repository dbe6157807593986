/-! ===== a turn of the law ===== -/
theorem and31 (x : Int32) : ∃ k : Nat, k < 32 ∧ x &&& 31 = nI k := ⟨x.toBitVec.toNat % 2 ^ 5, Nat.mod_lt _ (by decide), pk_and x 5 (by decide)⟩
/-- the turns left: the head of the loop is left when i passes L - 4 -/
theorem turn_lt {i L : Nat} (hi : i < 2 ^ 30) (hL : L ≤ 2048) : (nI L - 4 < nI i) ↔ L < i + 4 := by
  rw [Int32.lt_iff_toInt_lt, show (4 : Int32) = nI 4 from rfl, pk_sub_toInt (by omega) (by decide), nI_toInt (by omega)]
  omega
