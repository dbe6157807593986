/-! ===== the model follows a bell ===== -/
def trackM (R : Nat → List Nat) (a T : Nat) (t : Nat → Int32) : Prop := ∀ i, i ≤ T → t i = nI ((R i).idxOf a + 1)
theorem tr_eq {n a T i j : Nat} {R : Nat → List Nat} {t : Nat → Int32} (h : trackM R a T t) (hR : ∀ i, i ≤ T → isRow n (R i)) (ha : a < n) (hn : n ≤ 7) (hi : i ≤ T) (hj : j ≤ T) : t i = t j ↔ (R i).idxOf a = (R j).idxOf a := by
  have l1 := idx_lt (hR i hi) ha
  have l2 := idx_lt (hR j hj) ha
  rw [h i hi, h j hj, nI_eq (by omega) (by omega)]
  omega
