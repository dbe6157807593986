/-! ===== small rows ===== -/
theorem nI_n4 {d : Nat} (h : d < 2 ^ 31) : nI d ≠ -4 := fun q => nI_pos h (by rw [q]; decide)
theorem cpy_at {f g : Nat → Int32} {N j : Nat} (h : j < N) : va_cpy f g 0 0 N j = f j := by
  unfold va_cpy
  rw [if_pos (by omega), show 0 + (j - 0) = j by omega]
theorem up_n {f : Nat → Int32} {k j : Nat} {v : Int32} (h : j ≠ k) : upd f k v j = f j := by unfold upd; rw [if_neg h]
theorem up_e {f : Nat → Int32} {k : Nat} {v : Int32} : upd f k v k = v := by unfold upd; rw [if_pos rfl]
theorem in0 (x : Int32) {up : Nat} (hu : up < 2 ^ 31) : f_X10_isWithin x 0 (nI up) = 0 ∨ (f_X10_isWithin x 0 (nI up) = 1 ∧ ∃ k, k ≤ up ∧ x = nI k) := by
  unfold f_X10_isWithin
  by_cases c : x < 0
  · exact Or.inl (if_pos c)
  · obtain ⟨k, hk, rfl⟩ := nI_of c
    rw [if_neg c]
    by_cases c2 : k ≤ up
    · exact Or.inr ⟨if_neg (nI_nlt c2 (by omega)), k, c2, rfl⟩
    · exact Or.inl (if_pos (nI_lt (by omega) (by omega)))
theorem in1 (x : Int32) {up : Nat} (hu : up < 2 ^ 31) : f_X10_isWithin x 1 (nI up) = 0 ∨ (f_X10_isWithin x 1 (nI up) = 1 ∧ ∃ k, k < up ∧ x = nI (k + 1)) := by
  unfold f_X10_isWithin
  by_cases c : x < 1
  · exact Or.inl (if_pos c)
  · obtain ⟨k, hk, rfl⟩ := nI_of (x := x) (fun q => c (Int32.lt_trans q (by decide)))
    rw [if_neg c]
    by_cases c2 : k ≤ up
    · refine Or.inr ⟨if_neg (nI_nlt c2 (by omega)), k - 1, ?_, ?_⟩
      · rcases Nat.eq_zero_or_pos k with q | q
        · subst q; exact absurd (show nI 0 < 1 by decide) c
        · omega
      · rcases Nat.eq_zero_or_pos k with q | q
        · subst q; exact absurd (show nI 0 < 1 by decide) c
        · rw [show k - 1 + 1 = k by omega]
    · exact Or.inl (if_pos (nI_lt (by omega) (by omega)))
theorem inm (x : Int32) {L : Nat} (hL : L < 2 ^ 31) : f_X10_isWithin x 0 (nI L - 1) = 0 ∨ (f_X10_isWithin x 0 (nI L - 1) = 1 ∧ ∃ k, k < L ∧ x = nI k) := by
  cases L with
  | zero =>
    refine Or.inl ?_
    unfold f_X10_isWithin
    by_cases c : x < 0
    · exact if_pos c
    · rw [if_neg c, if_pos]
      obtain ⟨k, hk, rfl⟩ := nI_of c
      refine Int32.lt_iff_toInt_lt.mpr ?_
      rw [nI_toInt hk, show (nI 0 - 1 : Int32).toInt = -1 by decide]
      omega
  | succ L =>
    rw [show (1 : Int32) = nI 1 from rfl, pk_sub (by omega), Nat.add_sub_cancel]
    rcases in0 x (up := L) (by omega) with q | ⟨q, k, hk, e⟩
    · exact Or.inl q
    · exact Or.inr ⟨q, k, by omega, e⟩
theorem rowsX.row {n T : Nat} {R : Nat → List Nat} {r : Nat → Int32} (h : rowsX n R T r) : ∀ i, i ≤ T → isRow n (R i) := fun i hi => (h i hi).1
