/-! ===== the model reads ===== -/
theorem rac_digit {n c : Nat} {s : RS} (hcr : s.2.2.2 = false) (h1 : 49 + s.2.2.1 ≤ c) (h2 : c ≤ 48 + n) (hn : n ≤ 7) : rac n c s = if cbr n (s.2.1 ||| 2 ^ (c - 49)) (c - 48) then some (s.1, s.2.1 ||| 2 ^ (c - 49), c - 48, false) else none := by
  unfold rac
  rw [if_neg (by omega), if_neg (by omega), hcr, if_neg Bool.false_ne_true, if_neg (by omega), if_neg (by omega)]
theorem rac_other {n c : Nat} {s : RS} (hcr : s.2.2.2 = false) (h : ¬ (49 + s.2.2.1 ≤ c ∧ c ≤ 48 + n)) (h46 : c ≠ 46) (h120 : c = 120 → 0 < s.2.1 ∨ okb n 0 = false) : rac n c s = none := by
  unfold rac
  rw [if_neg h46]
  by_cases c1 : c = 120
  · rw [if_pos c1, hcr, if_neg Bool.false_ne_true]
    by_cases c2 : 0 < s.2.1
    · rw [if_pos c2]
    · rw [if_neg c2]
      rcases h120 c1 with q | q
      · exact absurd q c2
      · rw [q]; rfl
  · rw [if_neg c1, hcr, if_neg Bool.false_ne_true]
    by_cases c2 : c ≤ 48 + s.2.2.1
    · rw [if_pos c2]
    · rw [if_neg c2, if_pos (by omega)]
theorem rd_none {n i d : Nat} {tx : Nat → Nat} {s : RS} (h : rac n (tx i) s = none) : rd n tx (d + 1) i s = .inl i := by rw [rd, h]
theorem rd_some {n i d : Nat} {tx : Nat → Nat} {s s' : RS} (h : rac n (tx i) s = some s') : rd n tx (d + 1) i s = rd n tx d (i + 1) s' := by rw [rd, h]
def stopAt (n : Nat) (tx : Nat → Nat) (d i : Nat) (s : RS) : Prop := d = 0 ∨ tx i = 46 ∨ rac n (tx i) s = none
theorem stop_no {n d i : Nat} {tx : Nat → Nat} {s : RS} (h : stopAt n tx d i s) (hc : cmpl n s.2.1 s.2.2.2 = false) : rd n tx d i s = .inl i := by
  cases d with
  | zero => rw [rd, hc]; rfl
  | succ d =>
    rcases h with q | q | q
    · exact absurd q (by omega)
    · refine rd_none ?_
      unfold rac
      rw [if_pos q, hc]
      by_cases w : 19 ≤ s.1.length
      · rw [if_pos w]
      · rw [if_neg w]; rfl
    · exact rd_none q
