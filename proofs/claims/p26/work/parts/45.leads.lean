/-! ===== too many for their holes ===== -/
theorem nodup_len : ∀ (N : Nat) (l : List Nat), l.Nodup → (∀ x ∈ l, x < N) → l.length ≤ N
  | 0, l, _, h => by
    cases l with
    | nil => exact Nat.le_refl 0
    | cons a l => exact absurd (h a (List.mem_cons_self ..)) (by omega)
  | N + 1, l, hd, h => by
    by_cases c : N ∈ l
    · have h1 := nodup_len N (l.erase N) (hd.erase N) (fun x hx => by
        have := (hd.mem_erase_iff).mp hx
        have := h x this.2
        have := ((hd.mem_erase_iff).mp hx).1
        omega)
      rw [List.length_erase_of_mem c] at h1
      omega
    · have := nodup_len N l hd (fun x hx => by
        have := h x hx
        have : x ≠ N := fun q => c (q ▸ hx)
        omega)
      omega
theorem php (f : Nat → Nat) (N : Nat) (h : ∀ i, i ≤ N → f i < N) : ∃ i j, i < j ∧ j ≤ N ∧ f i = f j := by
  apply Classical.byContradiction
  intro q
  have hd : ((List.range (N + 1)).map f).Nodup := by
    refine List.pairwise_map.mpr (List.Pairwise.imp_of_mem (R := fun a b => a < b) (fun {a b} ha hb hab w => q ⟨a, b, hab, ?_, w⟩) List.pairwise_lt_range)
    have := List.mem_range.mp hb
    omega
  have := nodup_len N _ hd (fun x hx => by
    obtain ⟨a, ha, e⟩ := List.mem_map.mp hx
    rw [← e]; exact h a (by have := List.mem_range.mp ha; omega))
  rw [List.length_map, List.length_range] at this
  omega
/-! ### leads as rows -/
theorem range_mul {n : Nat} {B : List Nat} (h : isRow n B) : mulp (List.range n) B = B := by
  refine list_ext (n := n) (by rw [comp_len, h.len]) h.len (fun p hp => ?_)
  have := row_at_lt h hp
  rw [comp_at (by rw [h.len]; exact hp)]
  generalize B.getD p 0 = q at this ⊢
  simp [List.getD_eq_getElem?_getD, this]
theorem run_mul (Z : List Nat) : ∀ (cs A : List Nat), run (mulp Z A) cs = mulp Z (run A cs)
  | [], _ => rfl
  | c :: cs, A => by
    rw [run_cons, run_cons, ← run_mul Z cs (cg c A)]
    congr 1
    exact cg_map _ A c
/-- the row that a lead of a kind makes of rounds -/
def LD (n : Nat) (m : List Nat) (b g k : Nat) : List Nat := run (List.range n) (lc m b g k)
theorem LD_row (n : Nat) (m : List Nat) (b g k : Nat) : isRow n (LD n m b g k) := isRow.run _ (isRow.range n)
theorem run_lead {n : Nat} {Z : List Nat} (h : isRow n Z) (m : List Nat) (b g k : Nat) : run Z (lc m b g k) = mulp Z (LD n m b g k) := by
  have := run_mul Z (lc m b g k) (List.range n)
  rw [comp_range h.len] at this
  exact this
theorem p_roundsBehindLead {n : Nat} {m : List Nat} {b g kd : Nat} {places : Nat → Int32} (h : OKs n m b g []) (hkd : kd ≤ 2) (hp : ∀ j, j < m.length → places j = nI (m.getD j 0)) : f_X9_roundsBehindLead (nI kd) (nI n) (nI m.length) (nI b) (nI g) places = some (nI (xr (LD n m b g kd))) := by
  obtain ⟨⟨hn4, hn⟩, ⟨hm1, hm⟩, hmo, hbo, hgo, -, -⟩ := id h
  have hl := lc_len (m := m) (b := b) (g := g) (k := kd) hm1
  have L : ∀ (d j M : Nat) (Z : List Nat), j + d = m.length → isRow n Z → d < M → f_X9_roundsBehindLead_L10 (nI kd) (nI n) (nI m.length) (nI b) (nI g) places M (nI (xr Z)) (nI j) = some (nI (xr (run Z ((lc m b g kd).drop j)))) := by
    intro d
    induction d with
    | zero =>
      intro j M Z hj hZ hM
      obtain ⟨M, rfl⟩ : ∃ k, M = k + 1 := ⟨M - 1, by omega⟩
      rw [f_X9_roundsBehindLead_L10, if_pos (nI_le (by omega) (by omega)), List.drop_eq_nil_of_le (by omega)]; rfl
    | succ d ih =>
      intro j M Z hj hZ hM
      obtain ⟨M, rfl⟩ : ∃ k, M = k + 1 := ⟨M - 1, by omega⟩
      have hc := lc_ok (k := kd) hmo hbo hgo _ (getD_mem (l := lc m b g kd) (j := j) (by omega))
      rw [f_X9_roundsBehindLead_L10, if_neg (nI_ge (by omega) (by omega)), bd_t (p_placesMade hm1 hm hkd (by omega) hp), bd_t (p_behindChange hZ hn (by have := hc.1; omega)), nI_1, drop_cons (show j < (lc m b g kd).length by omega), run_cons]
      exact ih (j + 1) M _ (by omega) hZ.cg (by omega)
  unfold f_X9_roundsBehindLead
  rw [bd_t (p_rounds n (by omega))]
  have := L m.length 0 fu (List.range n) (by omega) (isRow.range n) (by show m.length < 8192; omega)
  rw [List.drop_zero] at this
  exact this
/-! ### the plain course -/
def pw (n : Nat) (L : List Nat) : Nat → List Nat
  | 0 => List.range n
  | t + 1 => mulp (pw n L t) L
theorem pw_row {n : Nat} {L : List Nat} (h : isRow n L) : ∀ t, isRow n (pw n L t)
  | 0 => isRow.range n
  | t + 1 => isRow.mul (pw_row h t) h
theorem pw_add {n : Nat} {L : List Nat} (h : isRow n L) (i : Nat) : ∀ d, pw n L (i + d) = mulp (pw n L i) (pw n L d)
  | 0 => by rw [pw, comp_range (pw_row h i).len]; rfl
  | d + 1 => by
    rw [← Nat.add_assoc, pw, pw_add h i d, pw]
    exact comp_assoc (n := n) (fun c hc => by rw [(pw_row h d).len]; exact h.lt hc)
theorem mul_cancel {n : Nat} {A B : List Nat} (hA : isRow n A) (hB : isRow n B) (e : mulp A B = A) : B = List.range n := by
  have h1 : mulp (mulp (inv n A) A) B = mulp (inv n A) (mulp A B) := comp_assoc (n := n) (fun c hc => by rw [hA.len]; exact hB.lt hc)
  rw [inv_comp hA, range_mul hB, e, inv_comp hA] at h1
  exact h1
theorem order {n : Nat} {L : List Nat} (h : isRow n L) (hn0 : 0 < n) (hn : n ≤ 7) : ∃ t, 1 ≤ t ∧ t ≤ 5040 ∧ pw n L t = List.range n ∧ ∀ j, 1 ≤ j → j < t → pw n L j ≠ List.range n := by
  obtain ⟨i, j, hij, hj, e⟩ := php (fun t => rk (pw n L t)) 5040 (fun t _ => rk_5040 (pw_row h t) hn)
  have e2 := rk_inj (pw_row h i) (pw_row h j) hn0 hn e
  have e3 : pw n L (j - i) = List.range n := mul_cancel (pw_row h i) (pw_row h _) (by rw [← pw_add h, show i + (j - i) = j by omega, e2])
  refine ⟨firstEq (fun t => decide (pw n L t = List.range n)) (j - i - 1) 1, firstEq_ge _ _ _, ?_, ?_, fun q a b => ?_⟩
  · have := firstEq_le (fun t => decide (pw n L t = List.range n)) (j - i - 1) 1
    omega
  · exact of_decide_eq_true (firstEq_yes (fun t => decide (pw n L t = List.range n)) (j - i - 1) 1 (by rw [show 1 + (j - i - 1) = j - i by omega]; exact decide_eq_true e3))
  · exact of_decide_eq_false (firstEq_no (fun t => decide (pw n L t = List.range n)) (j - i - 1) 1 q a b)
theorem p_plainCourse {n : Nat} {m : List Nat} {b g t0 : Nat} {places : Nat → Int32} (h : OKs n m b g []) (hp : ∀ j, j < m.length → places j = nI (m.getD j 0)) (h1 : 1 ≤ t0) (h2 : t0 ≤ 5040) (h3 : pw n (LD n m b g 0) t0 = List.range n) (h4 : ∀ j, 1 ≤ j → j < t0 → pw n (LD n m b g 0) j ≠ List.range n) : f_X9_plainCourse (nI n) (nI m.length) (nI b) (nI g) places = some (nI t0) := by
  obtain ⟨⟨hn4, hn⟩, -⟩ := id h
  have hL := LD_row n m b g 0
  have L : ∀ (d t M : Nat), t + d = t0 → 1 ≤ t → d < M → f_X9_plainCourse_L19 (nI (xr (List.range n))) (nI (xr (LD n m b g 0))) (nI n) (nI m.length) (nI b) (nI g) places M (nI (xr (pw n (LD n m b g 0) t))) (nI t) = some (nI t0) := by
    intro d
    induction d with
    | zero =>
      intro t M ht h1 hM
      obtain ⟨M, rfl⟩ : ∃ k, M = k + 1 := ⟨M - 1, by omega⟩
      obtain rfl : t = t0 := by omega
      rw [f_X9_plainCourse_L19, if_pos (by rw [h3])]
    | succ d ih =>
      intro t M ht h1 hM
      obtain ⟨M, rfl⟩ : ∃ k, M = k + 1 := ⟨M - 1, by omega⟩
      have ht := pw_row hL t
      have x1 := xr_lt ht hn
      have x2 := xr_lt (isRow.range n) hn
      rw [f_X9_plainCourse_L19, if_neg (fun q => h4 t h1 (by omega) (xr_inj ht (isRow.range n) hn ((nI_eq (by omega) (by omega)).mp q))), if_neg (show ¬ (5040 : Int32) ≤ nI t from @nI_ge t 5040 (by omega) (by decide)), bd_t (p_behindLead ht hL hn), nI_1]
      exact ih (t + 1) M (by omega) (by omega) (by omega)
  unfold f_X9_plainCourse
  rw [bd_t (p_rounds n (by omega)), bd_t (show f_X9_roundsBehindLead 0 _ _ _ _ _ = _ from p_roundsBehindLead h (kd := 0) (by omega) hp)]
  have := L (t0 - 1) 1 fu (by omega) (by omega) (by show t0 - 1 < 8192; omega)
  rw [pw, pw, range_mul hL] at this
  exact this
