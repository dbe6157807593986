/-! ===== the place of a row among all ===== -/
def lessL (a : Nat) (l : List Nat) : Nat := l.countP (fun b => decide (b < a))
def hr : Nat → List Nat → Nat
  | v, [] => v
  | v, a :: l => hr (v * (l.length + 1) + lessL a l) l
def rk (Z : List Nat) : Nat := hr 0 Z
def fac : Nat → Nat
  | 0 => 1
  | n + 1 => (n + 1) * fac n
theorem lessL_le (a : Nat) (l : List Nat) : lessL a l ≤ l.length := List.countP_le_length
theorem hr_lt : ∀ (l : List Nat) (v : Nat), hr v l < (v + 1) * fac l.length
  | [], v => by simp [hr, fac]
  | a :: l, v => by
    have h1 := hr_lt l (v * (l.length + 1) + lessL a l)
    have h2 := lessL_le a l
    simp only [hr, List.length_cons, fac]
    refine Nat.lt_of_lt_of_le h1 ?_
    rw [← Nat.mul_assoc]
    apply Nat.mul_le_mul_right
    rw [Nat.add_mul]
    omega
theorem rk_lt {n : Nat} {Z : List Nat} (h : isRow n Z) : rk Z < fac n := by
  have := hr_lt Z 0
  rw [h.len] at this
  simpa [rk] using this
theorem fac_le : ∀ n, n < 8 → fac n ≤ 5040 := by decide
theorem rk_5040 {n : Nat} {Z : List Nat} (h : isRow n Z) (hn : n ≤ 7) : rk Z < 5040 := Nat.lt_of_lt_of_le (rk_lt h) (fac_le n (by omega))
theorem lessL_range : ∀ n, n < 8 → ∀ a, a ≤ n → lessL a (List.range n) = a := by decide
theorem lessL_row {n a : Nat} {Z : List Nat} (h : isRow n Z) (hn : n ≤ 7) (ha : a ≤ n) : lessL a Z = a := by
  unfold lessL
  rw [List.Perm.countP_eq _ h]
  exact lessL_range n (by omega) a ha
theorem lessL_app (a : Nat) (l k : List Nat) : lessL a (l ++ k) = lessL a l + lessL a k := by simp [lessL]
theorem lessL_cons (a b : Nat) (l : List Nat) : lessL a (b :: l) = (if b < a then 1 else 0) + lessL a l := by
  unfold lessL
  by_cases h : b < a
  · simp [h, Nat.add_comm]
  · simp [h]
theorem drop_cons {Z : List Nat} {j : Nat} (h : j < Z.length) : Z.drop j = Z.getD j 0 :: Z.drop (j + 1) := by
  rw [getD_lt h]
  exact List.drop_eq_getElem_cons h
theorem take_snoc {Z : List Nat} {j : Nat} (h : j < Z.length) : Z.take (j + 1) = Z.take j ++ [Z.getD j 0] := by
  rw [getD_lt h]
  exact List.take_succ_eq_append_getElem h
theorem row_split {n j : Nat} {Z : List Nat} (h : isRow n Z) (hn : n ≤ 7) (hj : j < n) : lessL (Z.getD j 0) (Z.take j) + lessL (Z.getD j 0) (Z.drop (j + 1)) = Z.getD j 0 := by
  have hl : j < Z.length := by rw [h.len]; exact hj
  have key : ∀ x, x ≤ n → lessL x (Z.take j) + ((if Z.getD j 0 < x then 1 else 0) + lessL x (Z.drop (j + 1))) = x := by
    intro x hx
    rw [← lessL_cons, ← drop_cons hl, ← lessL_app, List.take_append_drop]
    exact lessL_row h hn hx
  have := key _ (Nat.le_of_lt (row_at_lt h hj))
  rw [if_neg (Nat.lt_irrefl _)] at this
  omega
def popc (y : Nat) : Nat := bitN y 0 + bitN y 1 + bitN y 2 + bitN y 3 + bitN y 4 + bitN y 5 + bitN y 6
theorem p_bitCount : ∀ y, y < 128 → f_J6_bitCount_0f7a4 (nI y) = nI (popc y) := by decide +kernel
theorem popc_or : ∀ b, b < 7 → ∀ u, u < 128 → bitN u b = 0 → (u ||| 2 ^ b < 128 ∧ (∀ i, i < 7 → bitN (u ||| 2 ^ b) i = if i = b then 1 else bitN u i) ∧ ∀ a, a < 8 → popc ((u ||| 2 ^ b) % 2 ^ a) = popc (u % 2 ^ a) + if b < a then 1 else 0) := by decide +kernel
theorem rk_L {n : Nat} {Z : List Nat} (h : isRow n Z) (hn : n ≤ 7) : ∀ (d j v u m : Nat), j + d = n → u < 128 → (∀ i, i < 7 → (bitN u i = 1 ↔ i ∈ Z.take j)) → (∀ a, a < 8 → popc (u % 2 ^ a) = lessL a (Z.take j)) → d < m →
    f_X6_rank_L7 (nI (xr Z)) (nI n) m (nI v) (nI u) (nI (j + 1)) = some (nI (hr v (Z.drop j)))
  | 0, j, v, u, m, hj, hu, hb, hc, hm => by
    obtain ⟨m, rfl⟩ : ∃ k, m = k + 1 := ⟨m - 1, by omega⟩
    rw [f_X6_rank_L7, if_pos (nI_lt (by omega) (by omega))]
    rw [List.drop_eq_nil_of_le (by rw [h.len]; omega), hr]
  | d + 1, j, v, u, m, hj, hu, hb, hc, hm => by
    obtain ⟨m, rfl⟩ : ∃ k, m = k + 1 := ⟨m - 1, by omega⟩
    have hjn : j < n := by omega
    have hl : j < Z.length := by rw [h.len]; exact hjn
    have hx : xr Z < 2 ^ 31 := by have := xr_lt h hn; omega
    have ha := row_at_lt h hjn
    have hsp := row_split h hn hjn
    generalize hZa : Z.getD j 0 = a at ha hsp
    have hnot : a ∉ Z.take j := by
      intro q
      have hnd := h.nodup
      rw [← List.take_append_drop j Z, drop_cons hl, hZa] at hnd
      exact (List.nodup_append.mp hnd).2.2 a q a List.mem_cons_self rfl
    have hb0 : bitN u a = 0 := by
      rcases bit_cases u a with q | q
      · exact q
      · exact absurd ((hb a (by omega)).mp q) hnot
    obtain ⟨o1, o2, o3⟩ := popc_or a (by omega) u hu hb0
    have p2 : 2 ^ a ≤ 2 ^ 7 := Nat.pow_le_pow_right (by decide) (by omega)
    have p0 : 0 < 2 ^ a := Nat.two_pow_pos a
    rw [f_X6_rank_L7, if_neg (nI_nlt (by omega) (by omega))]
    simp only [nm]
    rw [p_bellAt hx (by omega), dg_xr h hn hjn, hZa, p_bit (by omega), nl, pk_sub (show 1 ≤ 2 ^ a by omega), nx_and, Nat.and_two_pow_sub_one_eq_mod, p_bitCount _ (by have := Nat.mod_lt u p0; omega), hc a (by omega), pk_sub (show 1 ≤ a + 1 by omega), Nat.add_sub_cancel, pk_sub (show lessL a (Z.take j) ≤ a by omega), pk_sub (show j + 1 ≤ n by omega), nI_add, pk_mul, nI_add, nx_or, nI_add]
    rw [rk_L h hn d (j + 1) _ _ m (by omega) o1 ?_ ?_ (by omega)]
    · rw [drop_cons hl, hr, hZa, List.length_drop, h.len]
      congr 4
      · congr 1; omega
    · intro i hi
      rw [o2 i hi, take_snoc hl, hZa, List.mem_append, List.mem_singleton]
      by_cases q : i = a
      · simp [q]
      · rw [if_neg q, hb i hi]; simp [q]
    · intro b hb8
      rw [o3 b hb8, hc b hb8, take_snoc hl, hZa, lessL_app, lessL_cons]
      simp [lessL]
theorem p_rank {n : Nat} {Z : List Nat} (h : isRow n Z) (hn : n ≤ 7) : f_X6_rank (nI (xr Z)) (nI n) = some (nI (rk Z)) := by
  unfold f_X6_rank
  have := rk_L h hn n 0 0 0 fu (by omega) (by decide) (fun i hi => by simp [bitN]) (fun a ha => by simp [popc, bitN, lessL]) (by show n < 8192; omega)
  rw [List.drop_zero] at this
  exact this
/-! ===== the same, in the model's cells ===== -/
/-- the model's cells hold a row -/
def isCell (n : Nat) (Z : List Nat) (f : Nat → Int32) : Prop := ∀ i, i < n → f i = nI (Z.getD i 0)
theorem nm_eq {α β : Type} (x : α) (f : α → β) : nm x f = f x := rfl
