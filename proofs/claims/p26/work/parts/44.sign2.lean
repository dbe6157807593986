theorem sgn_row {n : Nat} {Z : List Nat} (h : isRow n Z) (h4 : 4 ≤ n) (hn : n ≤ 7) : ∃ v, rgO (pk Z) n 0 0 = some v ∧ v ≤ n ∧ (n - v) % 2 = cyO (pk Z) n n 0 0 0 % 2 := by
  have hs : sgn n Z = true := by
    rcases (show n = 4 ∨ n = 5 ∨ n = 6 ∨ n = 7 by omega) with c | c | c | c
    · subst c; exact allZ_row sgn_4 h
    · subst c; exact allZ_row sgn_5 h
    · subst c; exact allZ_row sgn_6 h
    · subst c; exact allZ_row sgn_7 h
  unfold sgn at hs
  generalize rgO (pk Z) n 0 0 = o at hs ⊢
  cases o with
  | none => exact absurd hs (by simp)
  | some v =>
    simp only [Bool.and_eq_true, beq_iff_eq] at hs
    exact ⟨v, rfl, Nat.le_of_ble_eq_true hs.1, hs.2⟩
theorem dg_row {n i : Nat} {Z : List Nat} (h : isRow n Z) (hn : n ≤ 7) : dg (pk Z) i = Z.getD i 0 := dg_pk Z i (fun b hb => by have := h.lt hb; omega)
theorem n_inb7 {n i : Nat} (hi : i < n) (hn : n ≤ 7) : inb (nI i) 7 = true := n_inb (by omega) (by decide)
theorem or_128 : ∀ u, u < 128 → ∀ p, p < 7 → u ||| 2 ^ p < 128 := by decide +kernel
theorem cyI_lt {n st : Nat} {Z : List Nat} (h : isRow n Z) (hn : n ≤ 7) : ∀ (d u w p : Nat), u < 128 → p < n → (cyI (pk Z) st d u w p).1 < 128 ∧ (cyI (pk Z) st d u w p).2 ≤ w + d
  | 0, u, w, p, hu, _ => ⟨hu, Nat.le_refl _⟩
  | d + 1, u, w, p, hu, hp => by
    rw [cyI]
    by_cases c : p = st
    · rw [if_pos c]; exact ⟨hu, by show w ≤ _; omega⟩
    · rw [if_neg c]
      by_cases c2 : bitN u st = 0
      · rw [if_pos c2, dg_row h hn]
        have := cyI_lt (st := st) h hn d (u ||| 2 ^ p) (w + 1) (Z.getD p 0) (or_128 u hu p (by omega)) (row_at_lt h hp)
        exact ⟨this.1, by omega⟩
      · rw [if_neg c2]; exact ⟨hu, by show w ≤ _; omega⟩
theorem p_cycles24 {n st : Nat} {Z : List Nat} (h : isRow n Z) (hn : n ≤ 7) (hst : st < n) (k : Int32 → Int32 → Int32 → Int32 → Option Int32) (K : Nat → Nat → Option Int32) (hk : ∀ u w p q, k (nI u) (nI w) p q = K u w) : ∀ (d u w p M : Nat), d ≤ n → u < 128 → p < n → d < M → f_X6_signByCycles_L24 k (nI (xr Z)) (nI n) (nI (st + 1)) M (nI u) (nI w) (nI (p + 1)) (nI (n - d)) = K (cyI (pk Z) st d u w p).1 (cyI (pk Z) st d u w p).2
  | 0, u, w, p, M, _, hu, hp, hM => by
    obtain ⟨M, rfl⟩ : ∃ k, M = k + 1 := ⟨M - 1, by omega⟩
    rw [f_X6_signByCycles_L24, if_pos (nI_le (by omega) (by omega)), hk]; rfl
  | d + 1, u, w, p, M, hd, hu, hp, hM => by
    obtain ⟨M, rfl⟩ : ∃ k, M = k + 1 := ⟨M - 1, by omega⟩
    have hx := xr_lt h hn
    rw [f_X6_signByCycles_L24, if_neg (nI_ge (by omega) (by omega)), cyI]
    by_cases c : p = st
    · rw [if_pos (by rw [c]), if_pos c, hk]
    · rw [if_neg (fun q => c (by have := (nI_eq (by omega) (by omega)).mp q; omega)), if_neg c, p_has (by omega) (by omega)]
      by_cases c2 : bitN u st = 0
      · rw [if_pos c2, if_pos rfl, if_pos c2, p_bit (by omega), nx_or, nm_eq, nm_eq, p_bellAt (by omega) (by omega), dg_xr h hn hp, nI_1, nI_1, dg_row h hn, show n - (d + 1) + 1 = n - d by omega]
        exact p_cycles24 h hn hst k K hk d _ _ _ M (by omega) (or_128 u hu p (by omega)) (row_at_lt h hp) (by omega)
      · rw [if_neg c2, if_neg (by decide), if_neg c2, hk]
theorem p_cycles7 {n : Nat} {Z : List Nat} (h : isRow n Z) (hn : n ≤ 7) (k : Int32 → Int32 → Int32 → Option Int32) (K : Nat → Option Int32) (hk : ∀ u w p, k u (nI w) p = K w) : ∀ (d st u w M : Nat), st + d = n → u < 128 → d < M → f_X6_signByCycles_L7 k (nI (xr Z)) (nI n) M (nI u) (nI w) (nI (st + 1)) = K (cyO (pk Z) n d st u w) := by
  intro d
  induction d with
  | zero =>
    intro st u w M hst hu hM
    obtain ⟨M, rfl⟩ : ∃ k, M = k + 1 := ⟨M - 1, by omega⟩
    rw [f_X6_signByCycles_L7, if_pos (nI_lt (by omega) (by omega)), hk]; rfl
  | succ d ih =>
    intro st u w M hst hu hM
    obtain ⟨M, rfl⟩ : ∃ k, M = k + 1 := ⟨M - 1, by omega⟩
    have hx := xr_lt h hn
    have hl := row_at_lt h (p := st) (by omega)
    have := p_cycles24 h hn (show st < n by omega) (fun y9 y10 y11 y12 => f_X6_signByCycles_L7 k (nI (xr Z)) (nI n) M y9 y10 (nI (st + 1) + 1)) (fun u w => f_X6_signByCycles_L7 k (nI (xr Z)) (nI n) M (nI u) (nI w) (nI (st + 1) + 1)) (fun _ _ _ _ => rfl) n u w (Z.getD st 0) fu (Nat.le_refl n) hu hl (by show n < 8192; omega)
    rw [Nat.sub_self] at this
    rw [f_X6_signByCycles_L7, if_neg (nI_nlt (by omega) (by omega)), p_bellAt (by omega) (by omega), dg_xr h hn (by omega), nm_eq]
    refine this.trans ?_
    rw [cyO, dg_row h hn, nI_1]
    exact ih (st + 1) _ _ M (by omega) (cyI_lt h hn n u w _ hu hl).1 (by omega)
theorem cyO_le {n : Nat} {Z : List Nat} (h : isRow n Z) (hn : n ≤ 7) : ∀ (d st u w : Nat), st + d = n → u < 128 → cyO (pk Z) n d st u w ≤ w + d * 7
  | 0, st, u, w, _, _ => by show w ≤ _; omega
  | d + 1, st, u, w, hst, hu => by
    have q := cyI_lt (st := st) h hn n u w (Z.getD st 0) hu (row_at_lt h (by omega))
    have := cyO_le h hn d (st + 1) _ (cyI (pk Z) st n u w (Z.getD st 0)).2 (by omega) q.1
    rw [cyO, dg_row h hn]
    omega
theorem p_signByCycles {n : Nat} {Z : List Nat} (h : isRow n Z) (hn : n ≤ 7) : f_X6_signByCycles (nI (xr Z)) (nI n) = some (nI (cyO (pk Z) n n 0 0 0 % 2)) := by
  have q := cyO_le h hn n 0 0 0 (by omega) (by decide)
  have := p_cycles7 h hn (fun y13 y14 y15 => some (y14 - y14 / 2 * 2)) (fun w => some (nI w - nI w / 2 * 2)) (fun _ _ _ => rfl) n 0 0 0 fu (by omega) (by decide) (by show n < 8192; omega)
  unfold f_X6_signByCycles
  refine this.trans ?_
  rw [show (2 : Int32) = nI 2 from rfl, pk_rem (by omega) (by decide) (by decide)]
/-! by pairs -/
def ipair (n : Nat) (Z : List Nat) : Nat := sm (fun i => cnt (fun j => decide (Z.getD j 0 < Z.getD i 0)) (n - (i + 1)) (i + 1)) n 0
theorem ipair_le (n : Nat) (Z : List Nat) : ipair n Z ≤ n * n := by
  refine sm_le (b := n) (fun i => ?_) n 0
  have := cnt_le (fun j => decide (Z.getD j 0 < Z.getD i 0)) (n - (i + 1)) (i + 1)
  omega
theorem p_signByPairs {n : Nat} {Z : List Nat} (h : isRow n Z) (hn : n ≤ 7) : f_X6_signByPairs (nI (xr Z)) (nI n) = some (nI (ipair n Z % 2)) := by
  have hx := xr_lt h hn
  have inner : ∀ (k : Int32 → Int32 → Option Int32) (i v : Nat), i < n → f_X6_signByPairs_L14 k (nI (xr Z)) (nI n) (nI (i + 1)) fu (nI v) (nI (i + 1 + 1)) = k (nI (v + cnt (fun j => decide (Z.getD j 0 < Z.getD i 0)) (n - (i + 1)) (i + 1))) (nI (n + 1)) := by
    intro k i v hi
    refine (smL (F := f_X6_signByPairs_L14 k (nI (xr Z)) (nI n) (nI (i + 1))) (K := fun v => k v (nI (n + 1))) (f := fun j => b1 (decide (Z.getD (j - 1) 0 < Z.getD i 0))) (a := i + 1 + 1) (e := n + 1) (fun M v j h1 h2 => by
      obtain ⟨j, rfl⟩ : ∃ k, j = k + 1 := ⟨j - 1, by omega⟩
      have l1 := row_at_lt h hi
      have l2 := row_at_lt h (p := j) (by omega)
      rw [f_X6_signByPairs_L14, if_neg (nI_nlt (by omega) (by omega)), p_bellAt (by omega) (by omega), p_bellAt (by omega) (by omega), dg_xr h hn hi, dg_xr h hn (by omega), nm_eq, nI_1 v, nI_1 (j + 1), Nat.add_sub_cancel]
      by_cases c : Z.getD j 0 < Z.getD i 0
      · rw [if_neg (nI_ge (by omega) (by omega)), decide_eq_true c]; rfl
      · rw [if_pos (nI_le (by omega) (by omega)), decide_eq_false c]; rfl) (fun M v => by
      rw [f_X6_signByPairs_L14, if_pos (nI_lt (by omega) (by omega))]) (n - (i + 1)) (i + 1 + 1) v fu (by omega) (by omega) (by show n - (i + 1) < 8192; omega)).trans ?_
    rw [sm_shift]
    rfl
  have := smL (F := f_X6_signByPairs_L4 (fun y8 y9 => some (y8 - y8 / 2 * 2)) (nI (xr Z)) (nI n)) (K := fun v => some (v - v / 2 * 2)) (f := fun i => cnt (fun j => decide (Z.getD j 0 < Z.getD (i - 1) 0)) (n - i) i) (a := 1) (e := n + 1) (fun M v i h1 h2 => by
    obtain ⟨i, rfl⟩ : ∃ k, i = k + 1 := ⟨i - 1, by omega⟩
    rw [f_X6_signByPairs_L4, if_neg (nI_nlt (by omega) (by omega)), nm_eq, nI_1]
    exact inner _ i v (by omega)) (fun M v => by
    rw [f_X6_signByPairs_L4, if_pos (nI_lt (by omega) (by omega))]) n 1 0 fu (by omega) (by omega) (by show n < 8192; omega)
  unfold f_X6_signByPairs
  refine this.trans ?_
  rw [Nat.zero_add, show 1 = 0 + 1 from rfl, sm_shift]
  have e : sm (fun i => cnt (fun j => decide (Z.getD j 0 < Z.getD (i + 1 - 1) 0)) (n - (i + 1)) (i + 1)) n 0 = ipair n Z := rfl
  have q := ipair_le n Z
  have q2 : n * n ≤ 7 * 7 := Nat.mul_le_mul hn hn
  rw [e, show (2 : Int32) = nI 2 from rfl, pk_rem (by omega) (by decide) (by decide)]
