/-! ===== leads as rows; their product, their inverse ===== -/
def mulp (Z L : List Nat) : List Nat := L.map (fun p => Z.getD p 0)
theorem range_getD {n : Nat} {Z : List Nat} (h : Z.length = n) : (List.range n).map (fun p => Z.getD p 0) = Z := by
  subst h
  apply List.ext_getElem
  · simp
  · intro i h1 h2
    simp [List.getD_eq_getElem?_getD, List.getElem?_eq_getElem h2]
theorem isRow.mul {n : Nat} {Z L : List Nat} (hZ : isRow n Z) (hL : isRow n L) : isRow n (mulp Z L) := by
  have h1 : (L.map (fun p => Z.getD p 0)).Perm ((List.range n).map (fun p => Z.getD p 0)) := hL.map _
  rw [range_getD hZ.len] at h1
  exact h1.trans hZ
theorem comp_len (Z L : List Nat) : (mulp Z L).length = L.length := by simp [mulp]
theorem comp_at {Z L : List Nat} {p : Nat} (hp : p < L.length) : (mulp Z L).getD p 0 = Z.getD (L.getD p 0) 0 := by
  simp [mulp, List.getD_eq_getElem?_getD, hp]
/-- where a row is its product with a lead, it is a row -/
theorem isRow.of_comp {n : Nat} {R L : List Nat} (hR : R.length = n) (hL : isRow n L) (h : isRow n (mulp R L)) : isRow n R := by
  have h1 : (L.map (fun p => R.getD p 0)).Perm ((List.range n).map (fun p => R.getD p 0)) := hL.map _
  rw [range_getD hR] at h1
  exact h1.symm.trans h
/-- the inverse of a lead -/
def inv (n : Nat) (L : List Nat) : List Nat := (List.range n).map (fun a => L.idxOf a)
theorem inv_len (n : Nat) (L : List Nat) : (inv n L).length = n := by simp [inv]
theorem getD_lt {l : List Nat} {p : Nat} (h : p < l.length) : l.getD p 0 = l[p] := by simp [List.getD_eq_getElem?_getD, h]
theorem row_at_lt {n p : Nat} {Z : List Nat} (h : isRow n Z) (hp : p < n) : Z.getD p 0 < n := by
  rw [getD_lt (by rw [h.len]; exact hp)]
  exact h.lt (List.getElem_mem _)
theorem inv_at {n a : Nat} {L : List Nat} (ha : a < n) : (inv n L).getD a 0 = L.idxOf a := by
  simp [inv, List.getD_eq_getElem?_getD, ha]
theorem nodup_inj {l : List Nat} (h : l.Nodup) {i j : Nat} (hi : i < l.length) (hj : j < l.length) (e : l[i] = l[j]) : i = j := by
  have h2 := List.pairwise_iff_getElem.mp h
  rcases Nat.lt_trichotomy i j with q | q | q
  · exact absurd e (h2 i j hi hj q)
  · exact q
  · exact absurd e.symm (h2 j i hj hi q)
theorem idx_get {n p : Nat} {L : List Nat} (h : isRow n L) (hp : p < n) : L.idxOf (L.getD p 0) = p := by
  have hl : p < L.length := by rw [h.len]; exact hp
  rw [getD_lt hl]
  have h1 : L.idxOf L[p] < L.length := List.idxOf_lt_length_of_mem (List.getElem_mem hl)
  have h2 : L[L.idxOf L[p]] = L[p] := List.getElem_idxOf h1
  exact nodup_inj h.nodup h1 hl h2
theorem idx_lt {n a : Nat} {L : List Nat} (h : isRow n L) (ha : a < n) : L.idxOf a < n := by
  rw [← h.len]
  exact List.idxOf_lt_length_of_mem (h.mem ha)
theorem get_idx {n a : Nat} {L : List Nat} (h : isRow n L) (ha : a < n) : L.getD (L.idxOf a) 0 = a := by
  have h1 : L.idxOf a < L.length := List.idxOf_lt_length_of_mem (h.mem ha)
  rw [getD_lt h1]
  exact List.getElem_idxOf h1
theorem list_ext {n : Nat} {A B : List Nat} (hA : A.length = n) (hB : B.length = n) (h : ∀ p, p < n → A.getD p 0 = B.getD p 0) : A = B := by
  apply List.ext_getElem (by rw [hA, hB])
  intro i h1 h2
  have := h i (by omega)
  rwa [getD_lt h1, getD_lt h2] at this
theorem inv_comp {n : Nat} {L : List Nat} (h : isRow n L) : mulp (inv n L) L = List.range n := by
  apply list_ext (n := n) (by rw [comp_len, h.len]) (by simp)
  intro p hp
  rw [comp_at (by rw [h.len]; exact hp), inv_at (row_at_lt h hp), idx_get h hp]
  simp [List.getD_eq_getElem?_getD, hp]
theorem isRow.inv {n : Nat} {L : List Nat} (h : isRow n L) : isRow n (inv n L) := isRow.of_comp (inv_len n L) h (by rw [inv_comp h]; exact isRow.range n)
theorem comp_assoc {n : Nat} {A B C : List Nat} (hC : ∀ c ∈ C, c < B.length) : mulp (mulp A B) C = mulp A (mulp B C) := by
  unfold mulp
  rw [List.map_map]
  apply List.map_congr_left
  intro c hc
  have := hC c hc
  simp [List.getD_eq_getElem?_getD, this]
theorem comp_range {n : Nat} {Z : List Nat} (h : Z.length = n) : mulp Z (List.range n) = Z := range_getD h
theorem comp_inv {n : Nat} {L : List Nat} (h : isRow n L) : mulp L (inv n L) = List.range n := by
  apply list_ext (n := n) (by rw [comp_len, inv_len]) (by simp)
  intro p hp
  rw [comp_at (by rw [inv_len]; exact hp), inv_at hp, get_idx h hp]
  simp [List.getD_eq_getElem?_getD, hp]
/-- back and forth by a lead -/
theorem back_forth {n : Nat} {Z L : List Nat} (hZ : isRow n Z) (hL : isRow n L) : mulp (mulp Z (inv n L)) L = Z := by
  rw [comp_assoc (n := n) (fun c hc => by rw [inv_len]; exact hL.lt hc), inv_comp hL, comp_range hZ.len]
theorem bl_L {x y n : Nat} (hx : x < 2 ^ 31) (hy : y < 2 ^ 31) (hn7 : n ≤ 7) : ∀ (l : List Nat) (j acc m : Nat), j + l.length = n → (∀ i, i < l.length → dg y (j + i) = l.getD i 0 + 1 ∧ l.getD i 0 < n) → acc < 8 ^ j → l.length < m →
    f_X6_behindLead_L5 (nI x) (nI y) (nI n) m (nI acc) (nI (j + 1)) = some (nI (acc + 8 ^ j * pk (l.map (fun p => dg x p))))
  | [], j, acc, m, hj, hd, ha, hm => by
    obtain ⟨m, rfl⟩ : ∃ k, m = k + 1 := ⟨m - 1, by simp at hm; omega⟩
    simp only [List.length_nil] at hj
    rw [f_X6_behindLead_L5, if_pos (nI_lt (by omega) (by omega))]
    simp [pk]
  | a :: l, j, acc, m, hj, hd, ha, hm => by
    obtain ⟨m, rfl⟩ : ∃ k, m = k + 1 := ⟨m - 1, by simp at hm; omega⟩
    simp only [List.length_cons] at hj hm hd
    obtain ⟨h0, h0n⟩ := hd 0 (by omega)
    simp only [Nat.add_zero, List.getD_cons_zero] at h0 h0n
    have hd8 := dg_lt x a
    have hpow : acc + 8 ^ j * dg x a < 8 ^ (j + 1) := by
      rw [Nat.pow_succ]
      have := Nat.mul_le_mul_left (8 ^ j) (show dg x a ≤ 7 by omega)
      omega
    rw [f_X6_behindLead_L5, if_neg (nI_nlt (by omega) (by omega))]
    simp only [nm]
    rw [p_bellAt hy (by omega), h0, p_bellAt hx (by omega), p_put (by omega) hd8, or_add ha, nl, nI_add]
    rw [bl_L hx hy hn7 l (j + 1) _ m (by omega) (fun i h => by
      have := hd (i + 1) (by omega)
      simpa [Nat.add_assoc, Nat.add_comm 1 i] using this) hpow (by omega)]
    simp only [List.map_cons, pk, Nat.pow_succ]
    congr 2
    simp only [Nat.mul_add, Nat.mul_assoc, ← Nat.add_assoc, Nat.mul_left_comm]
theorem p_behindLead {n : Nat} {Z L : List Nat} (h : isRow n Z) (hL : isRow n L) (hn : n ≤ 7) : f_X6_behindLead (nI (xr Z)) (nI (xr L)) (nI n) = some (nI (xr (mulp Z L))) := by
  unfold f_X6_behindLead
  have := bl_L (x := xr Z) (y := xr L) (n := n) (by have := xr_lt h hn; omega) (by have := xr_lt hL hn; omega) hn L 0 0 fu (by rw [hL.len]; omega) (fun i hi => by
    rw [hL.len] at hi
    exact ⟨by rw [Nat.zero_add, dg_xr hL hn hi], row_at_lt hL hi⟩) (by decide) (by rw [hL.len]; show n < 8192; omega)
  simp only [Nat.pow_zero, Nat.one_mul, Nat.zero_add] at this
  rw [nl, nl, this]
  unfold xr mulp
  congr 3
  rw [List.map_map]
  apply List.map_congr_left
  intro p hp
  exact dg_xr h hn (hL.lt hp)
theorem p_rounds : ∀ n, n < 8 → f_X6_rounds (nI n) = some (nI (xr (List.range n))) := by decide +kernel
/-! ===== digits of a row that is put together in any order ===== -/
theorem dg_or (a b i : Nat) : dg (a ||| b) i = dg a i ||| dg b i := by
  unfold dg
  have e : (8 : Nat) ^ i = 2 ^ (3 * i) := by rw [Nat.pow_mul]
  rw [e, ← Nat.shiftRight_eq_div_pow, Nat.shiftRight_or_distrib, Nat.shiftRight_eq_div_pow, Nat.shiftRight_eq_div_pow]
  exact Nat.or_mod_two_pow (n := 3)
theorem dg_one {b i k : Nat} (hb : b < 8) : dg (b * 8 ^ i) k = if k = i then b else 0 := by
  unfold dg
  have h8 : ∀ m, 0 < 8 ^ m := fun m => Nat.pow_pos (by decide)
  rcases Nat.lt_trichotomy k i with h | h | h
  · rw [if_neg (by omega)]
    obtain ⟨d, rfl⟩ : ∃ d, i = k + 1 + d := ⟨i - k - 1, by omega⟩
    rw [Nat.pow_add, Nat.pow_succ, show b * (8 ^ k * 8 * 8 ^ d) = 8 ^ k * (8 * (b * 8 ^ d)) by simp only [Nat.mul_assoc, Nat.mul_left_comm], Nat.mul_div_cancel_left _ (h8 k)]
    omega
  · subst h
    rw [if_pos rfl, Nat.mul_div_cancel _ (h8 k)]
    omega
  · rw [if_neg (by omega), Nat.div_eq_of_lt]
    obtain ⟨d, rfl⟩ : ∃ d, k = i + 1 + d := ⟨k - i - 1, by omega⟩
    rw [Nat.pow_add, Nat.pow_succ]
    have h1 := Nat.mul_le_mul_left (8 ^ i * 8) (h8 d)
    have h2 := Nat.mul_le_mul_right (8 ^ i) (show b ≤ 7 by omega)
    have h3 := h8 i
    omega
theorem dg_ext : ∀ (n x y : Nat), x < 8 ^ n → y < 8 ^ n → (∀ i, i < n → dg x i = dg y i) → x = y
  | 0, x, y, hx, hy, _ => by simp at hx hy; omega
  | n + 1, x, y, hx, hy, h => by
    have h0 := h 0 (by omega)
    have hr := dg_ext n (x / 8) (y / 8) (by rw [Nat.pow_succ] at hx; omega) (by rw [Nat.pow_succ] at hy; omega) (fun i hi => by
      have := h (i + 1) (by omega)
      unfold dg at this ⊢
      rw [Nat.pow_succ, Nat.mul_comm, ← Nat.div_div_eq_div_mul, ← Nat.div_div_eq_div_mul] at this
      exact this)
    simp only [dg, Nat.pow_zero, Nat.div_one] at h0
    omega
theorem bw_L {n : Nat} {L : List Nat} (hL : isRow n L) (hn7 : n ≤ 7) : ∀ (d j acc m : Nat), j + d = n → acc < 8 ^ n → (∀ a, a < n → dg acc a = if L.idxOf a < j then L.idxOf a + 1 else 0) → d < m →
    f_X6_backwards_L4 (nI (xr L)) (nI n) m (nI acc) (nI (j + 1)) = some (nI (xr (inv n L)))
  | 0, j, acc, m, hj, ha, hd, hm => by
    obtain ⟨m, rfl⟩ : ∃ k, m = k + 1 := ⟨m - 1, by omega⟩
    rw [f_X6_backwards_L4, if_pos (nI_lt (by omega) (by omega))]
    congr 2
    have hx := pkw_lt _ (xr_dig (hL.inv) hn7)
    rw [List.length_map, inv_len] at hx
    apply dg_ext n _ _ ha hx
    intro a han
    change dg acc a = dg (xr (inv n L)) a
    rw [dg_xr hL.inv hn7 han, inv_at han, hd a han, if_pos (by have := idx_lt hL han; omega)]
  | d + 1, j, acc, m, hj, ha, hd, hm => by
    obtain ⟨m, rfl⟩ : ∃ k, m = k + 1 := ⟨m - 1, by omega⟩
    have hjn : j < n := by omega
    have hx : xr L < 2 ^ 31 := by have := xr_lt hL hn7; omega
    have hb := row_at_lt hL hjn
    rw [f_X6_backwards_L4, if_neg (nI_nlt (by omega) (by omega))]
    simp only [nm]
    rw [p_bellAt hx (by omega), dg_xr hL hn7 hjn, p_put (by omega) (by omega), nl, nI_add]
    refine bw_L hL hn7 d (j + 1) _ m (by omega) ?_ ?_ (by omega)
    · have e : (8 : Nat) ^ n = 2 ^ (3 * n) := by rw [Nat.pow_mul]
      have h1 : (j + 1) * 8 ^ L.getD j 0 < 8 ^ n := by
        obtain ⟨k, hk⟩ : ∃ k, n = L.getD j 0 + 1 + k := ⟨n - L.getD j 0 - 1, by omega⟩
        have h8 : ∀ m, 0 < 8 ^ m := fun m => Nat.pow_pos (by decide)
        have h2 : (8 : Nat) ^ (L.getD j 0 + 1) ≤ 8 ^ n := Nat.pow_le_pow_right (by decide) (by omega)
        rw [Nat.pow_succ] at h2
        have h3 := Nat.mul_le_mul_right (8 ^ L.getD j 0) (show j + 1 ≤ 7 by omega)
        have h4 := h8 (L.getD j 0)
        omega
      rw [e] at ha h1 ⊢
      exact Nat.or_lt_two_pow ha h1
    · intro a han
      rw [dg_or, dg_one (by omega), hd a han]
      by_cases h : a = L.getD j 0
      · have h2 : L.idxOf a = j := by rw [h]; exact idx_get hL hjn
        rw [if_pos h, if_neg (by omega), if_pos (by omega), h2]
        simp
      · have h2 : L.idxOf a ≠ j := fun q => h (by rw [← q]; exact (get_idx hL han).symm)
        rw [if_neg h]
        by_cases h3 : L.idxOf a < j
        · rw [if_pos h3, if_pos (by omega)]; simp
        · rw [if_neg h3, if_neg (by omega)]; simp
theorem p_backwards {n : Nat} {L : List Nat} (hL : isRow n L) (hn : n ≤ 7) : f_X6_backwards (nI (xr L)) (nI n) = some (nI (xr (inv n L))) := by
  unfold f_X6_backwards
  exact bw_L hL hn n 0 0 fu (by omega) (Nat.pow_pos (by decide)) (fun a _ => by simp [dg]) (by show n < 8192; omega)

