/-! ===== rows as lists of bells from 0 ===== -/
def pk : List Nat → Nat
  | [] => 0
  | b :: l => b + 8 * pk l
theorem pkw_lt : ∀ (l : List Nat), (∀ b ∈ l, b < 8) → pk l < 8 ^ l.length
  | [], _ => by simp [pk]
  | b :: l, h => by
    have h1 := pkw_lt l (fun c hc => h c (List.mem_cons_of_mem _ hc))
    have h2 := h b List.mem_cons_self
    simp only [pk, List.length_cons, Nat.pow_succ]
    omega
theorem dg_pk : ∀ (l : List Nat) (i : Nat), (∀ b ∈ l, b < 8) → dg (pk l) i = l.getD i 0
  | [], i, _ => by simp [pk, dg]
  | b :: l, 0, h => by
    have h2 := h b List.mem_cons_self
    simp only [pk, dg, Nat.pow_zero, Nat.div_one, List.getD_cons_zero]
    omega
  | b :: l, i + 1, h => by
    have h1 := dg_pk l i (fun c hc => h c (List.mem_cons_of_mem _ hc))
    have h2 := h b List.mem_cons_self
    rw [List.getD_cons_succ, ← h1]
    simp only [pk, dg]
    rw [Nat.pow_succ, Nat.mul_comm (8 ^ i) 8, ← Nat.div_div_eq_div_mul]
    congr 2
    omega
theorem pk_inj : ∀ (l k : List Nat), l.length = k.length → (∀ b ∈ l, b < 8) → (∀ b ∈ k, b < 8) → pk l = pk k → l = k
  | [], [], _, _, _, _ => rfl
  | a :: l, b :: k, hl, h1, h2, e => by
    have ha := h1 a List.mem_cons_self
    have hb := h2 b List.mem_cons_self
    simp only [pk] at e
    have e1 : a = b := by omega
    have e2 : pk l = pk k := by omega
    rw [e1, pk_inj l k (by simpa using hl) (fun c hc => h1 c (List.mem_cons_of_mem _ hc)) (fun c hc => h2 c (List.mem_cons_of_mem _ hc)) e2]
/-- a row of n bells -/
def isRow (n : Nat) (Z : List Nat) : Prop := Z.Perm (List.range n)
theorem isRow.len {n : Nat} {Z : List Nat} (h : isRow n Z) : Z.length = n := by rw [h.length_eq, List.length_range]
theorem isRow.lt {n : Nat} {Z : List Nat} (h : isRow n Z) {b : Nat} (hb : b ∈ Z) : b < n := List.mem_range.mp (h.mem_iff.mp hb)
theorem isRow.mem {n : Nat} {Z : List Nat} (h : isRow n Z) {b : Nat} (hb : b < n) : b ∈ Z := h.mem_iff.mpr (List.mem_range.mpr hb)
theorem isRow.nodup {n : Nat} {Z : List Nat} (h : isRow n Z) : Z.Nodup := h.nodup_iff.mpr List.nodup_range
/-- a row as the class packs it -/
def xr (Z : List Nat) : Nat := pk (Z.map (· + 1))
theorem xr_dig {n : Nat} {Z : List Nat} (h : isRow n Z) (hn : n ≤ 7) : ∀ b ∈ Z.map (· + 1), b < 8 := by
  intro b hb
  obtain ⟨a, ha, rfl⟩ := List.mem_map.mp hb
  have := h.lt ha
  omega
theorem pow8 {n : Nat} (hn : n ≤ 7) : 8 ^ n ≤ 2097152 := Nat.le_trans (Nat.pow_le_pow_right (by decide) hn) (by decide)
theorem xr_lt {n : Nat} {Z : List Nat} (h : isRow n Z) (hn : n ≤ 7) : xr Z < 2097152 := by
  have h1 := pkw_lt _ (xr_dig h hn)
  rw [List.length_map, h.len] at h1
  exact Nat.lt_of_lt_of_le h1 (pow8 hn)
theorem dg_xr {n i : Nat} {Z : List Nat} (h : isRow n Z) (hn : n ≤ 7) (hi : i < n) : dg (xr Z) i = Z.getD i 0 + 1 := by
  unfold xr
  rw [dg_pk _ _ (xr_dig h hn)]
  have hl := h.len
  simp [List.getD_eq_getElem?_getD, List.getElem?_eq_getElem (show i < Z.length by omega)]
theorem xr_inj {n : Nat} {Z Z' : List Nat} (h : isRow n Z) (h' : isRow n Z') (hn : n ≤ 7) (e : xr Z = xr Z') : Z = Z' := by
  have := pk_inj _ _ (by rw [List.length_map, List.length_map, h.len, h'.len]) (xr_dig h hn) (xr_dig h' hn) e
  exact List.map_inj_right (f := (· + 1)) (by intro a b h; omega) |>.mp this
theorem or_add {acc j b : Nat} (h : acc < 8 ^ j) : acc ||| b * 8 ^ j = acc + 8 ^ j * b := by
  have e : (8 : Nat) ^ j = 2 ^ (3 * j) := by rw [Nat.pow_mul]
  rw [e] at h ⊢
  have := Nat.two_pow_add_eq_or_of_lt h b
  rw [Nat.or_comm, Nat.mul_comm b, ← this, Nat.add_comm]
/-- a change, on what is left of a row -/
def cg : Nat → List Nat → List Nat
  | _, [] => []
  | _, [a] => [a]
  | c, a :: b :: l => if c % 2 = 1 then a :: cg (c / 2) (b :: l) else b :: a :: cg (c / 4) l
theorem cg_perm : ∀ (l : List Nat) (c : Nat), (cg c l).Perm l
  | [], _ => by simp [cg]
  | [a], _ => by simp [cg]
  | a :: b :: l, c => by
    rw [cg]
    split
    · exact (cg_perm (b :: l) (c / 2)).cons a
    · exact ((cg_perm l (c / 4)).cons a |>.cons b).trans (List.Perm.swap a b l)
theorem cg_map (f : Nat → Nat) : ∀ (l : List Nat) (c : Nat), cg c (l.map f) = (cg c l).map f
  | [], _ => by simp [cg]
  | [a], _ => by simp [cg]
  | a :: b :: l, c => by
    simp only [List.map_cons, cg]
    split
    · rw [List.map_cons, ← cg_map f (b :: l) (c / 2), List.map_cons]
    · rw [List.map_cons, List.map_cons, ← cg_map f l (c / 4)]
theorem isRow.cg {n c : Nat} {Z : List Nat} (h : isRow n Z) : isRow n (cg c Z) := (cg_perm Z c).trans h
theorem isRow.range (n : Nat) : isRow n (List.range n) := List.Perm.refl _
theorem bc_L {x c n : Nat} (hx : x < 2 ^ 31) (hc : c < 2 ^ 31) (hn7 : n ≤ 7) : ∀ (l : List Nat) (j acc m : Nat), j + l.length = n → (∀ i, i < l.length → dg x (j + i) = l.getD i 0) → acc < 8 ^ j → l.length < m →
    f_X6_behindChange_L5 (nI x) (nI c) (nI n) m (nI acc) (nI (j + 1)) = some (nI (acc + 8 ^ j * pk (cg (c / 2 ^ j) l)))
  | [], j, acc, m, hj, hd, ha, hm => by
    obtain ⟨m, rfl⟩ : ∃ k, m = k + 1 := ⟨m - 1, by simp at hm; omega⟩
    simp only [List.length_nil] at hj
    rw [f_X6_behindChange_L5, if_pos (nI_lt (by omega) (by omega))]
    simp [cg, pk]
  | [a], j, acc, m, hj, hd, ha, hm => by
    obtain ⟨m, rfl⟩ : ∃ k, m = k + 1 := ⟨m - 1, by simp at hm; omega⟩
    simp only [List.length_cons, List.length_nil] at hj hm hd
    have h0 := hd 0 (by omega)
    simp only [Nat.add_zero, List.getD_cons_zero] at h0
    have hpow : acc + 8 ^ j * a < 8 ^ (j + 1) := by
      have := dg_lt x j
      rw [h0] at this
      rw [Nat.pow_succ]
      have := Nat.mul_le_mul_left (8 ^ j) (show a ≤ 7 by omega)
      omega
    rw [f_X6_behindChange_L5, if_neg (nI_nlt (by omega) (by omega))]
    simp only [nm]
    rw [if_pos (by rw [show j + 1 = n by omega])]
    rw [p_bellAt hx (by omega), h0, p_put (by omega) (by rw [← h0]; exact dg_lt _ _), or_add ha, nl, nI_add]
    rw [bc_L hx hc hn7 [] (j + 1) _ m (by simp; omega) (fun i h => absurd h (by simp)) hpow (by simp; omega)]
    simp [cg, pk]
  | a :: b :: l, j, acc, m, hj, hd, ha, hm => by
    obtain ⟨m, rfl⟩ : ∃ k, m = k + 1 := ⟨m - 1, by simp at hm; omega⟩
    simp only [List.length_cons] at hj hm hd
    have h0 := hd 0 (by omega)
    have h1 := hd 1 (by omega)
    simp only [Nat.add_zero, List.getD_cons_zero, List.getD_cons_succ] at h0 h1
    have a7 : a ≤ 7 := by have := dg_lt x j; omega
    have b7 : b ≤ 7 := by have := dg_lt x (j + 1); omega
    have hpa : acc + 8 ^ j * a < 8 ^ (j + 1) := by
      rw [Nat.pow_succ]
      have := Nat.mul_le_mul_left (8 ^ j) a7
      omega
    have hpb : acc + 8 ^ j * b < 8 ^ (j + 1) := by
      rw [Nat.pow_succ]
      have := Nat.mul_le_mul_left (8 ^ j) b7
      omega
    rw [f_X6_behindChange_L5, if_neg (nI_nlt (by omega) (by omega))]
    simp only [nm]
    rw [if_neg (fun h => by rw [nI_eq (by omega) (by omega)] at h; omega)]
    rw [p_has hc (by omega)]
    have hb2 : bitN c j = c / 2 ^ j % 2 := rfl
    rw [cg]
    rcases bit_cases c j with h | h
    · have e1 : (if bitN c j = 0 then (0 : Int32) else 1) = 0 := by rw [h]; rfl
      rw [e1, if_pos rfl, if_neg (show ¬ c / 2 ^ j % 2 = 1 by rw [← hb2, h]; decide)]
      simp only [nl, nI_add]
      rw [p_bellAt hx (by omega), p_bellAt hx (by omega), h0, h1, p_put (by omega) (by omega), or_add ha, p_put (by omega) (by omega), or_add hpb]
      rw [bc_L hx hc hn7 l (j + 2) _ m (by omega) (fun i h => by
        have := hd (i + 2) (by omega)
        simpa [Nat.add_assoc, Nat.add_comm 2 i] using this) (by
          rw [Nat.pow_succ 8 (j + 1)]
          have := Nat.mul_le_mul_left (8 ^ (j + 1)) a7
          omega) (by omega)]
      rw [show c / 2 ^ (j + 2) = c / 2 ^ j / 4 by rw [Nat.pow_add, ← Nat.div_div_eq_div_mul]]
      simp only [pk, Nat.pow_succ]
      congr 2
      simp only [Nat.mul_add, Nat.mul_assoc, ← Nat.add_assoc, Nat.mul_left_comm]
    · have e1 : (if bitN c j = 0 then (0 : Int32) else 1) = 1 := by rw [h]; rfl
      rw [e1, if_neg (show ¬ (1 : Int32) = 0 by decide), if_pos (hb2.symm.trans h)]
      simp only [nl, nI_add]
      rw [p_bellAt hx (by omega), h0, p_put (by omega) (by omega), or_add ha]
      rw [bc_L hx hc hn7 (b :: l) (j + 1) _ m (by simp; omega) (fun i h => by
        have := hd (i + 1) (by simp at h; omega)
        simpa [Nat.add_assoc, Nat.add_comm 1 i] using this) hpa (by simp; omega)]
      rw [show c / 2 ^ (j + 1) = c / 2 ^ j / 2 by rw [Nat.pow_add, ← Nat.div_div_eq_div_mul]]
      simp only [pk, Nat.pow_succ]
      congr 2
      simp only [Nat.mul_add, Nat.mul_assoc, ← Nat.add_assoc, Nat.mul_left_comm]
theorem cg_len (c : Nat) (Z : List Nat) : (cg c Z).length = Z.length := (cg_perm Z c).length_eq
theorem p_behindChange {n c : Nat} {Z : List Nat} (h : isRow n Z) (hn : n ≤ 7) (hc : c < 2 ^ 31) : f_X6_behindChange (nI (xr Z)) (nI c) (nI n) = some (nI (xr (cg c Z))) := by
  unfold f_X6_behindChange
  have := bc_L (x := xr Z) (c := c) (n := n) (by have := xr_lt h hn; omega) hc hn (Z.map (· + 1)) 0 0 fu (by rw [List.length_map, h.len]; omega) (fun i hi => by unfold xr; rw [Nat.zero_add, dg_pk _ _ (xr_dig h hn)]) (by decide) (by rw [List.length_map, h.len]; show n < 8192; omega)
  simp only [Nat.pow_zero, Nat.div_one, Nat.one_mul, Nat.zero_add] at this
  rw [nl, nl, this, cg_map]
  rfl

