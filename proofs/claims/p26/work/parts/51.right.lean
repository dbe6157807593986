/-! ===== right changes; changes that can become right ===== -/
def okb (n c : Nat) : Bool := decide (c < 2 ^ n - 1) && rt c n
theorem okb_c {n c : Nat} (hn : n ≤ 7) : okb n c = true ↔ okc n c := by
  unfold okb okc
  rw [Bool.and_eq_true, decide_eq_true_eq]
  have : 2 ^ n ≤ 2 ^ 7 := Nat.pow_le_pow_right (by decide) hn
  constructor
  · intro h; exact ⟨by omega, h.1, h.2⟩
  · intro h; exact ⟨h.2.1, h.2.2⟩
theorem p_areRight_s : ∀ n, n < 8 → 4 ≤ n → ∀ c, c < 128 → f_X4_areRight (nI c) (nI n) = some (nI (b1 (okb n c))) := by decide +kernel
theorem bit1_s : ∀ n, n < 8 → f_X4_bit (nI n + 1) - 1 = nI (2 ^ n - 1) := by decide +kernel
theorem bit2_s : ∀ n, n < 8 → 4 ≤ n → ((1 : Int32) <<< (nI n &&& 31)) - 2 = nI (2 ^ n - 2) := by decide +kernel
theorem p_areRight {n c : Nat} (h4 : 4 ≤ n) (hn : n ≤ 7) (hc : c < 128) : f_X4_areRight (nI c) (nI n) = some (nI (b1 (okb n c))) := p_areRight_s n (by omega) h4 c hc
def cbr (n c p : Nat) : Bool := okb n c || (List.range (n - p)).any (fun k => okb n (c ||| 2 ^ (p + k)))
/-! ### the class: a change that is being read, its last place p -/
def crs (n p c : Nat) : Bool := (Nat.beq p 0 && Nat.beq c 0) || (cbr n c p && Nat.ble (2 ^ (p - 1)) c)
def crp (n p c k : Nat) : Bool := decide (f_X2_acceptsPlace (nI (p + 1 + k)) (nI n) (nI c) (nI p) 0 = if cbr n (c ||| 2 ^ (p + k)) (p + 1 + k) = true then some (1, nI (c ||| 2 ^ (p + k)), nI (p + 1 + k)) else some (0, nI c, nI p))
def crb (n p c : Nat) : Bool := Nat.blt n 4 || Nat.blt n p || !crs n p c || (decide (f_X2_isChangeRight (nI n) (nI p) 0 = some (nI (b1 (decide (0 < c) && okb n c)))) && (List.range (n - p)).all (fun k => crp n p c k))
theorem crb_s : ∀ n, n < 8 → ∀ p, p < 8 → ∀ c, c < 2 ^ p → crb n p c = true := by decide +kernel
theorem crb_u {n p c : Nat} (hn : n ≤ 7) (h4 : 4 ≤ n) (hp : p ≤ n) (hc : c < 2 ^ p) (hr : crs n p c = true) : f_X2_isChangeRight (nI n) (nI p) 0 = some (nI (b1 (decide (0 < c) && okb n c))) ∧ ∀ k, k < n - p → f_X2_acceptsPlace (nI (p + 1 + k)) (nI n) (nI c) (nI p) 0 = if cbr n (c ||| 2 ^ (p + k)) (p + 1 + k) = true then some (1, nI (c ||| 2 ^ (p + k)), nI (p + 1 + k)) else some (0, nI c, nI p) := by
  have h := crb_s n (by omega) p (by omega) c hc
  unfold crb at h
  rw [hr, Bool.or_eq_true, Bool.or_eq_true, Bool.or_eq_true, Bool.and_eq_true, decide_eq_true_eq] at h
  rcases h with ((h | h) | h) | h
  · exact absurd (Nat.le_of_ble_eq_true h) (by omega)
  · exact absurd (Nat.le_of_ble_eq_true h) (by omega)
  · exact absurd h (by decide)
  · refine ⟨h.1, fun k hk => ?_⟩
    have := List.all_eq_true.mp h.2 k (List.mem_range.mpr hk)
    unfold crp at this
    exact of_decide_eq_true this
theorem ev_s : ∀ n, n < 8 → 4 ≤ n → (nI n - nI n / 2 * 2 = 0 ↔ okb n 0 = true) := by decide +kernel

