/-! ===== right changes; changes that can become right ===== -/
def okb (n c : Nat) : Bool := decide (c < 2 ^ n - 1) && rt c n
theorem okb_c {n c : Nat} (hn : n ≤ 7) : okb n c = true ↔ okc n c := by
  unfold okb okc
  rw [Bool.and_eq_true, decide_eq_true_eq]
  have : 2 ^ n ≤ 2 ^ 7 := Nat.pow_le_pow_right (by decide) hn
  constructor
  · intro h; exact ⟨by omega, h.1, h.2⟩
  · intro h; exact ⟨h.2.1, h.2.2⟩
theorem p_areRight_s : ∀ n, n < 8 → 4 ≤ n → ∀ c, c < 128 → f_X4_areRight (nI c) (nI n) = some (nI (b1 (okb n c))) := by decide +kernel
theorem bit1_s : ∀ n, n < 8 → f_X4_bit (nI n + 1) - 1 = nI (2 ^ n - 1) := by decide +kernel
theorem m_isRight_s : ∀ n, n < 8 → 4 ≤ n → ∀ c, c < 128 → f_X11_isRight (nI c) (fun _ => nI n) = some (nI (b1 (okb n c))) := by decide +kernel
theorem bit2_s : ∀ n, n < 8 → 4 ≤ n → ((1 : Int32) <<< (nI n &&& 31)) - 2 = nI (2 ^ n - 2) := by decide +kernel
theorem m_isRight_dep (x y : Int32) (s s' : Nat → Int32) : ∀ (M : Nat) (i : Int32), f_X11_isRight_L24 x y s M i = f_X11_isRight_L24 x y s' M i
  | 0, _ => rfl
  | M + 1, i => by rw [f_X11_isRight_L24, f_X11_isRight_L24, m_isRight_dep x y s s' M, m_isRight_dep x y s s' M]
theorem m_isRight_0 {n : Nat} {s : Nat → Int32} (hs : s 0 = nI n) (x : Int32) : f_X11_isRight x s = f_X11_isRight x (fun _ => nI n) := by
  unfold f_X11_isRight
  rw [show (0 : Int32).toNatClampNeg = 0 from rfl, hs, nm_eq, nm_eq, m_isRight_dep x (nI n) s (fun _ => nI n)]
theorem right_any {n : Nat} {s : Nat → Int32} (h4 : 4 ≤ n) (hn : n ≤ 7) (hs : s 0 = nI n) (x : Int32) : ∃ r : Bool, f_X4_areRight x (nI n) = some (nI (b1 r)) ∧ f_X11_isRight x s = some (nI (b1 r)) ∧ (r = true → ∃ c, x = nI c ∧ okc n c) := by
  rw [m_isRight_0 hs]
  by_cases c0 : x < 0
  · refine ⟨false, ?_, ?_, fun q => absurd q (by decide)⟩
    · unfold f_X4_areRight; rw [nm_eq, if_pos c0]; rfl
    · unfold f_X11_isRight f_X11_in; rw [nm_eq, if_pos c0, if_pos rfl]; rfl
  · obtain ⟨c, hc, rfl⟩ := nI_of c0
    by_cases c1 : c < 128
    · exact ⟨okb n c, p_areRight_s n (by omega) h4 c c1, m_isRight_s n (by omega) h4 c c1, fun q => ⟨c, rfl, (okb_c hn).mp q⟩⟩
    · have p1 : 2 ^ n ≤ 2 ^ 7 := Nat.pow_le_pow_right (by decide) hn
      refine ⟨false, ?_, ?_, fun q => absurd q (by decide)⟩
      · unfold f_X4_areRight; rw [bit1_s n (by omega), nm_eq, if_neg c0, if_neg (nI_nlt (by omega) (by omega))]; rfl
      · unfold f_X11_isRight f_X11_in; rw [nm_eq, bit2_s n (by omega) h4, if_neg c0, if_pos (nI_lt (by omega) (by omega)), if_pos rfl]; rfl
theorem p_areRight {n c : Nat} (h4 : 4 ≤ n) (hn : n ≤ 7) (hc : c < 128) : f_X4_areRight (nI c) (nI n) = some (nI (b1 (okb n c))) := p_areRight_s n (by omega) h4 c hc
theorem m_isRight {n c : Nat} {s : Nat → Int32} (h4 : 4 ≤ n) (hn : n ≤ 7) (hs : s 0 = nI n) (hc : c < 128) : f_X11_isRight (nI c) s = some (nI (b1 (okb n c))) := by rw [m_isRight_0 hs]; exact m_isRight_s n (by omega) h4 c hc
def cbr (n c p : Nat) : Bool := okb n c || (List.range (n - p)).any (fun k => okb n (c ||| 2 ^ (p + k)))
def canb (n p c : Nat) : Bool := Nat.blt n 4 || Nat.blt n p || decide (f_X11_couldBeRight (nI c) (nI p) (fun _ => nI n) = some (nI (b1 (cbr n c p))))
theorem canb_s : ∀ n, n < 8 → ∀ p, p < 8 → ∀ c, c < 2 ^ p → canb n p c = true := by decide +kernel
theorem m_can_s {n p c : Nat} (hn : n ≤ 7) (h4 : 4 ≤ n) (hp : p ≤ n) (hc : c < 2 ^ p) : f_X11_couldBeRight (nI c) (nI p) (fun _ => nI n) = some (nI (b1 (cbr n c p))) := by
  have h := canb_s n (by omega) p (by omega) c hc
  unfold canb at h
  rw [Bool.or_eq_true, Bool.or_eq_true, decide_eq_true_eq] at h
  rcases h with (h | h) | h
  · exact absurd (Nat.le_of_ble_eq_true h) (by omega)
  · exact absurd (Nat.le_of_ble_eq_true h) (by omega)
  · exact h
theorem m_could_dep {n : Nat} {s : Nat → Int32} (hs : s 0 = nI n) (x y : Int32) : ∀ (M : Nat) (a i : Int32), f_X11_couldBeRight_L5 x y s M a i = f_X11_couldBeRight_L5 x y (fun _ => nI n) M a i := by
  intro M
  induction M with
  | zero => intro a i; rfl
  | succ M ih =>
    intro a i
    rw [f_X11_couldBeRight_L5, f_X11_couldBeRight_L5, show (0 : Int32).toNatClampNeg = 0 from rfl, hs, m_isRight_0 hs]
    simp only [ih]
theorem m_could {n c p : Nat} {s : Nat → Int32} (h4 : 4 ≤ n) (hn : n ≤ 7) (hs : s 0 = nI n) (hp : p ≤ n) (hc : c < 2 ^ p) : f_X11_couldBeRight (nI c) (nI p) s = some (nI (b1 (cbr n c p))) := by
  have : f_X11_couldBeRight (nI c) (nI p) s = f_X11_couldBeRight (nI c) (nI p) (fun _ => nI n) := m_could_dep hs _ _ fu 0 0
  rw [this]
  exact m_can_s hn h4 hp hc
/-! ### the class: a change that is being read, its last place p -/
def crs (n p c : Nat) : Bool := (Nat.beq p 0 && Nat.beq c 0) || (cbr n c p && Nat.ble (2 ^ (p - 1)) c)
def crp (n p c k : Nat) : Bool := decide (f_X2_acceptsPlace (nI (p + 1 + k)) (nI n) (nI c) (nI p) 0 = if cbr n (c ||| 2 ^ (p + k)) (p + 1 + k) = true then some (1, nI (c ||| 2 ^ (p + k)), nI (p + 1 + k)) else some (0, nI c, nI p))
def crb (n p c : Nat) : Bool := Nat.blt n 4 || Nat.blt n p || !crs n p c || (decide (f_X2_isChangeRight (nI n) (nI p) 0 = some (nI (b1 (decide (0 < c) && okb n c)))) && (List.range (n - p)).all (fun k => crp n p c k))
theorem crb_s : ∀ n, n < 8 → ∀ p, p < 8 → ∀ c, c < 2 ^ p → crb n p c = true := by decide +kernel
theorem crb_u {n p c : Nat} (hn : n ≤ 7) (h4 : 4 ≤ n) (hp : p ≤ n) (hc : c < 2 ^ p) (hr : crs n p c = true) : f_X2_isChangeRight (nI n) (nI p) 0 = some (nI (b1 (decide (0 < c) && okb n c))) ∧ ∀ k, k < n - p → f_X2_acceptsPlace (nI (p + 1 + k)) (nI n) (nI c) (nI p) 0 = if cbr n (c ||| 2 ^ (p + k)) (p + 1 + k) = true then some (1, nI (c ||| 2 ^ (p + k)), nI (p + 1 + k)) else some (0, nI c, nI p) := by
  have h := crb_s n (by omega) p (by omega) c hc
  unfold crb at h
  rw [hr, Bool.or_eq_true, Bool.or_eq_true, Bool.or_eq_true, Bool.and_eq_true, decide_eq_true_eq] at h
  rcases h with ((h | h) | h) | h
  · exact absurd (Nat.le_of_ble_eq_true h) (by omega)
  · exact absurd (Nat.le_of_ble_eq_true h) (by omega)
  · exact absurd h (by decide)
  · refine ⟨h.1, fun k hk => ?_⟩
    have := List.all_eq_true.mp h.2 k (List.mem_range.mpr hk)
    unfold crp at this
    exact of_decide_eq_true this
theorem ev_s : ∀ n, n < 8 → 4 ≤ n → (nI n - nI n / 2 * 2 = 0 ↔ okb n 0 = true) := by decide +kernel
