/-! ===== PURE SIDE: numbers ===== -/
theorem nl (n : Nat) : (OfNat.ofNat n : Int32) = nI (OfNat.ofNat n) := rfl
theorem nx_or (a b : Nat) : nI a ||| nI b = nI (a ||| b) := by
  apply Int32.toBitVec_inj.mp
  simp [nI, Int32.toBitVec_or, Int32.toBitVec_ofNat', BitVec.ofNat_or]
theorem nx_and (a b : Nat) : nI a &&& nI b = nI (a &&& b) := by
  apply Int32.toBitVec_inj.mp
  simp [nI, Int32.toBitVec_and, Int32.toBitVec_ofNat', BitVec.ofNat_and]
theorem s31 : ∀ n, n < 32 → ((nI n &&& nI 31).toBitVec.smod 32).toNat = n := by decide +kernel
theorem n_shl {a b : Nat} (hb : b < 32) (h : a * 2 ^ b < 2 ^ 32) : nI a <<< (nI b &&& nI 31) = nI (a * 2 ^ b) := pk_shlN _ b (s31 b hb) h
theorem n_shr {a b : Nat} (hb : b < 32) (h : a < 2 ^ 31) : nI a >>> (nI b &&& nI 31) = nI (a / 2 ^ b) := pk_shrN h _ b (s31 b hb)
theorem n_inb {k N : Nat} (h : k < N) (hN : N < 2 ^ 31) : inb (nI k) N = true := by
  have := vp_in_iff.mp (vp_in_nI h hN)
  simp only [inb, Bool.and_eq_true, decide_eq_true_eq]
  exact this
theorem gd_t {α : Type} {b : Bool} {x : Option α} (h : b = true) : gd b x = x := by subst h; rfl
theorem bd_t {α β : Type} {x : Option α} {f : α → Option β} {a : α} (h : x = some a) : bd x f = f a := by subst h; rfl
theorem fu_e : fu = 8191 + 1 := rfl
/-- digits of a packed row -/
def dg (x i : Nat) : Nat := x / 8 ^ i % 8
def bitN (c i : Nat) : Nat := c / 2 ^ i % 2
theorem dg_lt (x i : Nat) : dg x i < 8 := Nat.mod_lt _ (by decide)
theorem p_bit {i : Nat} (hi : i ≤ 30) : f_X4_bit (nI (i + 1)) = nI (2 ^ i) := by
  have h2 : 2 ^ i ≤ 2 ^ 30 := Nat.pow_le_pow_right (by decide) hi
  unfold f_X4_bit
  simp (disch := omega) only [nl, pk_sub]
  rw [show i + 1 - 1 = i by omega, n_shl (by omega) (by omega), Nat.one_mul]
theorem bit_cases (c i : Nat) : bitN c i = 0 ∨ bitN c i = 1 := by unfold bitN; omega
theorem and_bit (c i : Nat) : c &&& 2 ^ i = bitN c i * 2 ^ i := by
  have hb : c.testBit i = decide (bitN c i = 1) := by unfold bitN; rw [Nat.testBit_eq_decide_div_mod_eq]
  apply Nat.eq_of_testBit_eq
  intro j
  rw [Nat.testBit_and, Nat.testBit_two_pow]
  by_cases h : i = j
  · subst h
    rw [hb]
    rcases bit_cases c i with h | h
    · rw [h]; simp
    · rw [h]; simp [Nat.testBit_two_pow]
  · rcases bit_cases c i with h1 | h1
    · rw [h1]; simp [h]
    · rw [h1, Nat.one_mul, Nat.testBit_two_pow]; simp [h]
theorem p_has {c i : Nat} (hc : c < 2 ^ 31) (hi : i ≤ 30) : f_X4_has (nI c) (nI (i + 1)) = if bitN c i = 0 then 0 else 1 := by
  have h2 : 2 ^ i ≤ 2 ^ 30 := Nat.pow_le_pow_right (by decide) hi
  have h0 : 0 < 2 ^ i := Nat.two_pow_pos i
  unfold f_X4_has
  rw [p_bit hi, nx_and, and_bit]
  rcases bit_cases c i with h | h
  · rw [h]; simp [nI_0]
  · rw [h, if_neg (nI_ne0 (by omega) (by omega)), if_neg (by decide)]
theorem p_bellAt {x i : Nat} (hx : x < 2 ^ 31) (hi : i ≤ 9) : f_X6_bellAt (nI x) (nI (i + 1)) = nI (dg x i) := by
  unfold f_X6_bellAt
  simp (disch := omega) only [nl, pk_sub, pk_mul]
  rw [show i + 1 - 1 = i by omega, n_shr (by omega) hx, nx_and]
  unfold dg
  rw [show (7 : Nat) = 2 ^ 3 - 1 from rfl, Nat.and_two_pow_sub_one_eq_mod, Nat.pow_mul]
theorem p_put {y i b : Nat} (hi : i ≤ 9) (hb : b < 8) : f_X6_put (nI y) (nI (i + 1)) (nI b) = nI (y ||| b * 8 ^ i) := by
  have h2 : 8 ^ i ≤ 8 ^ 9 := Nat.pow_le_pow_right (by decide) hi
  unfold f_X6_put
  simp (disch := omega) only [nl, pk_sub, pk_mul]
  have e : b * 2 ^ (3 * i) = b * 8 ^ i := by rw [Nat.pow_mul]
  have h3 : b * 8 ^ i ≤ 7 * 8 ^ 9 := Nat.mul_le_mul (by omega) h2
  rw [show i + 1 - 1 = i by omega, n_shl (by omega) (by rw [e]; omega), nx_or, e]

