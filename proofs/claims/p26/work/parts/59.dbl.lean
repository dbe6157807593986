/-! ===== the quotient of the music is a number ===== -/
def finB (x : UInt64) : Bool := match Jvm.FP.Core.decode Jvm.FP.Core.b64 x.toNat with
  | .fin _ c _ => decide (c = 0) || true
  | _ => false
def fin0 (x : UInt64) : Bool := match Jvm.FP.Core.decode Jvm.FP.Core.b64 x.toNat with
  | .fin _ c _ => decide (¬ c = 0)
  | _ => false
theorem fin_t : ∀ a, a < 342 → finB (FP.i2d (nI a)) = true ∧ (a = 0 ∨ fin0 (FP.i2d (nI a)) = true) := by decide +kernel
def nnN (x : Nat) : Prop := x % 2 ^ 63 ≤ 2047 * 2 ^ 52 ∧ x < 2 ^ 64
theorem asm_nn (s : Bool) {e t : Nat} (he : e < 2047 ∧ t < 2 ^ 52 ∨ e = 2047 ∧ t = 0) : nnN (Jvm.FP.Core.assemble Jvm.FP.Core.b64 s e t) := by
  unfold nnN Jvm.FP.Core.assemble
  have h1 : Jvm.FP.Core.b64.exps = 2048 := by decide
  have h2 : Jvm.FP.Core.b64.tails = 2 ^ 52 := by decide
  rw [h1, h2]
  cases s
  · simp only [Bool.toNat_false, Nat.zero_mul, Nat.zero_add]; omega
  · simp only [Bool.toNat_true, Nat.one_mul]; omega
theorem bound_nn (s : Bool) {c : Nat} {q : Int} (hc : c < 2 ^ 53) : nnN (Jvm.FP.Core.encode Jvm.FP.Core.b64 (Jvm.FP.Core.bound Jvm.FP.Core.b64 s c q)) := by
  unfold Jvm.FP.Core.bound
  have h2 : Jvm.FP.Core.b64.tails = 2 ^ 52 := by decide
  have h3 : Jvm.FP.Core.b64.qmax = 971 := by decide
  have h4 : Jvm.FP.Core.b64.qmin = -1074 := by decide
  have h5 : Jvm.FP.Core.b64.exps = 2048 := by decide
  by_cases c1 : q ≤ Jvm.FP.Core.b64.qmax
  · rw [if_pos c1]
    unfold Jvm.FP.Core.encode
    dsimp only
    rw [h3] at c1
    by_cases c2 : c < Jvm.FP.Core.b64.tails
    · rw [if_pos c2]
      rw [h2] at c2
      exact asm_nn s (Or.inl ⟨by decide, c2⟩)
    · rw [if_neg c2]
      rw [h2] at c2
      rw [h2, h4]
      refine asm_nn s (Or.inl ⟨by omega, by omega⟩)
  · rw [if_neg c1]
    unfold Jvm.FP.Core.encode
    dsimp only
    rw [h5]
    exact asm_nn s (Or.inr ⟨rfl, rfl⟩)
theorem ratio_nn (s : Bool) (a d : Nat) (e : Int) : nnN (Jvm.FP.Core.encode Jvm.FP.Core.b64 (Jvm.FP.Core.roundRatio Jvm.FP.Core.b64 s a d e)) := by
  unfold Jvm.FP.Core.roundRatio
  by_cases c : a = 0
  · rw [if_pos c]
    unfold Jvm.FP.Core.encode
    dsimp only
    rw [if_pos (by decide)]
    exact asm_nn s (Or.inl ⟨by decide, by decide⟩)
  · rw [if_neg c]
    unfold Jvm.FP.Core.roundAt Jvm.FP.Core.settle
    by_cases c2 : Jvm.FP.Core.nearest (Jvm.FP.Core.unitsNum a e (Jvm.FP.Core.quantum Jvm.FP.Core.b64 a d e)) (Jvm.FP.Core.unitsDen d e (Jvm.FP.Core.quantum Jvm.FP.Core.b64 a d e)) < 2 ^ Jvm.FP.Core.b64.p
    · rw [if_pos c2]
      exact bound_nn s c2
    · rw [if_neg c2]
      exact bound_nn s (by decide)
theorem nn_u {x : Nat} (h : nnN x) : nnb (UInt64.ofNat x) = true := by
  unfold nnb
  rw [decide_eq_true_eq, UInt64.le_iff_toNat_le, UInt64.toNat_and, UInt64.toNat_ofNat_of_lt' (by have := h.2; exact h.2), show (0x7fffffffffffffff : UInt64).toNat = 2 ^ 63 - 1 by decide, Nat.and_two_pow_sub_one_eq_mod]
  exact h.1
theorem music_nn {a b : Nat} (hb : 1 ≤ b) (hb2 : b ≤ 340) (ha : a ≤ 340) : nnb (FP.ddiv (FP.i2d (nI a)) (FP.i2d (nI b))) = true := by
  have h1 := (fin_t a (by omega)).1
  have h2 : fin0 (FP.i2d (nI b)) = true := by
    rcases (fin_t b (by omega)).2 with q | q
    · omega
    · exact q
  show nnb (UInt64.ofNat (Jvm.FP.Core.div Jvm.FP.Core.b64 (FP.i2d (nI a)).toNat (FP.i2d (nI b)).toNat)) = true
  refine nn_u ?_
  unfold Jvm.FP.Core.div
  unfold finB at h1
  unfold fin0 at h2
  generalize Jvm.FP.Core.decode Jvm.FP.Core.b64 (FP.i2d (nI a)).toNat = x at h1 ⊢
  generalize Jvm.FP.Core.decode Jvm.FP.Core.b64 (FP.i2d (nI b)).toNat = y at h2 ⊢
  cases x with
  | nan => exact absurd h1 (by simp)
  | inf s => exact absurd h1 (by simp)
  | fin s c q =>
    cases y with
    | nan => exact absurd h2 (by simp)
    | inf s => exact absurd h2 (by simp)
    | fin t d r =>
      unfold Jvm.FP.Core.quotient
      dsimp only
      rw [if_neg (by simpa using h2)]
      exact ratio_nn _ _ _ _
section
variable {n : Nat} {m : List Nat} {b g : Nat} {l : List Nat} {s places kinds : Nat → Int32}
end

