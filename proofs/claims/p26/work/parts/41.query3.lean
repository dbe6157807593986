/-! ===== the model's looks ===== -/
theorem smLx {β σ : Type} {F : Nat → Int32 → Int32 → σ → Option β} {K : Int32 → σ → Option β} {f : Nat → Nat} {a e : Nat} (hs : ∀ M v i c, a ≤ i → i < e → ∃ c', F (M + 1) (nI v) (nI i) c = F M (nI (v + f i)) (nI (i + 1)) c') (he : ∀ M v c, F (M + 1) (nI v) (nI e) c = K (nI v) c) :
    ∀ (d i v M : Nat) (c : σ), i + d = e → a ≤ i → d < M → ∃ c', F M (nI v) (nI i) c = K (nI (v + sm f d i)) c'
  | 0, i, v, M, c, hi, _, hM => by
    obtain ⟨M, rfl⟩ : ∃ k, M = k + 1 := ⟨M - 1, by omega⟩
    obtain rfl : i = e := by omega
    exact ⟨c, he _ _ _⟩
  | d + 1, i, v, M, c, hi, ha, hM => by
    obtain ⟨M, rfl⟩ : ∃ k, M = k + 1 := ⟨M - 1, by omega⟩
    obtain ⟨c1, e1⟩ := hs M v i c ha (by omega)
    obtain ⟨c2, e2⟩ := smLx hs he d (i + 1) (v + f i) M c1 (by omega) (by omega) (by omega)
    exact ⟨c2, by rw [e1, e2, sm, Nat.add_assoc]⟩
theorem orL {β : Type} {F : Nat → Int32 → Int32 → Option β} {K : Int32 → Option β} {P : Nat → Bool} {a e : Nat} (hs : ∀ M v i, a ≤ i → i < e → F (M + 1) (nI (b1 v)) (nI i) = F M (nI (b1 (v || P i))) (nI (i + 1))) (he : ∀ M v, F (M + 1) (nI (b1 v)) (nI e) = K (nI (b1 v))) :
    ∀ (d i : Nat) (v : Bool) (M : Nat), i + d = e → a ≤ i → d < M → F M (nI (b1 v)) (nI i) = K (nI (b1 (v || fnd false (fun _ => true) P d i)))
  | 0, i, v, M, hi, _, hM => by
    obtain ⟨M, rfl⟩ : ∃ k, M = k + 1 := ⟨M - 1, by omega⟩
    obtain rfl : i = e := by omega
    rw [he, fnd, Bool.or_false]
  | d + 1, i, v, M, hi, ha, hM => by
    obtain ⟨M, rfl⟩ : ∃ k, M = k + 1 := ⟨M - 1, by omega⟩
    rw [hs M v i ha (by omega), orL hs he d (i + 1) _ M (by omega) (by omega) (by omega), fnd, Bool.or_assoc]
    cases P i <;> simp
theorem zob_b1 (b : Bool) : zob (nI (b1 b)) = true := by cases b <;> decide
