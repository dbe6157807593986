/-! ===== method, touch, both ===== -/
theorem rd_ok {n : Nat} {tx : Nat → Nat} (hn : n ≤ 7) : ∀ (d i : Nat) (s : RS) (C : List Nat), RI n s → rd n tx d i s = .inr C → 1 ≤ C.length ∧ C.length ≤ 20 ∧ ∀ c ∈ C, okc n c
  | 0, i, s, C, h, e => by
    rw [rd] at e
    by_cases c : cmpl n s.2.1 s.2.2.2 = true
    · rw [if_pos c] at e
      have e2 : s.1 ++ [s.2.1] = C := Sum.inr.inj e
      subst e2
      have := h.1
      exact ⟨by simp, by simp; omega, okc_app h.2.1 (h.done hn c)⟩
    · rw [if_neg c] at e; exact absurd e (by simp)
  | d + 1, i, s, C, h, e => by
    rw [rd] at e
    cases q : rac n (tx i) s with
    | none => rw [q] at e; exact absurd e (by simp)
    | some s' => rw [q] at e; exact rd_ok hn d (i + 1) s' C (h.step hn q) e
