/-! ===== texts as touches; fault, method, touch, both ===== -/
theorem kd_eq (c : Int32) : f_X3_kindOf c = f_X11_kindOf c := by
  unfold f_X3_kindOf f_X11_kindOf
  by_cases h1 : c = 98
  · subst h1; decide
  · by_cases h2 : c = 112
    · subst h2; decide
    · rw [if_neg h1, if_neg h2, if_neg h2, if_neg h1]
theorem kd_cases (c : Int32) : f_X11_kindOf c = -4 ∨ ∃ k, k ≤ 2 ∧ f_X11_kindOf c = nI k := by
  unfold f_X11_kindOf
  by_cases h1 : c = 112
  · exact Or.inr ⟨0, by omega, if_pos h1⟩
  · by_cases h2 : c = 98
    · exact Or.inr ⟨1, by omega, by rw [if_neg h1, if_pos h2]; rfl⟩
    · by_cases h3 : c = 115
      · exact Or.inr ⟨2, by omega, by rw [if_neg h1, if_neg h2, if_pos h3]; rfl⟩
      · exact Or.inl (by rw [if_neg h1, if_neg h2, if_neg h3])
def badK (tx : Nat → Nat) (i : Nat) : Bool := decide (16 ≤ i) || decide (f_X11_kindOf (nI (tx i)) = -4)
def tf (N : Nat) (tx : Nat → Nat) : Option Int32 := fnd (if N = 0 then some (nI 0) else some (-4)) (fun i => some (nI i)) (badK tx) N 0
theorem p_faultAsTouch {N : Nat} {tx : Nat → Nat} {ps : Nat → Int32} (hN : N ≤ 80) (ht : ∀ i, i < N → ps i = nI (tx i)) : f_X3_faultAsTouch (nI N) ps = tf N tx := by
  have := fndL (F := f_X3_faultAsTouch_L2 (fun y6 => (if nI N = 0 then some (nI N) else some (-4))) (nI N) ps) (K := if N = 0 then some (nI 0) else some (-4)) (Y := fun i => some (nI i)) (P := badK tx) (a := 0) (e := N) (fun M i h1 h2 => by
    rw [f_X3_faultAsTouch_L2, if_neg (nI_ge h2 (by omega)), if_neg (show ¬ (80 : Int32) ≤ nI i from @nI_ge i 80 (by omega) (by decide)), nI_1]
    unfold badK
    by_cases c : 16 ≤ i
    · rw [if_pos (show (16 : Int32) ≤ nI i from @nI_le 16 i c (by omega)), decide_eq_true c]; rfl
    · rw [if_neg (show ¬ (16 : Int32) ≤ nI i from @nI_ge i 16 (by omega) (by decide)), gd_t (n_inb (by omega) (by decide)), nI_clamp (by omega), ht i h2, kd_eq, decide_eq_false c, Bool.false_or]
      by_cases c2 : f_X11_kindOf (nI (tx i)) = -4
      · rw [if_pos c2, decide_eq_true c2]; rfl
      · rw [if_neg c2, decide_eq_false c2]; rfl) (fun M => by
    rw [f_X3_faultAsTouch_L2, if_pos (nI_le (by omega) (by omega))]
    by_cases c : N = 0
    · rw [c, if_pos (show nI 0 = 0 by decide), if_pos rfl]
    · rw [if_neg (nI_ne0 (by omega) (by omega)), if_neg c]) N 0 fu (by omega) (by omega) (by show N < 8192; omega)
  unfold f_X3_faultAsTouch
  exact this
theorem m_touchFault {N : Nat} {tx : Nat → Nat} {mp : Nat → Int32} (hN : N ≤ 80) (ht : ∀ i, i < N → mp i = nI (tx i)) : f_X11_touchFault (nI N) mp = tf N tx := by
  have L : ∀ (d i M : Nat), i + d = N → i ≤ 16 → d < M → f_X11_touchFault_L2 (fun y5 => (if nI N = 0 then some 0 else some (-4))) (nI N) mp M (nI i) = fnd (if N = 0 then some (nI 0) else some (-4)) (fun i => some (nI i)) (badK tx) d i := by
    intro d
    induction d with
    | zero =>
      intro i M hi h16 hM
      obtain ⟨M, rfl⟩ : ∃ k, M = k + 1 := ⟨M - 1, by omega⟩
      rw [f_X11_touchFault_L2, if_pos (nI_le (by omega) (by omega)), fnd]
      by_cases c : N = 0
      · rw [c, if_pos (show nI 0 = 0 by decide), if_pos rfl]; rfl
      · rw [if_neg (nI_ne0 (by omega) (by omega)), if_neg c]
    | succ d ih =>
      intro i M hi h16 hM
      obtain ⟨M, rfl⟩ : ∃ k, M = k + 1 := ⟨M - 1, by omega⟩
      rw [f_X11_touchFault_L2, if_neg (nI_ge (by omega) (by omega)), nI_1, fnd]
      unfold badK
      by_cases c : i = 16
      · rw [if_pos (show nI i = 16 by rw [c]; rfl), decide_eq_true (show 16 ≤ i by omega)]; rfl
      · rw [if_neg (show ¬ nI i = 16 from fun q => c ((nI_eq (b := 16) (by omega) (by decide)).mp q)), gd_t (n_inb (by omega) (by decide)), nI_clamp (by omega), ht i (by omega), decide_eq_false (show ¬ 16 ≤ i by omega), Bool.false_or]
        rcases kd_cases (nI (tx i)) with q | ⟨k, hk, q⟩
        · rw [q, if_neg (show ¬ (0 : Int32) ≤ -4 by decide), decide_eq_true rfl]; rfl
        · rw [q, if_pos (nI_pos' (by omega)), decide_eq_false (nI_n4 (by omega))]
          exact ih (i + 1) M (by omega) (by omega) (by omega)
  exact L N 0 fu (by omega) (by omega) (by show N < 8192; omega)
theorem tf_some {N : Nat} {tx : Nat → Nat} : ∃ x, tf N tx = some x := by
  unfold tf
  rcases fnd_cases (if N = 0 then some (nI 0) else some (-4 : Int32)) (fun i => some (nI i)) (badK tx) N 0 with q | ⟨i, -, -, q⟩
  · rw [q]; split <;> exact ⟨_, rfl⟩
  · exact ⟨_, q⟩
theorem fnd_none {β : Type} {K : β} {Y : Nat → β} {P : Nat → Bool} : ∀ (d s : Nat), (∀ i, i < s + d → Y i ≠ K) → fnd K Y P d s = K → ∀ i, s ≤ i → i < s + d → P i = false
  | 0, s, _, _, i, a, b => by omega
  | d + 1, s, hY, h, i, a, b => by
    rw [fnd] at h
    by_cases c : P s = true
    · rw [if_pos c] at h; exact absurd h (hY s (by omega))
    · rw [if_neg c] at h
      by_cases e : i = s
      · rw [e]; exact Bool.eq_false_iff.mpr c
      · exact fnd_none d (s + 1) (fun i hi => hY i (by omega)) h i (by omega) (by omega)
def kN (c : Nat) : Nat := if c = 112 then 0 else if c = 98 then 1 else 2
theorem tf_ok {N : Nat} {tx : Nat → Nat} (hN : N ≤ 80) (htx : ∀ i, i < N → tx i < 65536) (h : tf N tx = some (-4)) : 1 ≤ N ∧ N ≤ 16 ∧ ∀ i, i < N → f_X11_kindOf (nI (tx i)) = nI (kN (tx i)) := by
  have hN1 : N ≠ 0 := by
    intro q
    subst q
    have h2 : some (nI 0) = some (-4 : Int32) := h
    exact absurd h2 (by decide)
  unfold tf at h
  rw [if_neg hN1] at h
  have hno := fnd_none (K := some (-4 : Int32)) (Y := fun i => some (nI i)) (P := badK tx) N 0 (fun i hi q => nI_n4 (d := i) (by omega) (Option.some.inj q)) h
  refine ⟨by omega, ?_, fun i hi => ?_⟩
  · rcases Nat.lt_or_ge 16 N with q | q
    · have := hno 16 (by omega) (by omega)
      unfold badK at this
      rw [decide_eq_true (Nat.le_refl 16), Bool.true_or] at this
      exact absurd this (by decide)
    · exact q
  · have := hno i (by omega) (by omega)
    unfold badK at this
    rw [Bool.or_eq_false_iff, decide_eq_false_iff_not, decide_eq_false_iff_not] at this
    have h4 := this.2
    have ht := htx i hi
    unfold f_X11_kindOf at h4 ⊢
    unfold kN
    by_cases h1 : tx i = 112
    · rw [if_pos (show nI (tx i) = 112 by rw [h1]; rfl), if_pos h1]; rfl
    · have e1 : ¬ nI (tx i) = 112 := fun q => h1 ((nI_eq (b := 112) (by omega) (by decide)).mp q)
      rw [if_neg e1] at h4 ⊢
      rw [if_neg h1]
      by_cases h2 : tx i = 98
      · rw [if_pos (show nI (tx i) = 98 by rw [h2]; rfl), if_pos h2]; rfl
      · have e2 : ¬ nI (tx i) = 98 := fun q => h2 ((nI_eq (b := 98) (by omega) (by decide)).mp q)
        rw [if_neg e2] at h4 ⊢
        rw [if_neg h2]
        by_cases h3 : nI (tx i) = 115
        · rw [if_pos h3]; rfl
        · rw [if_neg h3] at h4; exact absurd rfl h4
theorem kN_le (c : Nat) : kN c ≤ 2 := by unfold kN; split; omega; split <;> omega
theorem RRes_eq {v w : Int32} {r : Nat ⊕ List Nat} {vc vm : Int32} {f g : Nat → Int32} (h : RRes v r vc f) (k : RRes w r vm g) : v = w := by
  cases r with
  | inl i => exact Eq.trans h (Eq.symm k)
  | inr C => exact Eq.trans h.1 (Eq.symm k.1)
theorem x_fault {n : Nat} {s : Nat → Int32} {pl ty : Int32} {ps mp : Nat → Int32} (h4 : 4 ≤ n) (hn : n ≤ 7) (hs : s 0 = nI n) (h : Pd pl ty ps mp) (x rc rm rl rx vm vs : Int32) (rp rv : Nat → Int32) : ∃ v q1 q2 q3 q4 q5 p1 p2 p3, f_X10_fault x (nI n) pl ps rc rm rl rx rp = some (v, q1, q2, q3, q4, q5) ∧ f_X11_fault x ty vm vs s mp rv = some (v, p1, p2, p3) := by
  obtain ⟨N, tx, hN, rfl, rfl, ht⟩ := h
  unfold f_X10_fault f_X11_fault
  by_cases c0 : x = 0
  · rw [if_pos c0, if_pos c0]
    obtain ⟨v, vc, a, b, e, f', e1, e2⟩ := p_read (np := 80) h4 hn hN (by omega) (fun i hi => ⟨(ht i hi).1, (ht i hi).2.2⟩) rc rm rl rx rp
    obtain ⟨w, many, spot, r', e3, e4⟩ := m_methodFault h4 hn hs hN (fun i hi => (ht i hi).2) vm vs rv
    rw [bd_t e1, bd_t e3]
    have := RRes_eq e2 e4
    subst this
    exact ⟨_, _, _, _, _, _, _, _, _, rfl, rfl⟩
  · rw [if_neg c0, if_neg c0]
    by_cases c1 : x = 1
    · obtain ⟨v, e⟩ := tf_some (N := N) (tx := tx)
      rw [if_pos c1, if_pos c1, p_faultAsTouch hN (fun i hi => (ht i hi).1), m_touchFault hN (fun i hi => (ht i hi).2.1), e]
      exact ⟨_, _, _, _, _, _, _, _, _, rfl, rfl⟩
    · rw [if_neg c1, if_neg c1]
      exact ⟨_, _, _, _, _, _, _, _, _, rfl, rfl⟩
