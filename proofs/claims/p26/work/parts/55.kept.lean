/-! ===== states kept ===== -/
abbrev AT := Nat × List Nat × Nat × Nat × List Nat
def OKa (a : AT) : Prop := OKs a.1 a.2.1 a.2.2.1 a.2.2.2.1 a.2.2.2.2
def TRa (a : AT) (t : TV) : Prop := TR a.1 a.2.1 a.2.2.1 a.2.2.2.1 a.2.2.2.2 t
def SRa (a : AT) (s : Nat → Int32) : Prop := SR a.1 a.2.1 a.2.2.1 a.2.2.2.1 a.2.2.2.2 s
theorem SRa.congr {a : AT} {s s' : Nat → Int32} (hO : OKa a) (h : SRa a s) (e : ∀ k, k < 41 → s' k = s k) : SRa a s' := by
  obtain ⟨h0, h1, h2, h3, h4, h5, h6⟩ := h
  obtain ⟨-, ⟨-, hm⟩, -, -, -, hl, -⟩ := hO
  exact ⟨by rw [e 0 (by decide), h0], by rw [e 1 (by decide), h1], by rw [e 2 (by decide), h2], by rw [e 3 (by decide), h3], by rw [e 4 (by decide), h4], fun j hj => by rw [e _ (by omega), h5 j hj], fun j hj => by rw [e _ (by omega), h6 j hj]⟩
theorem TRa.bec {a : AT} {t : TV} (hO : OKa a) (h : TRa a t) (v0 v1 v2 v3 v4 : Int32) (f0 f1 : Nat → Int32) : TRa a (f_X9_become v0 v1 v2 v3 v4 f0 f1 t.1 t.2.1 t.2.2.1 t.2.2.2.1 t.2.2.2.2.1 t.2.2.2.2.2.1 t.2.2.2.2.2.2) := by
  obtain ⟨h0, h1, h2, h3, h4, h5, h6⟩ := h
  obtain ⟨-, ⟨-, hm⟩, -, -, -, hl, -⟩ := hO
  refine ⟨h0, h1, h2, h3, h4, fun j hj => ?_, fun j hj => ?_⟩
  · show va_cpy _ _ 0 0 20 j = _
    unfold va_cpy
    rw [if_pos (by omega), show 0 + (j - 0) = j by omega]
    exact h5 j hj
  · show va_cpy _ _ 0 0 17 j = _
    unfold va_cpy
    rw [if_pos (by omega), show 0 + (j - 0) = j by omega]
    exact h6 j hj
def push (P : List AT) (a : AT) : List AT := if P.length = 4 then P.tail ++ [a] else P ++ [a]
theorem push_len {P : List AT} {a : AT} (h : P.length ≤ 4) : (push P a).length = if P.length = 4 then 4 else P.length + 1 := by
  unfold push
  by_cases c : P.length = 4
  · rw [if_pos c, if_pos c]; simp [c]
  · rw [if_neg c, if_neg c]; simp
theorem push_len4 {P : List AT} {a : AT} (h : P.length ≤ 4) : (push P a).length ≤ 4 := by
  rw [push_len h]; split <;> omega
theorem push_get {P : List AT} {a x : AT} {i : Nat} (h : P.length ≤ 4) (e : (push P a)[i]? = some x) : (i = (if P.length = 4 then 3 else P.length) ∧ x = a) ∨ (i < (if P.length = 4 then 3 else P.length) ∧ P[if P.length = 4 then i + 1 else i]? = some x) := by
  unfold push at e
  by_cases c : P.length = 4
  · rw [if_pos c] at e ⊢
    rw [if_pos c]
    rcases Nat.lt_or_ge i 3 with q | q
    · rw [List.getElem?_append_left (by simp [c]; exact q), List.getElem?_tail] at e
      exact Or.inr ⟨q, e⟩
    · rw [List.getElem?_append_right (by simp [c]; exact q)] at e
      simp only [List.length_tail, c] at e
      have : i = 3 := by
        rcases Nat.lt_or_ge (i - (4 - 1)) 1 with w | w
        · omega
        · rw [List.getElem?_eq_none (by simp; omega)] at e; exact absurd e (by simp)
      subst this
      exact Or.inl ⟨rfl, by simpa using e.symm⟩
  · rw [if_neg c] at e ⊢
    rw [if_neg c]
    rcases Nat.lt_or_ge i P.length with q | q
    · rw [List.getElem?_append_left q] at e
      exact Or.inr ⟨q, e⟩
    · rw [List.getElem?_append_right q] at e
      have : i = P.length := by
        rcases Nat.lt_or_ge (i - P.length) 1 with w | w
        · omega
        · rw [List.getElem?_eq_none (by simp; omega)] at e; exact absurd e (by simp)
      subst this
      exact Or.inl ⟨rfl, by simpa using e.symm⟩
def HX (P : List AT) (hh : Nat → TV) : Prop := ∀ i a, P[i]? = some a → OKa a ∧ TRa a (hh i)
def HM (P : List AT) (past : Nat → Int32) : Prop := ∀ i a, P[i]? = some a → OKa a ∧ SRa a (fun k => past (41 * i + k))
theorem p_record {P : List AT} {a : AT} {hh : Nat → TV} {t : TV} (hP : P.length ≤ 4) (hH : HX P hh) (hO : OKa a) (ht : TRa a t) : ∃ hh', f_X0_record (nI P.length) hh t.1 t.2.1 t.2.2.1 t.2.2.2.1 t.2.2.2.2.1 t.2.2.2.2.2.1 t.2.2.2.2.2.2 = some (nI (push P a).length, hh') ∧ HX (push P a) hh' := by
  have key : ∀ (k : Nat) (H : Nat → TV) (X : TV), k = (if P.length = 4 then 3 else P.length) → (∀ i, i < k → H i = hh (if P.length = 4 then i + 1 else i)) → TRa a X → HX (push P a) (setT H k X) := by
    intro k H X hk hH2 hX i x e
    rcases push_get hP e with ⟨q1, q2⟩ | ⟨q1, q2⟩
    · subst q2
      refine ⟨hO, ?_⟩
      unfold setT
      rw [if_pos (by omega)]; exact hX
    · have := hH _ _ q2
      refine ⟨this.1, ?_⟩
      unfold setT
      rw [if_neg (by omega), hH2 i (by omega)]
      exact this.2
  rw [push_len hP]
  unfold f_X0_record
  rcases (show P.length = 0 ∨ P.length = 1 ∨ P.length = 2 ∨ P.length = 3 ∨ P.length = 4 by omega) with c | c | c | c | c
  · rw [c, if_pos (show nI 0 = 0 by decide)]
    exact ⟨_, rfl, key 0 hh _ (by rw [c]; rfl) (fun i hi => by omega) (ht.bec hO ..)⟩
  · rw [c, if_neg (show ¬ nI 1 = 0 by decide), if_pos (show nI 1 = 1 by decide)]
    exact ⟨_, rfl, key 1 hh _ (by rw [c]; rfl) (fun i hi => by rw [c]; rfl) (ht.bec hO ..)⟩
  · rw [c, if_neg (show ¬ nI 2 = 0 by decide), if_neg (show ¬ nI 2 = 1 by decide), if_pos (show nI 2 = 2 by decide)]
    exact ⟨_, rfl, key 2 hh _ (by rw [c]; rfl) (fun i hi => by rw [c]; rfl) (ht.bec hO ..)⟩
  · rw [c, if_neg (show ¬ nI 3 = 0 by decide), if_neg (show ¬ nI 3 = 1 by decide), if_neg (show ¬ nI 3 = 2 by decide), if_pos (show nI 3 = 3 by decide)]
    exact ⟨_, rfl, key 3 hh _ (by rw [c]; rfl) (fun i hi => by rw [c]; rfl) (ht.bec hO ..)⟩
  · rw [c, if_neg (show ¬ nI 4 = 0 by decide), if_neg (show ¬ nI 4 = 1 by decide), if_neg (show ¬ nI 4 = 2 by decide), if_neg (show ¬ nI 4 = 3 by decide), if_pos (show nI 4 = 4 by decide)]
    exact ⟨_, rfl, key 3 (rotT hh) _ (by rw [c]; rfl) (fun i hi => by rw [c]; unfold rotT; rw [if_neg (by omega)]; rfl) (ht.bec hO ..)⟩
/-! ### the model -/
