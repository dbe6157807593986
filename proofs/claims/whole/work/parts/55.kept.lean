/-! ===== states kept ===== -/
abbrev AT := Nat × List Nat × Nat × Nat × List Nat
def OKa (a : AT) : Prop := OKs a.1 a.2.1 a.2.2.1 a.2.2.2.1 a.2.2.2.2
def TRa (a : AT) (t : TV) : Prop := TR a.1 a.2.1 a.2.2.1 a.2.2.2.1 a.2.2.2.2 t
def SRa (a : AT) (s : Nat → Int32) : Prop := SR a.1 a.2.1 a.2.2.1 a.2.2.2.1 a.2.2.2.2 s
theorem SRa.congr {a : AT} {s s' : Nat → Int32} (hO : OKa a) (h : SRa a s) (e : ∀ k, k < 41 → s' k = s k) : SRa a s' := by
  obtain ⟨h0, h1, h2, h3, h4, h5, h6⟩ := h
  obtain ⟨-, ⟨-, hm⟩, -, -, -, hl, -⟩ := hO
  exact ⟨by rw [e 0 (by decide), h0], by rw [e 1 (by decide), h1], by rw [e 2 (by decide), h2], by rw [e 3 (by decide), h3], by rw [e 4 (by decide), h4], fun j hj => by rw [e _ (by omega), h5 j hj], fun j hj => by rw [e _ (by omega), h6 j hj]⟩
theorem TRa.bec {a : AT} {t : TV} (hO : OKa a) (h : TRa a t) (v0 v1 v2 v3 v4 : Int32) (f0 f1 : Nat → Int32) : TRa a (f_X9_become v0 v1 v2 v3 v4 f0 f1 t.1 t.2.1 t.2.2.1 t.2.2.2.1 t.2.2.2.2.1 t.2.2.2.2.2.1 t.2.2.2.2.2.2) := by
  obtain ⟨h0, h1, h2, h3, h4, h5, h6⟩ := h
  obtain ⟨-, ⟨-, hm⟩, -, -, -, hl, -⟩ := hO
  refine ⟨h0, h1, h2, h3, h4, fun j hj => ?_, fun j hj => ?_⟩
  · show va_cpy _ _ 0 0 20 j = _
    unfold va_cpy
    rw [if_pos (by omega), show 0 + (j - 0) = j by omega]
    exact h5 j hj
  · show va_cpy _ _ 0 0 17 j = _
    unfold va_cpy
    rw [if_pos (by omega), show 0 + (j - 0) = j by omega]
    exact h6 j hj
def push (P : List AT) (a : AT) : List AT := if P.length = 4 then P.tail ++ [a] else P ++ [a]
theorem push_len {P : List AT} {a : AT} (h : P.length ≤ 4) : (push P a).length = if P.length = 4 then 4 else P.length + 1 := by
  unfold push
  by_cases c : P.length = 4
  · rw [if_pos c, if_pos c]; simp [c]
  · rw [if_neg c, if_neg c]; simp
theorem push_len4 {P : List AT} {a : AT} (h : P.length ≤ 4) : (push P a).length ≤ 4 := by
  rw [push_len h]; split <;> omega
theorem push_get {P : List AT} {a x : AT} {i : Nat} (h : P.length ≤ 4) (e : (push P a)[i]? = some x) : (i = (if P.length = 4 then 3 else P.length) ∧ x = a) ∨ (i < (if P.length = 4 then 3 else P.length) ∧ P[if P.length = 4 then i + 1 else i]? = some x) := by
  unfold push at e
  by_cases c : P.length = 4
  · rw [if_pos c] at e ⊢
    rw [if_pos c]
    rcases Nat.lt_or_ge i 3 with q | q
    · rw [List.getElem?_append_left (by simp [c]; exact q), List.getElem?_tail] at e
      exact Or.inr ⟨q, e⟩
    · rw [List.getElem?_append_right (by simp [c]; exact q)] at e
      simp only [List.length_tail, c] at e
      have : i = 3 := by
        rcases Nat.lt_or_ge (i - (4 - 1)) 1 with w | w
        · omega
        · rw [List.getElem?_eq_none (by simp; omega)] at e; exact absurd e (by simp)
      subst this
      exact Or.inl ⟨rfl, by simpa using e.symm⟩
  · rw [if_neg c] at e ⊢
    rw [if_neg c]
    rcases Nat.lt_or_ge i P.length with q | q
    · rw [List.getElem?_append_left q] at e
      exact Or.inr ⟨q, e⟩
    · rw [List.getElem?_append_right q] at e
      have : i = P.length := by
        rcases Nat.lt_or_ge (i - P.length) 1 with w | w
        · omega
        · rw [List.getElem?_eq_none (by simp; omega)] at e; exact absurd e (by simp)
      subst this
      exact Or.inl ⟨rfl, by simpa using e.symm⟩
def HX (P : List AT) (hh : Nat → TV) : Prop := ∀ i a, P[i]? = some a → OKa a ∧ TRa a (hh i)
def HM (P : List AT) (past : Nat → Int32) : Prop := ∀ i a, P[i]? = some a → OKa a ∧ SRa a (fun k => past (41 * i + k))
theorem p_record {P : List AT} {a : AT} {hh : Nat → TV} {t : TV} (hP : P.length ≤ 4) (hH : HX P hh) (hO : OKa a) (ht : TRa a t) : ∃ hh', f_X0_record (nI P.length) hh t.1 t.2.1 t.2.2.1 t.2.2.2.1 t.2.2.2.2.1 t.2.2.2.2.2.1 t.2.2.2.2.2.2 = some (nI (push P a).length, hh') ∧ HX (push P a) hh' := by
  have key : ∀ (k : Nat) (H : Nat → TV) (X : TV), k = (if P.length = 4 then 3 else P.length) → (∀ i, i < k → H i = hh (if P.length = 4 then i + 1 else i)) → TRa a X → HX (push P a) (setT H k X) := by
    intro k H X hk hH2 hX i x e
    rcases push_get hP e with ⟨q1, q2⟩ | ⟨q1, q2⟩
    · subst q2
      refine ⟨hO, ?_⟩
      unfold setT
      rw [if_pos (by omega)]; exact hX
    · have := hH _ _ q2
      refine ⟨this.1, ?_⟩
      unfold setT
      rw [if_neg (by omega), hH2 i (by omega)]
      exact this.2
  rw [push_len hP]
  unfold f_X0_record
  rcases (show P.length = 0 ∨ P.length = 1 ∨ P.length = 2 ∨ P.length = 3 ∨ P.length = 4 by omega) with c | c | c | c | c
  · rw [c, if_pos (show nI 0 = 0 by decide)]
    exact ⟨_, rfl, key 0 hh _ (by rw [c]; rfl) (fun i hi => by omega) (ht.bec hO ..)⟩
  · rw [c, if_neg (show ¬ nI 1 = 0 by decide), if_pos (show nI 1 = 1 by decide)]
    exact ⟨_, rfl, key 1 hh _ (by rw [c]; rfl) (fun i hi => by rw [c]; rfl) (ht.bec hO ..)⟩
  · rw [c, if_neg (show ¬ nI 2 = 0 by decide), if_neg (show ¬ nI 2 = 1 by decide), if_pos (show nI 2 = 2 by decide)]
    exact ⟨_, rfl, key 2 hh _ (by rw [c]; rfl) (fun i hi => by rw [c]; rfl) (ht.bec hO ..)⟩
  · rw [c, if_neg (show ¬ nI 3 = 0 by decide), if_neg (show ¬ nI 3 = 1 by decide), if_neg (show ¬ nI 3 = 2 by decide), if_pos (show nI 3 = 3 by decide)]
    exact ⟨_, rfl, key 3 hh _ (by rw [c]; rfl) (fun i hi => by rw [c]; rfl) (ht.bec hO ..)⟩
  · rw [c, if_neg (show ¬ nI 4 = 0 by decide), if_neg (show ¬ nI 4 = 1 by decide), if_neg (show ¬ nI 4 = 2 by decide), if_neg (show ¬ nI 4 = 3 by decide), if_pos (show nI 4 = 4 by decide)]
    exact ⟨_, rfl, key 3 (rotT hh) _ (by rw [c]; rfl) (fun i hi => by rw [c]; unfold rotT; rw [if_neg (by omega)]; rfl) (ht.bec hO ..)⟩
theorem p_takeBack {P : List AT} {a : AT} {hh : Nat → TV} {t : TV} (hP : (P ++ [a]).length ≤ 4) (hH : HX (P ++ [a]) hh) : ∃ t', f_X0_takeBack (nI (P ++ [a]).length) hh t.1 t.2.1 t.2.2.1 t.2.2.2.1 t.2.2.2.2.1 t.2.2.2.2.2.1 t.2.2.2.2.2.2 = some (nI P.length, t') ∧ TRa a t' ∧ HX P hh := by
  have hq : HX P hh := fun i x e => hH i x (by rw [List.getElem?_append_left (List.getElem?_eq_some_iff.mp e).1]; exact e)
  have hl := hH P.length a (by simp)
  rw [List.length_append, List.length_singleton] at hP ⊢
  unfold f_X0_takeBack
  rcases (show P.length = 0 ∨ P.length = 1 ∨ P.length = 2 ∨ P.length = 3 by omega) with c | c | c | c
  · rw [c] at hl ⊢
    rw [if_pos (show nI (0 + 1) = 1 by decide)]
    exact ⟨_, rfl, hl.2.bec hl.1 .., hq⟩
  · rw [c] at hl ⊢
    rw [if_neg (show ¬ nI (1 + 1) = 1 by decide), if_pos (show nI (1 + 1) = 2 by decide)]
    exact ⟨_, rfl, hl.2.bec hl.1 .., hq⟩
  · rw [c] at hl ⊢
    rw [if_neg (show ¬ nI (2 + 1) = 1 by decide), if_neg (show ¬ nI (2 + 1) = 2 by decide), if_pos (show nI (2 + 1) = 3 by decide)]
    exact ⟨_, rfl, hl.2.bec hl.1 .., hq⟩
  · rw [c] at hl ⊢
    rw [if_neg (show ¬ nI (3 + 1) = 1 by decide), if_neg (show ¬ nI (3 + 1) = 2 by decide), if_neg (show ¬ nI (3 + 1) = 3 by decide), if_pos (show nI (3 + 1) = 4 by decide)]
    exact ⟨_, rfl, hl.2.bec hl.1 .., hq⟩
/-! ### the model -/
theorem m_changes49 {v : Nat} {s : Nat → Int32} (hv : v ≤ 3) (k : Int32 → (Nat → Int32) → Option (Int32 × (Nat → Int32))) : ∀ (d j M : Nat) (p : Nat → Int32), j + d = 41 → (∀ q, q < j → p (41 * v + q) = s q) → d < M → ∃ p', f_X11_changes_L49 k (nI v) s M (nI j) p = k (nI 41) p' ∧ (∀ q, q < 41 → p' (41 * v + q) = s q) ∧ ∀ q, q < 41 * v → p' q = p q
  | 0, j, M, p, hj, hp, hM => by
    obtain ⟨M, rfl⟩ : ∃ k, M = k + 1 := ⟨M - 1, by omega⟩
    obtain rfl : j = 41 := by omega
    refine ⟨p, ?_, hp, fun _ _ => rfl⟩
    rw [f_X11_changes_L49, if_pos (by decide)]
  | d + 1, j, M, p, hj, hp, hM => by
    obtain ⟨M, rfl⟩ : ∃ k, M = k + 1 := ⟨M - 1, by omega⟩
    obtain ⟨p', e1, e2, e3⟩ := m_changes49 (s := s) hv k d (j + 1) M (upd p (41 * v + j) (s j)) (by omega) (fun q hq => by
      unfold upd
      by_cases c : q = j
      · rw [if_pos (by omega), c]
      · rw [if_neg (by omega)]; exact hp q (by omega)) (by omega)
    refine ⟨p', ?_, e2, fun q hq => by rw [e3 q hq]; unfold upd; rw [if_neg (by omega)]⟩
    rw [f_X11_changes_L49, if_neg (show ¬ (41 : Int32) ≤ nI j from @nI_ge j 41 (by omega) (by decide)), gd_t (n_inb (show j < 41 by omega) (by decide)), show (41 : Int32) = nI 41 from rfl, pk_mul, nI_add, gd_t (n_inb (by omega) (by decide)), nI_clamp (by omega), nI_clamp (by omega), nI_1]
    exact e1
theorem m_changes10 {v : Int32} {s : Nat → Int32} (k : Int32 → (Nat → Int32) → Option (Int32 × (Nat → Int32))) (p0 : Nat → Int32) : ∀ (d j M : Nat) (p : Nat → Int32), j + d = 123 → (∀ q, q < j → p q = p0 (q + 41)) → (∀ q, j ≤ q → p q = p0 q) → d < M → ∃ p', f_X11_changes_L10 k v s M (nI j) p = k (nI 123) p' ∧ ∀ q, q < 123 → p' q = p0 (q + 41)
  | 0, j, M, p, hj, h1, h2, hM => by
    obtain ⟨M, rfl⟩ : ∃ k, M = k + 1 := ⟨M - 1, by omega⟩
    obtain rfl : j = 123 := by omega
    refine ⟨p, ?_, h1⟩
    rw [f_X11_changes_L10, if_pos (by decide)]
  | d + 1, j, M, p, hj, h1, h2, hM => by
    obtain ⟨M, rfl⟩ : ∃ k, M = k + 1 := ⟨M - 1, by omega⟩
    obtain ⟨p', e1, e2⟩ := m_changes10 (v := v) (s := s) k p0 d (j + 1) M (upd p j (p (j + 41))) (by omega) (fun q hq => by
      unfold upd
      by_cases c : q = j
      · rw [if_pos c, c, h2 _ (by omega)]
      · rw [if_neg c]; exact h1 q (by omega)) (fun q hq => by unfold upd; rw [if_neg (by omega)]; exact h2 q (by omega)) (by omega)
    refine ⟨p', ?_, e2⟩
    rw [f_X11_changes_L10, if_neg (show ¬ (123 : Int32) ≤ nI j from @nI_ge j 123 (by omega) (by decide)), show (41 : Int32) = nI 41 from rfl, nI_add, gd_t (n_inb (show j + 41 < 164 by omega) (by decide)), gd_t (n_inb (show j < 164 by omega) (by decide)), nI_clamp (by omega), nI_clamp (by omega), nI_1]
    exact e1
theorem m_changes {P : List AT} {a : AT} {past s : Nat → Int32} (hP : P.length ≤ 4) (hH : HM P past) (hO : OKa a) (hs : SRa a s) : ∃ past', f_X11_changes (nI P.length) s past = some (nI (push P a).length, past') ∧ HM (push P a) past' := by
  rw [push_len hP]
  unfold f_X11_changes
  by_cases c : P.length = 4
  · rw [c, if_pos (show nI 4 = 4 by decide), if_pos rfl]
    obtain ⟨p1, e1, e2⟩ := m_changes10 (v := nI 4) (s := s) (fun y11 y12 => nm (nI 4 - 1) (fun x13 => f_X11_changes_L49 (fun y14 y15 => nm (x13 + 1) (fun x16 => some (x16, y15))) x13 s fu 0 y12)) past 123 0 fu past (by omega) (fun q hq => by omega) (fun _ _ => rfl) (by show 123 < 8192; omega)
    obtain ⟨p2, e3, e4, e5⟩ := m_changes49 (v := 3) (s := s) (by omega) (fun y14 y15 => nm (nI 3 + 1) (fun x16 => some (x16, y15))) 41 0 fu p1 (by omega) (fun q hq => by omega) (by show 41 < 8192; omega)
    refine ⟨p2, ?_, ?_⟩
    · refine e1.trans ?_
      rw [nm_eq, show nI 4 - 1 = nI 3 by decide]
      exact e3
    · intro i x e
      rcases push_get hP e with ⟨q1, q2⟩ | ⟨q1, q2⟩
      · rw [if_pos c] at q1
        subst q1; subst q2
        exact ⟨hO, hs.congr hO (fun k hk => e4 k hk)⟩
      · rw [if_pos c] at q1 q2
        have := hH _ _ q2
        refine ⟨this.1, this.2.congr this.1 (fun k hk => ?_)⟩
        rw [e5 _ (by omega), e2 _ (by omega)]
        exact congrArg past (by omega)
  · rw [if_neg (show ¬ nI P.length = 4 from fun q => c ((nI_eq (b := 4) (by omega) (by decide)).mp q)), if_neg c]
    obtain ⟨p2, e3, e4, e5⟩ := m_changes49 (v := P.length) (s := s) (by omega) (fun y14 y15 => nm (nI P.length + 1) (fun x16 => some (x16, y15))) 41 0 fu past (by omega) (fun q hq => by omega) (by show 41 < 8192; omega)
    refine ⟨p2, ?_, ?_⟩
    · refine e3.trans ?_
      rw [nm_eq, nI_1]
    · intro i x e
      rcases push_get hP e with ⟨q1, q2⟩ | ⟨q1, q2⟩
      · rw [if_neg c] at q1
        subst q1; subst q2
        exact ⟨hO, hs.congr hO (fun k hk => e4 k hk)⟩
      · rw [if_neg c] at q1 q2
        have := hH _ _ q2
        refine ⟨this.1, this.2.congr this.1 (fun k hk => ?_)⟩
        rw [e5 _ (by omega)]
theorem m_undo {P : List AT} {a : AT} {past s : Nat → Int32} (hP : (P ++ [a]).length ≤ 4) (hH : HM (P ++ [a]) past) : ∃ s', f_X11_undo (nI (P ++ [a]).length) s past = some (nI P.length, nI P.length, s') ∧ SRa a s' ∧ HM P past := by
  have hq : HM P past := fun i x e => hH i x (by rw [List.getElem?_append_left (List.getElem?_eq_some_iff.mp e).1]; exact e)
  have hl := hH P.length a (by simp)
  rw [List.length_append, List.length_singleton] at hP ⊢
  have L : ∀ (d j M : Nat) (s : Nat → Int32), j + d = 41 → (∀ q, q < j → s q = past (41 * P.length + q)) → d < M → ∃ s', f_X11_undo_L22 (nI P.length) past M (nI j) s = some (nI P.length, nI P.length, s') ∧ ∀ q, q < 41 → s' q = past (41 * P.length + q) := by
    intro d
    induction d with
    | zero =>
      intro j M s hj h1 hM
      obtain ⟨M, rfl⟩ : ∃ k, M = k + 1 := ⟨M - 1, by omega⟩
      obtain rfl : j = 41 := by omega
      exact ⟨s, by rw [f_X11_undo_L22, if_pos (by decide)], h1⟩
    | succ d ih =>
      intro j M s hj h1 hM
      obtain ⟨M, rfl⟩ : ∃ k, M = k + 1 := ⟨M - 1, by omega⟩
      obtain ⟨s', e1, e2⟩ := ih (j + 1) M (upd s j (past (41 * P.length + j))) (by omega) (fun q hq => by
        unfold upd
        by_cases c : q = j
        · rw [if_pos c, c]
        · rw [if_neg c]; exact h1 q (by omega)) (by omega)
      refine ⟨s', ?_, e2⟩
      rw [f_X11_undo_L22, if_neg (show ¬ (41 : Int32) ≤ nI j from @nI_ge j 41 (by omega) (by decide)), show (41 : Int32) = nI 41 from rfl, pk_mul, nI_add, gd_t (n_inb (by omega) (by decide)), gd_t (n_inb (show j < 41 by omega) (by decide)), nI_clamp (by omega), nI_clamp (by omega), nI_1]
      exact e1
  obtain ⟨s', e1, e2⟩ := L 41 0 fu s (by omega) (fun q hq => by omega) (by show 41 < 8192; omega)
  refine ⟨s', ?_, hl.2.congr hl.1 e2, hq⟩
  unfold f_X11_undo
  rw [if_neg (nI_ne0 (by omega) (by omega)), show (1 : Int32) = nI 1 from rfl, pk_sub (by omega), Nat.add_sub_cancel, nm_eq]
  exact e1
