/-! ===== count, both ===== -/
section
variable {n : Nat} {m : List Nat} {b g : Nat} {l : List Nat} {s places kinds : Nat → Int32}
theorem nI_nn {i : Nat} (h : i < 2 ^ 31) : (0 : Int32) ≤ nI i := nI_pos' h
theorem x_count (h : OKs n m b g l) (hs : SR n m b g l s) (hp : ∀ j, j < m.length → places j = nI (m.getD j 0)) (hk : ∀ j, j < l.length → kinds j = nI (l.getD j 0)) (x hz pl vb vc vl va ve : Int32) (fr ff fo ce r : Nat → Int32) :
    ∃ v q1 q2 q3 q4 q5 q6 q7 p1 p2 p3, f_X10_count x (nI n) (nI m.length) (nI b) (nI g) (nI l.length) places kinds hz pl vb vc vl va fr ff fo = some (v, q1, q2, q3, q4, q5, q6, q7) ∧ f_X11_count x hz pl ve s ce r = some (v, p1, p2, p3) := by
  have hT := h.r.T
  have hn := h.1
  have hl17 : l.length ≤ 17 := by have := h.2.2.2.2.2.1; omega
  obtain ⟨r1, f1, o1, e1, e2, e3⟩ := p_ring h.r hp hk vb vc vl va fr ff fo
  have e3' : firstsX (rws n m b g l) (l.length * m.length) f1 := e3
  obtain ⟨cA, r2, e4, e5, e6⟩ := m_ringsAll h hs ve ce r
  have h0 : rws n m b g l 0 = List.range n := rws_0
  unfold f_X11_count
  rw [bd_t e4]
  dsimp only
  unfold f_X10_count
  rw [wi_in]
  by_cases c0 : x = 0
  · subst c0
    rw [if_pos (show (0 : Int32) = 0 from rfl), if_pos (show (0 : Int32) = 0 from rfl)]
    rw [gd_t (show inb (0 : Int32) 41 = true by decide), show (0 : Int32).toNatClampNeg = 0 from rfl, hs.1]
    exact ⟨_, _, _, _, _, _, _, _, _, _, _, rfl, rfl⟩
  by_cases c1 : x = 1
  · subst c1
    rw [if_neg (show ¬ (1 : Int32) = 0 by decide), if_neg (show ¬ (1 : Int32) = 0 by decide), if_pos (show (1 : Int32) = 1 from rfl), if_pos (show (1 : Int32) = 1 from rfl)]
    rw [gd_t (show inb (1 : Int32) 41 = true by decide), show (1 : Int32).toNatClampNeg = 1 from rfl, hs.2.1]
    exact ⟨_, _, _, _, _, _, _, _, _, _, _, rfl, rfl⟩
  by_cases c2 : x = 2
  · subst c2
    rw [if_neg (show ¬ (2 : Int32) = 0 by decide), if_neg (show ¬ (2 : Int32) = 0 by decide), if_neg (show ¬ (2 : Int32) = 1 by decide), if_neg (show ¬ (2 : Int32) = 1 by decide), if_pos (show (2 : Int32) = 2 from rfl), if_pos (show (2 : Int32) = 2 from rfl)]
    rw [gd_t (show inb (2 : Int32) 41 = true by decide), show (2 : Int32).toNatClampNeg = 2 from rfl, hs.2.2.1]
    exact ⟨_, _, _, _, _, _, _, _, _, _, _, rfl, rfl⟩
  by_cases c3 : x = 3
  · subst c3
    rw [if_neg (show ¬ (3 : Int32) = 0 by decide), if_neg (show ¬ (3 : Int32) = 0 by decide), if_neg (show ¬ (3 : Int32) = 1 by decide), if_neg (show ¬ (3 : Int32) = 1 by decide), if_neg (show ¬ (3 : Int32) = 2 by decide), if_neg (show ¬ (3 : Int32) = 2 by decide), if_pos (show (3 : Int32) = 3 from rfl), if_pos (show (3 : Int32) = 3 from rfl)]
    unfold f_X9_lastRow f_X11_last
    rw [show (2 : Int32).toNatClampNeg = 2 from rfl, show (1 : Int32).toNatClampNeg = 1 from rfl, hs.2.1, hs.2.2.1, bd_t rfl]
    exact ⟨_, _, _, _, _, _, _, _, _, _, _, rfl, rfl⟩
  by_cases c4 : x = 4
  · subst c4
    rw [if_neg (show ¬ (4 : Int32) = 0 by decide), if_neg (show ¬ (4 : Int32) = 0 by decide), if_neg (show ¬ (4 : Int32) = 1 by decide), if_neg (show ¬ (4 : Int32) = 1 by decide), if_neg (show ¬ (4 : Int32) = 2 by decide), if_neg (show ¬ (4 : Int32) = 2 by decide), if_neg (show ¬ (4 : Int32) = 3 by decide), if_neg (show ¬ (4 : Int32) = 3 by decide), if_pos (show (4 : Int32) = 4 from rfl), if_pos (show (4 : Int32) = 4 from rfl)]
    rw [if_neg (show ¬ f_X11_in 4 4 9 = 0 by decide)]
    unfold f_X10_countRows
    rw [bd_t e1]
    dsimp only
    rw [if_pos (show (4 : Int32) = 4 from rfl)]
    rw [p_comesRound e2 hn.2 hT, m_roundAt e6 h0 (by omega) hn.2 hT]
    rcases fnd_cases (some (-4 : Int32)) (fun i => some (nI i)) (fun i => decide (rws n m b g l i = rws n m b g l 0)) (l.length * m.length) 1 with w | ⟨i, -, -, w⟩
    · rw [w]; exact ⟨_, _, _, _, _, _, _, _, _, _, _, rfl, rfl⟩
    · rw [w]; exact ⟨_, _, _, _, _, _, _, _, _, _, _, rfl, rfl⟩
  by_cases c5 : x = 5
  · subst c5
    rw [if_neg (show ¬ (5 : Int32) = 0 by decide), if_neg (show ¬ (5 : Int32) = 0 by decide), if_neg (show ¬ (5 : Int32) = 1 by decide), if_neg (show ¬ (5 : Int32) = 1 by decide), if_neg (show ¬ (5 : Int32) = 2 by decide), if_neg (show ¬ (5 : Int32) = 2 by decide), if_neg (show ¬ (5 : Int32) = 3 by decide), if_neg (show ¬ (5 : Int32) = 3 by decide), if_neg (show ¬ (5 : Int32) = 4 by decide), if_neg (show ¬ (5 : Int32) = 4 by decide), if_pos (show (5 : Int32) = 5 from rfl), if_pos (show (5 : Int32) = 5 from rfl)]
    rw [if_neg (show ¬ f_X11_in 5 4 9 = 0 by decide)]
    unfold f_X10_countRows
    rw [bd_t e1]
    dsimp only
    rw [if_neg (show ¬ (5 : Int32) = 4 by decide), if_pos (show (5 : Int32) = 5 from rfl)]
    obtain ⟨z, z1, z2⟩ := p_isTrue e3' hT
    rw [bd_t z2, m_firstTwice e6 (by omega) hn.2 hT, bd_t z1]
    by_cases w : z < 0
    · rw [if_pos w, if_neg (Int32.not_le.mpr w)]; exact ⟨_, _, _, _, _, _, _, _, _, _, _, rfl, rfl⟩
    · rw [if_neg w, if_pos (Int32.not_lt.mp w)]; exact ⟨_, _, _, _, _, _, _, _, _, _, _, rfl, rfl⟩
  by_cases c6 : x = 6
  · subst c6
    rw [if_neg (show ¬ (6 : Int32) = 0 by decide), if_neg (show ¬ (6 : Int32) = 0 by decide), if_neg (show ¬ (6 : Int32) = 1 by decide), if_neg (show ¬ (6 : Int32) = 1 by decide), if_neg (show ¬ (6 : Int32) = 2 by decide), if_neg (show ¬ (6 : Int32) = 2 by decide), if_neg (show ¬ (6 : Int32) = 3 by decide), if_neg (show ¬ (6 : Int32) = 3 by decide), if_neg (show ¬ (6 : Int32) = 4 by decide), if_neg (show ¬ (6 : Int32) = 4 by decide), if_neg (show ¬ (6 : Int32) = 5 by decide), if_neg (show ¬ (6 : Int32) = 5 by decide), if_pos (show (6 : Int32) = 6 from rfl), if_pos (show (6 : Int32) = 6 from rfl)]
    rw [if_neg (show ¬ f_X11_in 6 4 9 = 0 by decide)]
    unfold f_X10_countRows
    rw [bd_t e1]
    dsimp only
    rw [if_neg (show ¬ (6 : Int32) = 4 by decide), if_neg (show ¬ (6 : Int32) = 5 by decide), if_pos (show (6 : Int32) = 6 from rfl)]
    obtain ⟨z, z1, -⟩ := frst_some (R := rws n m b g l) (T := l.length * m.length)
    rw [p_firstRepeat e3' hT, m_firstTwice e6 (by omega) hn.2 hT, z1]
    exact ⟨_, _, _, _, _, _, _, _, _, _, _, rfl, rfl⟩
  by_cases c7 : x = 7
  · subst c7
    rw [if_neg (show ¬ (7 : Int32) = 0 by decide), if_neg (show ¬ (7 : Int32) = 0 by decide), if_neg (show ¬ (7 : Int32) = 1 by decide), if_neg (show ¬ (7 : Int32) = 1 by decide), if_neg (show ¬ (7 : Int32) = 2 by decide), if_neg (show ¬ (7 : Int32) = 2 by decide), if_neg (show ¬ (7 : Int32) = 3 by decide), if_neg (show ¬ (7 : Int32) = 3 by decide), if_neg (show ¬ (7 : Int32) = 4 by decide), if_neg (show ¬ (7 : Int32) = 4 by decide), if_neg (show ¬ (7 : Int32) = 5 by decide), if_neg (show ¬ (7 : Int32) = 5 by decide), if_neg (show ¬ (7 : Int32) = 6 by decide), if_neg (show ¬ (7 : Int32) = 6 by decide), if_pos (show (7 : Int32) = 7 from rfl), if_pos (show (7 : Int32) = 7 from rfl)]
    rw [if_neg (show ¬ f_X11_in 7 4 9 = 0 by decide)]
    unfold f_X10_countRows
    rw [bd_t e1]
    dsimp only
    rw [if_neg (show ¬ (7 : Int32) = 4 by decide), if_neg (show ¬ (7 : Int32) = 5 by decide), if_neg (show ¬ (7 : Int32) = 6 by decide), if_pos (show (7 : Int32) = 7 from rfl)]
    rw [bd_t (p_differentRows e3' hT), bd_t (m_unlike e6 (by omega) hn.2 hT)]
    exact ⟨_, _, _, _, _, _, _, _, _, _, _, rfl, rfl⟩
  by_cases c8 : x = 8
  · subst c8
    rw [if_neg (show ¬ (8 : Int32) = 0 by decide), if_neg (show ¬ (8 : Int32) = 0 by decide), if_neg (show ¬ (8 : Int32) = 1 by decide), if_neg (show ¬ (8 : Int32) = 1 by decide), if_neg (show ¬ (8 : Int32) = 2 by decide), if_neg (show ¬ (8 : Int32) = 2 by decide), if_neg (show ¬ (8 : Int32) = 3 by decide), if_neg (show ¬ (8 : Int32) = 3 by decide), if_neg (show ¬ (8 : Int32) = 4 by decide), if_neg (show ¬ (8 : Int32) = 4 by decide), if_neg (show ¬ (8 : Int32) = 5 by decide), if_neg (show ¬ (8 : Int32) = 5 by decide), if_neg (show ¬ (8 : Int32) = 6 by decide), if_neg (show ¬ (8 : Int32) = 6 by decide), if_neg (show ¬ (8 : Int32) = 7 by decide), if_neg (show ¬ (8 : Int32) = 7 by decide), if_pos (show (8 : Int32) = 8 from rfl), if_pos (show (8 : Int32) = 8 from rfl)]
    rw [if_neg (show ¬ f_X11_in 8 4 9 = 0 by decide)]
    unfold f_X10_countRows
    rw [bd_t e1]
    dsimp only
    rw [if_neg (show ¬ (8 : Int32) = 4 by decide), if_neg (show ¬ (8 : Int32) = 5 by decide), if_neg (show ¬ (8 : Int32) = 6 by decide), if_neg (show ¬ (8 : Int32) = 7 by decide), if_pos (show (8 : Int32) = 8 from rfl)]
    rw [bd_t (p_falsePairs e2 hn.2 hT h.2.1.2 hl17 rfl), bd_t (m_falsePairs e6 (by omega) hn.2 hT h.2.1.2 hs.2.1 hs.2.2.1 hl17 rfl)]
    exact ⟨_, _, _, _, _, _, _, _, _, _, _, rfl, rfl⟩
  by_cases c9 : x = 9
  · subst c9
    rw [if_neg (show ¬ (9 : Int32) = 0 by decide), if_neg (show ¬ (9 : Int32) = 0 by decide), if_neg (show ¬ (9 : Int32) = 1 by decide), if_neg (show ¬ (9 : Int32) = 1 by decide), if_neg (show ¬ (9 : Int32) = 2 by decide), if_neg (show ¬ (9 : Int32) = 2 by decide), if_neg (show ¬ (9 : Int32) = 3 by decide), if_neg (show ¬ (9 : Int32) = 3 by decide), if_neg (show ¬ (9 : Int32) = 4 by decide), if_neg (show ¬ (9 : Int32) = 4 by decide), if_neg (show ¬ (9 : Int32) = 5 by decide), if_neg (show ¬ (9 : Int32) = 5 by decide), if_neg (show ¬ (9 : Int32) = 6 by decide), if_neg (show ¬ (9 : Int32) = 6 by decide), if_neg (show ¬ (9 : Int32) = 7 by decide), if_neg (show ¬ (9 : Int32) = 7 by decide), if_neg (show ¬ (9 : Int32) = 8 by decide), if_neg (show ¬ (9 : Int32) = 8 by decide), if_pos (show (9 : Int32) = 9 from rfl), if_pos (show (9 : Int32) = 9 from rfl)]
    rw [if_neg (show ¬ f_X11_in 9 4 9 = 0 by decide)]
    unfold f_X10_countRows
    rw [bd_t e1]
    dsimp only
    rw [if_neg (show ¬ (9 : Int32) = 4 by decide), if_neg (show ¬ (9 : Int32) = 5 by decide), if_neg (show ¬ (9 : Int32) = 6 by decide), if_neg (show ¬ (9 : Int32) = 7 by decide), if_neg (show ¬ (9 : Int32) = 8 by decide)]
    obtain ⟨c3, z1⟩ := m_musical e6 hn.1 hn.2 hT hs.1 cA
    rw [bd_t (p_wellSounding e2 hn.1 hn.2 hT), bd_t z1]
    exact ⟨_, _, _, _, _, _, _, _, _, _, _, rfl, rfl⟩
  by_cases c10 : x = 10
  · subst c10
    rw [if_neg (show ¬ (10 : Int32) = 0 by decide), if_neg (show ¬ (10 : Int32) = 0 by decide), if_neg (show ¬ (10 : Int32) = 1 by decide), if_neg (show ¬ (10 : Int32) = 1 by decide), if_neg (show ¬ (10 : Int32) = 2 by decide), if_neg (show ¬ (10 : Int32) = 2 by decide), if_neg (show ¬ (10 : Int32) = 3 by decide), if_neg (show ¬ (10 : Int32) = 3 by decide), if_neg (show ¬ (10 : Int32) = 4 by decide), if_neg (show ¬ (10 : Int32) = 4 by decide), if_neg (show ¬ (10 : Int32) = 5 by decide), if_neg (show ¬ (10 : Int32) = 5 by decide), if_neg (show ¬ (10 : Int32) = 6 by decide), if_neg (show ¬ (10 : Int32) = 6 by decide), if_neg (show ¬ (10 : Int32) = 7 by decide), if_neg (show ¬ (10 : Int32) = 7 by decide), if_neg (show ¬ (10 : Int32) = 8 by decide), if_neg (show ¬ (10 : Int32) = 8 by decide), if_neg (show ¬ (10 : Int32) = 9 by decide), if_neg (show ¬ (10 : Int32) = 9 by decide), if_pos (show (10 : Int32) = 10 from rfl), if_pos (show (10 : Int32) = 10 from rfl)]
    rw [bd_t (p_calledLeads hl17 h.2.2.2.2.2.2 hk), bd_t (m_called hs h.2.2.2.2.2.1 h.2.2.2.2.2.2)]
    exact ⟨_, _, _, _, _, _, _, _, _, _, _, rfl, rfl⟩
  by_cases c11 : x = 11
  · subst c11
    rw [if_neg (show ¬ (11 : Int32) = 0 by decide), if_neg (show ¬ (11 : Int32) = 0 by decide), if_neg (show ¬ (11 : Int32) = 1 by decide), if_neg (show ¬ (11 : Int32) = 1 by decide), if_neg (show ¬ (11 : Int32) = 2 by decide), if_neg (show ¬ (11 : Int32) = 2 by decide), if_neg (show ¬ (11 : Int32) = 3 by decide), if_neg (show ¬ (11 : Int32) = 3 by decide), if_neg (show ¬ (11 : Int32) = 4 by decide), if_neg (show ¬ (11 : Int32) = 4 by decide), if_neg (show ¬ (11 : Int32) = 5 by decide), if_neg (show ¬ (11 : Int32) = 5 by decide), if_neg (show ¬ (11 : Int32) = 6 by decide), if_neg (show ¬ (11 : Int32) = 6 by decide), if_neg (show ¬ (11 : Int32) = 7 by decide), if_neg (show ¬ (11 : Int32) = 7 by decide), if_neg (show ¬ (11 : Int32) = 8 by decide), if_neg (show ¬ (11 : Int32) = 8 by decide), if_neg (show ¬ (11 : Int32) = 9 by decide), if_neg (show ¬ (11 : Int32) = 9 by decide), if_neg (show ¬ (11 : Int32) = 10 by decide), if_neg (show ¬ (11 : Int32) = 10 by decide), if_pos (show (11 : Int32) = 11 from rfl), if_pos (show (11 : Int32) = 11 from rfl)]
    obtain ⟨t0, z1, z2, z3, z4⟩ := order (LD_row n m b g 0) (by omega) hn.2
    obtain ⟨c3, z5⟩ := m_plainCourse h hs z1 z2 z3 z4 cA
    rw [bd_t (p_plainCourse h.r.s hp z1 z2 z3 z4), bd_t z5]
    exact ⟨_, _, _, _, _, _, _, _, _, _, _, rfl, rfl⟩
  by_cases c12 : x = 12
  · subst c12
    rw [if_neg (show ¬ (12 : Int32) = 0 by decide), if_neg (show ¬ (12 : Int32) = 0 by decide), if_neg (show ¬ (12 : Int32) = 1 by decide), if_neg (show ¬ (12 : Int32) = 1 by decide), if_neg (show ¬ (12 : Int32) = 2 by decide), if_neg (show ¬ (12 : Int32) = 2 by decide), if_neg (show ¬ (12 : Int32) = 3 by decide), if_neg (show ¬ (12 : Int32) = 3 by decide), if_neg (show ¬ (12 : Int32) = 4 by decide), if_neg (show ¬ (12 : Int32) = 4 by decide), if_neg (show ¬ (12 : Int32) = 5 by decide), if_neg (show ¬ (12 : Int32) = 5 by decide), if_neg (show ¬ (12 : Int32) = 6 by decide), if_neg (show ¬ (12 : Int32) = 6 by decide), if_neg (show ¬ (12 : Int32) = 7 by decide), if_neg (show ¬ (12 : Int32) = 7 by decide), if_neg (show ¬ (12 : Int32) = 8 by decide), if_neg (show ¬ (12 : Int32) = 8 by decide), if_neg (show ¬ (12 : Int32) = 9 by decide), if_neg (show ¬ (12 : Int32) = 9 by decide), if_neg (show ¬ (12 : Int32) = 10 by decide), if_neg (show ¬ (12 : Int32) = 10 by decide), if_neg (show ¬ (12 : Int32) = 11 by decide), if_neg (show ¬ (12 : Int32) = 11 by decide), if_pos (show (12 : Int32) = 12 from rfl), if_pos (show (12 : Int32) = 12 from rfl)]
    rw [show ((2 : Int32) + 12) - 11 = 3 by decide, gd_t (show inb (3 : Int32) 41 = true by decide), show (3 : Int32).toNatClampNeg = 3 from rfl, hs.2.2.2.1]
    exact ⟨_, _, _, _, _, _, _, _, _, _, _, rfl, rfl⟩
  by_cases c13 : x = 13
  · subst c13
    rw [if_neg (show ¬ (13 : Int32) = 0 by decide), if_neg (show ¬ (13 : Int32) = 0 by decide), if_neg (show ¬ (13 : Int32) = 1 by decide), if_neg (show ¬ (13 : Int32) = 1 by decide), if_neg (show ¬ (13 : Int32) = 2 by decide), if_neg (show ¬ (13 : Int32) = 2 by decide), if_neg (show ¬ (13 : Int32) = 3 by decide), if_neg (show ¬ (13 : Int32) = 3 by decide), if_neg (show ¬ (13 : Int32) = 4 by decide), if_neg (show ¬ (13 : Int32) = 4 by decide), if_neg (show ¬ (13 : Int32) = 5 by decide), if_neg (show ¬ (13 : Int32) = 5 by decide), if_neg (show ¬ (13 : Int32) = 6 by decide), if_neg (show ¬ (13 : Int32) = 6 by decide), if_neg (show ¬ (13 : Int32) = 7 by decide), if_neg (show ¬ (13 : Int32) = 7 by decide), if_neg (show ¬ (13 : Int32) = 8 by decide), if_neg (show ¬ (13 : Int32) = 8 by decide), if_neg (show ¬ (13 : Int32) = 9 by decide), if_neg (show ¬ (13 : Int32) = 9 by decide), if_neg (show ¬ (13 : Int32) = 10 by decide), if_neg (show ¬ (13 : Int32) = 10 by decide), if_neg (show ¬ (13 : Int32) = 11 by decide), if_neg (show ¬ (13 : Int32) = 11 by decide), if_neg (show ¬ (13 : Int32) = 12 by decide), if_neg (show ¬ (13 : Int32) = 12 by decide), if_pos (show (13 : Int32) = 13 from rfl), if_pos (show (13 : Int32) = 13 from rfl)]
    rw [show ((2 : Int32) + 13) - 11 = 4 by decide, gd_t (show inb (4 : Int32) 41 = true by decide), show (4 : Int32).toNatClampNeg = 4 from rfl, hs.2.2.2.2.1]
    exact ⟨_, _, _, _, _, _, _, _, _, _, _, rfl, rfl⟩
  by_cases c14 : x = 14
  · subst c14
    rw [if_neg (show ¬ (14 : Int32) = 0 by decide), if_neg (show ¬ (14 : Int32) = 0 by decide), if_neg (show ¬ (14 : Int32) = 1 by decide), if_neg (show ¬ (14 : Int32) = 1 by decide), if_neg (show ¬ (14 : Int32) = 2 by decide), if_neg (show ¬ (14 : Int32) = 2 by decide), if_neg (show ¬ (14 : Int32) = 3 by decide), if_neg (show ¬ (14 : Int32) = 3 by decide), if_neg (show ¬ (14 : Int32) = 4 by decide), if_neg (show ¬ (14 : Int32) = 4 by decide), if_neg (show ¬ (14 : Int32) = 5 by decide), if_neg (show ¬ (14 : Int32) = 5 by decide), if_neg (show ¬ (14 : Int32) = 6 by decide), if_neg (show ¬ (14 : Int32) = 6 by decide), if_neg (show ¬ (14 : Int32) = 7 by decide), if_neg (show ¬ (14 : Int32) = 7 by decide), if_neg (show ¬ (14 : Int32) = 8 by decide), if_neg (show ¬ (14 : Int32) = 8 by decide), if_neg (show ¬ (14 : Int32) = 9 by decide), if_neg (show ¬ (14 : Int32) = 9 by decide), if_neg (show ¬ (14 : Int32) = 10 by decide), if_neg (show ¬ (14 : Int32) = 10 by decide), if_neg (show ¬ (14 : Int32) = 11 by decide), if_neg (show ¬ (14 : Int32) = 11 by decide), if_neg (show ¬ (14 : Int32) = 12 by decide), if_neg (show ¬ (14 : Int32) = 12 by decide), if_neg (show ¬ (14 : Int32) = 13 by decide), if_neg (show ¬ (14 : Int32) = 13 by decide), if_pos (show (14 : Int32) = 14 from rfl), if_pos (show (14 : Int32) = 14 from rfl)]
    exact ⟨_, _, _, _, _, _, _, _, _, _, _, rfl, rfl⟩
  by_cases c15 : x = 15
  · subst c15
    rw [if_neg (show ¬ (15 : Int32) = 0 by decide), if_neg (show ¬ (15 : Int32) = 0 by decide), if_neg (show ¬ (15 : Int32) = 1 by decide), if_neg (show ¬ (15 : Int32) = 1 by decide), if_neg (show ¬ (15 : Int32) = 2 by decide), if_neg (show ¬ (15 : Int32) = 2 by decide), if_neg (show ¬ (15 : Int32) = 3 by decide), if_neg (show ¬ (15 : Int32) = 3 by decide), if_neg (show ¬ (15 : Int32) = 4 by decide), if_neg (show ¬ (15 : Int32) = 4 by decide), if_neg (show ¬ (15 : Int32) = 5 by decide), if_neg (show ¬ (15 : Int32) = 5 by decide), if_neg (show ¬ (15 : Int32) = 6 by decide), if_neg (show ¬ (15 : Int32) = 6 by decide), if_neg (show ¬ (15 : Int32) = 7 by decide), if_neg (show ¬ (15 : Int32) = 7 by decide), if_neg (show ¬ (15 : Int32) = 8 by decide), if_neg (show ¬ (15 : Int32) = 8 by decide), if_neg (show ¬ (15 : Int32) = 9 by decide), if_neg (show ¬ (15 : Int32) = 9 by decide), if_neg (show ¬ (15 : Int32) = 10 by decide), if_neg (show ¬ (15 : Int32) = 10 by decide), if_neg (show ¬ (15 : Int32) = 11 by decide), if_neg (show ¬ (15 : Int32) = 11 by decide), if_neg (show ¬ (15 : Int32) = 12 by decide), if_neg (show ¬ (15 : Int32) = 12 by decide), if_neg (show ¬ (15 : Int32) = 13 by decide), if_neg (show ¬ (15 : Int32) = 13 by decide), if_neg (show ¬ (15 : Int32) = 14 by decide), if_neg (show ¬ (15 : Int32) = 14 by decide), if_pos (show (15 : Int32) = 15 from rfl), if_pos (show (15 : Int32) = 15 from rfl)]
    exact ⟨_, _, _, _, _, _, _, _, _, _, _, rfl, rfl⟩
  rw [if_neg c0, if_neg c0, if_neg c1, if_neg c1, if_neg c2, if_neg c2, if_neg c3, if_neg c3, if_neg c4, if_neg c4, if_neg c5, if_neg c5, if_neg c6, if_neg c6, if_neg c7, if_neg c7, if_neg c8, if_neg c8, if_neg c9, if_neg c9, if_neg c10, if_neg c10, if_neg c11, if_neg c11, if_neg c12, if_neg c12, if_neg c13, if_neg c13, if_neg c14, if_neg c14, if_neg c15, if_neg c15, if_pos ?_]
  · exact ⟨_, _, _, _, _, _, _, _, _, _, _, rfl, rfl⟩
  · unfold f_X11_in
    by_cases w : x < 4
    · exact if_pos w
    · rw [if_neg w]
      by_cases w2 : 9 < x
      · exact if_pos w2
      · exfalso
        obtain ⟨k, hk, rfl⟩ := nI_of (x := x) (fun q => w (Int32.lt_trans q (by decide)))
        have k4 : 4 ≤ k := by
          rcases Nat.lt_or_ge k 4 with q | q
          · exact absurd (show nI k < 4 from @nI_lt k 4 q (by decide)) w
          · exact q
        have k9 : k ≤ 9 := by
          rcases Nat.lt_or_ge 9 k with q | q
          · exact absurd (show 9 < nI k from @nI_lt 9 k q hk) w2
          · exact q
        rcases (show k = 4 ∨ k = 5 ∨ k = 6 ∨ k = 7 ∨ k = 8 ∨ k = 9 by omega) with rfl | rfl | rfl | rfl | rfl | rfl
        · exact c4 rfl
        · exact c5 rfl
        · exact c6 rfl
        · exact c7 rfl
        · exact c8 rfl
        · exact c9 rfl
end
