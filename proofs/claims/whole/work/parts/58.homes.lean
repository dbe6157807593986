/-! ===== row, home, homeCall, both ===== -/
section
variable {n : Nat} {m : List Nat} {b g : Nat} {l : List Nat} {s places kinds : Nat → Int32}
theorem m_spreads (h : OKs n m b g l) (hs : SR n m b g l s) (ce ot ld dist line : Nat → Int32) :
    ∃ c' o' ld' dist' line', f_X11_spreads s ce ot ld dist line = some (c', o', ld', dist', line') ∧ leadM n (LD n m b g) ld' ∧ ∀ r, r < 5040 → dist' r = (B (fun k => inv n (LD n m b g k)) (List.range n)).2 r := by
  obtain ⟨c', o', ld', dist', line', e1, e2, e3⟩ := m_spreadsFrom h hs (isRow.range n) true ce ot ld dist line
  rw [rk_range n (by have := h.1; omega)] at e1
  have hB : B (fun k => if true then inv n (LD n m b g k) else LD n m b g k) (List.range n) = B (fun k => inv n (LD n m b g k)) (List.range n) := B_congr (fun k _ => rfl) _
  rw [hB] at e3
  refine ⟨c', o', ld', dist', line', ?_, e2, e3⟩
  unfold f_X11_spreads
  rw [bd_t (show f_X11_spreadsFrom 0 1 _ _ _ _ _ _ = _ from e1)]
theorem sw_int {z : Bool} : (if z then (1 : Int32) else 0) = nI (b1 z) := by cases z <;> rfl
theorem x_row (h : OKs n m b g l) (hs : SR n m b g l s) (hp : ∀ j, j < m.length → places j = nI (m.getD j 0)) (hk : ∀ j, j < l.length → kinds j = nI (l.getD j 0)) (x y vb vc vl va ve : Int32) (fr ff fo ce r ot ld dist line : Nat → Int32) (hb fb vs : Int32) (few rch lv lb : Nat → Int32) (hc : HC hb fb few lv) :
    ∃ v q1 q2 q3 q4 q5 q6 q7 hb' fb' vs' few' rch' lv' lb' p1 p2 p3 p4 p5 p6 p7, f_X10_row x y (nI n) (nI m.length) (nI b) (nI g) (nI l.length) places kinds vb vc vl va fr ff fo hb fb vs few rch lv lb = some (v, q1, q2, q3, q4, q5, q6, q7, hb', fb', vs', few', rch', lv', lb') ∧ f_X11_row x y ve s ce ot r ld dist line = some (v, p1, p2, p3, p4, p5, p6, p7) ∧ HC hb' fb' few' lv' := by
  have hT := h.r.T
  have hn := h.1
  unfold f_X10_row f_X9_lastRow f_X11_row f_X11_isRow f_X11_last
  rw [wi_in, pk_mul, show (2 : Int32).toNatClampNeg = 2 from rfl, show (1 : Int32).toNatClampNeg = 1 from rfl, hs.2.1, hs.2.2.1, pk_mul, bd_t rfl, bd_t rfl]
  rcases in0 x (up := l.length * m.length) (by omega) with q | ⟨q, i, hi, rfl⟩
  · rw [q, if_pos (show (0 : Int32) = 0 from rfl), if_pos (show (0 : Int32) = 0 from rfl)]; exact ⟨_, _, _, _, _, _, _, _, _, _, _, _, _, _, _, _, _, _, _, _, _, _, rfl, rfl, hc⟩
  · rw [q, if_neg (show ¬ (1 : Int32) = 0 by decide), if_neg (show ¬ (1 : Int32) = 0 by decide)]
    rcases (show f_X11_in y 0 5 = 0 ∨ (f_X11_in y 0 5 = 1 ∧ ∃ k, k ≤ 5 ∧ y = nI k) from in0 y (up := 5) (by omega)) with q | ⟨q, w, hw, rfl⟩
    · rw [q, if_pos (show (0 : Int32) = 0 from rfl), if_pos (show (0 : Int32) = 0 from rfl)]; exact ⟨_, _, _, _, _, _, _, _, _, _, _, _, _, _, _, _, _, _, _, _, _, _, rfl, rfl, hc⟩
    · rw [q, if_neg (show ¬ (1 : Int32) = 0 by decide), if_neg (show ¬ (1 : Int32) = 0 by decide)]
      obtain ⟨r1, f1, o1, e1, e2, e3⟩ := p_ring h.r hp hk vb vc vl va fr ff fo
      obtain ⟨c2, r2, e4, e5, e6⟩ := m_ringsAll h hs ve ce r
      have hrow := (e2 i hi).1
      have hr := rk_5040 hrow hn.2
      obtain ⟨c3, e7, e8⟩ := m_unrank (s := s) (ce := c2) hrow (by omega) hn.2 hs.1
      rw [bd_t e1, bd_t e4]
      dsimp only
      rw [bd_t (p_rowAt e2 hT hi), gd_t (n_inb (show i < 341 by omega) (by decide)), nI_clamp (by omega), (e6 i hi).2, nm_eq, bd_t e7]
      rcases (show w = 0 ∨ w = 1 ∨ w = 2 ∨ w = 3 ∨ w = 4 ∨ w = 5 by omega) with rfl | rfl | rfl | rfl | rfl | rfl
      · rw [if_pos (show nI 0 = 0 by decide), if_pos (show nI 0 = 0 by decide), bd_t (p_signByPairs hrow hn.2), bd_t (m_signByPairs hrow hn.2 hs.1 e8)]
        exact ⟨_, _, _, _, _, _, _, _, _, _, _, _, _, _, _, _, _, _, _, _, _, _, rfl, rfl, hc⟩
      · obtain ⟨v, s1, s2, s3⟩ := sgn_row hrow hn.1 hn.2
        rw [if_neg (show ¬ nI 1 = 0 by decide), if_neg (show ¬ nI 1 = 0 by decide), if_pos (show nI 1 = 1 by decide), if_pos (show nI 1 = 1 by decide), bd_t (p_signByCycles hrow hn.2), bd_t (m_signByRings hrow hn.2 hs.1 e8 s1 s2), s3]
        exact ⟨_, _, _, _, _, _, _, _, _, _, _, _, _, _, _, _, _, _, _, _, _, _, rfl, rfl, hc⟩
      · rw [if_neg (show ¬ nI 2 = 0 by decide), if_neg (show ¬ nI 2 = 0 by decide), if_neg (show ¬ nI 2 = 1 by decide), if_neg (show ¬ nI 2 = 1 by decide), if_pos (show nI 2 = 2 by decide), if_pos (show nI 2 = 2 by decide), p_soundsWell hrow hn.1 hn.2, bd_t (m_soundsWell hrow hn.1 hn.2 hs.1 e8), sw_int]
        cases sw n (rws n m b g l i)
        · exact ⟨_, _, _, _, _, _, _, _, _, _, _, _, _, _, _, _, _, _, _, _, _, _, rfl, rfl, hc⟩
        · exact ⟨_, _, _, _, _, _, _, _, _, _, _, _, _, _, _, _, _, _, _, _, _, _, rfl, rfl, hc⟩
      · rw [if_neg (show ¬ nI 3 = 0 by decide), if_neg (show ¬ nI 3 = 0 by decide), if_neg (show ¬ nI 3 = 1 by decide), if_neg (show ¬ nI 3 = 1 by decide), if_neg (show ¬ nI 3 = 2 by decide), if_neg (show ¬ nI 3 = 2 by decide), if_pos (show nI 3 = 3 by decide), if_pos (show nI 3 = 3 by decide), bd_t (p_bellsInPlace hrow hn.2), bd_t (m_atHome hrow hn.2 hs.1 e8)]
        exact ⟨_, _, _, _, _, _, _, _, _, _, _, _, _, _, _, _, _, _, _, _, _, _, rfl, rfl, hc⟩
      · rw [if_neg (show ¬ nI 4 = 0 by decide), if_neg (show ¬ nI 4 = 0 by decide), if_neg (show ¬ nI 4 = 1 by decide), if_neg (show ¬ nI 4 = 1 by decide), if_neg (show ¬ nI 4 = 2 by decide), if_neg (show ¬ nI 4 = 2 by decide), if_neg (show ¬ nI 4 = 3 by decide), if_neg (show ¬ nI 4 = 3 by decide), if_pos (show nI 4 = 4 by decide), if_pos (show nI 4 = 4 by decide), bd_t (p_firstLike e2 e3 hn.2 hT hi), bd_t (show f_X11_firstSame (nI i) 0 r2 = _ from m_firstSame e6 (by omega) hn.2 hT (Nat.zero_le i) hi)]
        exact ⟨_, _, _, _, _, _, _, _, _, _, _, _, _, _, _, _, _, _, _, _, _, _, rfl, rfl, hc⟩
      · obtain ⟨vs', few', rch', lv', lb', k1, k2, k3⟩ := p_learn (vs := vs) (rch := rch) (lb := lb) h.r.s hp hc
        obtain ⟨c4, o4, l4, d4, n4, j1, j2, j3⟩ := m_spreads h hs c3 ot ld dist line
        rw [if_neg (show ¬ nI 5 = 0 by decide), if_neg (show ¬ nI 5 = 0 by decide), if_neg (show ¬ nI 5 = 1 by decide), if_neg (show ¬ nI 5 = 1 by decide), if_neg (show ¬ nI 5 = 2 by decide), if_neg (show ¬ nI 5 = 2 by decide), if_neg (show ¬ nI 5 = 3 by decide), if_neg (show ¬ nI 5 = 3 by decide), if_neg (show ¬ nI 5 = 4 by decide), if_neg (show ¬ nI 5 = 4 by decide), bd_t k1, bd_t j1]
        dsimp only
        rw [bd_t (p_leadsFrom hrow hn.2), gd_t (n_inb hr (by decide)), nI_clamp (by omega), k3 _ hr, j3 _ hr]
        exact ⟨_, _, _, _, _, _, _, _, _, _, _, _, _, _, _, _, _, _, _, _, _, _, rfl, rfl, HC.mk hn.2 (fun k _ => LD_row n m b g k) k2 k3⟩
theorem x_home (h : OKs n m b g l) (hs : SR n m b g l s) (hp : ∀ j, j < m.length → places j = nI (m.getD j 0)) (hk : ∀ j, j < l.length → kinds j = nI (l.getD j 0)) (x vb vc vl va ve : Int32) (fr ff fo ce r ot ld dist line : Nat → Int32) (hb fb vs ub us : Int32) (few rch ufew urch lv lb : Nat → Int32) (hc : HC hb fb few lv) :
    ∃ v q1 q2 q3 q4 q5 q6 q7 hb' fb' vs' few' rch' u1 u2 u3 u4 lv' lb' p1 p2 p3 p4 p5 p6 p7, f_X10_home x (nI n) (nI m.length) (nI b) (nI g) (nI l.length) places kinds vb vc vl va fr ff fo hb fb vs few rch ub us ufew urch lv lb = some (v, q1, q2, q3, q4, q5, q6, q7, hb', fb', vs', few', rch', u1, u2, u3, u4, lv', lb') ∧ f_X11_home x ve s ce ot r ld dist line = some (v, p1, p2, p3, p4, p5, p6, p7) ∧ HC hb' fb' few' lv' := by
  have hT := h.r.T
  have hn := h.1
  unfold f_X10_home f_X11_home
  rw [wi_in]
  rcases (show f_X11_in x 0 1 = 0 ∨ (f_X11_in x 0 1 = 1 ∧ ∃ k, k ≤ 1 ∧ x = nI k) from in0 x (up := 1) (by omega)) with q | ⟨q, w, hw, rfl⟩
  · rw [q, if_pos (show (0 : Int32) = 0 from rfl), if_pos (show (0 : Int32) = 0 from rfl)]; exact ⟨_, _, _, _, _, _, _, _, _, _, _, _, _, _, _, _, _, _, _, _, _, _, _, _, _, _, rfl, rfl, hc⟩
  · rw [q, if_neg (show ¬ (1 : Int32) = 0 by decide), if_neg (show ¬ (1 : Int32) = 0 by decide)]
    obtain ⟨r1, f1, o1, e1, e2, e3⟩ := p_ring h.r hp hk vb vc vl va fr ff fo
    obtain ⟨c2, r2, e4, e5, e6⟩ := m_ringsAll h hs ve ce r
    have hrow := (e2 _ (Nat.le_refl _)).1
    have hr := rk_5040 hrow hn.2
    obtain ⟨vs', few', rch', lv', lb', k1, k2, k3⟩ := p_learn (vs := vs) (rch := rch) (lb := lb) h.r.s hp hc
    have e9 : f_X10_lastOrder (nI n) (nI m.length) (nI b) (nI g) (nI l.length) places kinds vb vc vl va fr ff fo = some (nI (xr (rws n m b g l (l.length * m.length))), nI n, nI m.length, nI l.length, nI (l.length * m.length), r1, f1, o1) := by
      unfold f_X10_lastOrder
      rw [bd_t e1]
      dsimp only
      rw [bd_t (p_rowAt e2 hT (Nat.le_refl _))]
    have hC := HC.mk hn.2 (fun k _ => LD_row n m b g k) k2 k3
    rw [bd_t e9, bd_t k1, bd_t e4]
    dsimp only
    rw [gd_t (n_inb (show l.length * m.length < 341 by omega) (by decide)), nI_clamp (by omega), (e6 _ (Nat.le_refl _)).2, nm_eq, nm_eq, nm_eq]
    rcases (show w = 0 ∨ w = 1 by omega) with rfl | rfl
    · obtain ⟨c4, o4, l4, d4, n4, j1, j2, j3⟩ := m_spreadsFrom h hs (isRow.range n) true c2 ot ld dist line
      rw [rk_range n (by omega)] at j1
      have hB : B (fun k => if true then inv n (LD n m b g k) else LD n m b g k) (List.range n) = B (fun k => inv n (LD n m b g k)) (List.range n) := B_congr (fun k _ => rfl) _
      rw [hB] at j3
      rw [if_pos (show nI 0 = 0 by decide), if_pos (show nI 0 = 0 by decide), if_pos (show nI 0 = 0 by decide), bd_t (show f_X11_spreadsFrom 0 1 _ _ _ _ _ _ = _ from j1), bd_t (p_leadsFrom hrow hn.2), nm_eq, if_pos (show nI 0 = 0 by decide)]
      dsimp only
      rw [gd_t (n_inb hr (by decide)), nI_clamp (by omega), j3 _ hr, k3 _ hr]
      exact ⟨_, _, _, _, _, _, _, _, _, _, _, _, _, _, _, _, _, _, _, _, _, _, _, _, _, _, rfl, rfl, hC⟩
    · obtain ⟨c4, o4, l4, d4, n4, j1, j2, j3⟩ := m_spreadsFrom h hs hrow false c2 ot ld dist line
      have hB : B (fun k => if false then inv n (LD n m b g k) else LD n m b g k) (rws n m b g l (l.length * m.length)) = B (LD n m b g) (rws n m b g l (l.length * m.length)) := B_congr (fun k _ => rfl) _
      rw [hB] at j3
      obtain ⟨z, f4, h4, i1⟩ := p_leadsBySearch (vb := ub) (vs := us) (few := ufew) (rch := urch) hrow (by omega) hn.2 (fun k _ => LD_row n m b g k) k2
      rw [if_neg (show ¬ nI 1 = 0 by decide), if_neg (show ¬ nI 1 = 0 by decide), if_neg (show ¬ nI 1 = 0 by decide), bd_t (show f_X11_spreadsFrom _ 0 _ _ _ _ _ _ = _ from j1), bd_t i1, nm_eq, if_neg (show ¬ nI 1 = 0 by decide), gd_t (show inb (0 : Int32) 5040 = true by decide), show (0 : Int32).toNatClampNeg = 0 from rfl]
      dsimp only
      rw [j3 0 (by decide)]
      exact ⟨_, _, _, _, _, _, _, _, _, _, _, _, _, _, _, _, _, _, _, _, _, _, _, _, _, _, rfl, rfl, hC⟩
theorem x_homeCall (h : OKs n m b g l) (hs : SR n m b g l s) (hp : ∀ j, j < m.length → places j = nI (m.getD j 0)) (hk : ∀ j, j < l.length → kinds j = nI (l.getD j 0)) (x vb vc vl va ve : Int32) (fr ff fo ce r ot ld dist line : Nat → Int32) (hb fb vs : Int32) (few rch lv lb : Nat → Int32) (hc : HC hb fb few lv) :
    ∃ v q1 q2 q3 q4 q5 q6 q7 hb' fb' vs' few' rch' lv' lb' p1 p2 p3 p4 p5 p6 p7, f_X10_homeCall x (nI n) (nI m.length) (nI b) (nI g) (nI l.length) places kinds vb vc vl va fr ff fo hb fb vs few rch lv lb = some (v, q1, q2, q3, q4, q5, q6, q7, hb', fb', vs', few', rch', lv', lb') ∧ f_X11_homeCall x ve s ce ot r ld dist line = some (v, p1, p2, p3, p4, p5, p6, p7) ∧ HC hb' fb' few' lv' := by
  have hT := h.r.T
  have hn := h.1
  unfold f_X10_homeCall f_X11_homeCall
  by_cases c0 : 0 ≤ x
  · obtain ⟨idx, hidx, rfl⟩ := nI_of (x := x) (Int32.not_lt.mpr c0)
    rw [if_pos c0, if_pos c0]
    obtain ⟨r1, f1, o1, e1, e2, e3⟩ := p_ring h.r hp hk vb vc vl va fr ff fo
    obtain ⟨c2, r2, e4, e5, e6⟩ := m_ringsAll h hs ve ce r
    have hrow := (e2 _ (Nat.le_refl _)).1
    have hr := rk_5040 hrow hn.2
    obtain ⟨vs', few', rch', lv', lb', k1, k2, k3⟩ := p_learn (vs := vs) (rch := rch) (lb := lb) h.r.s hp hc
    obtain ⟨c4, o4, l4, d4, n4, j1, j2, j3⟩ := m_spreads h hs c2 ot ld dist line
    have e9 : f_X10_lastOrder (nI n) (nI m.length) (nI b) (nI g) (nI l.length) places kinds vb vc vl va fr ff fo = some (nI (xr (rws n m b g l (l.length * m.length))), nI n, nI m.length, nI l.length, nI (l.length * m.length), r1, f1, o1) := by
      unfold f_X10_lastOrder
      rw [bd_t e1]
      dsimp only
      rw [bd_t (p_rowAt e2 hT (Nat.le_refl _))]
    have hC := HC.mk hn.2 (fun k _ => LD_row n m b g k) k2 k3
    obtain ⟨v, c5, o5, i1, i2⟩ := home_calls (rows := r2) (line := n4) (ve := nI (l.length * m.length)) hrow (by omega) hn.2 hs.1 j2 (fun k _ => LD_row n m b g k) k2 k3 j3 hidx c4 o4
    rw [bd_t e9, bd_t k1, bd_t e4]
    dsimp only
    rw [bd_t j1, bd_t i1]
    dsimp only
    rw [gd_t (n_inb (show l.length * m.length < 341 by omega) (by decide)), nI_clamp (by omega), (e6 _ (Nat.le_refl _)).2, nm_eq, gd_t (n_inb hr (by decide)), nI_clamp (by omega), i2]
    exact ⟨_, _, _, _, _, _, _, _, _, _, _, _, _, _, _, _, _, _, _, _, _, _, rfl, rfl, hC⟩
  · rw [if_neg c0, if_neg c0]
    exact ⟨_, _, _, _, _, _, _, _, _, _, _, _, _, _, _, _, _, _, _, _, _, _, rfl, rfl, hc⟩
end
