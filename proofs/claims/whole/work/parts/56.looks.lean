/-! ===== the looks, both ===== -/
theorem in0 (x : Int32) {up : Nat} (hu : up < 2 ^ 31) : f_X11_in x 0 (nI up) = 0 ∨ (f_X11_in x 0 (nI up) = 1 ∧ ∃ k, k ≤ up ∧ x = nI k) := by
  unfold f_X11_in
  by_cases c : x < 0
  · exact Or.inl (if_pos c)
  · obtain ⟨k, hk, rfl⟩ := nI_of c
    rw [if_neg c]
    by_cases c2 : k ≤ up
    · exact Or.inr ⟨if_neg (nI_nlt c2 (by omega)), k, c2, rfl⟩
    · exact Or.inl (if_pos (nI_lt (by omega) (by omega)))
theorem in1 (x : Int32) {up : Nat} (hu : up < 2 ^ 31) : f_X11_in x 1 (nI up) = 0 ∨ (f_X11_in x 1 (nI up) = 1 ∧ ∃ k, k < up ∧ x = nI (k + 1)) := by
  unfold f_X11_in
  by_cases c : x < 1
  · exact Or.inl (if_pos c)
  · obtain ⟨k, hk, rfl⟩ := nI_of (x := x) (fun q => c (Int32.lt_trans q (by decide)))
    rw [if_neg c]
    by_cases c2 : k ≤ up
    · refine Or.inr ⟨if_neg (nI_nlt c2 (by omega)), k - 1, ?_, ?_⟩
      · rcases Nat.eq_zero_or_pos k with q | q
        · subst q; exact absurd (show nI 0 < 1 by decide) c
        · omega
      · rcases Nat.eq_zero_or_pos k with q | q
        · subst q; exact absurd (show nI 0 < 1 by decide) c
        · rw [show k - 1 + 1 = k by omega]
    · exact Or.inl (if_pos (nI_lt (by omega) (by omega)))
theorem inm (x : Int32) {L : Nat} (hL : L < 2 ^ 31) : f_X11_in x 0 (nI L - 1) = 0 ∨ (f_X11_in x 0 (nI L - 1) = 1 ∧ ∃ k, k < L ∧ x = nI k) := by
  cases L with
  | zero =>
    refine Or.inl ?_
    unfold f_X11_in
    by_cases c : x < 0
    · exact if_pos c
    · rw [if_neg c, if_pos]
      obtain ⟨k, hk, rfl⟩ := nI_of c
      refine Int32.lt_iff_toInt_lt.mpr ?_
      rw [nI_toInt hk, show (nI 0 - 1 : Int32).toInt = -1 by decide]
      omega
  | succ L =>
    rw [show (1 : Int32) = nI 1 from rfl, pk_sub (by omega), Nat.add_sub_cancel]
    rcases in0 x (up := L) (by omega) with q | ⟨q, k, hk, e⟩
    · exact Or.inl q
    · exact Or.inr ⟨q, k, by omega, e⟩
theorem wi_in : f_X10_isWithin = f_X11_in := rfl
section
variable {n : Nat} {m : List Nat} {b g : Nat} {l : List Nat} {s places kinds : Nat → Int32}
theorem rowsX.row {T : Nat} {R : Nat → List Nat} {r : Nat → Int32} (h : rowsX n R T r) : ∀ i, i ≤ T → isRow n (R i) := fun i hi => (h i hi).1
theorem x_bell (h : OKs n m b g l) (hs : SR n m b g l s) (hp : ∀ j, j < m.length → places j = nI (m.getD j 0)) (hk : ∀ j, j < l.length → kinds j = nI (l.getD j 0)) (x y vb vc vl va ve : Int32) (fr ff fo ce r : Nat → Int32) :
    ∃ v q1 q2 q3 q4 q5 q6 q7 p1 p2 p3, f_X10_bell x y (nI n) (nI m.length) (nI b) (nI g) (nI l.length) places kinds vb vc vl va fr ff fo = some (v, q1, q2, q3, q4, q5, q6, q7) ∧ f_X11_bell x y ve s ce r = some (v, p1, p2, p3) := by
  have hT := h.r.T
  have hn := h.1
  unfold f_X10_bell f_X9_lastRow f_X10_isBell f_X11_bell f_X11_isRow f_X11_last f_X11_isPlace
  rw [wi_in, pk_mul, show (2 : Int32).toNatClampNeg = 2 from rfl, show (1 : Int32).toNatClampNeg = 1 from rfl, show (0 : Int32).toNatClampNeg = 0 from rfl, hs.1, hs.2.1, hs.2.2.1, pk_mul, bd_t rfl, bd_t rfl, bd_t rfl]
  rcases in0 x (up := l.length * m.length) (by omega) with q | ⟨q, i, hi, rfl⟩
  · rw [q, if_pos (show (0 : Int32) = 0 from rfl), if_pos (show (0 : Int32) = 0 from rfl)]; exact ⟨_, _, _, _, _, _, _, _, _, _, _, rfl, rfl⟩
  · rw [q, if_neg (show ¬ (1 : Int32) = 0 by decide), if_neg (show ¬ (1 : Int32) = 0 by decide)]
    rcases in1 y (up := n) (by omega) with q | ⟨q, p, hpn, rfl⟩
    · rw [q, if_pos (show (0 : Int32) = 0 from rfl), if_pos (show (0 : Int32) = 0 from rfl)]; exact ⟨_, _, _, _, _, _, _, _, _, _, _, rfl, rfl⟩
    · rw [q, if_neg (show ¬ (1 : Int32) = 0 by decide), if_neg (show ¬ (1 : Int32) = 0 by decide)]
      obtain ⟨r1, f1, o1, e1, e2, e3⟩ := p_ring h.r hp hk vb vc vl va fr ff fo
      obtain ⟨c2, r2, e4, e5, e6⟩ := m_ringsAll h hs ve ce r
      have hrow := (e2 i hi).1
      have hx := xr_lt hrow hn.2
      obtain ⟨c3, e7, e8⟩ := m_unrank (s := s) (ce := c2) hrow (by omega) hn.2 hs.1
      have hlt := row_at_lt hrow hpn
      rw [bd_t e1, bd_t e4]
      dsimp only
      rw [bd_t (p_rowAt e2 hT hi), p_bellAt (by omega) (by omega), dg_xr hrow hn.2 hpn, gd_t (n_inb (by omega) (by decide)), nI_clamp (by omega), (e6 i hi).2, bd_t e7, show (1 : Int32) = nI 1 from rfl, pk_sub (by omega), Nat.add_sub_cancel, gd_t (n_inb7 hpn hn.2), nI_clamp (by omega), e8 p hpn, nI_add]
      exact ⟨_, _, _, _, _, _, _, _, _, _, _, rfl, rfl⟩
theorem x_blows (h : OKs n m b g l) (hs : SR n m b g l s) (hp : ∀ j, j < m.length → places j = nI (m.getD j 0)) (hk : ∀ j, j < l.length → kinds j = nI (l.getD j 0)) (x y vb vc vl va ve : Int32) (fr ff fo ce r t : Nat → Int32) :
    ∃ v q1 q2 q3 q4 q5 q6 q7 p1 p2 p3 p4, f_X10_blows x y (nI n) (nI m.length) (nI b) (nI g) (nI l.length) places kinds vb vc vl va fr ff fo = some (v, q1, q2, q3, q4, q5, q6, q7) ∧ f_X11_blows x y ve s ce r t = some (v, p1, p2, p3, p4) := by
  have hT := h.r.T
  have hn := h.1
  unfold f_X10_blows f_X10_isBell f_X11_blows f_X11_isPlace
  rw [wi_in, show (0 : Int32).toNatClampNeg = 0 from rfl, hs.1, bd_t rfl, bd_t rfl]
  rcases in1 x (up := n) (by omega) with q | ⟨q, a, ha, rfl⟩
  · rw [q, if_pos (show (0 : Int32) = 0 from rfl), if_pos (show (0 : Int32) = 0 from rfl)]; exact ⟨_, _, _, _, _, _, _, _, _, _, _, _, rfl, rfl⟩
  · rw [q, if_neg (show ¬ (1 : Int32) = 0 by decide), if_neg (show ¬ (1 : Int32) = 0 by decide)]
    rcases in1 y (up := n) (by omega) with q | ⟨q, p, hpn, rfl⟩
    · rw [q, if_pos (show (0 : Int32) = 0 from rfl), if_pos (show (0 : Int32) = 0 from rfl)]; exact ⟨_, _, _, _, _, _, _, _, _, _, _, _, rfl, rfl⟩
    · rw [q, if_neg (show ¬ (1 : Int32) = 0 by decide), if_neg (show ¬ (1 : Int32) = 0 by decide)]
      obtain ⟨r1, f1, o1, e1, e2, e3⟩ := p_ring h.r hp hk vb vc vl va fr ff fo
      obtain ⟨c2, r2, t2, e4, e5⟩ := m_follows h hs ha ve ce r t
      rw [bd_t e1, bd_t e4]
      dsimp only
      rw [bd_t (p_blowsAt e2 hn.2 hT ha hpn), bd_t (m_rowsAt e5 e2.row ha hn.2 hT hpn)]
      exact ⟨_, _, _, _, _, _, _, _, _, _, _, _, rfl, rfl⟩
theorem x_path (h : OKs n m b g l) (hs : SR n m b g l s) (hp : ∀ j, j < m.length → places j = nI (m.getD j 0)) (hk : ∀ j, j < l.length → kinds j = nI (l.getD j 0)) (x y vb vc vl va ve : Int32) (fr ff fo ce r t : Nat → Int32) :
    ∃ v q1 q2 q3 q4 q5 q6 q7 p1 p2 p3 p4, f_X10_path x y (nI n) (nI m.length) (nI b) (nI g) (nI l.length) places kinds vb vc vl va fr ff fo = some (v, q1, q2, q3, q4, q5, q6, q7) ∧ f_X11_path x y ve s ce r t = some (v, p1, p2, p3, p4) := by
  have hT := h.r.T
  have hn := h.1
  unfold f_X10_path f_X10_isBell f_X11_path f_X11_isPlace
  rw [wi_in, show (0 : Int32).toNatClampNeg = 0 from rfl, hs.1, bd_t rfl]
  rcases in1 x (up := n) (by omega) with q | ⟨q, a, ha, rfl⟩
  · rw [q, if_pos (show (0 : Int32) = 0 from rfl), if_pos (show (0 : Int32) = 0 from rfl)]; exact ⟨_, _, _, _, _, _, _, _, _, _, _, _, rfl, rfl⟩
  · rw [q, if_neg (show ¬ (1 : Int32) = 0 by decide), if_neg (show ¬ (1 : Int32) = 0 by decide)]
    rcases (show f_X11_in y 0 4 = 0 ∨ (f_X11_in y 0 4 = 1 ∧ ∃ k, k ≤ 4 ∧ y = nI k) from in0 y (up := 4) (by omega)) with q | ⟨q, w, hw, rfl⟩
    · rw [q, if_pos (show (0 : Int32) = 0 from rfl), if_pos (show (0 : Int32) = 0 from rfl)]; exact ⟨_, _, _, _, _, _, _, _, _, _, _, _, rfl, rfl⟩
    · rw [q, if_neg (show ¬ (1 : Int32) = 0 by decide), if_neg (show ¬ (1 : Int32) = 0 by decide)]
      obtain ⟨r1, f1, o1, e1, e2, e3⟩ := p_ring h.r hp hk vb vc vl va fr ff fo
      obtain ⟨c2, r2, t2, e4, e5⟩ := m_follows h hs ha ve ce r t
      rw [bd_t e1, bd_t e4]
      dsimp only
      rcases (show w = 0 ∨ w = 1 ∨ w = 2 ∨ w = 3 ∨ w = 4 by omega) with rfl | rfl | rfl | rfl | rfl
      · rw [if_pos (show nI 0 = 0 by decide), if_pos (show nI 0 = 0 by decide), if_neg (show ¬ nI 0 = 1 by decide), nm_eq, bd_t (p_dodges e2 hn.2 hT ha), bd_t (m_dodges0 e5 e2.row ha hn.2 hT)]
        exact ⟨_, _, _, _, _, _, _, _, _, _, _, _, rfl, rfl⟩
      · rw [if_neg (show ¬ nI 1 = 0 by decide), if_neg (show ¬ nI 1 = 0 by decide), if_pos (show nI 1 = 1 by decide), if_pos (show nI 1 = 1 by decide), if_pos (show nI 1 = 1 by decide), nm_eq, p_firstDodge e2 hn.2 hT ha, m_dodges1 e5 e2.row ha hn.2 hT]
        rcases fnd_cases (some (-4 : Int32)) (fun i => some (nI i)) (dod (rws n m b g l) a) (l.length * m.length - 2) 0 with w | ⟨i, -, -, w⟩
        · rw [w]; exact ⟨_, _, _, _, _, _, _, _, _, _, _, _, rfl, rfl⟩
        · rw [w]; exact ⟨_, _, _, _, _, _, _, _, _, _, _, _, rfl, rfl⟩
      · rw [if_neg (show ¬ nI 2 = 0 by decide), if_neg (show ¬ nI 2 = 0 by decide), if_neg (show ¬ nI 2 = 1 by decide), if_neg (show ¬ nI 2 = 1 by decide), if_pos (show nI 2 = 2 by decide), if_pos (show nI 2 = 2 by decide), bd_t (show f_X5_blowsAt _ 1 _ _ = _ from p_blowsAt e2 hn.2 hT ha (p := 0) (by omega)), bd_t (show f_X11_rowsAt 1 _ _ = _ from m_rowsAt e5 e2.row ha hn.2 hT (p := 0) (by omega))]
        exact ⟨_, _, _, _, _, _, _, _, _, _, _, _, rfl, rfl⟩
      · rw [if_neg (show ¬ nI 3 = 0 by decide), if_neg (show ¬ nI 3 = 0 by decide), if_neg (show ¬ nI 3 = 1 by decide), if_neg (show ¬ nI 3 = 1 by decide), if_neg (show ¬ nI 3 = 2 by decide), if_neg (show ¬ nI 3 = 2 by decide), if_pos (show nI 3 = 3 by decide), if_pos (show nI 3 = 3 by decide), bd_t (p_stays e2 hn.2 hT ha), bd_t (m_stays e5 e2.row ha hn.2 hT)]
        exact ⟨_, _, _, _, _, _, _, _, _, _, _, _, rfl, rfl⟩
      · rw [if_neg (show ¬ nI 4 = 0 by decide), if_neg (show ¬ nI 4 = 0 by decide), if_neg (show ¬ nI 4 = 1 by decide), if_neg (show ¬ nI 4 = 1 by decide), if_neg (show ¬ nI 4 = 2 by decide), if_neg (show ¬ nI 4 = 2 by decide), if_neg (show ¬ nI 4 = 3 by decide), if_neg (show ¬ nI 4 = 3 by decide), bd_t (p_placeIn e2 hn.2 hT ha (Nat.le_refl _)), gd_t (n_inb (show l.length * m.length < 341 by omega) (by decide)), nI_clamp (by omega), e5 _ (Nat.le_refl _)]
        exact ⟨_, _, _, _, _, _, _, _, _, _, _, _, rfl, rfl⟩
theorem x_change (h : OKs n m b g l) (hs : SR n m b g l s) (hp : ∀ j, j < m.length → places j = nI (m.getD j 0)) (hk : ∀ j, j < l.length → kinds j = nI (l.getD j 0)) (x y : Int32) :
    ∃ v, f_X10_change x y (nI m.length) (nI b) (nI g) (nI l.length) places kinds = some v ∧ f_X11_change x y s = some v := by
  obtain ⟨hn, ⟨hm1, hm⟩, hmo, hbo, hgo, hl, hl2⟩ := id h
  unfold f_X10_change f_X11_change
  rw [wi_in, show (2 : Int32).toNatClampNeg = 2 from rfl, show (1 : Int32).toNatClampNeg = 1 from rfl, hs.2.1, hs.2.2.1]
  by_cases c0 : f_X11_in x (-1) (nI l.length - 1) = 0
  · rw [if_pos c0, if_pos c0]; exact ⟨_, rfl, rfl⟩
  · rw [if_neg c0, if_neg c0]
    by_cases c1 : 0 ≤ y
    · rw [if_pos c1, if_pos c1]
      obtain ⟨j, hj, rfl⟩ := nI_of (x := y) (Int32.not_lt.mpr c1)
      by_cases c2 : j < m.length
      · rw [if_pos (nI_lt c2 (by omega)), if_neg (nI_ge c2 (by omega))]
        by_cases c3 : x < 0
        · have e1 : f_X9_kindOfLead x kinds = some (nI 0) := by unfold f_X9_kindOfLead; rw [if_pos c3]; rfl
          have e2 := p_placesMade (b := b) (g := g) hm1 hm (show 0 ≤ 2 by omega) c2 hp
          have e3 := m_changeOf hs hm1 hm (show 0 ≤ 2 by omega) c2
          rw [if_neg (Int32.not_le.mpr c3), bd_t e1, bd_t e2, bd_t (show f_X11_changeOf 0 _ _ = _ from e3)]
          exact ⟨_, rfl, rfl⟩
        · obtain ⟨i, hi, rfl⟩ := nI_of c3
          have hil : i < l.length := by
            rcases Nat.lt_or_ge i l.length with q | q
            · exact q
            · refine absurd ?_ c0
              unfold f_X11_in
              by_cases w : nI i < -1
              · exact if_pos w
              · rw [if_neg w, if_pos]
                refine Int32.lt_iff_toInt_lt.mpr ?_
                rw [nI_toInt hi, show (1 : Int32) = nI 1 from rfl, pk_sub_toInt (by omega) (by decide)]
                omega
          have hk2 := hl2 _ (getD_mem hil)
          rw [if_pos (nI_pos' hi), bd_t (p_kindOfLead (by omega) hil hk), bd_t (p_placesMade (b := b) (g := g) hm1 hm hk2 c2 hp), show (25 : Int32) = nI 25 from rfl, nI_add, gd_t (n_inb (by omega) (by decide)), nI_clamp (by omega), hs.2.2.2.2.2.2 i hil, bd_t (m_changeOf hs hm1 hm hk2 c2)]
          exact ⟨_, rfl, rfl⟩
      · rw [if_neg (nI_nlt (by omega) (by omega)), if_pos (nI_le (by omega) (by omega))]; exact ⟨_, rfl, rfl⟩
    · rw [if_neg c1, if_neg c1]; exact ⟨_, rfl, rfl⟩
end
