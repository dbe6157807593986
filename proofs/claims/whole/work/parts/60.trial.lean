/-! ===== ifCalled, best, both ===== -/
theorem cpy_at {f g : Nat → Int32} {N j : Nat} (h : j < N) : va_cpy f g 0 0 N j = f j := by
  unfold va_cpy
  rw [if_pos (by omega), show 0 + (j - 0) = j by omega]
theorem up_n {f : Nat → Int32} {k j : Nat} {v : Int32} (h : j ≠ k) : upd f k v j = f j := by unfold upd; rw [if_neg h]
theorem up_e {f : Nat → Int32} {k : Nat} {v : Int32} : upd f k v k = v := by unfold upd; rw [if_pos rfl]
section
variable {n : Nat} {m : List Nat} {b g : Nat} {l : List Nat} {s places kinds : Nat → Int32}
theorem lset_at {l : List Nat} {i y j : Nat} (hi : i < l.length) : (l.set i y).getD j 0 = if j = i then y else l.getD j 0 := by
  rw [List.getD_eq_getElem?_getD, List.getElem?_set, List.getD_eq_getElem?_getD]
  by_cases c : i = j
  · rw [if_pos c, if_pos c.symm, if_pos (by omega)]; rfl
  · rw [if_neg c, if_neg (fun q => c q.symm)]
theorem OKs.set (h : OKs n m b g l) {i y : Nat} (hy : y ≤ 2) : OKs n m b g (l.set i y) :=
  ⟨h.1, h.2.1, h.2.2.1, h.2.2.2.1, h.2.2.2.2.1, by rw [List.length_set]; exact h.2.2.2.2.2.1, fun k hk => by
    rcases List.mem_or_eq_of_mem_set hk with q | q
    · exact h.2.2.2.2.2.2 k q
    · rw [q]; exact hy⟩
theorem x_ifCalled (h : OKs n m b g l) (hs : SR n m b g l s) (hp : ∀ j, j < m.length → places j = nI (m.getD j 0)) (hk : ∀ j, j < l.length → kinds j = nI (l.getD j 0)) (x y z t0 t1 t2 t3 t4 vb vc vl va ve : Int32) (t5 t6 fr ff fo ce r : Nat → Int32) :
    ∃ v q1 q2 q3 q4 q5 q6 q7 q8 q9 q10 q11 q12 q13 q14 p1 s' p2 p3, f_X10_ifCalled x y z (nI n) (nI m.length) (nI b) (nI g) (nI l.length) places kinds t0 t1 t2 t3 t4 t5 t6 vb vc vl va fr ff fo = some (v, q1, q2, q3, q4, q5, q6, q7, q8, q9, q10, q11, q12, q13, q14) ∧ f_X11_ifCalled x y z ve s ce r = some (v, p1, s', p2, p3) ∧ SR n m b g l s' := by
  have hn := h.1
  have hm := h.2.1
  have hl16 := h.2.2.2.2.2.1
  unfold f_X10_ifCalled f_X11_ifCalled f_X9_become
  dsimp only
  rw [wi_in, show (2 : Int32).toNatClampNeg = 2 from rfl, show (0 : Int32).toNatClampNeg = 0 from rfl, show (20 : Int32).toNatClampNeg = 20 from rfl, show (17 : Int32).toNatClampNeg = 17 from rfl, hs.2.2.1]
  rcases inm x (L := l.length) (by omega) with q | ⟨q, i, hi, rfl⟩
  · rw [q, if_pos (show (0 : Int32) = 0 from rfl), if_pos (show (0 : Int32) = 0 from rfl)]; exact ⟨_, _, _, _, _, _, _, _, _, _, _, _, _, _, _, _, _, _, _, rfl, rfl, hs⟩
  · rw [q, if_neg (show ¬ (1 : Int32) = 0 by decide), if_neg (show ¬ (1 : Int32) = 0 by decide)]
    rcases (show f_X11_in y 0 2 = 0 ∨ (f_X11_in y 0 2 = 1 ∧ ∃ k, k ≤ 2 ∧ y = nI k) from in0 y (up := 2) (by omega)) with q | ⟨q, y, hy, rfl⟩
    · rw [q, if_pos (show (0 : Int32) = 0 from rfl), if_pos (show (0 : Int32) = 0 from rfl)]; exact ⟨_, _, _, _, _, _, _, _, _, _, _, _, _, _, _, _, _, _, _, rfl, rfl, hs⟩
    · rw [q, if_neg (show ¬ (1 : Int32) = 0 by decide), if_neg (show ¬ (1 : Int32) = 0 by decide)]
      rcases (show f_X11_in z 0 2 = 0 ∨ (f_X11_in z 0 2 = 1 ∧ ∃ k, k ≤ 2 ∧ z = nI k) from in0 z (up := 2) (by omega)) with q | ⟨q, w, hw, rfl⟩
      · rw [q, if_pos (show (0 : Int32) = 0 from rfl), if_pos (show (0 : Int32) = 0 from rfl)]; exact ⟨_, _, _, _, _, _, _, _, _, _, _, _, _, _, _, _, _, _, _, rfl, rfl, hs⟩
      · rw [q, if_neg (show ¬ (1 : Int32) = 0 by decide), if_neg (show ¬ (1 : Int32) = 0 by decide)]
        have h2 := h.set (i := i) hy
        have hT := h2.r.T
        have hlen : (l.set i y).length = l.length := List.length_set
        have hp2 : ∀ j, j < m.length → va_cpy places t5 0 0 20 j = nI (m.getD j 0) := fun j hj => by rw [cpy_at (by omega)]; exact hp j hj
        have hk2 : ∀ j, j < (l.set i y).length → upd (va_cpy kinds t6 0 0 17) i (nI y) j = nI ((l.set i y).getD j 0) := fun j hj => by
          rw [hlen] at hj
          rw [lset_at hi]
          unfold upd
          by_cases c : j = i
          · rw [if_pos c, if_pos c]
          · rw [if_neg c, if_neg c, cpy_at (by omega)]; exact hk j hj
        have hs2 : SR n m b g (l.set i y) (upd s (25 + i) (nI y)) := by
          obtain ⟨k0, k1, k2, k3, k4, k5, k6⟩ := hs
          refine ⟨by rw [up_n (by omega)]; exact k0, by rw [up_n (by omega)]; exact k1, by rw [up_n (by omega), hlen]; exact k2, by rw [up_n (by omega)]; exact k3, by rw [up_n (by omega)]; exact k4, fun j hj => by rw [up_n (by omega)]; exact k5 j hj, fun j hj => ?_⟩
          rw [hlen] at hj
          rw [lset_at hi]
          by_cases c : j = i
          · rw [if_pos c, c, up_e]
          · rw [up_n (by omega), if_neg c]; exact k6 j hj
        have hs3 : SR n m b g l (upd (upd s (25 + i) (nI y)) (25 + i) (s (25 + i))) := by
          refine SRa.congr (a := (n, m, b, g, l)) h hs (fun k hk => ?_)
          unfold upd
          by_cases c : k = 25 + i
          · rw [if_pos c, c]
          · rw [if_neg c, if_neg c]
        have e0 : f_X9_callLead (nI i) (nI y) (va_cpy kinds t6 0 0 17) = some (upd (va_cpy kinds t6 0 0 17) i (nI y)) := by
          unfold f_X9_callLead
          rw [if_neg (nI_pos (by omega)), if_neg (show ¬ (17 : Int32) ≤ nI i from @nI_ge i 17 (by omega) (by decide)), gd_t (n_inb (by omega) (by decide)), nI_clamp (by omega)]
        obtain ⟨r1, f1, o1, e1, e2, e3⟩ := p_ring h2.r hp2 hk2 vb vc vl va fr ff fo
        have e3' : firstsX (rws n m b g (l.set i y)) ((l.set i y).length * m.length) f1 := e3
        obtain ⟨c2, r2, e4, e5, e6⟩ := m_ringsAll h2 hs2 ve ce r
        have h0 : rws n m b g (l.set i y) 0 = List.range n := rws_0
        rw [bd_t e0, ← hlen, bd_t e1, show (25 : Int32) = nI 25 from rfl, nI_add, gd_t (n_inb (show 25 + i < 41 by omega) (by decide)), nI_clamp (by omega), nm_eq, bd_t e4]
        dsimp only
        rcases (show w = 0 ∨ w = 1 ∨ w = 2 by omega) with rfl | rfl | rfl
        · obtain ⟨u, z1, z2⟩ := p_isTrue e3' hT
          rw [if_pos (show nI 0 = 0 by decide), if_pos (show nI 0 = 0 by decide), bd_t z2, m_firstTwice e6 (by omega) hn.2 hT, bd_t z1, nm_eq]
          by_cases w : u < 0
          · rw [if_pos w, if_neg (Int32.not_le.mpr w)]; exact ⟨_, _, _, _, _, _, _, _, _, _, _, _, _, _, _, _, _, _, _, rfl, rfl, hs3⟩
          · rw [if_neg w, if_pos (Int32.not_lt.mp w)]; exact ⟨_, _, _, _, _, _, _, _, _, _, _, _, _, _, _, _, _, _, _, rfl, rfl, hs3⟩
        · rw [if_neg (show ¬ nI 1 = 0 by decide), if_neg (show ¬ nI 1 = 0 by decide), if_pos (show nI 1 = 1 by decide), if_pos (show nI 1 = 1 by decide), p_comesRound e2 hn.2 hT, m_roundAt e6 h0 (by omega) hn.2 hT]
          rcases fnd_cases (some (-4 : Int32)) (fun i => some (nI i)) (fun j => decide (rws n m b g (l.set i y) j = rws n m b g (l.set i y) 0)) ((l.set i y).length * m.length) 1 with w | ⟨i, -, -, w⟩
          · rw [w]; exact ⟨_, _, _, _, _, _, _, _, _, _, _, _, _, _, _, _, _, _, _, rfl, rfl, hs3⟩
          · rw [w]; exact ⟨_, _, _, _, _, _, _, _, _, _, _, _, _, _, _, _, _, _, _, rfl, rfl, hs3⟩
        · obtain ⟨c3, z1⟩ := m_musical e6 hn.1 hn.2 hT hs2.1 c2
          rw [if_neg (show ¬ nI 2 = 0 by decide), if_neg (show ¬ nI 2 = 0 by decide), if_neg (show ¬ nI 2 = 1 by decide), if_neg (show ¬ nI 2 = 1 by decide), bd_t (p_wellSounding e2 hn.1 hn.2 hT), bd_t z1]
          exact ⟨_, _, _, _, _, _, _, _, _, _, _, _, _, _, _, _, _, _, _, rfl, rfl, hs3⟩
/-- how many rows there would be -/
def ukn (n : Nat) (m : List Nat) (b g : Nat) (l : List Nat) (k : Nat) : Nat := cnt (fun i => decide (fs (rws n m b g (l ++ [k])) 1 i = i)) ((l ++ [k]).length * m.length) 1
theorem p_best_step (h : OKs n m b g l) (hp : ∀ j, j < m.length → places j = nI (m.getD j 0)) (hk : ∀ j, j < l.length → kinds j = nI (l.getD j 0)) {k : Nat} (hk2 : k ≤ 2) (M : Nat) (best most t0 t1 t2 t3 t4 vb vc vl va : Int32) (t5 t6 fr ff fo : Nat → Int32) :
    ∃ u0 u1 u2 u3 u4 u5 u6 w0 w1 w2 w3 w4 w5 w6, f_X10_best_L6 (nI n) (nI m.length) (nI b) (nI g) (nI l.length) places kinds (M + 1) best most (nI k) t0 t1 t2 t3 t4 t5 t6 vb vc vl va fr ff fo = f_X10_best_L6 (nI n) (nI m.length) (nI b) (nI g) (nI l.length) places kinds M (if nI (ukn n m b g l k) ≤ most then best else nI k) (if nI (ukn n m b g l k) ≤ most then most else nI (ukn n m b g l k)) (nI (k + 1)) u0 u1 u2 u3 u4 u5 u6 w0 w1 w2 w3 w4 w5 w6 := by
  have hm := h.2.1
  have hl16 := h.2.2.2.2.2.1
  have h2 := h.r1 hk2
  have hT := h2.T
  have hlen : (l ++ [k]).length = l.length + 1 := by simp
  have hp2 : ∀ j, j < m.length → va_cpy places t5 0 0 20 j = nI (m.getD j 0) := fun j hj => by rw [cpy_at (by omega)]; exact hp j hj
  have hkk : ∀ j, j < (l ++ [k]).length → upd (va_cpy kinds t6 0 0 17) l.length (nI k) j = nI ((l ++ [k]).getD j 0) := fun j hj => by
    rw [hlen] at hj
    unfold upd
    by_cases c : j = l.length
    · rw [if_pos c, c]; simp [List.getD_eq_getElem?_getD]
    · rw [if_neg c, cpy_at (by omega), getD_app1 (by omega)]; exact hk j (by omega)
  have e0 : f_X9_addLead (nI k) (nI l.length) (va_cpy kinds t6 0 0 17) = some (nI (l ++ [k]).length, upd (va_cpy kinds t6 0 0 17) l.length (nI k)) := by
    unfold f_X9_addLead
    rw [if_neg (nI_pos (by omega)), if_neg (show ¬ (17 : Int32) ≤ nI l.length from @nI_ge l.length 17 (by omega) (by decide)), gd_t (n_inb (by omega) (by decide)), nI_clamp (by omega), nI_1, nm_eq, hlen]
  obtain ⟨r1, f1, o1, e1, e2, e3⟩ := p_ring h2 hp2 hkk vb vc vl va fr ff fo
  have e3' : firstsX (rws n m b g (l ++ [k])) ((l ++ [k]).length * m.length) f1 := e3
  rw [f_X10_best_L6]
  unfold f_X9_become
  dsimp only
  rw [show (0 : Int32).toNatClampNeg = 0 from rfl, show (20 : Int32).toNatClampNeg = 20 from rfl, show (17 : Int32).toNatClampNeg = 17 from rfl, if_neg (show ¬ (2 : Int32) < nI k from @nI_nlt 2 k hk2 (by decide)), bd_t e0]
  dsimp only
  rw [bd_t e1]
  dsimp only
  rw [bd_t (p_differentRows e3' hT), nm_eq, nI_1]
  have e5 : nI (cnt (fun i => decide (fs (rws n m b g (l ++ [k])) 1 i = i)) ((l ++ [k]).length * m.length) 1) = nI (ukn n m b g l k) := rfl
  rw [e5]
  by_cases c : nI (ukn n m b g l k) ≤ most
  · rw [if_pos c, if_pos c, if_pos c]
    exact ⟨_, _, _, _, _, _, _, _, _, _, _, _, _, _, rfl⟩
  · rw [if_neg c, if_neg c, if_neg c]
    exact ⟨_, _, _, _, _, _, _, _, _, _, _, _, _, _, rfl⟩
theorem m_best_step (h : OKs n m b g l) (hs : SR n m b g l s) {k : Nat} (hk2 : k ≤ 2) (M : Nat) (best most ve : Int32) (ce r : Nat → Int32) :
    ∃ ve' c' r', f_X11_best_L6 s (M + 1) best most (nI k) ve ce r = f_X11_best_L6 s M (if nI (ukn n m b g l k) ≤ most then best else nI k) (if nI (ukn n m b g l k) ≤ most then most else nI (ukn n m b g l k)) (nI (k + 1)) ve' c' r' := by
  obtain ⟨c2, r2, e4, e6⟩ := m_ringsAll1 h hs hk2 ve ce r
  have hT := (h.r1 hk2).T
  refine ⟨nI ((l ++ [k]).length * m.length), c2, r2, ?_⟩
  rw [f_X11_best_L6, if_neg (show ¬ (3 : Int32) ≤ nI k from @nI_ge k 3 (by omega) (by decide)), bd_t e4]
  dsimp only
  rw [bd_t (m_unlike e6 (by have := h.1; omega) h.1.2 hT), nm_eq, nm_eq, nI_1]
  rfl
theorem p_best_end (M : Nat) (v0 v1 v2 v3 v4 best most t0 t1 t2 t3 t4 vb vc vl va : Int32) (p k t5 t6 fr ff fo : Nat → Int32) : f_X10_best_L6 v0 v1 v2 v3 v4 p k (M + 1) best most (nI 3) t0 t1 t2 t3 t4 t5 t6 vb vc vl va fr ff fo = some (best, t0, t1, t2, t3, t4, t5, t6, vb, vc, vl, va, fr, ff, fo) := by
  rw [f_X10_best_L6, if_pos (show (2 : Int32) < nI 3 by decide)]
theorem m_best_end (M : Nat) (s : Nat → Int32) (best most ve : Int32) (ce r : Nat → Int32) : f_X11_best_L6 s (M + 1) best most (nI 3) ve ce r = some (best, ve, ce, r) := by
  rw [f_X11_best_L6, if_pos (show (3 : Int32) ≤ nI 3 by decide)]
theorem ukn_lt (h : OKs n m b g l) {k : Nat} (hk2 : k ≤ 2) : ukn n m b g l k ≤ 340 := by
  have := (h.r1 hk2).T
  have := cnt_le (fun i => decide (fs (rws n m b g (l ++ [k])) 1 i = i)) ((l ++ [k]).length * m.length) 1
  unfold ukn
  omega
theorem x_best (h : OKs n m b g l) (hs : SR n m b g l s) (hp : ∀ j, j < m.length → places j = nI (m.getD j 0)) (hk : ∀ j, j < l.length → kinds j = nI (l.getD j 0)) (t0 t1 t2 t3 t4 vb vc vl va ve : Int32) (t5 t6 fr ff fo ce r : Nat → Int32) :
    ∃ v q1 q2 q3 q4 q5 q6 q7 q8 q9 q10 q11 q12 q13 q14 p1 p2 p3, f_X10_best (nI n) (nI m.length) (nI b) (nI g) (nI l.length) places kinds t0 t1 t2 t3 t4 t5 t6 vb vc vl va fr ff fo = some (v, q1, q2, q3, q4, q5, q6, q7, q8, q9, q10, q11, q12, q13, q14) ∧ f_X11_best ve s ce r = some (v, p1, p2, p3) := by
  unfold f_X10_best f_X11_best
  have hu := ukn_lt h (k := 0) (by omega)
  obtain ⟨a0, a1, a2, a3, a4, a5, a6, b0, b1', b2, b3, b4, b5, b6, e1⟩ := p_best_step h hp hk (show 0 ≤ 2 by omega) 8191 0 (-1) t0 t1 t2 t3 t4 vb vc vl va t5 t6 fr ff fo
  obtain ⟨x1, x2, x3, e2⟩ := m_best_step h hs (show 0 ≤ 2 by omega) 8191 0 0 ve ce r
  have w1 : (if nI (ukn n m b g l 0) ≤ (-1) then (0 : Int32) else nI 0) = nI 0 := by split <;> rfl
  have w2 : (if nI (ukn n m b g l 0) ≤ (-1) then (-1 : Int32) else nI (ukn n m b g l 0)) = nI (ukn n m b g l 0) := if_neg (fun q => nI_pos (show ukn n m b g l 0 < 2 ^ 31 by omega) (Int32.lt_of_le_of_lt q (by decide)))
  have w3 : (if nI (ukn n m b g l 0) ≤ 0 then (0 : Int32) else nI 0) = nI 0 := by split <;> rfl
  have w4 : (if nI (ukn n m b g l 0) ≤ 0 then (0 : Int32) else nI (ukn n m b g l 0)) = nI (ukn n m b g l 0) := by
    by_cases c : nI (ukn n m b g l 0) ≤ 0
    · rw [if_pos c]
      have : ukn n m b g l 0 = 0 := by
        rcases Nat.eq_zero_or_pos (ukn n m b g l 0) with q | q
        · exact q
        · exact absurd c (nI_nle q (by omega))
      rw [this]; rfl
    · rw [if_neg c]
  rw [w1, w2] at e1
  rw [w3, w4] at e2
  obtain ⟨a0, a1, a2, a3, a4, a5, a6, b0, b1', b2, b3, b4, b5, b6, e3⟩ := p_best_step h hp hk (show 1 ≤ 2 by omega) 8190 (nI 0) (nI (ukn n m b g l 0)) a0 a1 a2 a3 a4 b0 b1' b2 b3 a5 a6 b4 b5 b6
  obtain ⟨x1, x2, x3, e4⟩ := m_best_step h hs (show 1 ≤ 2 by omega) 8190 (nI 0) (nI (ukn n m b g l 0)) x1 x2 x3
  generalize (if nI (ukn n m b g l 1) ≤ nI (ukn n m b g l 0) then nI 0 else nI 1) = B1 at e3 e4
  generalize (if nI (ukn n m b g l 1) ≤ nI (ukn n m b g l 0) then nI (ukn n m b g l 0) else nI (ukn n m b g l 1)) = M1 at e3 e4
  obtain ⟨a0, a1, a2, a3, a4, a5, a6, b0, b1', b2, b3, b4, b5, b6, e5⟩ := p_best_step h hp hk (show 2 ≤ 2 by omega) 8189 B1 M1 a0 a1 a2 a3 a4 b0 b1' b2 b3 a5 a6 b4 b5 b6
  obtain ⟨x1, x2, x3, e6⟩ := m_best_step h hs (show 2 ≤ 2 by omega) 8189 B1 M1 x1 x2 x3
  generalize (if nI (ukn n m b g l 2) ≤ M1 then B1 else nI 2) = B2 at e5 e6
  generalize (if nI (ukn n m b g l 2) ≤ M1 then M1 else nI (ukn n m b g l 2)) = M2 at e5 e6
  exact ⟨_, _, _, _, _, _, _, _, _, _, _, _, _, _, _, _, _, _, (e1.trans (e3.trans e5)).trans (p_best_end 8188 ..), (e2.trans (e4.trans e6)).trans (m_best_end 8188 ..)⟩
end
