/-! ===== what the looks answer, said of the state ===== -/
def lastA (a : AT) : Nat := a.2.2.2.2.length * a.2.1.length
def RA (a : AT) (i : Nat) : List Nat := rws a.1 a.2.1 a.2.2.1 a.2.2.2.1 a.2.2.2.2 i
def A_bell (a : AT) (x y : Int32) : Option Int32 :=
  if f_X10_isWithin x 0 (nI (lastA a)) = 0 then some (-1) else if f_X10_isWithin y 1 (nI a.1) = 0 then some (-1) else some (nI ((RA a x.toNatClampNeg).getD (y.toNatClampNeg - 1) 0 + 1))
def A_row (a : AT) (x w : Int32) : Option Int32 :=
  if f_X10_isWithin x 0 (nI (lastA a)) = 0 then some (-1) else
  if w = 0 then some (nI (ipair a.1 (RA a x.toNatClampNeg) % 2)) else
  if w = 1 then some (nI (cyO (pk (RA a x.toNatClampNeg)) a.1 a.1 0 0 0 % 2)) else
  if w = 2 then some (nI (b1 (sw a.1 (RA a x.toNatClampNeg)))) else
  if w = 3 then some (nI (cnt (fun p => decide ((RA a x.toNatClampNeg).getD p 0 = p)) a.1 0)) else
  if w = 4 then some (nI (fs (RA a) 0 x.toNatClampNeg)) else none
def A_count (a : AT) (pt : List Nat) (x : Int32) : Option Int32 :=
  if x = 0 then some (nI a.1) else if x = 1 then some (nI a.2.1.length) else if x = 2 then some (nI a.2.2.2.2.length) else if x = 3 then some (nI (lastA a)) else
  if x = 4 then fnd (some (-4)) (fun i => some (nI i)) (fun i => decide (RA a i = RA a 0)) (lastA a) 1 else
  if x = 5 then bd (frst (RA a) (lastA a)) (fun z => some (if z < 0 then 1 else 0)) else
  if x = 6 then frst (RA a) (lastA a) else
  if x = 7 then some (nI (cnt (fun i => decide (fs (RA a) 1 i = i)) (lastA a) 1)) else
  if x = 8 then some (nI (fpairs (RA a) a.2.1.length a.2.2.2.2.length)) else
  if x = 9 then some (nI (cnt (fun i => sw a.1 (RA a i)) (lastA a) 1)) else
  if x = 10 then some (nI (cnt (fun i => decide (0 < a.2.2.2.2.getD i 0)) a.2.2.2.2.length 0)) else
  if x = 12 then some (nI a.2.2.1) else if x = 13 then some (nI a.2.2.2.1) else if x = 14 then some (nI pt.length) else none
def A_music (a : AT) : Option UInt64 :=
  if lastA a = 0 then some FP.dconst0 else some (FP.ddiv (FP.i2d (nI (cnt (fun i => sw a.1 (RA a i)) (lastA a) 1))) (FP.i2d (nI (lastA a))))
def A_change (a : AT) (x y : Int32) : Option Int32 :=
  if f_X10_isWithin x (-1) (nI a.2.2.2.2.length - 1) = 0 then some (-1) else if y < 0 then some (-1) else
  if a.2.1.length ≤ y.toNatClampNeg then some (-4) else
  some (nI ((lc a.2.1 a.2.2.1 a.2.2.2.1 (if x < 0 then 0 else a.2.2.2.2.getD x.toNatClampNeg 0)).getD y.toNatClampNeg 0))
def A_path (a : AT) (x w : Int32) : Option Int32 :=
  if f_X10_isWithin x 1 (nI a.1) = 0 then some (-1) else if f_X10_isWithin w 0 4 = 0 then some (-1) else
  if w = 0 then some (nI (cnt (dod (RA a) (x.toNatClampNeg - 1)) (lastA a - 2) 0)) else
  if w = 1 then fnd (some (-4)) (fun i => some (nI i)) (dod (RA a) (x.toNatClampNeg - 1)) (lastA a - 2) 0 else
  if w = 2 then some (nI (cnt (fun i => decide ((RA a i).idxOf (x.toNatClampNeg - 1) = 0)) (lastA a) 1)) else
  if w = 3 then some (nI (cnt (fun i => decide ((RA a i).idxOf (x.toNatClampNeg - 1) = (RA a (i + 1)).idxOf (x.toNatClampNeg - 1))) (lastA a) 0)) else
  some (nI ((RA a (lastA a)).idxOf (x.toNatClampNeg - 1) + 1))
def A_blows (a : AT) (x y : Int32) : Option Int32 :=
  if f_X10_isWithin x 1 (nI a.1) = 0 then some (-1) else if f_X10_isWithin y 1 (nI a.1) = 0 then some (-1) else
  some (nI (cnt (fun i => decide ((RA a i).idxOf (x.toNatClampNeg - 1) = y.toNatClampNeg - 1)) (lastA a) 1))
theorem ten_c {i : Nat} (h : i < 2 ^ 31) : (nI i).toNatClampNeg = i := nI_clamp h
section
variable {n : Nat} {m : List Nat} {b g : Nat} {l : List Nat} {places kinds : Nat → Int32} {r : Int32}
theorem v_bell (h : OKs n m b g l) (hp : ∀ j, j < m.length → places j = nI (m.getD j 0)) (hk : ∀ j, j < l.length → kinds j = nI (l.getD j 0)) (x y vb vc vl va : Int32) (fr ff fo : Nat → Int32) (hA : A_bell (n, m, b, g, l) x y = some r) :
    ∃ R1, f_X10_bell x y (nI n) (nI m.length) (nI b) (nI g) (nI l.length) places kinds vb vc vl va fr ff fo = some R1 ∧ R1.1 = r := by
  have hT := h.r.T
  have hn := h.1
  unfold A_bell lastA at hA
  dsimp only at hA
  unfold f_X10_bell f_X9_lastRow f_X10_isBell
  rw [pk_mul]
  rcases in0 x (up := l.length * m.length) (by omega) with q | ⟨q, i, hi, rfl⟩
  · rw [q, if_pos (show (0 : Int32) = 0 from rfl)] at hA ⊢; exact ⟨_, rfl, Option.some.inj hA⟩
  · rw [q, if_neg (show ¬ (1 : Int32) = 0 by decide)] at hA ⊢
    rcases in1 y (up := n) (by omega) with q | ⟨q, p, hpn, rfl⟩
    · rw [q, if_pos (show (0 : Int32) = 0 from rfl)] at hA ⊢; exact ⟨_, rfl, Option.some.inj hA⟩
    · rw [q, if_neg (show ¬ (1 : Int32) = 0 by decide)] at hA ⊢
      obtain ⟨r1, f1, o1, e1, e2, e3⟩ := p_ring h.r hp hk vb vc vl va fr ff fo
      have hrow := (e2 i hi).1
      have hx := xr_lt hrow hn.2
      rw [bd_t e1]
      dsimp only
      rw [bd_t (p_rowAt e2 hT hi), p_bellAt (by omega) (by omega), dg_xr hrow hn.2 hpn]
      rw [nI_clamp (by omega), nI_clamp (by omega), Nat.add_sub_cancel] at hA
      exact ⟨_, rfl, Option.some.inj hA⟩
theorem v_blows (h : OKs n m b g l) (hp : ∀ j, j < m.length → places j = nI (m.getD j 0)) (hk : ∀ j, j < l.length → kinds j = nI (l.getD j 0)) (x y vb vc vl va : Int32) (fr ff fo : Nat → Int32) (hA : A_blows (n, m, b, g, l) x y = some r) :
    ∃ R1, f_X10_blows x y (nI n) (nI m.length) (nI b) (nI g) (nI l.length) places kinds vb vc vl va fr ff fo = some R1 ∧ R1.1 = r := by
  have hT := h.r.T
  have hn := h.1
  unfold A_blows lastA at hA
  dsimp only at hA
  unfold f_X10_blows f_X10_isBell
  rcases in1 x (up := n) (by omega) with q | ⟨q, a, ha, rfl⟩
  · rw [q, if_pos (show (0 : Int32) = 0 from rfl)] at hA ⊢; exact ⟨_, rfl, Option.some.inj hA⟩
  · rw [q, if_neg (show ¬ (1 : Int32) = 0 by decide)] at hA ⊢
    rcases in1 y (up := n) (by omega) with q | ⟨q, p, hpn, rfl⟩
    · rw [q, if_pos (show (0 : Int32) = 0 from rfl)] at hA ⊢; exact ⟨_, rfl, Option.some.inj hA⟩
    · rw [q, if_neg (show ¬ (1 : Int32) = 0 by decide)] at hA ⊢
      obtain ⟨r1, f1, o1, e1, e2, e3⟩ := p_ring h.r hp hk vb vc vl va fr ff fo
      rw [bd_t e1]
      dsimp only
      rw [bd_t (p_blowsAt e2 hn.2 hT ha hpn)]
      rw [nI_clamp (by omega), nI_clamp (by omega), Nat.add_sub_cancel, Nat.add_sub_cancel] at hA
      exact ⟨_, rfl, Option.some.inj hA⟩
theorem v_path (h : OKs n m b g l) (hp : ∀ j, j < m.length → places j = nI (m.getD j 0)) (hk : ∀ j, j < l.length → kinds j = nI (l.getD j 0)) (x y vb vc vl va : Int32) (fr ff fo : Nat → Int32) (hA : A_path (n, m, b, g, l) x y = some r) :
    ∃ R1, f_X10_path x y (nI n) (nI m.length) (nI b) (nI g) (nI l.length) places kinds vb vc vl va fr ff fo = some R1 ∧ R1.1 = r := by
  have hT := h.r.T
  have hn := h.1
  unfold A_path lastA at hA
  dsimp only at hA
  unfold f_X10_path f_X10_isBell
  rcases in1 x (up := n) (by omega) with q | ⟨q, a, ha, rfl⟩
  · rw [q, if_pos (show (0 : Int32) = 0 from rfl)] at hA ⊢; exact ⟨_, rfl, Option.some.inj hA⟩
  · rw [q, if_neg (show ¬ (1 : Int32) = 0 by decide)] at hA ⊢
    rcases (show f_X10_isWithin y 0 4 = 0 ∨ (f_X10_isWithin y 0 4 = 1 ∧ ∃ k, k ≤ 4 ∧ y = nI k) from in0 y (up := 4) (by omega)) with q | ⟨q, w, hw, rfl⟩
    · rw [q, if_pos (show (0 : Int32) = 0 from rfl)] at hA ⊢; exact ⟨_, rfl, Option.some.inj hA⟩
    · rw [q, if_neg (show ¬ (1 : Int32) = 0 by decide)] at hA ⊢
      obtain ⟨r1, f1, o1, e1, e2, e3⟩ := p_ring h.r hp hk vb vc vl va fr ff fo
      rw [bd_t e1]
      dsimp only
      rw [nI_clamp (by omega), Nat.add_sub_cancel] at hA
      rcases (show w = 0 ∨ w = 1 ∨ w = 2 ∨ w = 3 ∨ w = 4 by omega) with rfl | rfl | rfl | rfl | rfl
      · rw [if_pos (show nI 0 = 0 by decide)] at hA ⊢
        rw [bd_t (p_dodges e2 hn.2 hT ha)]
        exact ⟨_, rfl, Option.some.inj hA⟩
      · rw [if_neg (show ¬ nI 1 = 0 by decide), if_pos (show nI 1 = 1 by decide)] at hA ⊢
        rw [p_firstDodge e2 hn.2 hT ha]
        rcases fnd_cases (some (-4 : Int32)) (fun i => some (nI i)) (dod (rws n m b g l) a) (l.length * m.length - 2) 0 with w | ⟨i, -, -, w⟩
        · rw [w]; exact ⟨_, rfl, Option.some.inj (w.symm.trans hA)⟩
        · rw [w]; exact ⟨_, rfl, Option.some.inj (w.symm.trans hA)⟩
      · rw [if_neg (show ¬ nI 2 = 0 by decide), if_neg (show ¬ nI 2 = 1 by decide), if_pos (show nI 2 = 2 by decide)] at hA ⊢
        rw [bd_t (show f_X5_blowsAt _ 1 _ _ = _ from p_blowsAt e2 hn.2 hT ha (p := 0) (by omega))]
        exact ⟨_, rfl, Option.some.inj hA⟩
      · rw [if_neg (show ¬ nI 3 = 0 by decide), if_neg (show ¬ nI 3 = 1 by decide), if_neg (show ¬ nI 3 = 2 by decide), if_pos (show nI 3 = 3 by decide)] at hA ⊢
        rw [bd_t (p_stays e2 hn.2 hT ha)]
        exact ⟨_, rfl, Option.some.inj hA⟩
      · rw [if_neg (show ¬ nI 4 = 0 by decide), if_neg (show ¬ nI 4 = 1 by decide), if_neg (show ¬ nI 4 = 2 by decide), if_neg (show ¬ nI 4 = 3 by decide)] at hA ⊢
        rw [bd_t (p_placeIn e2 hn.2 hT ha (Nat.le_refl _))]
        exact ⟨_, rfl, Option.some.inj hA⟩
theorem v_change (h : OKs n m b g l) (hp : ∀ j, j < m.length → places j = nI (m.getD j 0)) (hk : ∀ j, j < l.length → kinds j = nI (l.getD j 0)) (x y : Int32) (hA : A_change (n, m, b, g, l) x y = some r) :
    f_X10_change x y (nI m.length) (nI b) (nI g) (nI l.length) places kinds = some r := by
  obtain ⟨hn, ⟨hm1, hm⟩, hmo, hbo, hgo, hl, hl2⟩ := id h
  unfold A_change at hA
  dsimp only at hA
  unfold f_X10_change
  by_cases c0 : f_X10_isWithin x (-1) (nI l.length - 1) = 0
  · rw [if_pos c0] at hA ⊢; exact hA
  · rw [if_neg c0] at hA ⊢
    by_cases c1 : 0 ≤ y
    · rw [if_neg (Int32.not_lt.mpr c1)] at hA
      rw [if_pos c1]
      obtain ⟨j, hj, rfl⟩ := nI_of (x := y) (Int32.not_lt.mpr c1)
      rw [nI_clamp (by omega)] at hA
      by_cases c2 : j < m.length
      · rw [if_neg (by omega)] at hA
        rw [if_pos (nI_lt c2 (by omega))]
        by_cases c3 : x < 0
        · have e1 : f_X9_kindOfLead x kinds = some (nI 0) := by unfold f_X9_kindOfLead; rw [if_pos c3]; rfl
          rw [if_pos c3] at hA
          rw [bd_t e1, bd_t (p_placesMade (b := b) (g := g) hm1 hm (show 0 ≤ 2 by omega) c2 hp)]
          exact hA
        · rw [if_neg c3] at hA
          obtain ⟨i, hi, rfl⟩ := nI_of c3
          rw [nI_clamp (by omega)] at hA
          have hil : i < l.length := by
            rcases Nat.lt_or_ge i l.length with q | q
            · exact q
            · refine absurd ?_ c0
              unfold f_X10_isWithin
              by_cases w : nI i < -1
              · exact if_pos w
              · rw [if_neg w, if_pos]
                refine Int32.lt_iff_toInt_lt.mpr ?_
                rw [nI_toInt hi, show (1 : Int32) = nI 1 from rfl, pk_sub_toInt (by omega) (by decide)]
                omega
          have hk2 := hl2 _ (getD_mem hil)
          rw [bd_t (p_kindOfLead (by omega) hil hk), bd_t (p_placesMade (b := b) (g := g) hm1 hm hk2 c2 hp)]
          exact hA
      · rw [if_pos (by omega)] at hA
        rw [if_neg (nI_nlt (by omega) (by omega))]; exact hA
    · rw [if_pos (Int32.not_le.mp c1)] at hA
      rw [if_neg c1]; exact hA
theorem sw_int {z : Bool} : (if z then (1 : Int32) else 0) = nI (b1 z) := by cases z <;> rfl
theorem v_row (h : OKs n m b g l) (hp : ∀ j, j < m.length → places j = nI (m.getD j 0)) (hk : ∀ j, j < l.length → kinds j = nI (l.getD j 0)) (x y vb vc vl va : Int32) (fr ff fo : Nat → Int32) (hb fb vs : Int32) (few rch lv lb : Nat → Int32) (hA : A_row (n, m, b, g, l) x y = some r) :
    ∃ R1, f_X10_row x y (nI n) (nI m.length) (nI b) (nI g) (nI l.length) places kinds vb vc vl va fr ff fo hb fb vs few rch lv lb = some R1 ∧ R1.1 = r := by
  have hT := h.r.T
  have hn := h.1
  unfold A_row lastA at hA
  dsimp only at hA
  unfold f_X10_row f_X9_lastRow
  rw [pk_mul]
  rcases in0 x (up := l.length * m.length) (by omega) with q | ⟨q, i, hi, rfl⟩
  · rw [q, if_pos (show (0 : Int32) = 0 from rfl)] at hA ⊢; exact ⟨_, rfl, Option.some.inj hA⟩
  · rw [q, if_neg (show ¬ (1 : Int32) = 0 by decide)] at hA ⊢
    have hw : ∃ w, w ≤ 4 ∧ y = nI w := by
      by_cases c0 : y = 0
      · exact ⟨0, by omega, c0⟩
      by_cases c1 : y = 1
      · exact ⟨1, by omega, c1⟩
      by_cases c2 : y = 2
      · exact ⟨2, by omega, c2⟩
      by_cases c3 : y = 3
      · exact ⟨3, by omega, c3⟩
      by_cases c4 : y = 4
      · exact ⟨4, by omega, c4⟩
      rw [if_neg c0, if_neg c1, if_neg c2, if_neg c3, if_neg c4] at hA
      cases hA
    obtain ⟨w, hw, rfl⟩ := hw
    obtain ⟨r1, f1, o1, e1, e2, e3⟩ := p_ring h.r hp hk vb vc vl va fr ff fo
    have hrow := (e2 i hi).1
    have hwi : ¬ f_X10_isWithin (nI w) 0 5 = 0 := by
      rcases (show w = 0 ∨ w = 1 ∨ w = 2 ∨ w = 3 ∨ w = 4 by omega) with rfl | rfl | rfl | rfl | rfl <;> decide
    rw [nI_clamp (by omega)] at hA
    rw [if_neg hwi, bd_t e1]
    dsimp only
    rw [bd_t (p_rowAt e2 hT hi)]
    rcases (show w = 0 ∨ w = 1 ∨ w = 2 ∨ w = 3 ∨ w = 4 by omega) with rfl | rfl | rfl | rfl | rfl
    · rw [if_pos (show nI 0 = 0 by decide)] at hA ⊢
      rw [bd_t (p_signByPairs hrow hn.2)]
      exact ⟨_, rfl, Option.some.inj hA⟩
    · rw [if_neg (show ¬ nI 1 = 0 by decide), if_pos (show nI 1 = 1 by decide)] at hA ⊢
      rw [bd_t (p_signByCycles hrow hn.2)]
      exact ⟨_, rfl, Option.some.inj hA⟩
    · rw [if_neg (show ¬ nI 2 = 0 by decide), if_neg (show ¬ nI 2 = 1 by decide), if_pos (show nI 2 = 2 by decide)] at hA ⊢
      rw [p_soundsWell hrow hn.1 hn.2]
      have hA2 : nI (b1 (sw n (rws n m b g l i))) = r := Option.some.inj hA
      cases hs : sw n (rws n m b g l i)
      · rw [hs] at hA2; exact ⟨_, rfl, hA2⟩
      · rw [hs] at hA2; exact ⟨_, rfl, hA2⟩
    · rw [if_neg (show ¬ nI 3 = 0 by decide), if_neg (show ¬ nI 3 = 1 by decide), if_neg (show ¬ nI 3 = 2 by decide), if_pos (show nI 3 = 3 by decide)] at hA ⊢
      rw [bd_t (p_bellsInPlace hrow hn.2)]
      exact ⟨_, rfl, Option.some.inj hA⟩
    · rw [if_neg (show ¬ nI 4 = 0 by decide), if_neg (show ¬ nI 4 = 1 by decide), if_neg (show ¬ nI 4 = 2 by decide), if_neg (show ¬ nI 4 = 3 by decide), if_pos (show nI 4 = 4 by decide)] at hA ⊢
      rw [bd_t (p_firstLike e2 e3 hn.2 hT hi)]
      exact ⟨_, rfl, Option.some.inj hA⟩
theorem v_music (h : OKs n m b g l) (hp : ∀ j, j < m.length → places j = nI (m.getD j 0)) (hk : ∀ j, j < l.length → kinds j = nI (l.getD j 0)) (vb vc vl va : Int32) (fr ff fo : Nat → Int32) {r : UInt64} (hA : A_music (n, m, b, g, l) = some r) :
    ∃ R1, f_X10_music (nI n) (nI m.length) (nI b) (nI g) (nI l.length) places kinds vb vc vl va fr ff fo = some R1 ∧ R1.1 = r := by
  have hT := h.r.T
  have hn := h.1
  unfold A_music lastA at hA
  dsimp only at hA
  obtain ⟨r1, f1, o1, e1, e2, e3⟩ := p_ring h.r hp hk vb vc vl va fr ff fo
  unfold f_X10_music
  rw [bd_t e1]
  dsimp only
  have hle := cnt_le (fun i => sw n (rws n m b g l i)) (l.length * m.length) 1
  by_cases c : 0 < l.length * m.length
  · have hnn := music_nn (a := cnt (fun i => sw n (rws n m b g l i)) (l.length * m.length) 1) (b := l.length * m.length) c hT (by omega)
    rw [if_neg (by omega)] at hA
    rw [if_pos (show (0 : Int32) < nI (l.length * m.length) from @nI_lt 0 _ c (by omega)), bd_t (p_wellSounding e2 hn.1 hn.2 hT), gd_t hnn]
    exact ⟨_, rfl, Option.some.inj hA⟩
  · have e : l.length * m.length = 0 := by omega
    rw [if_pos e] at hA
    rw [e, if_neg (show ¬ (0 : Int32) < nI 0 by decide)]
    exact ⟨_, rfl, Option.some.inj hA⟩
end
