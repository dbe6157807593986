/-! ===== what changes the state, both ===== -/
def Sx (t : TV) (hsz : Int32) (hh : Nat → TV) (s : Nat → Int32) (vp : Int32) (past : Nat → Int32) : Prop := ∃ (a : AT) (P : List AT), OKa a ∧ TRa a t ∧ SRa a s ∧ P.length ≤ 4 ∧ hsz = nI P.length ∧ vp = nI P.length ∧ HX P hh ∧ HM P past
theorem x_add {t : TV} {hsz vp : Int32} {hh : Nat → TV} {s past : Nat → Int32} (h : Sx t hsz hh s vp past) (x : Int32) : ∃ v ld k' hs' hh' vp' s' past', f_X10_add x t.1 t.2.1 t.2.2.1 t.2.2.2.1 t.2.2.2.2.1 t.2.2.2.2.2.1 t.2.2.2.2.2.2 hsz hh = some (v, ld, k', hs', hh') ∧ f_X11_add x vp s past = some (v, vp', s', past') ∧ Sx (t.1, t.2.1, t.2.2.1, t.2.2.2.1, ld, t.2.2.2.2.2.1, k') hs' hh' s' vp' past' := by
  obtain ⟨a, P, hO, hT, hS, hP, rfl, rfl, hX, hM⟩ := id h
  obtain ⟨n, m, b, g, l⟩ := a
  obtain ⟨k0, k1, k2, k3, k4, k5, k6⟩ := id hT
  obtain ⟨j0, j1, j2, j3, j4, j5, j6⟩ := id hS
  dsimp only at k0 k1 k2 k3 k4 k5 k6 j0 j1 j2 j3 j4 j5 j6
  have hO2 : OKs n m b g l := hO
  have hl := hO2.2.2.2.2.2.1
  have hm := hO2.2.1
  unfold f_X10_add f_X11_add
  rw [wi_in, show (2 : Int32).toNatClampNeg = 2 from rfl, j2]
  rcases (show f_X11_in x 0 2 = 0 ∨ (f_X11_in x 0 2 = 1 ∧ ∃ k, k ≤ 2 ∧ x = nI k) from in0 x (up := 2) (by omega)) with q | ⟨q, y, hy, rfl⟩
  · rw [q, if_pos (show (0 : Int32) = 0 from rfl), if_pos (show (0 : Int32) = 0 from rfl)]
    exact ⟨_, _, _, _, _, _, _, _, rfl, rfl, h⟩
  · rw [q, if_neg (show ¬ (1 : Int32) = 0 by decide), if_neg (show ¬ (1 : Int32) = 0 by decide)]
    by_cases c : l.length = 16
    · rw [k4, c, if_neg (show ¬ nI 16 < 16 by decide), if_pos (show nI 16 = 16 by decide)]
      have : Sx (t.1, t.2.1, t.2.2.1, t.2.2.2.1, nI 16, t.2.2.2.2.2.1, t.2.2.2.2.2.2) (nI P.length) hh s (nI P.length) past := by rw [← c, ← k4]; exact h
      exact ⟨_, _, _, _, _, _, _, _, rfl, rfl, this⟩
    · obtain ⟨hh', e1, e2⟩ := p_record hP hX hO hT
      obtain ⟨past', e3, e4⟩ := m_changes hP hM hO hS
      have e0 : f_X9_addLead (nI y) (nI l.length) t.2.2.2.2.2.2 = some (nI (l.length + 1), upd t.2.2.2.2.2.2 l.length (nI y)) := by
        unfold f_X9_addLead
        rw [if_neg (nI_pos (by omega)), if_neg (show ¬ (17 : Int32) ≤ nI l.length from @nI_ge l.length 17 (by omega) (by decide)), gd_t (n_inb (by omega) (by decide)), nI_clamp (by omega), nI_1, nm_eq]
      rw [bd_t e1, if_pos (show t.2.2.2.2.1 < 16 by rw [k4]; exact @nI_lt l.length 16 (by omega) (by decide)), k4, bd_t e0, if_neg (show ¬ nI l.length = 16 from fun q => c ((nI_eq (b := 16) (by omega) (by decide)).mp q)), bd_t e3, show (25 : Int32) = nI 25 from rfl, nI_add, gd_t (n_inb (by omega) (by decide)), nI_clamp (by omega), up_e, up_n (show 2 ≠ 25 + l.length by omega), j2, nI_1]
      have hlen : (l ++ [y]).length = l.length + 1 := by simp
      refine ⟨_, _, _, _, _, _, _, _, rfl, rfl, (n, m, b, g, l ++ [y]), push P (n, m, b, g, l), ⟨hO2.1, hO2.2.1, hO2.2.2.1, hO2.2.2.2.1, hO2.2.2.2.2.1, by show (l ++ [y]).length ≤ 16; omega, (hO2.r1 hy).2.2.2.2.2.2⟩, ⟨k0, k1, k2, k3, by show nI (l.length + 1) = nI (l ++ [y]).length; rw [hlen], k5, fun j hj => ?_⟩, ⟨?_, ?_, ?_, ?_, ?_, fun j hj => ?_, fun j hj => ?_⟩, push_len4 hP, rfl, rfl, e2, e4⟩
      · change j < (l ++ [y]).length at hj
        rw [hlen] at hj
        show upd t.2.2.2.2.2.2 l.length (nI y) j = nI ((l ++ [y]).getD j 0)
        by_cases w : j = l.length
        · rw [w, up_e]; simp [List.getD_eq_getElem?_getD]
        · rw [up_n w, getD_app1 (by omega)]; exact k6 j (by omega)
      · rw [up_n (by omega), up_n (by omega)]; exact j0
      · rw [up_n (by omega), up_n (by omega)]; exact j1
      · rw [up_e, hlen]
      · rw [up_n (by omega), up_n (by omega)]; exact j3
      · rw [up_n (by omega), up_n (by omega)]; exact j4
      · change j < m.length at hj
        rw [up_n (by omega), up_n (by omega)]; exact j5 j hj
      · change j < (l ++ [y]).length at hj
        rw [hlen] at hj
        rw [up_n (by omega)]
        show _ = nI ((l ++ [y]).getD j 0)
        by_cases w : j = l.length
        · rw [w, up_e]; simp [List.getD_eq_getElem?_getD]
        · rw [up_n (by omega), getD_app1 (by omega)]; exact j6 j (by omega)
theorem x_undo {t : TV} {hsz vp : Int32} {hh : Nat → TV} {s past : Nat → Int32} (h : Sx t hsz hh s vp past) : ∃ v t' hs' vp' s', f_X10_undo t.1 t.2.1 t.2.2.1 t.2.2.2.1 t.2.2.2.2.1 t.2.2.2.2.2.1 t.2.2.2.2.2.2 hsz hh = some (v, t'.1, t'.2.1, t'.2.2.1, t'.2.2.2.1, t'.2.2.2.2.1, t'.2.2.2.2.2.1, t'.2.2.2.2.2.2, hs') ∧ f_X11_undo vp s past = some (v, vp', s') ∧ Sx t' hs' hh s' vp' past := by
  obtain ⟨a, P, hO, hT, hS, hP, rfl, rfl, hX, hM⟩ := id h
  by_cases c : P = []
  · subst c
    unfold f_X10_undo f_X11_undo
    rw [if_neg (show ¬ (0 : Int32) < nI ([] : List AT).length by decide), if_pos (show nI ([] : List AT).length = 0 by decide)]
    exact ⟨_, t, _, _, _, rfl, rfl, h⟩
  · obtain ⟨Q, x, rfl⟩ : ∃ Q x, P = Q ++ [x] := ⟨P.dropLast, P.getLast c, (List.dropLast_concat_getLast c).symm⟩
    obtain ⟨t', e1, e2, e3⟩ := p_takeBack (t := t) hP hX
    obtain ⟨s', e4, e5, e6⟩ := m_undo (s := s) hP hM
    have hx := (hX Q.length x (by simp)).1
    have hQ : Q.length ≤ 4 := by rw [List.length_append] at hP; omega
    unfold f_X10_undo
    rw [if_pos (show (0 : Int32) < nI (Q ++ [x]).length from @nI_lt 0 _ (by simp) (by omega)), bd_t e1, e4]
    exact ⟨_, t', _, _, _, rfl, rfl, x, Q, hx, e2, e5, hQ, rfl, rfl, e3, e6⟩
