/-! ===== cut, call, save, restore, append, both ===== -/
theorem x_cut {t : TV} {hsz vp : Int32} {hh : Nat → TV} {s past : Nat → Int32} (h : Sx t hsz hh s vp past) (x : Int32) : ∃ v ld hs' hh' vp' s' past', f_X10_cut x t.1 t.2.1 t.2.2.1 t.2.2.2.1 t.2.2.2.2.1 t.2.2.2.2.2.1 t.2.2.2.2.2.2 hsz hh = some (v, ld, hs', hh') ∧ f_X11_cut x vp s past = some (v, vp', s', past') ∧ Sx (t.1, t.2.1, t.2.2.1, t.2.2.2.1, ld, t.2.2.2.2.2.1, t.2.2.2.2.2.2) hs' hh' s' vp' past' := by
  obtain ⟨a, P, hO, hT, hS, hP, rfl, rfl, hX, hM⟩ := id h
  obtain ⟨n, m, b, g, l⟩ := a
  obtain ⟨k0, k1, k2, k3, k4, k5, k6⟩ := id hT
  obtain ⟨j0, j1, j2, j3, j4, j5, j6⟩ := id hS
  dsimp only at k0 k1 k2 k3 k4 k5 k6 j0 j1 j2 j3 j4 j5 j6
  have hO2 : OKs n m b g l := hO
  have hl := hO2.2.2.2.2.2.1
  have hm := hO2.2.1
  unfold f_X10_cut f_X11_cut
  rw [wi_in, show (2 : Int32).toNatClampNeg = 2 from rfl, j2, k4]
  rcases in0 x (up := l.length) (by omega) with q | ⟨q, y, hy, rfl⟩
  · rw [q, if_pos (show (0 : Int32) = 0 from rfl), if_pos (show (0 : Int32) = 0 from rfl)]
    have : Sx (t.1, t.2.1, t.2.2.1, t.2.2.2.1, nI l.length, t.2.2.2.2.2.1, t.2.2.2.2.2.2) (nI P.length) hh s (nI P.length) past := by rw [← k4]; exact h
    exact ⟨_, _, _, _, _, _, _, rfl, rfl, this⟩
  · rw [q, if_neg (show ¬ (1 : Int32) = 0 by decide), if_neg (show ¬ (1 : Int32) = 0 by decide)]
    obtain ⟨hh', e1, e2⟩ := p_record hP hX hO hT
    obtain ⟨past', e3, e4⟩ := m_changes hP hM hO hS
    rw [k4] at e1
    have L : ∀ (k : Int32 → (Nat → Int32) → Option (Int32 × Int32 × (Nat → Int32) × (Nat → Int32))) (s1 s2 vq : Int32) (pq : Nat → Int32) (d j M : Nat) (s : Nat → Int32), j + d = 16 → d < M → ∃ s', f_X11_cut_L29 k s1 s2 vq pq M (nI j) s = k (nI 16) s' ∧ ∀ q, q < 25 + j → s' q = s q := by
      intro k s1 s2 vq pq d
      induction d with
      | zero =>
        intro j M s hj hM
        obtain ⟨M, rfl⟩ : ∃ k, M = k + 1 := ⟨M - 1, by omega⟩
        obtain rfl : j = 16 := by omega
        exact ⟨s, by rw [f_X11_cut_L29, if_pos (by decide)], fun _ _ => rfl⟩
      | succ d ih =>
        intro j M s hj hM
        obtain ⟨M, rfl⟩ : ∃ k, M = k + 1 := ⟨M - 1, by omega⟩
        obtain ⟨s', e5, e6⟩ := ih (j + 1) M (upd s (25 + j) 0) (by omega) (by omega)
        refine ⟨s', ?_, fun q hq => by rw [e6 q (by omega), up_n (by omega)]⟩
        rw [f_X11_cut_L29, if_neg (show ¬ (16 : Int32) ≤ nI j from @nI_ge j 16 (by omega) (by decide)), show (25 : Int32) = nI 25 from rfl, nI_add, gd_t (n_inb (show 25 + j < 41 by omega) (by decide)), nI_clamp (by omega), nI_1]
        exact e5
    obtain ⟨s', e5, e6⟩ := L (fun y8 y9 => some (nI l.length, nI (push P (n, m, b, g, l)).length, upd y9 2 (nI y), past')) (nI y) (nI l.length) (nI (push P (n, m, b, g, l)).length) past' (16 - y) y fu s (by omega) (by show 16 - y < 8192; omega)
    have hlen : (l.take y).length = y := by rw [List.length_take]; omega
    have hget : ∀ j, j < y → (l.take y).getD j 0 = l.getD j 0 := fun j hj => by rw [List.getD_eq_getElem?_getD, List.getElem?_take, if_pos hj, List.getD_eq_getElem?_getD]
    rw [bd_t e1, bd_t e3, nm_eq]
    dsimp only
    rw [e5]
    refine ⟨_, _, _, _, _, _, _, rfl, rfl, (n, m, b, g, l.take y), push P (n, m, b, g, l), ⟨hO2.1, hO2.2.1, hO2.2.2.1, hO2.2.2.2.1, hO2.2.2.2.2.1, by show (l.take y).length ≤ 16; omega, fun k hk => hO2.2.2.2.2.2.2 k (List.mem_of_mem_take hk)⟩, ⟨k0, k1, k2, k3, by show nI y = nI (l.take y).length; rw [hlen], k5, fun j hj => ?_⟩, ⟨?_, ?_, ?_, ?_, ?_, fun j hj => ?_, fun j hj => ?_⟩, push_len4 hP, rfl, rfl, e2, e4⟩
    · change j < (l.take y).length at hj
      rw [hlen] at hj
      show t.2.2.2.2.2.2 j = nI ((l.take y).getD j 0)
      rw [hget j hj]; exact k6 j (by omega)
    · rw [up_n (by omega), e6 _ (by omega)]; exact j0
    · rw [up_n (by omega), e6 _ (by omega)]; exact j1
    · rw [up_e, hlen]
    · rw [up_n (by omega), e6 _ (by omega)]; exact j3
    · rw [up_n (by omega), e6 _ (by omega)]; exact j4
    · change j < m.length at hj
      rw [up_n (by omega), e6 _ (by omega)]; exact j5 j hj
    · change j < (l.take y).length at hj
      rw [hlen] at hj
      show upd s' 2 (nI y) (25 + j) = nI ((l.take y).getD j 0)
      rw [up_n (by omega), e6 _ (by omega), hget j hj]; exact j6 j (by omega)
theorem x_call {t : TV} {hsz vp : Int32} {hh : Nat → TV} {s past : Nat → Int32} (h : Sx t hsz hh s vp past) (x y : Int32) : ∃ v bb sg hs' hh' vp' s' past', f_X10_call x y t.1 t.2.1 t.2.2.1 t.2.2.2.1 t.2.2.2.2.1 t.2.2.2.2.2.1 t.2.2.2.2.2.2 hsz hh = some (v, bb, sg, hs', hh') ∧ f_X11_call x y vp s past = some (v, vp', s', past') ∧ Sx (t.1, t.2.1, bb, sg, t.2.2.2.2.1, t.2.2.2.2.2.1, t.2.2.2.2.2.2) hs' hh' s' vp' past' := by
  obtain ⟨a, P, hO, hT, hS, hP, rfl, rfl, hX, hM⟩ := id h
  obtain ⟨n, m, b, g, l⟩ := a
  obtain ⟨k0, k1, k2, k3, k4, k5, k6⟩ := id hT
  obtain ⟨j0, j1, j2, j3, j4, j5, j6⟩ := id hS
  dsimp only at k0 k1 k2 k3 k4 k5 k6 j0 j1 j2 j3 j4 j5 j6
  have hO2 : OKs n m b g l := hO
  have hn := hO2.1
  have hl := hO2.2.2.2.2.2.1
  have hm := hO2.2.1
  unfold f_X10_call f_X11_call
  rw [wi_in]
  rcases (show f_X11_in x 1 2 = 0 ∨ (f_X11_in x 1 2 = 1 ∧ ∃ k, k < 2 ∧ x = nI (k + 1)) from in1 x (up := 2) (by omega)) with q | ⟨q, w, hw, rfl⟩
  · rw [q, if_pos (show (0 : Int32) = 0 from rfl), if_pos (show (0 : Int32) = 0 from rfl)]
    exact ⟨_, _, _, _, _, _, _, _, rfl, rfl, h⟩
  · rw [q, if_neg (show ¬ (1 : Int32) = 0 by decide), if_neg (show ¬ (1 : Int32) = 0 by decide)]
    obtain ⟨r, r1, r2, r3⟩ := right_any hn.1 hn.2 j0 y
    rw [k0, bd_t r1, bd_t r2]
    cases r with
    | false =>
      rw [if_pos (show nI (b1 false) = 0 by decide), if_pos (show nI (b1 false) = 0 by decide)]
      have : Sx (nI n, t.2.1, t.2.2.1, t.2.2.2.1, t.2.2.2.2.1, t.2.2.2.2.2.1, t.2.2.2.2.2.2) (nI P.length) hh s (nI P.length) past := by rw [← k0]; exact h
      exact ⟨_, _, _, _, _, _, _, _, rfl, rfl, this⟩
    | true =>
      obtain ⟨c, rfl, hc⟩ := r3 rfl
      obtain ⟨hh', e1, e2⟩ := p_record hP hX hO hT
      obtain ⟨past', e3, e4⟩ := m_changes hP hM hO hS
      rw [k0] at e1
      rw [if_neg (show ¬ nI (b1 true) = 0 by decide), if_neg (show ¬ nI (b1 true) = 0 by decide), bd_t e1, bd_t e3]
      dsimp only
      rw [show (2 : Int32) = nI 2 from rfl, nI_add, gd_t (n_inb (show 2 + (w + 1) < 41 by omega) (by decide)), nI_clamp (by omega), nm_eq]
      rcases (show w = 0 ∨ w = 1 by omega) with rfl | rfl
      · rw [if_pos (show nI (0 + 1) = 1 by decide), show 2 + (0 + 1) = 3 by decide, j3, k2]
        refine ⟨_, _, _, _, _, _, _, _, rfl, rfl, (n, m, c, g, l), push P (n, m, b, g, l), ⟨hO2.1, hO2.2.1, hO2.2.2.1, hc, hO2.2.2.2.2.1, hO2.2.2.2.2.2⟩, ⟨rfl, k1, rfl, k3, k4, k5, k6⟩, ⟨?_, ?_, ?_, ?_, ?_, fun j hj => ?_, fun j hj => ?_⟩, push_len4 hP, rfl, rfl, e2, e4⟩
        · rw [up_n (by omega)]; exact j0
        · rw [up_n (by omega)]; exact j1
        · rw [up_n (by omega)]; exact j2
        · rw [up_e]
        · rw [up_n (by omega)]; exact j4
        · rw [up_n (by omega)]; exact j5 j hj
        · rw [up_n (by omega)]; exact j6 j hj
      · rw [if_neg (show ¬ nI (1 + 1) = 1 by decide), show 2 + (1 + 1) = 4 by decide, j4, k3]
        refine ⟨_, _, _, _, _, _, _, _, rfl, rfl, (n, m, b, c, l), push P (n, m, b, g, l), ⟨hO2.1, hO2.2.1, hO2.2.2.1, hO2.2.2.2.1, hc, hO2.2.2.2.2.2⟩, ⟨rfl, k1, k2, rfl, k4, k5, k6⟩, ⟨?_, ?_, ?_, ?_, ?_, fun j hj => ?_, fun j hj => ?_⟩, push_len4 hP, rfl, rfl, e2, e4⟩
        · rw [up_n (by omega)]; exact j0
        · rw [up_n (by omega)]; exact j1
        · rw [up_n (by omega)]; exact j2
        · rw [up_n (by omega)]; exact j3
        · rw [up_e]
        · rw [up_n (by omega)]; exact j5 j hj
        · rw [up_n (by omega)]; exact j6 j hj
def Kp (hsn vk : Int32) (snap : TV) (kept : Nat → Int32) : Prop := ∃ kf : Bool, hsn = nI (b1 kf) ∧ vk = nI (b1 kf) ∧ (kf = true → ∃ a, OKa a ∧ TRa a snap ∧ SRa a kept)
theorem x_save {t snap : TV} {hsz vp hsn vk : Int32} {hh : Nat → TV} {s past kept : Nat → Int32} (h : Sx t hsz hh s vp past) : ∃ v h' snap' vk' kept', f_X10_save hsn t.1 t.2.1 t.2.2.1 t.2.2.2.1 t.2.2.2.2.1 t.2.2.2.2.2.1 t.2.2.2.2.2.2 snap.1 snap.2.1 snap.2.2.1 snap.2.2.2.1 snap.2.2.2.2.1 snap.2.2.2.2.2.1 snap.2.2.2.2.2.2 = (v, h', snap'.1, snap'.2.1, snap'.2.2.1, snap'.2.2.2.1, snap'.2.2.2.2.1, snap'.2.2.2.2.2.1, snap'.2.2.2.2.2.2) ∧ f_X11_save vk s kept = some (v, vk', kept') ∧ Kp h' vk' snap' kept' := by
  obtain ⟨a, P, hO, hT, hS, -, -, -, -, -⟩ := id h
  have L : ∀ (k : Int32 → (Nat → Int32) → Option (Int32 × Int32 × (Nat → Int32))) (v1 : Int32) (d j M : Nat) (kp : Nat → Int32), j + d = 41 → (∀ q, q < j → kp q = s q) → d < M → ∃ kp', f_X11_save_L7 k v1 s M (nI j) kp = k (nI 41) kp' ∧ ∀ q, q < 41 → kp' q = s q := by
    intro k v1 d
    induction d with
    | zero =>
      intro j M kp hj hk hM
      obtain ⟨M, rfl⟩ : ∃ k, M = k + 1 := ⟨M - 1, by omega⟩
      obtain rfl : j = 41 := by omega
      exact ⟨kp, by rw [f_X11_save_L7, if_pos (by decide)], hk⟩
    | succ d ih =>
      intro j M kp hj hk hM
      obtain ⟨M, rfl⟩ : ∃ k, M = k + 1 := ⟨M - 1, by omega⟩
      obtain ⟨kp', e1, e2⟩ := ih (j + 1) M (upd kp j (s j)) (by omega) (fun q hq => by
        by_cases c : q = j
        · rw [c, up_e]
        · rw [up_n c]; exact hk q (by omega)) (by omega)
      refine ⟨kp', ?_, e2⟩
      rw [f_X11_save_L7, if_neg (show ¬ (41 : Int32) ≤ nI j from @nI_ge j 41 (by omega) (by decide)), gd_t (n_inb (show j < 41 by omega) (by decide)), nI_clamp (by omega), nI_1]
      exact e1
  obtain ⟨kp', e1, e2⟩ := L (fun y3 y4 => some (s (2 : Int32).toNatClampNeg, 1, y4)) 1 41 0 fu kept (by omega) (fun q hq => by omega) (by show 41 < 8192; omega)
  refine ⟨t.2.2.2.2.1, 1, f_X9_become snap.1 snap.2.1 snap.2.2.1 snap.2.2.2.1 snap.2.2.2.2.1 snap.2.2.2.2.2.1 snap.2.2.2.2.2.2 t.1 t.2.1 t.2.2.1 t.2.2.2.1 t.2.2.2.2.1 t.2.2.2.2.2.1 t.2.2.2.2.2.2, 1, kp', rfl, ?_, true, rfl, rfl, fun _ => ⟨a, hO, hT.bec hO .., hS.congr hO e2⟩⟩
  unfold f_X11_save
  refine e1.trans ?_
  rw [show s (2 : Int32).toNatClampNeg = t.2.2.2.2.1 from hS.2.2.1.trans hT.2.2.2.2.1.symm]
theorem x_restore {t snap : TV} {hsz vp hsn vk : Int32} {hh : Nat → TV} {s past kept : Nat → Int32} (h : Sx t hsz hh s vp past) (hK : Kp hsn vk snap kept) : ∃ v t' hs' hh' vp' s' past', f_X10_restore hsn t.1 t.2.1 t.2.2.1 t.2.2.2.1 t.2.2.2.2.1 t.2.2.2.2.2.1 t.2.2.2.2.2.2 snap.1 snap.2.1 snap.2.2.1 snap.2.2.2.1 snap.2.2.2.2.1 snap.2.2.2.2.2.1 snap.2.2.2.2.2.2 hsz hh = some (v, t'.1, t'.2.1, t'.2.2.1, t'.2.2.2.1, t'.2.2.2.2.1, t'.2.2.2.2.2.1, t'.2.2.2.2.2.2, hs', hh') ∧ f_X11_restore vk vp s past kept = some (v, vp', s', past') ∧ Sx t' hs' hh' s' vp' past' := by
  obtain ⟨a, P, hO, hT, hS, hP, rfl, rfl, hX, hM⟩ := id h
  obtain ⟨kf, rfl, rfl, hk⟩ := hK
  unfold f_X10_restore f_X11_restore
  cases kf with
  | false =>
    rw [if_pos (show nI (b1 false) = 0 by decide), if_pos (show nI (b1 false) = 0 by decide)]
    exact ⟨_, t, _, _, _, _, _, rfl, rfl, h⟩
  | true =>
    obtain ⟨a2, hO2, hT2, hS2⟩ := hk rfl
    obtain ⟨hh', e1, e2⟩ := p_record hP hX hO hT
    obtain ⟨past', e3, e4⟩ := m_changes hP hM hO hS
    have L : ∀ (k : Int32 → (Nat → Int32) → Option (Int32 × Int32 × (Nat → Int32) × (Nat → Int32))) (v1 v2 : Int32) (pq : Nat → Int32) (d j M : Nat) (s : Nat → Int32), j + d = 41 → (∀ q, q < j → s q = kept q) → d < M → ∃ s', f_X11_restore_L16 k v1 v2 pq kept M (nI j) s = k (nI 41) s' ∧ ∀ q, q < 41 → s' q = kept q := by
      intro k v1 v2 pq d
      induction d with
      | zero =>
        intro j M s hj hk hM
        obtain ⟨M, rfl⟩ : ∃ k, M = k + 1 := ⟨M - 1, by omega⟩
        obtain rfl : j = 41 := by omega
        exact ⟨s, by rw [f_X11_restore_L16, if_pos (by decide)], hk⟩
      | succ d ih =>
        intro j M s hj hk hM
        obtain ⟨M, rfl⟩ : ∃ k, M = k + 1 := ⟨M - 1, by omega⟩
        obtain ⟨s', e1, e2⟩ := ih (j + 1) M (upd s j (kept j)) (by omega) (fun q hq => by
          by_cases c : q = j
          · rw [c, up_e]
          · rw [up_n c]; exact hk q (by omega)) (by omega)
        refine ⟨s', ?_, e2⟩
        rw [f_X11_restore_L16, if_neg (show ¬ (41 : Int32) ≤ nI j from @nI_ge j 41 (by omega) (by decide)), gd_t (n_inb (show j < 41 by omega) (by decide)), nI_clamp (by omega), nI_1]
        exact e1
    obtain ⟨s', e5, e6⟩ := L (fun y6 y7 => some (y7 (2 : Int32).toNatClampNeg, nI (push P a).length, y7, past')) (nI (b1 true)) (nI (push P a).length) past' 41 0 fu s (by omega) (fun q hq => by omega) (by show 41 < 8192; omega)
    rw [if_neg (show ¬ nI (b1 true) = 0 by decide), if_neg (show ¬ nI (b1 true) = 0 by decide), bd_t e1, bd_t e3]
    have hS3 := hS2.congr hO2 e6
    refine ⟨snap.2.2.2.2.1, f_X9_become t.1 t.2.1 t.2.2.1 t.2.2.2.1 t.2.2.2.2.1 t.2.2.2.2.2.1 t.2.2.2.2.2.2 snap.1 snap.2.1 snap.2.2.1 snap.2.2.2.1 snap.2.2.2.2.1 snap.2.2.2.2.2.1 snap.2.2.2.2.2.2, _, _, _, _, _, rfl, e5.trans ?_, a2, push P a, hO2, hT2.bec hO2 .., hS3, push_len4 hP, rfl, rfl, e2, e4⟩
    rw [show s' (2 : Int32).toNatClampNeg = snap.2.2.2.2.1 from hS3.2.2.1.trans hT2.2.2.2.2.1.symm]
def Pd (pl ty : Int32) (ps mp : Nat → Int32) : Prop := ∃ (N : Nat) (tx : Nat → Nat), N ≤ 80 ∧ pl = nI N ∧ ty = nI N ∧ ∀ i, i < N → ps i = nI (tx i) ∧ mp i = nI (tx i) ∧ tx i < 65536
theorem nar_c : ∀ c, c < 127 → vp_nar .char (((nI c).toUInt32 % 65536).toInt32) = nI c := by decide +kernel
theorem x_append {pl ty : Int32} {ps mp : Nat → Int32} (h : Pd pl ty ps mp) (x : Int32) : ∃ v pl' ps' ty' mp', f_X10_append x pl ps = some (v, pl', ps') ∧ f_X11_append x ty mp = some (v, ty', mp') ∧ Pd pl' ty' ps' mp' := by
  obtain ⟨N, tx, hN, rfl, rfl, ht⟩ := id h
  unfold f_X10_append f_X11_append
  rw [wi_in]
  by_cases c0 : f_X11_in x 33 126 = 0
  · rw [if_pos c0, if_pos c0]
    exact ⟨_, _, _, _, _, rfl, rfl, h⟩
  · rw [if_neg c0, if_neg c0]
    have hx : ∃ c, c < 127 ∧ x = nI c := by
      unfold f_X11_in at c0
      by_cases w : x < 33
      · exact absurd (if_pos w) c0
      · rw [if_neg w] at c0
        obtain ⟨c, hc, rfl⟩ := nI_of (x := x) (fun q => w (Int32.lt_trans q (by decide)))
        by_cases w2 : 126 < nI c
        · exact absurd (if_pos w2) c0
        · refine ⟨c, ?_, rfl⟩
          rcases Nat.lt_or_ge c 127 with q | q
          · exact q
          · exact absurd (show 126 < nI c from @nI_lt 126 c (by omega) hc) w2
    obtain ⟨c, hc, rfl⟩ := hx
    by_cases c1 : N = 80
    · subst c1
      rw [if_neg (show ¬ nI 80 < 80 by decide), if_pos (show nI 80 = 80 by decide)]
      exact ⟨_, _, _, _, _, rfl, rfl, h⟩
    · have e0 : f_X3_put (((nI c).toUInt32 % 65536).toInt32) (nI N) ps = some (nI (N + 1), upd ps N (nI c)) := by
        unfold f_X3_put
        rw [if_neg (nI_pos (by omega)), if_neg (show ¬ (80 : Int32) ≤ nI N from @nI_ge N 80 (by omega) (by decide)), gd_t (n_inb (by omega) (by decide)), nI_clamp (by omega), nI_1, nm_eq, nar_c c hc]
      rw [if_pos (show nI N < 80 from @nI_lt N 80 (by omega) (by decide)), bd_t e0, if_neg (show ¬ nI N = 80 from fun q => c1 ((nI_eq (b := 80) (by omega) (by decide)).mp q)), gd_t (n_inb (show N < 80 by omega) (by decide)), nI_clamp (by omega), nI_1, nm_eq]
      refine ⟨_, _, _, _, _, rfl, rfl, N + 1, fun i => if i = N then c else tx i, by omega, rfl, rfl, fun i hi => ?_⟩
      dsimp only
      by_cases w : i = N
      · rw [w, up_e, up_e, if_pos rfl]; exact ⟨rfl, rfl, by omega⟩
      · rw [up_n w, up_n w, if_neg w]; exact ht i (by omega)
