/-! ===== touch, both ===== -/
theorem x_touch {t : TV} {hsz vp pl ty : Int32} {hh : Nat → TV} {s past ps mp : Nat → Int32} (h : Sx t hsz hh s vp past) (hp : Pd pl ty ps mp) : ∃ v ld kc hs' hh' pl' vp' ty' s' past', f_X10_touch t.1 t.2.1 t.2.2.1 t.2.2.2.1 t.2.2.2.2.1 t.2.2.2.2.2.1 t.2.2.2.2.2.2 hsz hh pl ps = some (v, ld, kc, hs', hh', pl') ∧ f_X11_touch vp ty s past mp = some (v, vp', ty', s', past') ∧ Sx (t.1, t.2.1, t.2.2.1, t.2.2.2.1, ld, t.2.2.2.2.2.1, kc) hs' hh' s' vp' past' ∧ Pd pl' ty' ps mp := by
  obtain ⟨a, P, hO, hT, hS, hP, rfl, rfl, hX, hM⟩ := id h
  obtain ⟨n, m, b, g, l⟩ := a
  obtain ⟨k0, k1, k2, k3, k4, k5, k6⟩ := id hT
  obtain ⟨j0, j1, j2, j3, j4, j5, j6⟩ := id hS
  dsimp only at k0 k1 k2 k3 k4 k5 k6 j0 j1 j2 j3 j4 j5 j6
  have hO2 : OKs n m b g l := hO
  have hm := hO2.2.1
  obtain ⟨N, tx, hN, rfl, rfl, ht⟩ := id hp
  obtain ⟨v, e⟩ := tf_some (N := N) (tx := tx)
  unfold f_X10_touch f_X11_touch
  rw [p_faultAsTouch hN (fun i hi => (ht i hi).1), m_touchFault hN (fun i hi => (ht i hi).2.1), e, bd_t rfl, bd_t rfl]
  by_cases c : v = -4
  · rw [if_pos c, if_pos c]
    subst c
    obtain ⟨hN1, hN2, hkd⟩ := tf_ok hN (fun i hi => (ht i hi).2.2) e
    obtain ⟨hh', e5, e6⟩ := p_record hP hX hO hT
    obtain ⟨past', e7, e8⟩ := m_changes hP hM hO hS
    have L1 : ∀ (k : Int32 → Int32 → (Nat → Int32) → Option (Int32 × Int32 × (Nat → Int32) × Int32 × (Nat → TV) × Int32)) (d j M : Nat) (kc : Nat → Int32), j + d = N → (∀ q, q < j → kc q = nI (kN (tx q))) → d < M → ∃ kc', f_X10_touch_L36 k t.1 t.2.1 t.2.2.1 t.2.2.2.1 t.2.2.2.2.2.1 (nI (push P (n, m, b, g, l)).length) hh' (nI N) ps M (nI j) (nI j) kc = k (nI N) (nI N) kc' ∧ ∀ q, q < N → kc' q = nI (kN (tx q)) := by
      intro k d
      induction d with
      | zero =>
        intro j M kc hj h1 hM
        obtain ⟨M, rfl⟩ : ∃ k, M = k + 1 := ⟨M - 1, by omega⟩
        obtain rfl : j = N := by omega
        exact ⟨kc, by rw [f_X10_touch_L36, if_pos (nI_le (by omega) (by omega))], h1⟩
      | succ d ih =>
        intro j M kc hj h1 hM
        obtain ⟨M, rfl⟩ : ∃ k, M = k + 1 := ⟨M - 1, by omega⟩
        obtain ⟨kc', f1, f2⟩ := ih (j + 1) M (upd kc j (nI (kN (tx j)))) (by omega) (fun q hq => by
          by_cases z : q = j
          · rw [z, up_e]
          · rw [up_n z]; exact h1 q (by omega)) (by omega)
        have e0 : f_X9_addLead (nI (kN (tx j))) (nI j) kc = some (nI (j + 1), upd kc j (nI (kN (tx j)))) := by
          unfold f_X9_addLead
          rw [if_neg (nI_pos (by omega)), if_neg (show ¬ (17 : Int32) ≤ nI j from @nI_ge j 17 (by omega) (by decide)), gd_t (n_inb (by omega) (by decide)), nI_clamp (by omega), nI_1, nm_eq]
        refine ⟨kc', ?_, f2⟩
        rw [f_X10_touch_L36, if_neg (nI_ge (by omega) (by omega)), if_neg (show ¬ (80 : Int32) ≤ nI j from @nI_ge j 80 (by omega) (by decide)), gd_t (n_inb (by omega) (by decide)), nI_clamp (by omega), (ht j (by omega)).1, kd_eq, hkd j (by omega), bd_t e0, nI_1]
        exact f1
    obtain ⟨kc', f1, f2⟩ := L1 (fun y12 y13 y14 => some (y13, y13, y14, nI (push P (n, m, b, g, l)).length, hh', 0)) N 0 fu t.2.2.2.2.2.2 (by omega) (fun q hq => by omega) (by show N < 8192; omega)
    have L2 : ∀ (k : Int32 → (Nat → Int32) → Option (Int32 × Int32 × Int32 × (Nat → Int32) × (Nat → Int32))) (v1 : Int32) (pq : Nat → Int32) (d j M : Nat) (s : Nat → Int32), j + d = 16 → (∀ q, q < j → q < N → s (25 + q) = nI (kN (tx q))) → d < M → ∃ s', f_X11_touch_L18 k v1 (nI N) pq mp M (nI j) s = k (nI 16) s' ∧ (∀ q, q < N → s' (25 + q) = nI (kN (tx q))) ∧ ∀ q, q < 25 → s' q = s q := by
      intro k v1 pq d
      induction d with
      | zero =>
        intro j M s hj h1 hM
        obtain ⟨M, rfl⟩ : ∃ k, M = k + 1 := ⟨M - 1, by omega⟩
        obtain rfl : j = 16 := by omega
        exact ⟨s, by rw [f_X11_touch_L18, if_pos (by decide)], fun q hq => h1 q (by omega) hq, fun _ _ => rfl⟩
      | succ d ih =>
        intro j M s hj h1 hM
        obtain ⟨M, rfl⟩ : ∃ k, M = k + 1 := ⟨M - 1, by omega⟩
        rw [f_X11_touch_L18, if_neg (show ¬ (16 : Int32) ≤ nI j from @nI_ge j 16 (by omega) (by decide)), show (25 : Int32) = nI 25 from rfl, nI_add, gd_t (n_inb (show 25 + j < 41 by omega) (by decide)), nI_clamp (by omega), gd_t (n_inb (show j < 80 by omega) (by decide)), gd_t (n_inb (show 25 + j < 41 by omega) (by decide)), nI_clamp (by omega), nI_1]
        by_cases w : N ≤ j
        · obtain ⟨s', f1, f2, f3⟩ := ih (j + 1) M (upd s (25 + j) 0) (by omega) (fun q hq hq2 => by rw [up_n (by omega)]; exact h1 q (by omega) hq2) (by omega)
          rw [if_pos (nI_le w (by omega))]
          exact ⟨s', f1, f2, fun q hq => by rw [f3 q hq, up_n (by omega)]⟩
        · obtain ⟨s', f1, f2, f3⟩ := ih (j + 1) M (upd s (25 + j) (nI (kN (tx j)))) (by omega) (fun q hq hq2 => by
            by_cases z : q = j
            · rw [z, up_e]
            · rw [up_n (by omega)]; exact h1 q (by omega) hq2) (by omega)
          rw [if_neg (nI_ge (by omega) (by omega)), (ht j (by omega)).2.1, hkd j (by omega)]
          exact ⟨s', f1, f2, fun q hq => by rw [f3 q hq, up_n (by omega)]⟩
    obtain ⟨s', g1, g2, g3⟩ := L2 (fun y11 y12 => some (((upd y12 2 (nI N)) 2), nI (push P (n, m, b, g, l)).length, 0, (upd y12 2 (nI N)), past')) (nI (push P (n, m, b, g, l)).length) past' 16 0 fu s (by omega) (fun q hq => by omega) (by show 16 < 8192; omega)
    rw [bd_t e5, bd_t e7]
    dsimp only
    rw [show (2 : Int32).toNatClampNeg = 2 from rfl]
    have hlen : ((List.range N).map (fun q => kN (tx q))).length = N := by simp
    have hget : ∀ j, j < N → ((List.range N).map (fun q => kN (tx q))).getD j 0 = kN (tx j) := fun j hj => by simp [List.getD_eq_getElem?_getD, hj]
    rw [up_e] at g1
    refine ⟨_, _, _, _, _, _, _, _, _, _, f1, g1, ⟨(n, m, b, g, (List.range N).map (fun q => kN (tx q))), push P (n, m, b, g, l), ⟨hO2.1, hO2.2.1, hO2.2.2.1, hO2.2.2.2.1, hO2.2.2.2.2.1, by show ((List.range N).map (fun q => kN (tx q))).length ≤ 16; omega, fun k hk => ?_⟩, ⟨k0, k1, k2, k3, by show nI N = nI ((List.range N).map (fun q => kN (tx q))).length; rw [hlen], k5, fun j hj => ?_⟩, ⟨?_, ?_, ?_, ?_, ?_, fun j hj => ?_, fun j hj => ?_⟩, push_len4 hP, rfl, rfl, e6, e8⟩, ⟨0, tx, by omega, rfl, rfl, fun i hi => absurd hi (by omega)⟩⟩
    · obtain ⟨q, -, rfl⟩ := List.mem_map.mp hk
      exact kN_le _
    · change j < ((List.range N).map (fun q => kN (tx q))).length at hj
      rw [hlen] at hj
      show kc' j = nI (((List.range N).map (fun q => kN (tx q))).getD j 0)
      rw [hget j hj]; exact f2 j hj
    · rw [up_n (by omega), g3 _ (by omega)]; exact j0
    · rw [up_n (by omega), g3 _ (by omega)]; exact j1
    · rw [up_e, hlen]
    · rw [up_n (by omega), g3 _ (by omega)]; exact j3
    · rw [up_n (by omega), g3 _ (by omega)]; exact j4
    · change j < m.length at hj
      rw [up_n (by omega), g3 _ (by omega)]; exact j5 j hj
    · change j < ((List.range N).map (fun q => kN (tx q))).length at hj
      rw [hlen] at hj
      show upd s' 2 (nI N) (25 + j) = nI (((List.range N).map (fun q => kN (tx q))).getD j 0)
      rw [up_n (by omega), hget j hj]; exact g2 j hj
  · rw [if_neg c, if_neg c]
    exact ⟨_, _, _, _, _, _, _, _, _, _, rfl, rfl, h, hp⟩
