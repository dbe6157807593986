/-! ===== method, touch, both ===== -/
theorem rd_ok {n : Nat} {tx : Nat → Nat} (hn : n ≤ 7) : ∀ (d i : Nat) (s : RS) (C : List Nat), RI n s → rd n tx d i s = .inr C → 1 ≤ C.length ∧ C.length ≤ 20 ∧ ∀ c ∈ C, okc n c
  | 0, i, s, C, h, e => by
    rw [rd] at e
    by_cases c : cmpl n s.2.1 s.2.2.2 = true
    · rw [if_pos c] at e
      have e2 : s.1 ++ [s.2.1] = C := Sum.inr.inj e
      subst e2
      have := h.1
      exact ⟨by simp, by simp; omega, okc_app h.2.1 (h.done hn c)⟩
    · rw [if_neg c] at e; exact absurd e (by simp)
  | d + 1, i, s, C, h, e => by
    rw [rd] at e
    cases q : rac n (tx i) s with
    | none => rw [q] at e; exact absurd e (by simp)
    | some s' => rw [q] at e; exact rd_ok hn d (i + 1) s' C (h.step hn q) e
theorem x_method {t : TV} {hsz vp pl ty : Int32} {hh : Nat → TV} {s past ps mp : Nat → Int32} (h : Sx t hsz hh s vp past) (hp : Pd pl ty ps mp) (rc rm rl rx vm vs : Int32) (rp rv : Nat → Int32) : ∃ v ch pc hs' hh' pl' q1 q2 q3 q4 q5 vp' ty' p1 p2 s' past' p3, f_X10_method t.1 t.2.1 t.2.2.1 t.2.2.2.1 t.2.2.2.2.1 t.2.2.2.2.2.1 t.2.2.2.2.2.2 hsz hh pl ps rc rm rl rx rp = some (v, ch, pc, hs', hh', pl', q1, q2, q3, q4, q5) ∧ f_X11_method vp ty vm vs s past mp rv = some (v, vp', ty', p1, p2, s', past', p3) ∧ Sx (t.1, ch, t.2.2.1, t.2.2.2.1, t.2.2.2.2.1, pc, t.2.2.2.2.2.2) hs' hh' s' vp' past' ∧ Pd pl' ty' ps mp := by
  obtain ⟨a, P, hO, hT, hS, hP, rfl, rfl, hX, hM⟩ := id h
  obtain ⟨n, m, b, g, l⟩ := a
  obtain ⟨k0, k1, k2, k3, k4, k5, k6⟩ := id hT
  obtain ⟨j0, j1, j2, j3, j4, j5, j6⟩ := id hS
  dsimp only at k0 k1 k2 k3 k4 k5 k6 j0 j1 j2 j3 j4 j5 j6
  have hO2 : OKs n m b g l := hO
  have hn := hO2.1
  have hl := hO2.2.2.2.2.2.1
  obtain ⟨N, tx, hN, rfl, rfl, ht⟩ := id hp
  obtain ⟨v, vo, a1, b1', e, f', e1, e2⟩ := p_read (np := 80) hn.1 hn.2 hN (by omega) (fun i hi => ⟨(ht i hi).1, (ht i hi).2.2⟩) rc rm rl rx rp
  obtain ⟨w, many, spot, r', e3, e4⟩ := m_methodFault hn.1 hn.2 j0 hN (fun i hi => (ht i hi).2) vm vs rv
  have hvw := RRes_eq e2 e4
  subst hvw
  unfold f_X10_method f_X11_method
  rw [k0, bd_t e1, bd_t e3]
  dsimp only
  by_cases c : v = -4
  · rw [if_pos c, if_pos c]
    cases hr : rd n tx N 0 ([], 0, 0, false) with
    | inl i =>
      rw [hr] at e2
      exact absurd (c.symm.trans e2).symm (nI_n4 (by
        have : ∀ (d i : Nat) (s : RS) (k : Nat), rd n tx d i s = .inl k → k ≤ i + d := by
          intro d
          induction d with
          | zero =>
            intro i s k hk
            rw [rd] at hk
            by_cases w : cmpl n s.2.1 s.2.2.2 = true
            · rw [if_pos w] at hk; exact absurd hk (by simp)
            · rw [if_neg w] at hk; have := Sum.inl.inj hk; omega
          | succ d ih =>
            intro i s k hk
            rw [rd] at hk
            cases q : rac n (tx i) s with
            | none => rw [q] at hk; have := Sum.inl.inj hk; omega
            | some s' => rw [q] at hk; have := ih (i + 1) s' k hk; omega
        have := this _ _ _ _ hr
        omega))
    | inr C =>
      rw [hr] at e2 e4
      obtain ⟨hC1, hC2, hC3⟩ := rd_ok hn.2 _ _ _ _ (RI.beg (by decide) (fun c hc => by cases hc)) hr
      obtain ⟨-, g1, g2⟩ := e2
      obtain ⟨-, g3, g4⟩ := e4
      subst g1; subst g3
      obtain ⟨hh', e5, e6⟩ := p_record hP hX hO hT
      obtain ⟨past', e7, e8⟩ := m_changes hP hM hO hS
      rw [k0] at e5
      have L : ∀ (k : Int32 → (Nat → Int32) → Option (Int32 × Int32 × Int32 × Int32 × Int32 × (Nat → Int32) × (Nat → Int32) × (Nat → Int32))) (v1 v2 v3 : Int32) (pq mq : Nat → Int32) (d j M : Nat) (s : Nat → Int32), j + d = 20 → (∀ q, q < j → q < C.length → s (5 + q) = r' q) → d < M → ∃ s', f_X11_method_L28 k v1 v2 (nI C.length) v3 pq mq r' M (nI j) s = k (nI 20) s' ∧ (∀ q, q < C.length → s' (5 + q) = r' q) ∧ ∀ q, q < 5 ∨ 25 ≤ q → s' q = s q := by
        intro k v1 v2 v3 pq mq d
        induction d with
        | zero =>
          intro j M s hj h1 hM
          obtain ⟨M, rfl⟩ : ∃ k, M = k + 1 := ⟨M - 1, by omega⟩
          obtain rfl : j = 20 := by omega
          exact ⟨s, by rw [f_X11_method_L28, if_pos (by decide)], fun q hq => h1 q (by omega) hq, fun _ _ => rfl⟩
        | succ d ih =>
          intro j M s hj h1 hM
          obtain ⟨M, rfl⟩ : ∃ k, M = k + 1 := ⟨M - 1, by omega⟩
          rw [f_X11_method_L28, if_neg (show ¬ (20 : Int32) ≤ nI j from @nI_ge j 20 (by omega) (by decide)), show (5 : Int32) = nI 5 from rfl, nI_add, gd_t (n_inb (show 5 + j < 41 by omega) (by decide)), nI_clamp (by omega), gd_t (n_inb (show j < 21 by omega) (by decide)), gd_t (n_inb (show 5 + j < 41 by omega) (by decide)), nI_clamp (by omega), nI_1]
          by_cases w : C.length ≤ j
          · obtain ⟨s', f1, f2, f3⟩ := ih (j + 1) M (upd s (5 + j) 0) (by omega) (fun q hq hq2 => by rw [up_n (by omega)]; exact h1 q (by omega) hq2) (by omega)
            rw [if_pos (nI_le w (by omega))]
            exact ⟨s', f1, f2, fun q hq => by rw [f3 q hq, up_n (by omega)]⟩
          · obtain ⟨s', f1, f2, f3⟩ := ih (j + 1) M (upd s (5 + j) (r' j)) (by omega) (fun q hq hq2 => by
              by_cases z : q = j
              · rw [z, up_e]
              · rw [up_n (by omega)]; exact h1 q (by omega) hq2) (by omega)
            rw [if_neg (nI_ge (by omega) (by omega))]
            exact ⟨s', f1, f2, fun q hq => by rw [f3 q hq, up_n (by omega)]⟩
      obtain ⟨s', f1, f2, f3⟩ := L (fun y11 y12 => some (nI C.length, nI (push P (n, m, b, g, l)).length, 0, nI C.length, spot, y12, past', r')) (nI (push P (n, m, b, g, l)).length) (nI N) spot past' mp 20 0 fu (upd s 1 (nI C.length)) (by omega) (fun q hq => by omega) (by show 20 < 8192; omega)
      rw [bd_t e5, bd_t e7]
      dsimp only
      unfold f_X9_takeMethod
      dsimp only
      rw [show (0 : Int32).toNatClampNeg = 0 from rfl, show (20 : Int32).toNatClampNeg = 20 from rfl, show (1 : Int32).toNatClampNeg = 1 from rfl]
      refine ⟨_, _, _, _, _, _, _, _, _, _, _, _, _, _, _, _, _, _, rfl, f1, ⟨(n, C, b, g, l), push P (n, m, b, g, l), ⟨hn, ⟨hC1, hC2⟩, hC3, hO2.2.2.2⟩, ⟨rfl, rfl, k2, k3, k4, fun j hj => ?_, k6⟩, ⟨?_, ?_, ?_, ?_, ?_, fun j hj => ?_, fun j hj => ?_⟩, push_len4 hP, rfl, rfl, e6, e8⟩, ⟨0, tx, by omega, rfl, rfl, fun i hi => absurd hi (by omega)⟩⟩
      · change j < C.length at hj
        show va_cpy f' _ 0 0 20 j = _
        rw [cpy_at (by omega)]; exact g2 j hj
      · rw [f3 _ (by omega), up_n (by omega)]; exact j0
      · rw [f3 _ (by omega), up_e]
      · rw [f3 _ (by omega), up_n (by omega)]; exact j2
      · rw [f3 _ (by omega), up_n (by omega)]; exact j3
      · rw [f3 _ (by omega), up_n (by omega)]; exact j4
      · change j < C.length at hj
        rw [f2 j hj]; exact g4 j hj
      · rw [f3 _ (by omega), up_n (by omega)]; exact j6 j hj
  · rw [if_neg c, if_neg c]
    have : Sx (nI n, t.2.1, t.2.2.1, t.2.2.2.1, t.2.2.2.2.1, t.2.2.2.2.2.1, t.2.2.2.2.2.2) (nI P.length) hh s (nI P.length) past := by rw [← k0]; exact h
    exact ⟨_, _, _, _, _, _, _, _, _, _, _, _, _, _, _, _, _, _, rfl, rfl, this, hp⟩
