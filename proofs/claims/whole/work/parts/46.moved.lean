/-! ===== the model's leads; the row behind a lead, the row ahead of it ===== -/
theorem m_takes13 {n : Nat} {m : List Nat} {b g : Nat} {l : List Nat} {s : Nat → Int32} (h : OKs n m b g l) (hs : SR n m b g l s) {kd : Nat} (hkd : kd ≤ 2) (k : Int32 → (Nat → Int32) → Option ((Nat → Int32) × (Nat → Int32))) (ld : Nat → Int32) :
    ∀ (d j M : Nat) (Z : List Nat) (ce : Nat → Int32), j + d = m.length → isRow n Z → isCell n Z ce → d < M → ∃ c', f_X11_takesLeads_L13 k (nI kd) s ld M (nI j) ce = k (nI m.length) c' ∧ isCell n (run Z ((lc m b g kd).drop j)) c'
  | 0, j, M, Z, ce, hj, hZ, hce, hM => by
    obtain ⟨M, rfl⟩ : ∃ k, M = k + 1 := ⟨M - 1, by omega⟩
    have := h.2.1.2
    have hl := lc_len (m := m) (b := b) (g := g) (k := kd) h.2.1.1
    refine ⟨ce, ?_, by rw [List.drop_eq_nil_of_le (by omega)]; exact hce⟩
    rw [f_X11_takesLeads_L13, show (1 : Int32).toNatClampNeg = 1 from rfl, hs.2.1, if_pos (nI_le (by omega) (by omega)), show j = m.length by omega]
  | d + 1, j, M, Z, ce, hj, hZ, hce, hM => by
    obtain ⟨M, rfl⟩ : ∃ k, M = k + 1 := ⟨M - 1, by omega⟩
    obtain ⟨⟨hn4, hn⟩, ⟨hm1, hm⟩, hmo, hbo, hgo, -, -⟩ := id h
    have hl := lc_len (m := m) (b := b) (g := g) (k := kd) hm1
    have hc := lc_ok (k := kd) hmo hbo hgo _ (getD_mem (l := lc m b g kd) (j := j) (by omega))
    obtain ⟨c1, e1, e2⟩ := m_rings hZ hn hs.1 (by have := hc.1; omega) hce hc.2.2
    obtain ⟨c2, e3, e4⟩ := m_takes13 h hs hkd k ld d (j + 1) M _ c1 (by omega) hZ.cg e2 (by omega)
    refine ⟨c2, ?_, by rw [drop_cons (show j < (lc m b g kd).length by omega), run_cons]; exact e4⟩
    rw [f_X11_takesLeads_L13, show (1 : Int32).toNatClampNeg = 1 from rfl, hs.2.1, if_neg (nI_ge (by omega) (by omega)), bd_t (m_changeOf hs hm1 hm hkd (by omega)), bd_t e1, nI_1]
    exact e3
theorem m_takes41 {n kd : Nat} {Z : List Nat} {s ce : Nat → Int32} (hn : n ≤ 7) (hs : s 0 = nI n) (hce : isCell n Z ce) (hkd : kd ≤ 2) (k : Int32 → (Nat → Int32) → Option ((Nat → Int32) × (Nat → Int32))) :
    ∀ (d j M : Nat) (ld : Nat → Int32), j + d = n → (∀ p, p < j → ld (7 * kd + p) = nI (Z.getD p 0)) → d < M → ∃ ld', f_X11_takesLeads_L41 k (nI kd) s ce M (nI j) ld = k (nI n) ld' ∧ (∀ p, p < n → ld' (7 * kd + p) = nI (Z.getD p 0)) ∧ ∀ q, q < 7 * kd → ld' q = ld q
  | 0, j, M, ld, hj, hld, hM => by
    obtain ⟨M, rfl⟩ : ∃ k, M = k + 1 := ⟨M - 1, by omega⟩
    refine ⟨ld, ?_, fun p hp => hld p (by omega), fun _ _ => rfl⟩
    rw [f_X11_takesLeads_L41, show (0 : Int32).toNatClampNeg = 0 from rfl, hs, if_pos (nI_le (by omega) (by omega)), show j = n by omega]
  | d + 1, j, M, ld, hj, hld, hM => by
    obtain ⟨M, rfl⟩ : ∃ k, M = k + 1 := ⟨M - 1, by omega⟩
    obtain ⟨ld', e1, e2, e3⟩ := m_takes41 hn hs hce hkd k d (j + 1) M (upd ld (7 * kd + j) (nI (Z.getD j 0))) (by omega) (fun p hp => by
      unfold upd
      by_cases c : p = j
      · rw [if_pos (by omega), c]
      · rw [if_neg (by omega)]; exact hld p (by omega)) (by omega)
    refine ⟨ld', ?_, e2, fun q hq => by rw [e3 q hq]; unfold upd; rw [if_neg (by omega)]⟩
    rw [f_X11_takesLeads_L41, show (0 : Int32).toNatClampNeg = 0 from rfl, hs, if_neg (nI_ge (by omega) (by omega)), gd_t (n_inb7 (show j < n by omega) hn), show (7 : Int32) = nI 7 from rfl, pk_mul, nI_add, gd_t (n_inb (by omega) (by decide)), nI_clamp (by omega), nI_clamp (by omega), hce j (by omega), nI_1]
    exact e1
def leadM (n : Nat) (Ls : Nat → List Nat) (ld : Nat → Int32) : Prop := ∀ k, k < 3 → ∀ p, p < n → ld (7 * k + p) = nI ((Ls k).getD p 0)
theorem m_takesLeads {n : Nat} {m : List Nat} {b g : Nat} {l : List Nat} {s : Nat → Int32} (h : OKs n m b g l) (hs : SR n m b g l s) (ce ld : Nat → Int32) : ∃ c' ld', f_X11_takesLeads s ce ld = some (c', ld') ∧ leadM n (LD n m b g) ld' := by
  obtain ⟨⟨hn4, hn⟩, ⟨hm1, hm⟩, hmo, hbo, hgo, -, -⟩ := id h
  have L : ∀ (d kd M : Nat) (ce ld : Nat → Int32), kd + d = 3 → (∀ k, k < kd → ∀ p, p < n → ld (7 * k + p) = nI ((LD n m b g k).getD p 0)) → d < M → ∃ c' ld', f_X11_takesLeads_L2 s M (nI kd) ce ld = some (c', ld') ∧ leadM n (LD n m b g) ld' := by
    intro d
    induction d with
    | zero =>
      intro kd M ce ld hk hld hM
      obtain ⟨M, rfl⟩ : ∃ k, M = k + 1 := ⟨M - 1, by omega⟩
      refine ⟨ce, ld, ?_, fun k hk => hld k (by omega)⟩
      rw [f_X11_takesLeads_L2, if_pos (show (3 : Int32) ≤ nI kd from @nI_le 3 kd (by omega) (by omega))]
    | succ d ih =>
      intro kd M ce ld hk hld hM
      obtain ⟨M, rfl⟩ : ∃ k, M = k + 1 := ⟨M - 1, by omega⟩
      obtain ⟨c0, e0, f0⟩ := m_toRounds (ce := ce) hn hs.1
      obtain ⟨c1, e1, e2⟩ := m_takes13 h hs (kd := kd) (by omega) (fun y9 y10 => f_X11_takesLeads_L41 (fun y14 y15 => f_X11_takesLeads_L2 s M (nI kd + 1) y10 y15) (nI kd) s y10 fu 0 ld) ld m.length 0 fu (List.range n) c0 (by omega) (isRow.range n) f0 (by show m.length < 8192; omega)
      rw [List.drop_zero] at e2
      obtain ⟨l2, e3, e4, e5⟩ := m_takes41 hn hs.1 e2 (kd := kd) (by omega) (fun y14 y15 => f_X11_takesLeads_L2 s M (nI kd + 1) c1 y15) n 0 fu ld (by omega) (fun p hp => by omega) (by show n < 8192; omega)
      obtain ⟨c3, l3, e6, e7⟩ := ih (kd + 1) M c1 l2 (by omega) (fun k hk p hp => by
        by_cases c : k = kd
        · rw [c]; exact e4 p hp
        · rw [e5 _ (by omega)]; exact hld k (by omega) p hp) (by omega)
      refine ⟨c3, l3, ?_, e7⟩
      rw [f_X11_takesLeads_L2, if_neg (show ¬ (3 : Int32) ≤ nI kd from @nI_ge kd 3 (by omega) (by decide)), bd_t e0]
      refine e1.trans (e3.trans ?_)
      rw [nI_1]
      exact e6
  exact L 3 0 fu ce ld (by omega) (fun k hk => by omega) (by decide)
theorem m_moved8 {n : Nat} {Z : List Nat} {s ce ld : Nat → Int32} (hn : n ≤ 7) (hs : s 0 = nI n) (hce : isCell n Z ce) (s2 s3 : Int32) (k : Int32 → (Nat → Int32) → Option (Int32 × (Nat → Int32) × (Nat → Int32))) :
    ∀ (d j M : Nat) (ot : Nat → Int32), j + d = n → (∀ p, p < j → ot p = nI (Z.getD p 0)) → d < M → ∃ o', f_X11_moved_L8 k s2 s3 s ce ld M (nI j) ot = k (nI n) o' ∧ isCell n Z o'
  | 0, j, M, ot, hj, ho, hM => by
    obtain ⟨M, rfl⟩ : ∃ k, M = k + 1 := ⟨M - 1, by omega⟩
    refine ⟨ot, ?_, fun p hp => ho p (by omega)⟩
    rw [f_X11_moved_L8, show (0 : Int32).toNatClampNeg = 0 from rfl, hs, if_pos (nI_le (by omega) (by omega)), show j = n by omega]
  | d + 1, j, M, ot, hj, ho, hM => by
    obtain ⟨M, rfl⟩ : ∃ k, M = k + 1 := ⟨M - 1, by omega⟩
    obtain ⟨o', e1, e2⟩ := m_moved8 (ld := ld) hn hs hce s2 s3 k d (j + 1) M (upd ot j (nI (Z.getD j 0))) (by omega) (fun p hp => by
      unfold upd
      by_cases c : p = j
      · rw [if_pos c, c]
      · rw [if_neg c]; exact ho p (by omega)) (by omega)
    refine ⟨o', ?_, e2⟩
    rw [f_X11_moved_L8, show (0 : Int32).toNatClampNeg = 0 from rfl, hs, if_neg (nI_ge (by omega) (by omega)), gd_t (n_inb7 (show j < n by omega) hn), nI_clamp (by omega), hce j (by omega), nI_1]
    exact e1
theorem m_moved42f {n kd : Nat} {Z : List Nat} {Ls : Nat → List Nat} {s ot ld : Nat → Int32} (hn : n ≤ 7) (hs : s 0 = nI n) (ho : isCell n Z ot) (hL : leadM n Ls ld) (hLr : isRow n (Ls kd)) (hkd : kd ≤ 2) (k : Int32 → (Nat → Int32) → Option (Int32 × (Nat → Int32) × (Nat → Int32))) :
    ∀ (d j M : Nat) (ce : Nat → Int32), j + d = n → (∀ p, p < j → ce p = nI ((mulp Z (Ls kd)).getD p 0)) → d < M → ∃ c', f_X11_moved_L42 k (nI kd) 0 s ot ld M (nI j) ce = k (nI n) c' ∧ isCell n (mulp Z (Ls kd)) c'
  | 0, j, M, ce, hj, hc, hM => by
    obtain ⟨M, rfl⟩ : ∃ k, M = k + 1 := ⟨M - 1, by omega⟩
    refine ⟨ce, ?_, fun p hp => hc p (by omega)⟩
    rw [f_X11_moved_L42, show (0 : Int32).toNatClampNeg = 0 from rfl, hs, if_pos (nI_le (by omega) (by omega)), show j = n by omega]
  | d + 1, j, M, ce, hj, hc, hM => by
    obtain ⟨M, rfl⟩ : ∃ k, M = k + 1 := ⟨M - 1, by omega⟩
    have hlt := row_at_lt hLr (p := j) (by omega)
    obtain ⟨c', e1, e2⟩ := m_moved42f hn hs ho hL hLr hkd k d (j + 1) M (upd ce j (nI (Z.getD ((Ls kd).getD j 0) 0))) (by omega) (fun p hp => by
      unfold upd
      by_cases c : p = j
      · rw [if_pos c, c, comp_at (by rw [hLr.len]; omega)]
      · rw [if_neg c]; exact hc p (by omega)) (by omega)
    refine ⟨c', ?_, e2⟩
    rw [f_X11_moved_L42, show (0 : Int32).toNatClampNeg = 0 from rfl, hs, if_neg (nI_ge (by omega) (by omega)), show (7 : Int32) = nI 7 from rfl, pk_mul, nI_add, gd_t (n_inb (by omega) (by decide)), nm_eq, if_pos rfl, nI_clamp (by omega), hL kd (by omega) j (by omega), gd_t (n_inb7 hlt hn), gd_t (n_inb7 (show j < n by omega) hn), nI_clamp (by omega), nI_clamp (by omega), ho _ hlt, nI_1]
    exact e1
theorem m_moved42b {n kd : Nat} {Z : List Nat} {Ls : Nat → List Nat} {s ot ld : Nat → Int32} (hn : n ≤ 7) (hs : s 0 = nI n) (ho : isCell n Z ot) (hL : leadM n Ls ld) (hLr : isRow n (Ls kd)) (hkd : kd ≤ 2) (k : Int32 → (Nat → Int32) → Option (Int32 × (Nat → Int32) × (Nat → Int32))) :
    ∀ (d j M : Nat) (ce : Nat → Int32), j + d = n → (∀ a, a < n → (Ls kd).idxOf a < j → ce a = nI (Z.getD ((Ls kd).idxOf a) 0)) → d < M → ∃ c', f_X11_moved_L42 k (nI kd) 1 s ot ld M (nI j) ce = k (nI n) c' ∧ isCell n (mulp Z (inv n (Ls kd))) c'
  | 0, j, M, ce, hj, hc, hM => by
    obtain ⟨M, rfl⟩ : ∃ k, M = k + 1 := ⟨M - 1, by omega⟩
    refine ⟨ce, ?_, fun p hp => ?_⟩
    · rw [f_X11_moved_L42, show (0 : Int32).toNatClampNeg = 0 from rfl, hs, if_pos (nI_le (by omega) (by omega)), show j = n by omega]
    · rw [comp_at (by rw [inv_len]; exact hp), inv_at hp]
      exact hc p hp (by have := idx_lt hLr hp; omega)
  | d + 1, j, M, ce, hj, hc, hM => by
    obtain ⟨M, rfl⟩ : ∃ k, M = k + 1 := ⟨M - 1, by omega⟩
    have hlt := row_at_lt hLr (p := j) (by omega)
    obtain ⟨c', e1, e2⟩ := m_moved42b hn hs ho hL hLr hkd k d (j + 1) M (upd ce ((Ls kd).getD j 0) (nI (Z.getD j 0))) (by omega) (fun a ha hlt2 => by
      unfold upd
      by_cases c : a = (Ls kd).getD j 0
      · rw [if_pos c, (at_idx hLr ha (show j < n by omega)).mp c.symm]
      · rw [if_neg c]
        refine hc a ha ?_
        rcases Nat.lt_or_ge ((Ls kd).idxOf a) j with q | q
        · exact q
        · exact absurd ((at_idx hLr ha (show j < n by omega)).mpr (by omega)).symm c) (by omega)
    refine ⟨c', ?_, e2⟩
    rw [f_X11_moved_L42, show (0 : Int32).toNatClampNeg = 0 from rfl, hs, if_neg (nI_ge (by omega) (by omega)), show (7 : Int32) = nI 7 from rfl, pk_mul, nI_add, gd_t (n_inb (by omega) (by decide)), nm_eq, if_neg (by decide), nI_clamp (by omega), hL kd (by omega) j (by omega), gd_t (n_inb7 (show j < n by omega) hn), gd_t (n_inb7 hlt hn), nI_clamp (by omega), nI_clamp (by omega), ho j (by omega), nI_1]
    exact e1
theorem m_movedF {n kd : Nat} {Z : List Nat} {Ls : Nat → List Nat} {s ld : Nat → Int32} (h : isRow n Z) (hn0 : 0 < n) (hn : n ≤ 7) (hs : s 0 = nI n) (hL : leadM n Ls ld) (hLr : isRow n (Ls kd)) (hkd : kd ≤ 2) (ce ot : Nat → Int32) : ∃ c' o', f_X11_moved (nI (rk Z)) (nI kd) 0 s ce ot ld = some (nI (rk (mulp Z (Ls kd))), c', o') := by
  obtain ⟨c1, e1, e2⟩ := m_unrank (ce := ce) h hn0 hn hs
  unfold f_X11_moved
  rw [bd_t e1]
  obtain ⟨o1, e3, e4⟩ := m_moved8 (ld := ld) hn hs e2 (nI kd) 0 (fun y5 y6 => f_X11_moved_L42 (fun y15 y16 => bd (f_X11_rank s y16) (fun q17 => some (q17, y16, y6))) (nI kd) 0 s y6 ld fu 0 c1) n 0 fu ot (by omega) (fun p hp => by omega) (by show n < 8192; omega)
  obtain ⟨c2, e5, e6⟩ := m_moved42f hn hs e4 hL hLr hkd (fun y15 y16 => bd (f_X11_rank s y16) (fun q17 => some (q17, y16, o1))) n 0 fu c1 (by omega) (fun p hp => by omega) (by show n < 8192; omega)
  refine ⟨c2, o1, e3.trans (e5.trans ?_)⟩
  rw [bd_t (m_rank (h.mul hLr) hn hs e6)]
theorem m_movedB {n kd : Nat} {Z : List Nat} {Ls : Nat → List Nat} {s ld : Nat → Int32} (h : isRow n Z) (hn0 : 0 < n) (hn : n ≤ 7) (hs : s 0 = nI n) (hL : leadM n Ls ld) (hLr : isRow n (Ls kd)) (hkd : kd ≤ 2) (ce ot : Nat → Int32) : ∃ c' o', f_X11_moved (nI (rk Z)) (nI kd) 1 s ce ot ld = some (nI (rk (mulp Z (inv n (Ls kd)))), c', o') := by
  obtain ⟨c1, e1, e2⟩ := m_unrank (ce := ce) h hn0 hn hs
  unfold f_X11_moved
  rw [bd_t e1]
  obtain ⟨o1, e3, e4⟩ := m_moved8 (ld := ld) hn hs e2 (nI kd) 1 (fun y5 y6 => f_X11_moved_L42 (fun y15 y16 => bd (f_X11_rank s y16) (fun q17 => some (q17, y16, y6))) (nI kd) 1 s y6 ld fu 0 c1) n 0 fu ot (by omega) (fun p hp => by omega) (by show n < 8192; omega)
  obtain ⟨c2, e5, e6⟩ := m_moved42b hn hs e4 hL hLr hkd (fun y15 y16 => bd (f_X11_rank s y16) (fun q17 => some (q17, y16, o1))) n 0 fu c1 (by omega) (fun a _ hp => by omega) (by show n < 8192; omega)
  refine ⟨c2, o1, e3.trans (e5.trans ?_)⟩
  rw [bd_t (m_rank (h.mul hLr.inv) hn hs e6)]
