theorem getD_mem {l : List Nat} {j : Nat} (h : j < l.length) : l.getD j 0 ∈ l := by rw [getD_lt h]; exact List.getElem_mem h
/-! the class rings a touch -/
theorem p_ring64 {n : Nat} {m : List Nat} {b g kd : Nat} {places : Nat → Int32} (hn : n ≤ 7) (hm1 : 1 ≤ m.length) (hm : m.length ≤ 20) (hkd : kd ≤ 2) (hp : ∀ j, j < m.length → places j = nI (m.getD j 0)) (hok : ∀ c ∈ lc m b g kd, c < 127)
    (k : Int32 → Int32 → Int32 → (Nat → Int32) → Option (Int32 × Int32 × Int32 × Int32 × (Nat → Int32) × (Nat → Int32) × (Nat → Int32))) (s3 vb vc vl : Int32) (ff fr : Nat → Int32) (w1 w5 : Int32) (kinds : Nat → Int32) :
    ∀ (d j M T : Nat) (Z : List Nat) (r : Nat → Int32), j + d = m.length → isRow n Z → T + d ≤ 340 → d < M →
    ∃ r', f_X5_ring_L64 k s3 (nI kd) (nI n) (nI m.length) vl ff fr w1 (nI m.length) (nI b) (nI g) w5 places kinds M (nI (xr Z)) (nI j) (nI T) r
      = k (nI (xr (run Z ((lc m b g kd).drop j)))) (nI m.length) (nI (T + d)) r' ∧ filled xr Z T ((lc m b g kd).drop j) r r'
  | 0, j, M, T, Z, r, hj, hZ, hT, hM => by
    obtain ⟨M, rfl⟩ : ∃ k, M = k + 1 := ⟨M - 1, by omega⟩
    have hl := lc_len (m := m) (b := b) (g := g) (k := kd) hm1
    refine ⟨r, ?_, ?_⟩
    · rw [f_X5_ring_L64, if_pos (nI_le (by omega) (by omega)), List.drop_eq_nil_of_le (by omega), show j = m.length by omega]
      rfl
    · rw [List.drop_eq_nil_of_le (by omega)]; exact filled.nil
  | d + 1, j, M, T, Z, r, hj, hZ, hT, hM => by
    obtain ⟨M, rfl⟩ : ∃ k, M = k + 1 := ⟨M - 1, by omega⟩
    have hl := lc_len (m := m) (b := b) (g := g) (k := kd) hm1
    have hc : (lc m b g kd).getD j 0 < 2 ^ 31 := by
      have := hok _ (getD_mem (l := lc m b g kd) (j := j) (by omega))
      omega
    obtain ⟨r', e1, e2⟩ := p_ring64 hn hm1 hm hkd hp hok k s3 vb vc vl ff fr w1 w5 kinds d (j + 1) M (T + 1) (cg ((lc m b g kd).getD j 0) Z) (upd r (T + 1) (nI (xr (cg ((lc m b g kd).getD j 0) Z)))) (by omega) hZ.cg (by omega) (by omega)
    refine ⟨r', ?_, ?_⟩
    · rw [f_X5_ring_L64, if_neg (nI_ge (by omega) (by omega)), bd_t (p_placesMade hm1 hm hkd (by omega) hp), bd_t (p_behindChange hZ hn hc), bd_t (p_keep (by omega)), nI_1]
      dsimp only
      rw [e1, drop_cons (show j < (lc m b g kd).length by omega), run_cons, show T + 1 + d = T + (d + 1) by omega]
    · rw [drop_cons (show j < (lc m b g kd).length by omega)]
      exact e2.cons
theorem p_ring46 {n : Nat} {m : List Nat} {b g : Nat} {l : List Nat} {places kinds : Nat → Int32} (hok : OKs n m b g []) (hl : l.length ≤ 17) (hl2 : ∀ k ∈ l, k ≤ 2) (hp : ∀ j, j < m.length → places j = nI (m.getD j 0)) (hk : ∀ j, j < l.length → kinds j = nI (l.getD j 0))
    (k : Int32 → Int32 → Int32 → (Nat → Int32) → Option (Int32 × Int32 × Int32 × Int32 × (Nat → Int32) × (Nat → Int32) × (Nat → Int32))) (ff fr : Nat → Int32) (w1 : Int32) :
    ∀ (d j M T : Nat) (Z : List Nat) (r : Nat → Int32), j + d = l.length → isRow n Z → T + d * m.length ≤ 340 → d < M →
    ∃ r', f_X5_ring_L46 k (nI n) (nI m.length) (nI l.length) ff fr w1 (nI m.length) (nI b) (nI g) (nI l.length) places kinds M (nI (xr Z)) (nI j) (nI T) r
      = k (nI (xr (run Z (tc m b g (l.drop j))))) (nI l.length) (nI (T + d * m.length)) r' ∧ filled xr Z T (tc m b g (l.drop j)) r r' := by
  obtain ⟨⟨hn4, hn⟩, ⟨hm1, hm⟩, hmo, hbo, hgo, -, -⟩ := hok
  intro d
  induction d with
  | zero =>
    intro j M T Z r hj hZ hT hM
    obtain ⟨M, rfl⟩ : ∃ k, M = k + 1 := ⟨M - 1, by omega⟩
    refine ⟨r, ?_, ?_⟩
    · rw [f_X5_ring_L46, if_pos (nI_le (by omega) (by omega)), List.drop_eq_nil_of_le (by omega), show j = l.length by omega, Nat.zero_mul]
      rfl
    · rw [List.drop_eq_nil_of_le (by omega)]; exact filled.nil
  | succ d ih =>
    intro j M T Z r hj hZ hT hM
    obtain ⟨M, rfl⟩ : ∃ k, M = k + 1 := ⟨M - 1, by omega⟩
    have hjl : j < l.length := by omega
    have hkj := hl2 _ (getD_mem hjl)
    rw [Nat.add_mul, Nat.one_mul] at hT
    rw [f_X5_ring_L46, if_neg (nI_ge (by omega) (by omega)), bd_t (p_kindOfLead hl hjl hk)]
    obtain ⟨r1, e1, e2⟩ := p_ring64 (kd := l.getD j 0) hn hm1 hm hkj hp (fun c hc => (lc_ok hmo hbo hgo c hc).1) (fun y13 y14 y15 y16 => f_X5_ring_L46 k (nI n) (nI m.length) (nI l.length) ff fr w1 (nI m.length) (nI b) (nI g) (nI l.length) places kinds M y13 (nI j + 1) y15 y16) (nI j) (nI n) (nI m.length) (nI l.length) ff fr w1 (nI l.length) kinds m.length 0 fu T Z r (by omega) hZ (by omega) (by show m.length < 8192; omega)
    rw [List.drop_zero] at e1 e2
    obtain ⟨r2, e3, e4⟩ := ih (j + 1) M (T + m.length) (run Z (lc m b g (l.getD j 0))) r1 (by omega) (isRow.run _ hZ) (by omega) (by omega)
    refine ⟨r2, ?_, ?_⟩
    · rw [show (0 : Int32) = nI 0 from rfl, e1, nI_1, e3, drop_cons hjl]
      unfold tc
      rw [List.map_cons, List.flatten_cons, run_app, Nat.add_mul, Nat.one_mul, show T + m.length + d * m.length = T + (d * m.length + m.length) by omega]
    · rw [drop_cons hjl]
      unfold tc at e4 ⊢
      rw [List.map_cons, List.flatten_cons]
      refine e2.app ?_
      rw [lc_len hm1]
      exact e4

