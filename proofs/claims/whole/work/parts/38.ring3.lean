/-- the rows of a touch -/
def rws (n : Nat) (m : List Nat) (b g : Nat) (l : List Nat) (i : Nat) : List Nat := run (List.range n) ((tc m b g l).take i)
theorem rws_row {n : Nat} {m : List Nat} {b g : Nat} {l : List Nat} (i : Nat) : isRow n (rws n m b g l i) := isRow.run _ (isRow.range n)
theorem rws_0 {n : Nat} {m : List Nat} {b g : Nat} {l : List Nat} : rws n m b g l 0 = List.range n := rfl
/-- what holds of a touch that is rung: as OKs, but one lead more -/
def OKr (n : Nat) (m : List Nat) (b g : Nat) (l : List Nat) : Prop := (4 ≤ n ∧ n ≤ 7) ∧ (1 ≤ m.length ∧ m.length ≤ 20) ∧ (∀ c ∈ m, okc n c) ∧ okc n b ∧ okc n g ∧ l.length ≤ 17 ∧ ∀ k ∈ l, k ≤ 2
theorem OKs.r {n : Nat} {m : List Nat} {b g : Nat} {l : List Nat} (h : OKs n m b g l) : OKr n m b g l := ⟨h.1, h.2.1, h.2.2.1, h.2.2.2.1, h.2.2.2.2.1, by have := h.2.2.2.2.2.1; omega, h.2.2.2.2.2.2⟩
theorem OKs.r1 {n : Nat} {m : List Nat} {b g : Nat} {l : List Nat} (h : OKs n m b g l) {k : Nat} (hk : k ≤ 2) : OKr n m b g (l ++ [k]) := ⟨h.1, h.2.1, h.2.2.1, h.2.2.2.1, h.2.2.2.2.1, by have := h.2.2.2.2.2.1; simp; omega, fun x hx => by
  rcases List.mem_append.mp hx with q | q
  · exact h.2.2.2.2.2.2 x q
  · rw [List.mem_singleton.mp q]; exact hk⟩
theorem OKr.T {n : Nat} {m : List Nat} {b g : Nat} {l : List Nat} (h : OKr n m b g l) : l.length * m.length ≤ 340 := by
  have := Nat.mul_le_mul h.2.2.2.2.2.1 h.2.1.2
  omega
theorem OKr.s {n : Nat} {m : List Nat} {b g : Nat} {l : List Nat} (h : OKr n m b g l) : OKs n m b g [] := ⟨h.1, h.2.1, h.2.2.1, h.2.2.2.1, h.2.2.2.2.1, by simp, fun k hk => by cases hk⟩
theorem p_ring {n : Nat} {m : List Nat} {b g : Nat} {l : List Nat} (h : OKr n m b g l) {places kinds : Nat → Int32} (hp : ∀ j, j < m.length → places j = nI (m.getD j 0)) (hk : ∀ j, j < l.length → kinds j = nI (l.getD j 0)) (vb vc vl va : Int32) (fr ff fo : Nat → Int32) :
    ∃ r' ff' fo', f_X5_ring vb vc vl va fr ff fo (nI n) (nI m.length) (nI b) (nI g) (nI l.length) places kinds = some (nI n, nI m.length, nI l.length, nI (l.length * m.length), r', ff', fo')
      ∧ rowsX n (rws n m b g l) (l.length * m.length) r' ∧ ∀ j, 1 ≤ j → j ≤ l.length * m.length → ff' j = nI (fs (rws n m b g l) 1 j) := by
  have hT := h.T
  obtain ⟨⟨hn4, hn⟩, ⟨hm1, hm⟩, hmo, hbo, hgo, hl, hl2⟩ := id h
  unfold f_X5_ring
  rw [bd_t (p_rounds n (by omega))]
  obtain ⟨r1, e1, e2⟩ := p_ring46 (l := l) h.s hl hl2 hp hk (fun y17 y18 y19 y20 => bd (f_X5_findFirsts (nI n) y19 y20 ff fo) (fun q21 => some (nI n, nI m.length, nI l.length, y19, y20, q21.1, q21.2))) ff fo (nI n) l.length 0 fu 0 (List.range n) (upd fr (0 : Int32).toNatClampNeg (nI (xr (List.range n)))) (by omega) (isRow.range n) (by omega) (by show l.length < 8192; omega)
  rw [List.drop_zero] at e2
  have hrows : rowsX n (rws n m b g l) (l.length * m.length) r1 := by
    intro i hi
    refine ⟨rws_row i, ?_⟩
    cases i with
    | zero =>
      rw [e2.1 0 (Nat.le_refl 0)]
      rfl
    | succ i =>
      have := e2.2 i (by rw [tc_len hm1]; omega)
      rw [show 0 + 1 + i = i + 1 by omega] at this
      exact this
  obtain ⟨f1, o1, e3, e4⟩ := p_findFirsts (by omega) hn hrows hT ff fo
  refine ⟨r1, f1, o1, ?_, hrows, e4⟩
  rw [show (0 : Int32) = nI 0 from rfl] at e1 ⊢
  rw [e1, Nat.zero_add]
  exact bd_t e3
/-! the model rings a touch -/
theorem m_ringsLead_L {n : Nat} {m : List Nat} {b g : Nat} {l : List Nat} {s : Nat → Int32} (h : OKr n m b g l) (hs : SR n m b g l s) {kd : Nat} (hkd : kd ≤ 2) :
    ∀ (d j M T : Nat) (Z : List Nat) (ce r : Nat → Int32), j + d = m.length → isRow n Z → isCell n Z ce → T + d ≤ 340 → d < M →
    ∃ c' r', f_X11_ringsLead_L2 (nI kd) s M (nI j) (nI T) ce r = some (nI (T + d), c', r') ∧ isCell n (run Z ((lc m b g kd).drop j)) c' ∧ filled rk Z T ((lc m b g kd).drop j) r r'
  | 0, j, M, T, Z, ce, r, hj, hZ, hce, hT, hM => by
    obtain ⟨M, rfl⟩ : ∃ k, M = k + 1 := ⟨M - 1, by omega⟩
    have hl := lc_len (m := m) (b := b) (g := g) (k := kd) h.2.1.1
    refine ⟨ce, r, ?_, ?_, ?_⟩
    · rw [f_X11_ringsLead_L2, show (1 : Int32).toNatClampNeg = 1 from rfl, hs.2.1, if_pos (nI_le (by omega) (by have := h.2.1.2; omega)), Nat.add_zero]
    · rw [List.drop_eq_nil_of_le (by omega)]; exact hce
    · rw [List.drop_eq_nil_of_le (by omega)]; exact filled.nil
  | d + 1, j, M, T, Z, ce, r, hj, hZ, hce, hT, hM => by
    obtain ⟨M, rfl⟩ : ∃ k, M = k + 1 := ⟨M - 1, by omega⟩
    obtain ⟨⟨hn4, hn⟩, ⟨hm1, hm⟩, hmo, hbo, hgo, -, -⟩ := id h
    have hl := lc_len (m := m) (b := b) (g := g) (k := kd) hm1
    have hc := lc_ok (k := kd) hmo hbo hgo _ (getD_mem (l := lc m b g kd) (j := j) (by omega))
    obtain ⟨c1, e1, e2⟩ := m_rings hZ hn hs.1 (by have := hc.1; omega) hce hc.2.2
    have hZ' := hZ.cg (c := (lc m b g kd).getD j 0)
    obtain ⟨c', r', e3, e4, e5⟩ := m_ringsLead_L h hs hkd d (j + 1) M (T + 1) (cg ((lc m b g kd).getD j 0) Z) c1 (upd r (T + 1) (nI (rk (cg ((lc m b g kd).getD j 0) Z)))) (by omega) hZ' e2 (by omega) (by omega)
    refine ⟨c', r', ?_, ?_, ?_⟩
    · rw [f_X11_ringsLead_L2, show (1 : Int32).toNatClampNeg = 1 from rfl, hs.2.1, if_neg (nI_ge (by omega) (by omega)), bd_t (m_changeOf hs hm1 hm hkd (by omega)), bd_t e1, nm_eq, nI_1, bd_t (m_rank hZ' hn hs.1 e2), gd_t (n_inb (by omega) (by decide)), nI_clamp (by omega), nI_1, e3, show T + 1 + d = T + (d + 1) by omega]
    · rw [drop_cons (show j < (lc m b g kd).length by omega), run_cons]; exact e4
    · rw [drop_cons (show j < (lc m b g kd).length by omega)]; exact e5.cons
theorem m_ringsLead {n : Nat} {m : List Nat} {b g : Nat} {l : List Nat} {s : Nat → Int32} (h : OKr n m b g l) (hs : SR n m b g l s) {kd T : Nat} (hkd : kd ≤ 2) {Z : List Nat} {ce r : Nat → Int32} (hZ : isRow n Z) (hce : isCell n Z ce) (hT : T + m.length ≤ 340) :
    ∃ c' r', f_X11_ringsLead (nI kd) (nI T) s ce r = some (nI (T + m.length), c', r') ∧ isCell n (run Z (lc m b g kd)) c' ∧ filled rk Z T (lc m b g kd) r r' := by
  have := m_ringsLead_L h hs hkd m.length 0 fu T Z ce r (by omega) hZ hce hT (by have := h.2.1.2; show m.length < 8192; omega)
  rw [List.drop_zero] at this
  exact this
/-- the rows that the model holds -/
def rowsM (n : Nat) (R : Nat → List Nat) (T : Nat) (r : Nat → Int32) : Prop := ∀ i, i ≤ T → isRow n (R i) ∧ r i = nI (rk (R i))
theorem m_ringsAll_L {n : Nat} {m : List Nat} {b g : Nat} {l : List Nat} {s : Nat → Int32} (h : OKr n m b g l) (hl16 : l.length ≤ 16) (hs : SR n m b g l s) (k : Int32 → Int32 → (Nat → Int32) → (Nat → Int32) → Option (Int32 × (Nat → Int32) × (Nat → Int32))) (s1 : Int32) :
    ∀ (d j M T : Nat) (Z : List Nat) (ce r : Nat → Int32), j + d = l.length → isRow n Z → isCell n Z ce → T + d * m.length ≤ 340 → d < M →
    ∃ c' r', f_X11_ringsAll_L18 k s1 s M (nI j) (nI T) ce r = k (nI l.length) (nI (T + d * m.length)) c' r' ∧ isCell n (run Z (tc m b g (l.drop j))) c' ∧ filled rk Z T (tc m b g (l.drop j)) r r' := by
  intro d
  induction d with
  | zero =>
    intro j M T Z ce r hj hZ hce hT hM
    obtain ⟨M, rfl⟩ : ∃ k, M = k + 1 := ⟨M - 1, by omega⟩
    refine ⟨ce, r, ?_, ?_, ?_⟩
    · rw [f_X11_ringsAll_L18, show (2 : Int32).toNatClampNeg = 2 from rfl, hs.2.2.1, if_pos (nI_le (by omega) (by omega)), show j = l.length by omega, Nat.zero_mul, Nat.add_zero]
    · rw [List.drop_eq_nil_of_le (by omega)]; exact hce
    · rw [List.drop_eq_nil_of_le (by omega)]; exact filled.nil
  | succ d ih =>
    intro j M T Z ce r hj hZ hce hT hM
    obtain ⟨M, rfl⟩ : ∃ k, M = k + 1 := ⟨M - 1, by omega⟩
    have hjl : j < l.length := by omega
    have hkj := h.2.2.2.2.2.2 _ (getD_mem hjl)
    rw [Nat.add_mul, Nat.one_mul] at hT
    obtain ⟨c1, r1, e1, e2, e3⟩ := m_ringsLead (kd := l.getD j 0) (T := T) (r := r) h hs hkj hZ hce (by omega)
    obtain ⟨c', r', e4, e5, e6⟩ := ih (j + 1) M (T + m.length) (run Z (lc m b g (l.getD j 0))) c1 r1 (by omega) (isRow.run _ hZ) e2 (by omega) (by omega)
    refine ⟨c', r', ?_, ?_, ?_⟩
    · rw [f_X11_ringsAll_L18, show (2 : Int32).toNatClampNeg = 2 from rfl, hs.2.2.1, if_neg (nI_ge (by omega) (by omega)), show (25 : Int32) = nI 25 from rfl, nI_add, gd_t (n_inb (by omega) (by decide)), nI_clamp (by omega), hs.2.2.2.2.2.2 j hjl, bd_t e1, nI_1]
      dsimp only
      rw [e4, Nat.add_mul, Nat.one_mul, show T + m.length + d * m.length = T + (d * m.length + m.length) by omega]
    · rw [drop_cons hjl]; unfold tc at e5 ⊢; rw [List.map_cons, List.flatten_cons, run_app]; exact e5
    · rw [drop_cons hjl]; unfold tc at e6 ⊢; rw [List.map_cons, List.flatten_cons]
      refine e3.app ?_
      rw [lc_len h.2.1.1]
      exact e6
theorem tc_snoc (m : List Nat) (b g : Nat) (l : List Nat) (k : Nat) : tc m b g (l ++ [k]) = tc m b g l ++ lc m b g k := by simp [tc]
theorem filled_rows {n : Nat} {cs : List Nat} {r0 r1 : Nat → Int32} (h0 : r0 0 = nI (rk (List.range n))) (h : filled rk (List.range n) 0 cs r0 r1) : rowsM n (fun i => run (List.range n) (cs.take i)) cs.length r1 := by
  intro i hi
  refine ⟨isRow.run _ (isRow.range n), ?_⟩
  cases i with
  | zero => rw [h.1 0 (Nat.le_refl 0), h0]; rfl
  | succ i =>
    have := h.2 i (by omega)
    rw [show 0 + 1 + i = i + 1 by omega] at this
    exact this
theorem rk_range : ∀ n, n < 8 → rk (List.range n) = 0 := by decide
theorem m_ringsAll {n : Nat} {m : List Nat} {b g : Nat} {l : List Nat} {s : Nat → Int32} (h : OKs n m b g l) (hs : SR n m b g l s) (ve : Int32) (ce r : Nat → Int32) :
    ∃ c' r', f_X11_ringsAll (-4) ve s ce r = some (nI (l.length * m.length), c', r') ∧ isCell n (rws n m b g l (l.length * m.length)) c' ∧ rowsM n (rws n m b g l) (l.length * m.length) r' := by
  unfold f_X11_ringsAll
  obtain ⟨c0, e0, f0⟩ := m_toRounds (ce := ce) h.1.2 hs.1
  rw [bd_t e0, show (0 : Int32) = nI 0 from rfl]
  obtain ⟨c1, r1, e1, e2, e3⟩ := m_ringsAll_L h.r h.2.2.2.2.2.1 hs (fun y7 y8 y9 y10 => if (-4 : Int32) < nI 0 then some (y8, y9, y10) else bd (f_X11_ringsLead (-4) y8 s y9 y10) (fun q12 => some (q12.1, q12.2.1, q12.2.2))) (-4) l.length 0 fu 0 (List.range n) c0 (upd r (nI 0).toNatClampNeg (nI 0)) (by omega) (isRow.range n) f0 (by have := h.r.T; omega) (by have := h.2.2.2.2.2.1; show l.length < 8192; omega)
  rw [List.drop_zero] at e2 e3
  have hlen := tc_len (b := b) (g := g) h.2.1.1 l
  refine ⟨c1, r1, ?_, ?_, ?_⟩
  · rw [e1, if_pos (by decide), Nat.zero_add]
  · unfold rws
    rw [← hlen, List.take_length]
    exact e2
  · have := filled_rows (n := n) (by rw [rk_range n (by have := h.1.2; omega)]; rfl) e3
    rw [hlen] at this
    exact this
theorem m_ringsAll1 {n : Nat} {m : List Nat} {b g : Nat} {l : List Nat} {s : Nat → Int32} (h : OKs n m b g l) (hs : SR n m b g l s) {kd : Nat} (hkd : kd ≤ 2) (ve : Int32) (ce r : Nat → Int32) :
    ∃ c' r', f_X11_ringsAll (nI kd) ve s ce r = some (nI ((l ++ [kd]).length * m.length), c', r') ∧ rowsM n (rws n m b g (l ++ [kd])) ((l ++ [kd]).length * m.length) r' := by
  unfold f_X11_ringsAll
  obtain ⟨c0, e0, f0⟩ := m_toRounds (ce := ce) h.1.2 hs.1
  have hT := (h.r1 hkd).T
  rw [List.length_append, List.length_singleton, Nat.add_mul, Nat.one_mul] at hT ⊢
  rw [bd_t e0, show (0 : Int32) = nI 0 from rfl]
  obtain ⟨c1, r1, e1, e2, e3⟩ := m_ringsAll_L h.r h.2.2.2.2.2.1 hs (fun y7 y8 y9 y10 => if nI kd < nI 0 then some (y8, y9, y10) else bd (f_X11_ringsLead (nI kd) y8 s y9 y10) (fun q12 => some (q12.1, q12.2.1, q12.2.2))) (nI kd) l.length 0 fu 0 (List.range n) c0 (upd r (nI 0).toNatClampNeg (nI 0)) (by omega) (isRow.range n) f0 (by omega) (by have := h.2.2.2.2.2.1; show l.length < 8192; omega)
  rw [List.drop_zero] at e2 e3
  obtain ⟨c2, r2, e4, -, e6⟩ := m_ringsLead (kd := kd) (T := 0 + l.length * m.length) (r := r1) h.r hs hkd (isRow.run _ (isRow.range n)) e2 (by omega)
  have hlen := tc_len (b := b) (g := g) h.2.1.1 (l ++ [kd])
  have hlen0 := tc_len (b := b) (g := g) h.2.1.1 l
  rw [List.length_append, List.length_singleton, Nat.add_mul, Nat.one_mul] at hlen
  refine ⟨c2, r2, ?_, ?_⟩
  · rw [e1, if_neg (nI_nlt (Nat.zero_le _) (by omega)), bd_t e4, Nat.zero_add]
  · have e7 : filled rk (List.range n) 0 (tc m b g (l ++ [kd])) (upd r (nI 0).toNatClampNeg (nI 0)) r2 := by
      rw [tc_snoc]
      exact e3.app (by rw [hlen0]; exact e6)
    have := filled_rows (n := n) (by rw [rk_range n (by have := h.1.2; omega)]; rfl) e7
    rw [hlen] at this
    exact this
