/-- the rows of a touch -/
def rws (n : Nat) (m : List Nat) (b g : Nat) (l : List Nat) (i : Nat) : List Nat := run (List.range n) ((tc m b g l).take i)
theorem rws_row {n : Nat} {m : List Nat} {b g : Nat} {l : List Nat} (i : Nat) : isRow n (rws n m b g l i) := isRow.run _ (isRow.range n)
theorem rws_0 {n : Nat} {m : List Nat} {b g : Nat} {l : List Nat} : rws n m b g l 0 = List.range n := rfl
/-- what holds of a touch that is rung: as OKs, but one lead more -/
def OKr (n : Nat) (m : List Nat) (b g : Nat) (l : List Nat) : Prop := (4 ≤ n ∧ n ≤ 7) ∧ (1 ≤ m.length ∧ m.length ≤ 20) ∧ (∀ c ∈ m, okc n c) ∧ okc n b ∧ okc n g ∧ l.length ≤ 17 ∧ ∀ k ∈ l, k ≤ 2
theorem OKs.r {n : Nat} {m : List Nat} {b g : Nat} {l : List Nat} (h : OKs n m b g l) : OKr n m b g l := ⟨h.1, h.2.1, h.2.2.1, h.2.2.2.1, h.2.2.2.2.1, by have := h.2.2.2.2.2.1; omega, h.2.2.2.2.2.2⟩
theorem OKs.r1 {n : Nat} {m : List Nat} {b g : Nat} {l : List Nat} (h : OKs n m b g l) {k : Nat} (hk : k ≤ 2) : OKr n m b g (l ++ [k]) := ⟨h.1, h.2.1, h.2.2.1, h.2.2.2.1, h.2.2.2.2.1, by have := h.2.2.2.2.2.1; simp; omega, fun x hx => by
  rcases List.mem_append.mp hx with q | q
  · exact h.2.2.2.2.2.2 x q
  · rw [List.mem_singleton.mp q]; exact hk⟩
theorem OKr.T {n : Nat} {m : List Nat} {b g : Nat} {l : List Nat} (h : OKr n m b g l) : l.length * m.length ≤ 340 := by
  have := Nat.mul_le_mul h.2.2.2.2.2.1 h.2.1.2
  omega
theorem OKr.s {n : Nat} {m : List Nat} {b g : Nat} {l : List Nat} (h : OKr n m b g l) : OKs n m b g [] := ⟨h.1, h.2.1, h.2.2.1, h.2.2.2.1, h.2.2.2.2.1, by simp, fun k hk => by cases hk⟩
theorem p_ring {n : Nat} {m : List Nat} {b g : Nat} {l : List Nat} (h : OKr n m b g l) {places kinds : Nat → Int32} (hp : ∀ j, j < m.length → places j = nI (m.getD j 0)) (hk : ∀ j, j < l.length → kinds j = nI (l.getD j 0)) (vb vc vl va : Int32) (fr ff fo : Nat → Int32) :
    ∃ r' ff' fo', f_X5_ring vb vc vl va fr ff fo (nI n) (nI m.length) (nI b) (nI g) (nI l.length) places kinds = some (nI n, nI m.length, nI l.length, nI (l.length * m.length), r', ff', fo')
      ∧ rowsX n (rws n m b g l) (l.length * m.length) r' ∧ ∀ j, 1 ≤ j → j ≤ l.length * m.length → ff' j = nI (fs (rws n m b g l) 1 j) := by
  have hT := h.T
  obtain ⟨⟨hn4, hn⟩, ⟨hm1, hm⟩, hmo, hbo, hgo, hl, hl2⟩ := id h
  unfold f_X5_ring
  rw [bd_t (p_rounds n (by omega))]
  obtain ⟨r1, e1, e2⟩ := p_ring46 (l := l) h.s hl hl2 hp hk (fun y17 y18 y19 y20 => bd (f_X5_findFirsts (nI n) y19 y20 ff fo) (fun q21 => some (nI n, nI m.length, nI l.length, y19, y20, q21.1, q21.2))) ff fo (nI n) l.length 0 fu 0 (List.range n) (upd fr (0 : Int32).toNatClampNeg (nI (xr (List.range n)))) (by omega) (isRow.range n) (by omega) (by show l.length < 8192; omega)
  rw [List.drop_zero] at e2
  have hrows : rowsX n (rws n m b g l) (l.length * m.length) r1 := by
    intro i hi
    refine ⟨rws_row i, ?_⟩
    cases i with
    | zero =>
      rw [e2.1 0 (Nat.le_refl 0)]
      rfl
    | succ i =>
      have := e2.2 i (by rw [tc_len hm1]; omega)
      rw [show 0 + 1 + i = i + 1 by omega] at this
      exact this
  obtain ⟨f1, o1, e3, e4⟩ := p_findFirsts (by omega) hn hrows hT ff fo
  refine ⟨r1, f1, o1, ?_, hrows, e4⟩
  rw [show (0 : Int32) = nI 0 from rfl] at e1 ⊢
  rw [e1, Nat.zero_add]
  exact bd_t e3
/-! the model rings a touch -/
/-- the rows that the model holds -/
def rowsM (n : Nat) (R : Nat → List Nat) (T : Nat) (r : Nat → Int32) : Prop := ∀ i, i ≤ T → isRow n (R i) ∧ r i = nI (rk (R i))
theorem tc_snoc (m : List Nat) (b g : Nat) (l : List Nat) (k : Nat) : tc m b g (l ++ [k]) = tc m b g l ++ lc m b g k := by simp [tc]
theorem filled_rows {n : Nat} {cs : List Nat} {r0 r1 : Nat → Int32} (h0 : r0 0 = nI (rk (List.range n))) (h : filled rk (List.range n) 0 cs r0 r1) : rowsM n (fun i => run (List.range n) (cs.take i)) cs.length r1 := by
  intro i hi
  refine ⟨isRow.run _ (isRow.range n), ?_⟩
  cases i with
  | zero => rw [h.1 0 (Nat.le_refl 0), h0]; rfl
  | succ i =>
    have := h.2 i (by omega)
    rw [show 0 + 1 + i = i + 1 by omega] at this
    exact this
theorem rk_range : ∀ n, n < 8 → rk (List.range n) = 0 := by decide
