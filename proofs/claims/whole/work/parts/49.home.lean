/-! ===== the ways home ===== -/
/-- what the class keeps of the ways home -/
def HC (hb fb : Int32) (few lv : Nat → Int32) : Prop := ∀ n, 4 ≤ n → n ≤ 7 → hb = nI n → ∀ Ls : Nat → List Nat, (∀ k, k ≤ 2 → isRow n (Ls k)) → (∀ k, k ≤ 2 → lv k = nI (xr (Ls k))) → fb = nI n ∧ ∀ r, r < 5040 → few r = (B (fun k => inv n (Ls k)) (List.range n)).2 r
theorem HC.mk {n : Nat} {Ls : Nat → List Nat} {few lv : Nat → Int32} (hn : n ≤ 7) (hL : ∀ k, k ≤ 2 → isRow n (Ls k)) (hlv : ∀ k, k ≤ 2 → lv k = nI (xr (Ls k))) (hf : ∀ r, r < 5040 → few r = (B (fun k => inv n (Ls k)) (List.range n)).2 r) : HC (nI n) (nI n) few lv := by
  intro n' h4 h7 e Ks hK hk
  have e2 : n = n' := (nI_eq (by omega) (by omega)).mp e
  subst e2
  refine ⟨rfl, fun r hr => ?_⟩
  rw [hf r hr]
  rw [B_congr (Ls := fun k => inv n (Ls k)) (Ks := fun k => inv n (Ks k)) (fun k hk2 => by
    have x1 := xr_lt (hL k hk2) hn
    have x2 := xr_lt (hK k hk2) hn
    have := xr_inj (hL k hk2) (hK k hk2) hn ((nI_eq (by omega) (by omega)).mp ((hlv k hk2).symm.trans (hk k hk2)))
    rw [this])]
theorem p_learn27 {n : Nat} {m : List Nat} {b g : Nat} {places : Nat → Int32} (h : OKs n m b g []) (hp : ∀ j, j < m.length → places j = nI (m.getD j 0)) (vb vs : Int32) (few rch : Nat → Int32) (W : Prop) (l0 : Nat → Int32)
    (k : Int32 → Int32 → (Nat → Int32) → (Nat → Int32) → Option (Int32 × Int32 × Int32 × (Nat → Int32) × (Nat → Int32) × (Nat → Int32) × (Nat → Int32))) :
    ∀ (d j M : Nat) (w : Bool) (lv lb : Nat → Int32), j + d = 3 → (∀ i, i < j → lv i = nI (xr (LD n m b g i)) ∧ lb i = nI (xr (inv n (LD n m b g i)))) → (∀ i, j ≤ i → lv i = l0 i) → (w = true → W ∧ ∀ i, i < j → l0 i = nI (xr (LD n m b g i))) → d < M →
    ∃ w' lv' lb', f_X1_learn_L27 k (nI n) vb vs few rch (nI n) (nI m.length) (nI b) (nI g) places M (nI (b1 w)) (nI j) lv lb = k (nI (b1 w')) (nI 3) lv' lb' ∧ (∀ i, i < 3 → lv' i = nI (xr (LD n m b g i)) ∧ lb' i = nI (xr (inv n (LD n m b g i)))) ∧ (w' = true → W ∧ ∀ i, i < 3 → l0 i = nI (xr (LD n m b g i)))
  | 0, j, M, w, lv, lb, hj, h1, h2, h3, hM => by
    obtain ⟨M, rfl⟩ : ∃ k, M = k + 1 := ⟨M - 1, by omega⟩
    obtain rfl : j = 3 := by omega
    refine ⟨w, lv, lb, ?_, h1, h3⟩
    rw [f_X1_learn_L27, if_pos (by decide)]
  | d + 1, j, M, w, lv, lb, hj, h1, h2, h3, hM => by
    obtain ⟨M, rfl⟩ : ∃ k, M = k + 1 := ⟨M - 1, by omega⟩
    have hn := h.1.2
    have hL := LD_row n m b g j
    have n3 : ¬ (3 : Int32) ≤ nI j := @nI_ge j 3 (by omega) (by decide)
    have hx := xr_lt hL hn
    have hup : ∀ i, i < j + 1 → upd lv j (nI (xr (LD n m b g j))) i = nI (xr (LD n m b g i)) ∧ upd lb j (nI (xr (inv n (LD n m b g j)))) i = nI (xr (inv n (LD n m b g i))) := fun i hi => by
      unfold upd
      by_cases c : i = j
      · rw [if_pos c, if_pos c, c]; exact ⟨rfl, rfl⟩
      · rw [if_neg c, if_neg c]; exact h1 i (by omega)
    have hup2 : ∀ i, j + 1 ≤ i → upd lv j (nI (xr (LD n m b g j))) i = l0 i := fun i hi => by
      unfold upd; rw [if_neg (by omega)]; exact h2 i (by omega)
    rw [f_X1_learn_L27, if_neg n3, if_neg n3, bd_t (p_roundsBehindLead h (by omega) hp)]
    cases w with
    | false =>
      obtain ⟨w', lv', lb', q1, q2, q3⟩ := p_learn27 h hp vb vs few rch W l0 k d (j + 1) M false _ _ (by omega) hup hup2 (fun q => absurd q (by decide)) (by omega)
      refine ⟨w', lv', lb', ?_, q2, q3⟩
      rw [if_pos (show nI (b1 false) = 0 by decide), gd_t (n_inb (show j < 3 by omega) (by decide)), bd_t (p_backwards hL hn), nI_clamp (by omega), nI_1]
      exact q1
    | true =>
      rw [if_neg (show ¬ nI (b1 true) = 0 by decide), gd_t (n_inb (show j < 3 by omega) (by decide)), nm_eq, bd_t (p_backwards hL hn), nI_clamp (by omega), nI_1]
      by_cases c : nI (xr (LD n m b g j)) = lv j
      · obtain ⟨w', lv', lb', q1, q2, q3⟩ := p_learn27 h hp vb vs few rch W l0 k d (j + 1) M true _ _ (by omega) hup hup2 (fun q => ⟨(h3 rfl).1, fun i hi => by
          by_cases c2 : i = j
          · rw [c2, c, h2 j (Nat.le_refl j)]
          · exact (h3 rfl).2 i (by omega)⟩) (by omega)
        refine ⟨w', lv', lb', ?_, q2, q3⟩
        rw [if_pos c]
        exact q1
      · obtain ⟨w', lv', lb', q1, q2, q3⟩ := p_learn27 h hp vb vs few rch W l0 k d (j + 1) M false _ _ (by omega) hup hup2 (fun q => absurd q (by decide)) (by omega)
        refine ⟨w', lv', lb', ?_, q2, q3⟩
        rw [if_neg c]
        exact q1
theorem p_learn {n : Nat} {m : List Nat} {b g : Nat} {places few rch lv lb : Nat → Int32} {hb fb vs : Int32} (h : OKs n m b g []) (hp : ∀ j, j < m.length → places j = nI (m.getD j 0)) (hc : HC hb fb few lv) :
    ∃ vs' few' rch' lv' lb', f_X1_learn hb fb vs few rch lv lb (nI n) (nI m.length) (nI b) (nI g) places = some (nI n, nI n, vs', few', rch', lv', lb') ∧ (∀ k, k ≤ 2 → lv' k = nI (xr (LD n m b g k))) ∧ ∀ r, r < 5040 → few' r = (B (fun k => inv n (LD n m b g k)) (List.range n)).2 r := by
  obtain ⟨⟨hn4, hn⟩, -⟩ := id h
  unfold f_X1_learn
  rw [nm_eq]
  obtain ⟨w0, hw0, hw1⟩ : ∃ w0 : Bool, (if hb = nI n then (1 : Int32) else 0) = nI (b1 w0) ∧ (w0 = true → hb = nI n) := by
    by_cases c : hb = nI n
    · exact ⟨true, by rw [if_pos c]; rfl, fun _ => c⟩
    · exact ⟨false, by rw [if_neg c]; rfl, fun q => absurd q (by decide)⟩
  rw [hw0]
  obtain ⟨w', lv', lb', q1, q2, q3⟩ := p_learn27 h hp fb vs few rch (hb = nI n) lv (fun y15 y16 y17 y18 => if y15 = 0 then bd (f_X6_rounds (nI n)) (fun q20 => bd (f_X7_from q20 0 (nI n) 3 fb vs few rch y18) (fun q22 => some (nI n, q22.1, q22.2.1, q22.2.2.1, q22.2.2.2, y17, y18))) else some (nI n, fb, vs, few, rch, y17, y18)) 3 0 fu w0 lv lb (by omega) (fun i hi => by omega) (fun i _ => rfl) (fun q => ⟨hw1 q, fun i hi => by omega⟩) (by show 3 < 8192; omega)
  cases w' with
  | true =>
    have q4 := q3 rfl
    obtain ⟨e1, e2⟩ := hc n hn4 hn q4.1 (LD n m b g) (fun k _ => LD_row n m b g k) (fun k hk => q4.2 k (by omega))
    refine ⟨vs, few, rch, lv', lb', ?_, fun k hk => (q2 k (by omega)).1, e2⟩
    refine q1.trans ?_
    rw [if_neg (show ¬ nI (b1 true) = 0 by decide), e1]
  | false =>
    obtain ⟨z, few', rch', e1, e2⟩ := p_from (G := none) (Ls := fun k => inv n (LD n m b g k)) (lv := lb') (isRow.range n) (by omega) hn (fun k _ => (LD_row n m b g k).inv) (fun k hk => (q2 k (by omega)).2) (fun Y q => absurd q (by simp)) fb vs few rch
    rw [show goalI none = (0 : Int32) from rfl] at e1
    refine ⟨z, few', rch', lv', lb', ?_, fun k hk => (q2 k (by omega)).1, fun r hr => e2 r hr (Or.inl rfl)⟩
    refine q1.trans ?_
    rw [if_pos (show nI (b1 false) = 0 by decide), bd_t (p_rounds n (by omega)), bd_t e1]
theorem p_leadsFrom {n : Nat} {Z : List Nat} {few : Nat → Int32} (h : isRow n Z) (hn : n ≤ 7) : f_X1_leadsFrom (nI (xr Z)) (nI n) few = some (few (rk Z)) := by
  unfold f_X1_leadsFrom
  rw [bd_t (p_fewestTo h hn)]
theorem p_leadsBySearch {n : Nat} {Ls : Nat → List Nat} {Z : List Nat} {few rch lv : Nat → Int32} {vb vs : Int32} (h : isRow n Z) (hn0 : 0 < n) (hn : n ≤ 7) (hL : ∀ k, k ≤ 2 → isRow n (Ls k)) (hlv : ∀ k, k ≤ 2 → lv k = nI (xr (Ls k))) :
    ∃ z few' rch', f_X1_leadsBySearch (nI (xr Z)) (nI n) vb vs few rch lv = some ((B Ls Z).2 0, nI n, z, few', rch') := by
  obtain ⟨z, few', rch', e1, e2⟩ := p_from (G := some (List.range n)) h hn0 hn hL hlv (fun Y q => by rw [← Option.some.inj q]; exact isRow.range n) vb vs few rch
  have e0 := rk_range n (by omega)
  refine ⟨z, few', rch', ?_⟩
  unfold f_X1_leadsBySearch
  rw [bd_t (p_rounds n (by omega)), bd_t (show f_X7_from _ (nI (xr (List.range n))) _ _ _ _ _ _ _ = _ from e1)]
  dsimp only
  rw [bd_t (p_fewestTo (isRow.range n) hn), e0, e2 0 (by decide) (Or.inr ⟨_, rfl, e0.symm⟩)]
theorem p_behind {n : Nat} {Ls : Nat → List Nat} {Z : List Nat} {lv : Nat → Int32} (h : isRow n Z) (hn : n ≤ 7) (hL : ∀ k, k ≤ 2 → isRow n (Ls k)) (hlv : ∀ k, k ≤ 2 → lv k = nI (xr (Ls k))) {k : Nat} (hk : k ≤ 2) : f_X1_behind (nI (xr Z)) (nI k) (nI n) lv = some (nI (xr (mulp Z (Ls k)))) := by
  unfold f_X1_behind
  rw [if_neg (nI_pos (by omega)), if_neg (show ¬ (3 : Int32) ≤ nI k from @nI_ge k 3 (by omega) (by decide)), gd_t (n_inb (by omega) (by decide)), nI_clamp (by omega), hlv k hk, bd_t (p_behindLead h (hL k hk) hn)]
theorem p_callFrom {n kk D : Nat} {Ls : Nat → List Nat} {Z : List Nat} {few lv : Nat → Int32} (h : isRow n Z) (hn : n ≤ 7) (hL : ∀ k, k ≤ 2 → isRow n (Ls k)) (hlv : ∀ k, k ≤ 2 → lv k = nI (xr (Ls k))) (hD : few (rk Z) = nI (D + 1)) (hk : kk ≤ 2) (hy : few (rk (mulp Z (Ls kk))) = nI D) (hno : ∀ j, j < kk → few (rk (mulp Z (Ls j))) ≠ nI D) : f_X1_callFrom (nI (xr Z)) (nI n) (nI n) few lv = some (nI kk) := by
  have L : ∀ (d j M : Nat), j + d = kk → d < M → f_X1_callFrom_L8 (nI (xr Z)) (nI (D + 1)) (nI n) (nI n) few lv M (nI j) = some (nI kk) := by
    intro d
    induction d with
    | zero =>
      intro j M hj hM
      obtain ⟨M, rfl⟩ : ∃ k, M = k + 1 := ⟨M - 1, by omega⟩
      obtain rfl : j = kk := by omega
      rw [f_X1_callFrom_L8, if_neg (show ¬ (3 : Int32) ≤ nI j from @nI_ge j 3 (by omega) (by decide)), bd_t (p_behind h hn hL hlv hk), bd_t (p_leadsFrom (h.mul (hL j hk)) hn), show (1 : Int32) = nI 1 from rfl, pk_sub (by omega), if_pos (by rw [hy]; rfl)]
    | succ d ih =>
      intro j M hj hM
      obtain ⟨M, rfl⟩ : ∃ k, M = k + 1 := ⟨M - 1, by omega⟩
      rw [f_X1_callFrom_L8, if_neg (show ¬ (3 : Int32) ≤ nI j from @nI_ge j 3 (by omega) (by decide)), bd_t (p_behind h hn hL hlv (by omega)), bd_t (p_leadsFrom (h.mul (hL j (by omega))) hn), show (1 : Int32) = nI 1 from rfl, pk_sub (by omega), Nat.add_sub_cancel, if_neg (hno j (by omega)), nI_add]
      exact ih (j + 1) M (by omega) (by omega)
  unfold f_X1_callFrom
  rw [bd_t (p_leadsFrom h hn), hD]
  exact L kk 0 fu (by omega) (by show kk < 8192; omega)
/-- one lead that leads nearer home, the first -/
theorem nearer {n D : Nat} {Ls : Nat → List Nat} {Z : List Nat} (h : isRow n Z) (hn : n ≤ 7) (hL : ∀ k, k ≤ 2 → isRow n (Ls k)) (hD : (B (fun k => inv n (Ls k)) (List.range n)).2 (rk Z) = nI (D + 1)) (hn0 : 0 < n) (hDb : D < 2 ^ 30) :
    ∃ kk, kk ≤ 2 ∧ (B (fun k => inv n (Ls k)) (List.range n)).2 (rk (mulp Z (Ls kk))) = nI D ∧ ∀ j, j < kk → (B (fun k => inv n (Ls k)) (List.range n)).2 (rk (mulp Z (Ls j))) ≠ nI D := by
  have hB : BI n (fun k => inv n (Ls k)) (B (fun k => inv n (Ls k)) (List.range n)) := by unfold B; exact bfs_BI hn (fun k hk => (hL k hk).inv) _ _ _ (bs0_BI (isRow.range n))
  generalize B (fun k => inv n (Ls k)) (List.range n) = s at hD hB ⊢
  have hm : ∃ k, k ≤ 2 ∧ s.2 (rk (mulp Z (Ls k))) = nI D := by
    rcases hB.val hn (rk Z) with q | ⟨d, hd, e, Y, hY, e2⟩
    · exact absurd (hD.symm.trans q.1) (nI_n4 (by omega))
    · have e3 : Y = Z := rk_inj (hB.rows Y hY) h hn0 hn e2
      subst e3
      rcases hB.par Y hY with q | ⟨P, hP, k, hk, e4, e5⟩
      · rw [hD] at q
        exact absurd ((nI_eq (by omega) (by omega)).mp q) (by omega)
      · refine ⟨k, hk, ?_⟩
        have hPr := hB.rows P hP
        have e6 : mulp Y (Ls k) = P := by rw [e4]; exact back_forth hPr (hL k hk)
        rw [e6]
        obtain ⟨i, hi, e7⟩ := qidx hP
        obtain ⟨d', hd', e8⟩ := hB.dist i hi
        have hlen := hB.len hn
        rw [e7] at e8
        rw [hD, e8, nI_1] at e5
        have := (nI_eq (by omega) (by omega)).mp e5
        rw [e8, show d' = D by omega]
  by_cases c0 : s.2 (rk (mulp Z (Ls 0))) = nI D
  · exact ⟨0, by omega, c0, fun j hj => by omega⟩
  · by_cases c1 : s.2 (rk (mulp Z (Ls 1))) = nI D
    · exact ⟨1, by omega, c1, fun j hj => by rw [show j = 0 by omega]; exact c0⟩
    · refine ⟨2, by omega, ?_, fun j hj => by rcases (show j = 0 ∨ j = 1 by omega) with q | q <;> rw [q] <;> assumption⟩
      obtain ⟨k, hk, e⟩ := hm
      rcases (show k = 0 ∨ k = 1 ∨ k = 2 by omega) with q | q | q
      · rw [q] at e; exact absurd e c0
      · rw [q] at e; exact absurd e c1
      · rw [q] at e; exact e
