/-! ===== reading a method: one sign after the other ===== -/
def cmpl (n made : Nat) (cr : Bool) : Bool := cr || (decide (0 < made) && okb n made)
abbrev RS := List Nat × Nat × Nat × Bool
def rac (n c : Nat) (s : RS) : Option RS :=
  if c = 46 then (if 19 ≤ s.1.length then none else if cmpl n s.2.1 s.2.2.2 then some (s.1 ++ [s.2.1], 0, 0, false) else none)
  else if c = 120 then (if s.2.2.2 then none else if 0 < s.2.1 then none else if okb n 0 then some (s.1, s.2.1, s.2.2.1, true) else none)
  else if s.2.2.2 then none else if c ≤ 48 + s.2.2.1 then none else if 48 + n < c then none
  else if cbr n (s.2.1 ||| 2 ^ (c - 49)) (c - 48) then some (s.1, s.2.1 ||| 2 ^ (c - 49), c - 48, false) else none
def rd (n : Nat) (tx : Nat → Nat) : Nat → Nat → RS → Nat ⊕ List Nat
  | 0, i, s => if cmpl n s.2.1 s.2.2.2 then .inr (s.1 ++ [s.2.1]) else .inl i
  | d + 1, i, s => match rac n (tx i) s with
    | none => .inl i
    | some s' => rd n tx d (i + 1) s'
/-- what holds while a method is read -/
def RI (n : Nat) (s : RS) : Prop := s.1.length ≤ 19 ∧ (∀ c ∈ s.1, okc n c) ∧ s.2.1 < 2 ^ s.2.2.1 ∧ s.2.2.1 ≤ n ∧ (s.2.2.2 = true → s.2.1 = 0 ∧ s.2.2.1 = 0 ∧ okb n 0 = true) ∧ (0 < s.2.2.1 → 0 < s.2.1) ∧ (0 < s.2.2.1 → cbr n s.2.1 s.2.2.1 = true ∧ 2 ^ (s.2.2.1 - 1) ≤ s.2.1)
theorem RI.m {n : Nat} {s : RS} (h : RI n s) (hn : n ≤ 7) : s.2.1 < 128 := by
  have := h.2.2.1
  have : 2 ^ s.2.2.1 ≤ 2 ^ 7 := Nat.pow_le_pow_right (by decide) (by have := h.2.2.2.1; omega)
  omega
theorem RI.done {n : Nat} {s : RS} (h : RI n s) (hn : n ≤ 7) (hc : cmpl n s.2.1 s.2.2.2 = true) : okc n s.2.1 := by
  unfold cmpl at hc
  rcases Bool.or_eq_true_iff.mp hc with q | q
  · have := h.2.2.2.2.1 q
    rw [this.1]; exact (okb_c hn).mp this.2.2
  · exact (okb_c hn).mp (Bool.and_eq_true_iff.mp q).2
theorem RI.beg {n : Nat} {C : List Nat} (hl : C.length ≤ 19) (hC : ∀ c ∈ C, okc n c) : RI n (C, 0, 0, false) := ⟨hl, hC, by show 0 < 2 ^ 0; decide, Nat.zero_le _, fun q => absurd q (by simp), fun q => absurd q (by simp), fun q => absurd q (by simp)⟩
theorem okc_app {n : Nat} {C : List Nat} {x : Nat} (hC : ∀ c ∈ C, okc n c) (hx : okc n x) : ∀ c ∈ C ++ [x], okc n c := by
  intro c hc
  rcases List.mem_append.mp hc with q | q
  · exact hC c q
  · rw [List.mem_singleton.mp q]; exact hx
theorem RI.step {n c : Nat} {s s' : RS} (h : RI n s) (hn : n ≤ 7) (e : rac n c s = some s') : RI n s' := by
  unfold rac at e
  by_cases c1 : c = 46
  · rw [if_pos c1] at e
    by_cases c2 : 19 ≤ s.1.length
    · rw [if_pos c2] at e; exact absurd e (by simp)
    · rw [if_neg c2] at e
      by_cases c3 : cmpl n s.2.1 s.2.2.2 = true
      · rw [if_pos c3] at e
        rw [← Option.some.inj e]
        exact RI.beg (by simp; omega) (okc_app h.2.1 (h.done hn c3))
      · rw [if_neg c3] at e; exact absurd e (by simp)
  · rw [if_neg c1] at e
    by_cases c2 : c = 120
    · rw [if_pos c2] at e
      by_cases c3 : s.2.2.2 = true
      · rw [if_pos c3] at e; exact absurd e (by simp)
      · rw [if_neg c3] at e
        by_cases c4 : 0 < s.2.1
        · rw [if_pos c4] at e; exact absurd e (by simp)
        · rw [if_neg c4] at e
          by_cases c5 : okb n 0 = true
          · rw [if_pos c5] at e
            rw [← Option.some.inj e]
            refine ⟨h.1, h.2.1, h.2.2.1, h.2.2.2.1, fun _ => ⟨by show s.2.1 = 0; omega, ?_, c5⟩, h.2.2.2.2.2⟩
            show s.2.2.1 = 0
            rcases Nat.eq_zero_or_pos s.2.2.1 with q | q
            · exact q
            · exact absurd (h.2.2.2.2.2.1 q) c4
          · rw [if_neg c5] at e; exact absurd e (by simp)
    · rw [if_neg c2] at e
      by_cases c3 : s.2.2.2 = true
      · rw [if_pos c3] at e; exact absurd e (by simp)
      · rw [if_neg c3] at e
        by_cases c4 : c ≤ 48 + s.2.2.1
        · rw [if_pos c4] at e; exact absurd e (by simp)
        · rw [if_neg c4] at e
          by_cases c5 : 48 + n < c
          · rw [if_pos c5] at e; exact absurd e (by simp)
          · rw [if_neg c5] at e
            by_cases c6 : cbr n (s.2.1 ||| 2 ^ (c - 49)) (c - 48) = true
            · rw [if_pos c6] at e
              rw [← Option.some.inj e]
              refine ⟨h.1, h.2.1, ?_, ?_, fun q => absurd q (by simp), fun _ => ?_, fun _ => ⟨c6, ?_⟩⟩
              · show s.2.1 ||| 2 ^ (c - 49) < 2 ^ (c - 48)
                refine Nat.or_lt_two_pow (Nat.lt_of_lt_of_le h.2.2.1 (Nat.pow_le_pow_right (by decide) (by omega))) (Nat.pow_lt_pow_right (by decide) (by omega))
              · show c - 48 ≤ n; omega
              · show 0 < s.2.1 ||| 2 ^ (c - 49)
                have : 2 ^ (c - 49) ≤ s.2.1 ||| 2 ^ (c - 49) := Nat.right_le_or
                have : 0 < 2 ^ (c - 49) := Nat.pow_pos (by decide)
                omega
              · show 2 ^ (c - 48 - 1) ≤ s.2.1 ||| 2 ^ (c - 49)
                rw [show c - 48 - 1 = c - 49 by omega]
                exact Nat.right_le_or
            · rw [if_neg c6] at e; exact absurd e (by simp)
/-! ### the class reads -/
theorem RI.m0 {n : Nat} {s : RS} (h : RI n s) (c : s.2.2.1 = 0) : s.2.1 = 0 := by
  have := h.2.2.1
  rw [c] at this
  have : s.2.1 < 1 := this
  omega
theorem RI.cs {n : Nat} {s : RS} (h : RI n s) : crs n s.2.2.1 s.2.1 = true := by
  unfold crs
  by_cases c : s.2.2.1 = 0
  · rw [c, h.m0 c]; rfl
  · have := h.2.2.2.2.2.2 (by omega)
    rw [this.1, Nat.ble_eq.mpr this.2, Bool.and_true, Bool.or_true]
theorem p_complete {n : Nat} {s : RS} (h : RI n s) (h4 : 4 ≤ n) (hn : n ≤ 7) : f_X2_isChangeRight (nI n) (nI s.2.2.1) (nI (b1 s.2.2.2)) = some (nI (b1 (cmpl n s.2.1 s.2.2.2))) := by
  unfold cmpl
  cases s.2.2.2 with
  | true => unfold f_X2_isChangeRight; rw [if_neg (show ¬ nI (b1 true) = 0 by decide)]; rfl
  | false => rw [Bool.false_or]; exact (crb_u hn h4 h.2.2.2.1 h.2.2.1 h.cs).1
theorem p_place {n c : Nat} {s : RS} (h : RI n s) (h4 : 4 ≤ n) (hn : n ≤ 7) (h1 : 48 + s.2.2.1 < c) (h2 : c ≤ 48 + n) : f_X2_acceptsPlace (nI (c - 48)) (nI n) (nI s.2.1) (nI s.2.2.1) 0 = if cbr n (s.2.1 ||| 2 ^ (c - 49)) (c - 48) = true then some (1, nI (s.2.1 ||| 2 ^ (c - 49)), nI (c - 48)) else some (0, nI s.2.1, nI s.2.2.1) := by
  have := (crb_u hn h4 h.2.2.2.1 h.2.2.1 h.cs).2 (c - 49 - s.2.2.1) (by omega)
  rw [show s.2.2.1 + 1 + (c - 49 - s.2.2.1) = c - 48 by omega, show s.2.2.1 + (c - 49 - s.2.2.1) = c - 49 by omega] at this
  exact this
def placesX (C : List Nat) (f : Nat → Int32) : Prop := ∀ j, j < C.length → f j = nI (C.getD j 0)
theorem placesX.snoc {C : List Nat} {f : Nat → Int32} (h : placesX C f) (x : Nat) : placesX (C ++ [x]) (upd f C.length (nI x)) := by
  intro j hj
  rw [List.length_append, List.length_singleton] at hj
  unfold upd
  by_cases c : j = C.length
  · rw [if_pos c, c]; simp [List.getD_eq_getElem?_getD]
  · rw [if_neg c, getD_app1 (by omega)]; exact h j (by omega)
theorem p_keepChange {C : List Nat} {made last : Nat} {cr : Int32} {f : Nat → Int32} (hl : C.length ≤ 19) : f_X2_keepChange (nI C.length) (nI made) (nI last) cr f = some (nI (C.length + 1), 0, 0, 0, upd f C.length (nI made)) := by
  unfold f_X2_keepChange f_X2_beginChange
  rw [if_neg (nI_pos (by omega)), if_neg (show ¬ (20 : Int32) ≤ nI C.length from @nI_ge C.length 20 (by omega) (by decide)), gd_t (n_inb (by omega) (by decide)), nm_eq, nI_clamp (by omega), nI_1]
theorem p_accepts {n c : Nat} {s : RS} {f : Nat → Int32} (h : RI n s) (h4 : 4 ≤ n) (hn : n ≤ 7) (hc : c < 65536) (hf : placesX s.1 f) :
    (rac n c s = none ∧ ∃ a b d e g, f_X2_accepts (nI c) (nI n) (nI s.1.length) (nI s.2.1) (nI s.2.2.1) (nI (b1 s.2.2.2)) f = some (0, a, b, d, e, g))
    ∨ ∃ s' f', rac n c s = some s' ∧ placesX s'.1 f' ∧ f_X2_accepts (nI c) (nI n) (nI s.1.length) (nI s.2.1) (nI s.2.2.1) (nI (b1 s.2.2.2)) f = some (1, nI s'.1.length, nI s'.2.1, nI s'.2.2.1, nI (b1 s'.2.2.2), f') := by
  have hm := h.m hn
  have hl := h.1
  have hp := h.2.2.2.1
  unfold f_X2_accepts rac
  by_cases c1 : c = 46
  · rw [if_pos c1, if_pos (show nI c = 46 by rw [c1]; rfl)]
    unfold f_X2_acceptsDot
    by_cases c2 : 19 ≤ s.1.length
    · rw [if_pos c2, if_pos (show (19 : Int32) ≤ nI s.1.length from @nI_le 19 s.1.length c2 (by omega))]
      exact Or.inl ⟨rfl, _, _, _, _, _, rfl⟩
    · rw [if_neg c2, if_neg (show ¬ (19 : Int32) ≤ nI s.1.length from @nI_ge s.1.length 19 (by omega) (by decide)), bd_t (p_complete h h4 hn)]
      cases cmpl n s.2.1 s.2.2.2 with
      | false => exact Or.inl ⟨rfl, _, _, _, _, _, rfl⟩
      | true =>
        refine Or.inr ⟨_, upd f s.1.length (nI s.2.1), rfl, hf.snoc _, ?_⟩
        rw [if_neg (show ¬ nI (b1 true) = 0 by decide), bd_t (p_keepChange hl)]
        show some _ = some _
        rw [List.length_append, List.length_singleton]
        rfl
  · rw [if_neg c1, if_neg (show ¬ nI c = 46 from fun q => c1 ((nI_eq (b := 46) (by omega) (by decide)).mp q))]
    by_cases c2 : c = 120
    · rw [if_pos c2, if_pos (show nI c = 120 by rw [c2]; rfl)]
      unfold f_X2_acceptsCross
      cases hcr : s.2.2.2 with
      | true =>
        rw [if_neg (show ¬ nI (b1 true) = 0 by decide)]
        exact Or.inl ⟨rfl, _, _, _, _, _, rfl⟩
      | false =>
        rw [if_pos (show nI (b1 false) = 0 by decide), if_neg Bool.false_ne_true]
        by_cases c4 : 0 < s.2.1
        · have : 0 < s.2.2.1 := by
            rcases Nat.eq_zero_or_pos s.2.2.1 with q | q
            · exact absurd (h.m0 q) (by omega)
            · exact q
          rw [if_pos (show (0 : Int32) < nI s.2.2.1 from @nI_lt 0 s.2.2.1 this (by omega)), if_pos c4]
          exact Or.inl ⟨rfl, _, _, _, _, _, rfl⟩
        · have : s.2.2.1 = 0 := by
            rcases Nat.eq_zero_or_pos s.2.2.1 with q | q
            · exact q
            · exact absurd (h.2.2.2.2.2.1 q) c4
          rw [if_neg (show ¬ (0 : Int32) < nI s.2.2.1 by rw [this]; decide), if_neg c4]
          by_cases c5 : okb n 0 = true
          · rw [if_pos ((ev_s n (by omega) h4).mpr c5), if_pos c5]
            exact Or.inr ⟨_, f, rfl, hf, rfl⟩
          · rw [if_neg (fun q => c5 ((ev_s n (by omega) h4).mp q)), if_neg c5]
            exact Or.inl ⟨rfl, _, _, _, _, _, rfl⟩
    · rw [if_neg c2, if_neg (show ¬ nI c = 120 from fun q => c2 ((nI_eq (b := 120) (by omega) (by decide)).mp q))]
      cases hcr : s.2.2.2 with
      | true =>
        unfold f_X2_acceptsPlace
        rw [if_neg (show ¬ nI (b1 true) = 0 by decide)]
        exact Or.inl ⟨rfl, _, _, _, _, _, rfl⟩
      | false =>
        rw [if_neg Bool.false_ne_true]
        by_cases c4 : c ≤ 48 + s.2.2.1
        · have : nI c - 48 ≤ nI s.2.2.1 := by
            rw [Int32.le_iff_toInt_le, show (48 : Int32) = nI 48 from rfl, pk_sub_toInt (by omega) (by decide), nI_toInt (by omega)]
            omega
          unfold f_X2_acceptsPlace
          rw [if_pos (show nI (b1 false) = 0 by decide), if_pos this, if_pos c4]
          exact Or.inl ⟨rfl, _, _, _, _, _, rfl⟩
        · rw [if_neg c4, show (48 : Int32) = nI 48 from rfl, pk_sub (by omega)]
          by_cases c5 : 48 + n < c
          · unfold f_X2_acceptsPlace
            rw [if_pos (show nI (b1 false) = 0 by decide), if_neg (nI_ge (by omega) (by omega)), if_pos (nI_lt (by omega) (by omega)), if_pos c5]
            exact Or.inl ⟨rfl, _, _, _, _, _, rfl⟩
          · rw [if_neg c5, show f_X2_acceptsPlace (nI (c - 48)) (nI n) (nI s.2.1) (nI s.2.2.1) (nI (b1 false)) = _ from p_place h h4 hn (by omega) (by omega)]
            by_cases c6 : cbr n (s.2.1 ||| 2 ^ (c - 49)) (c - 48) = true
            · rw [if_pos c6, if_pos c6]; exact Or.inr ⟨_, f, rfl, hf, rfl⟩
            · rw [if_neg c6, if_neg c6]; exact Or.inl ⟨rfl, _, _, _, _, _, rfl⟩
def RRes (v : Int32) (r : Nat ⊕ List Nat) (vc : Int32) (f : Nat → Int32) : Prop := match r with
  | .inl i => v = nI i
  | .inr C => v = -4 ∧ vc = nI C.length ∧ placesX C f
theorem p_read_L {n N np : Nat} {tx : Nat → Nat} {f1 : Nat → Int32} (h4 : 4 ≤ n) (hn : n ≤ 7) (hN : N ≤ np) (hnp : np ≤ 80) (ht : ∀ i, i < N → f1 i = nI (tx i) ∧ tx i < 65536) :
    ∀ (d i M : Nat) (s : RS) (f : Nat → Int32), i + d = N → RI n s → placesX s.1 f → d < M →
    ∃ v vc a b e f', f_X2_read_L12 (fun y8 y9 y10 y11 y12 y13 => bd (f_X2_isChangeRight (nI n) y11 y12) (fun q14 => (if q14 = 0 then some (nI N, y9, y10, y11, y12, y13) else bd (f_X2_keepChange y9 y10 y11 y12 y13) (fun q18 => some ((-4), q18.1, q18.2.1, q18.2.2.1, q18.2.2.2.1, q18.2.2.2.2))))) (nI N) (nI n) np f1 M (nI i) (nI s.1.length) (nI s.2.1) (nI s.2.2.1) (nI (b1 s.2.2.2)) f = some (v, vc, a, b, e, f') ∧ RRes v (rd n tx d i s) vc f'
  | 0, i, M, s, f, hi, hR, hf, hM => by
    obtain ⟨M, rfl⟩ : ∃ k, M = k + 1 := ⟨M - 1, by omega⟩
    rw [f_X2_read_L12, if_pos (nI_le (by omega) (by omega)), bd_t (p_complete hR h4 hn), rd]
    cases cmpl n s.2.1 s.2.2.2 with
    | false => exact ⟨_, _, _, _, _, _, rfl, by show nI N = nI i; rw [show i = N by omega]⟩
    | true =>
      rw [if_neg (show ¬ nI (b1 true) = 0 by decide), bd_t (p_keepChange hR.1)]
      exact ⟨_, _, _, _, _, _, rfl, rfl, by rw [List.length_append, List.length_singleton], hf.snoc _⟩
  | d + 1, i, M, s, f, hi, hR, hf, hM => by
    obtain ⟨M, rfl⟩ : ∃ k, M = k + 1 := ⟨M - 1, by omega⟩
    have hti := ht i (by omega)
    rw [f_X2_read_L12, if_neg (nI_ge (by omega) (by omega)), if_neg (nI_ge (by omega) (by omega)), gd_t (n_inb (show i < np by omega) (by omega)), nI_clamp (by omega), hti.1, rd]
    rcases p_accepts hR h4 hn hti.2 hf with ⟨e1, a, b, dd, e, g, e2⟩ | ⟨s', f', e1, e2, e3⟩
    · rw [bd_t e2, e1]
      exact ⟨_, _, _, _, _, _, rfl, rfl⟩
    · rw [bd_t e3, e1, nI_1]
      exact p_read_L h4 hn hN hnp ht d (i + 1) M s' f' (by omega) (hR.step hn e1) e2 (by omega)
theorem p_read {n N np : Nat} {tx : Nat → Nat} {f1 : Nat → Int32} (h4 : 4 ≤ n) (hn : n ≤ 7) (hN : N ≤ np) (hnp : np ≤ 80) (ht : ∀ i, i < N → f1 i = nI (tx i) ∧ tx i < 65536) (vc va vb ve : Int32) (f : Nat → Int32) :
    ∃ v vo a b e f', f_X2_read (nI N) (nI n) np vc va vb ve f f1 = some (v, vo, a, b, e, f') ∧ RRes v (rd n tx N 0 ([], 0, 0, false)) vo f' :=
  p_read_L h4 hn hN hnp ht N 0 fu ([], 0, 0, false) f (by omega) (RI.beg (by decide) (fun c hc => by cases hc)) (fun j hj => absurd hj (by simp)) (by show N < 8192; omega)

