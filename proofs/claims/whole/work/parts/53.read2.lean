/-! ===== the model reads ===== -/
theorem m_in {a lo hi : Nat} (ha : a < 2 ^ 31) (hlo : lo < 2 ^ 31) (hhi : hi < 2 ^ 31) : f_X11_in (nI a) (nI lo) (nI hi) = nI (b1 (decide (lo ≤ a) && decide (a ≤ hi))) := by
  unfold f_X11_in
  by_cases c1 : lo ≤ a
  · rw [if_neg (nI_nlt c1 (by omega)), decide_eq_true c1]
    by_cases c2 : a ≤ hi
    · rw [if_neg (nI_nlt c2 (by omega)), decide_eq_true c2]; rfl
    · rw [if_pos (nI_lt (by omega) (by omega)), decide_eq_false c2]; rfl
  · rw [if_pos (nI_lt (by omega) (by omega)), decide_eq_false c1]; rfl
theorem m_isAt {N i lo up : Nat} {tx : Nat → Nat} {pad : Nat → Int32} (hN : N ≤ 80) (hi : i ≤ N) (ht : ∀ i, i < N → pad i = nI (tx i) ∧ tx i < 65536) (hlo : lo < 2 ^ 31) (hhi : up < 2 ^ 31) : f_X11_isAt (nI lo) (nI up) (nI N) (nI i) pad = some (nI (b1 (decide (i < N) && (decide (lo ≤ tx i) && decide (tx i ≤ up))))) := by
  unfold f_X11_isAt
  by_cases c : i < N
  · have q := ht i c
    rw [if_neg (nI_ge c (by omega)), gd_t (n_inb (by omega) (by decide)), nI_clamp (by omega), q.1, m_in (by omega) hlo hhi, decide_eq_true c, Bool.true_and]
    cases (decide (lo ≤ tx i) && decide (tx i ≤ up)) <;> rfl
  · rw [if_pos (nI_le (by omega) (by omega)), decide_eq_false c, Bool.false_and]; rfl
theorem rac_digit {n c : Nat} {s : RS} (hcr : s.2.2.2 = false) (h1 : 49 + s.2.2.1 ≤ c) (h2 : c ≤ 48 + n) (hn : n ≤ 7) : rac n c s = if cbr n (s.2.1 ||| 2 ^ (c - 49)) (c - 48) then some (s.1, s.2.1 ||| 2 ^ (c - 49), c - 48, false) else none := by
  unfold rac
  rw [if_neg (by omega), if_neg (by omega), hcr, if_neg Bool.false_ne_true, if_neg (by omega), if_neg (by omega)]
theorem rac_other {n c : Nat} {s : RS} (hcr : s.2.2.2 = false) (h : ¬ (49 + s.2.2.1 ≤ c ∧ c ≤ 48 + n)) (h46 : c ≠ 46) (h120 : c = 120 → 0 < s.2.1 ∨ okb n 0 = false) : rac n c s = none := by
  unfold rac
  rw [if_neg h46]
  by_cases c1 : c = 120
  · rw [if_pos c1, hcr, if_neg Bool.false_ne_true]
    by_cases c2 : 0 < s.2.1
    · rw [if_pos c2]
    · rw [if_neg c2]
      rcases h120 c1 with q | q
      · exact absurd q c2
      · rw [q]; rfl
  · rw [if_neg c1, hcr, if_neg Bool.false_ne_true]
    by_cases c2 : c ≤ 48 + s.2.2.1
    · rw [if_pos c2]
    · rw [if_neg c2, if_pos (by omega)]
theorem rd_none {n i d : Nat} {tx : Nat → Nat} {s : RS} (h : rac n (tx i) s = none) : rd n tx (d + 1) i s = .inl i := by rw [rd, h]
theorem rd_some {n i d : Nat} {tx : Nat → Nat} {s s' : RS} (h : rac n (tx i) s = some s') : rd n tx (d + 1) i s = rd n tx d (i + 1) s' := by rw [rd, h]
theorem m_digits {n N mn : Nat} {tx : Nat → Nat} {sv pad : Nat → Int32} (h4 : 4 ≤ n) (hn : n ≤ 7) (hs : sv 0 = nI n) (hN : N ≤ 80) (ht : ∀ i, i < N → pad i = nI (tx i) ∧ tx i < 65536) (hmn : mn ≤ 19) (k : Int32 → Int32 → (Nat → Int32) → Option (Int32 × Int32 × (Nat → Int32))) :
    ∀ (d i M : Nat) (s : RS) (rv : Nat → Int32), i + d = N → RI n s → s.2.2.2 = false → rv mn = nI s.2.1 → (0 < d → tx i = 120 → 0 < s.2.1 ∨ okb n 0 = false) → d < M →
    ∃ i' d' s' rv', i' + d' = N ∧ i ≤ i' ∧ RI n s' ∧ s'.2.2.2 = false ∧ s'.1 = s.1 ∧ rd n tx d i s = rd n tx d' i' s' ∧ (∀ q, q ≠ mn → rv' q = rv q) ∧ rv' mn = nI s'.2.1 ∧ (i < i' ∨ (i' = i ∧ s' = s)) ∧
      ((f_X11_readsChange_L43 k (nI N) (nI mn) sv pad M (nI s.2.2.1) (nI i) rv = some (0, nI i', rv') ∧ rd n tx d' i' s' = .inl i')
      ∨ (f_X11_readsChange_L43 k (nI N) (nI mn) sv pad M (nI s.2.2.1) (nI i) rv = k (nI s'.2.2.1) (nI i') rv' ∧ (d' = 0 ∨ tx i' = 46 ∨ rac n (tx i') s' = none)))
  | d, i, 0, s, rv, hi, hR, hcr, hrv, hx, hM => absurd hM (by omega)
  | d, i, M + 1, s, rv, hi, hR, hcr, hrv, hx, hM => by
    have hl := hR.2.2.2.1
    have e0 := m_isAt (lo := 49 + s.2.2.1) (up := 48 + n) hN (show i ≤ N by omega) ht (by omega) (by omega)
    rw [f_X11_readsChange_L43, show (0 : Int32).toNatClampNeg = 0 from rfl, hs, show (49 : Int32) = nI 49 from rfl, show (48 : Int32) = nI 48 from rfl, nI_add, nI_add, bd_t e0]
    by_cases c : i < N ∧ 49 + s.2.2.1 ≤ tx i ∧ tx i ≤ 48 + n
    · obtain ⟨d, rfl⟩ : ∃ k, d = k + 1 := ⟨d - 1, by omega⟩
      have q := ht i c.1
      rw [decide_eq_true c.1, decide_eq_true c.2.1, decide_eq_true c.2.2, if_neg (show ¬ nI (b1 (true && (true && true))) = 0 by decide), gd_t (n_inb (show i < 80 by omega) (by decide)), nI_clamp (by omega), q.1, pk_sub (by omega), nm_eq, gd_t (n_inb (show mn < 21 by omega) (by decide)), nI_clamp (by omega), hrv, show (1 : Int32) = nI 1 from rfl, show (31 : Int32) = nI 31 from rfl, pk_sub (by omega), n_shl (by omega) (by
          have : 2 ^ (tx i - 48 - 1) ≤ 2 ^ 7 := Nat.pow_le_pow_right (by decide) (by omega)
          omega), Nat.one_mul, nx_or, nm_eq, show tx i - 48 - 1 = tx i - 49 by omega]
      have e2 : s.2.1 ||| 2 ^ (tx i - 49) < 2 ^ (tx i - 48) := Nat.or_lt_two_pow (Nat.lt_of_lt_of_le hR.2.2.1 (Nat.pow_le_pow_right (by decide) (by omega))) (Nat.pow_lt_pow_right (by decide) (by omega))
      have e3 := rac_digit (c := tx i) hcr c.2.1 c.2.2 hn
      rw [bd_t (m_could h4 hn hs (by omega) e2)]
      by_cases c6 : cbr n (s.2.1 ||| 2 ^ (tx i - 49)) (tx i - 48) = true
      · rw [if_pos c6] at e3
        have hR' := hR.step hn e3
        have hp : 0 < s.2.1 ||| 2 ^ (tx i - 49) := by
          have : 2 ^ (tx i - 49) ≤ s.2.1 ||| 2 ^ (tx i - 49) := Nat.right_le_or
          have : 0 < 2 ^ (tx i - 49) := Nat.pow_pos (by decide)
          omega
        obtain ⟨i', d', s', rv', a1, a2, a3, a4, a5, a6, a7, a8, a9, a10⟩ := m_digits h4 hn hs hN ht hmn k d (i + 1) M (s.1, s.2.1 ||| 2 ^ (tx i - 49), tx i - 48, false) (upd rv mn (nI (s.2.1 ||| 2 ^ (tx i - 49)))) (by omega) hR' rfl (by unfold upd; rw [if_pos rfl]) (fun _ _ => Or.inl hp) (by omega)
        refine ⟨i', d', s', rv', a1, by omega, a3, a4, a5, by rw [rd_some e3, a6], fun q hq => by rw [a7 q hq]; unfold upd; rw [if_neg hq], a8, Or.inl (by rcases a9 with w | w; omega; omega), ?_⟩
        rw [c6, if_neg (show ¬ nI (b1 true) = 0 by decide), nI_add, nm_eq]
        exact a10
      · rw [if_neg c6] at e3
        rw [Bool.not_eq_true] at c6
        refine ⟨i, d + 1, s, rv, hi, Nat.le_refl _, hR, hcr, rfl, rfl, fun _ _ => rfl, hrv, Or.inr ⟨rfl, rfl⟩, Or.inl ⟨?_, rd_none e3⟩⟩
        rw [c6, if_pos (show nI (b1 false) = 0 by decide)]
    · refine ⟨i, d, s, rv, hi, Nat.le_refl _, hR, hcr, rfl, rfl, fun _ _ => rfl, hrv, Or.inr ⟨rfl, rfl⟩, Or.inr ⟨?_, ?_⟩⟩
      · have : (decide (i < N) && (decide (49 + s.2.2.1 ≤ tx i) && decide (tx i ≤ 48 + n))) = false := by
          rw [← Bool.not_eq_true, Bool.and_eq_true, Bool.and_eq_true, decide_eq_true_eq, decide_eq_true_eq, decide_eq_true_eq]
          exact c
        rw [this, if_pos (show nI (b1 false) = 0 by decide)]
      · rcases Nat.eq_zero_or_pos d with q | q
        · exact Or.inl q
        · by_cases w : tx i = 46
          · exact Or.inr (Or.inl w)
          · exact Or.inr (Or.inr (rac_other hcr (fun e => c ⟨by omega, e⟩) w (hx q)))
def stopAt (n : Nat) (tx : Nat → Nat) (d i : Nat) (s : RS) : Prop := d = 0 ∨ tx i = 46 ∨ rac n (tx i) s = none
theorem stop_no {n d i : Nat} {tx : Nat → Nat} {s : RS} (h : stopAt n tx d i s) (hc : cmpl n s.2.1 s.2.2.2 = false) : rd n tx d i s = .inl i := by
  cases d with
  | zero => rw [rd, hc]; rfl
  | succ d =>
    rcases h with q | q | q
    · exact absurd q (by omega)
    · refine rd_none ?_
      unfold rac
      rw [if_pos q, hc]
      by_cases w : 19 ≤ s.1.length
      · rw [if_pos w]
      · rw [if_neg w]; rfl
    · exact rd_none q
theorem m_readsChange {n N : Nat} {tx : Nat → Nat} {sv pad : Nat → Int32} {C : List Nat} (h4 : 4 ≤ n) (hn : n ≤ 7) (hs : sv 0 = nI n) (hN : N ≤ 80) (ht : ∀ i, i < N → pad i = nI (tx i) ∧ tx i < 65536) (hC : C.length ≤ 19) (hCo : ∀ c ∈ C, okc n c) {d i : Nat} (hi : i + d = N) (rv : Nat → Int32) :
    ∃ i' d' s' rv', ∃ b : Bool, f_X11_readsChange (nI N) (nI C.length) (nI i) sv pad rv = some (nI (b1 b), nI i', rv') ∧ i' + d' = N ∧ i ≤ i' ∧ RI n s' ∧ s'.1 = C ∧ rd n tx d i (C, 0, 0, false) = rd n tx d' i' s' ∧ (∀ q, q ≠ C.length → rv' q = rv q) ∧ rv' C.length = nI s'.2.1
      ∧ (b = false → rd n tx d' i' s' = .inl i') ∧ (b = true → cmpl n s'.2.1 s'.2.2.2 = true ∧ i < i' ∧ stopAt n tx d' i' s') := by
  have hR0 : RI n (C, 0, 0, false) := RI.beg hC hCo
  have e0 := m_isAt (lo := 120) (up := 120) hN (show i ≤ N by omega) ht (by decide) (by decide)
  have hup : ∀ q, q ≠ C.length → upd rv C.length 0 q = rv q := fun q hq => by unfold upd; rw [if_neg hq]
  have hup0 : upd rv C.length 0 C.length = nI 0 := by unfold upd; rw [if_pos rfl]; rfl
  have dig : ∀ (hx : 0 < d → tx i = 120 → 0 < 0 ∨ okb n 0 = false), ∃ i' d' s' rv', ∃ b : Bool, f_X11_readsChange_L43 (fun y19 y20 y21 => (if y19 ≤ 0 then some (0, y20, y21) else gd (inb (nI C.length) 21) (bd (f_X11_isRight (y21 C.length) sv) (fun q24 => (if q24 = 0 then some (0, y20, y21) else some (1, y20, y21)))))) (nI N) (nI C.length) sv pad fu 0 (nI i) (upd rv C.length 0) = some (nI (b1 b), nI i', rv') ∧ i' + d' = N ∧ i ≤ i' ∧ RI n s' ∧ s'.1 = C ∧ rd n tx d i (C, 0, 0, false) = rd n tx d' i' s' ∧ (∀ q, q ≠ C.length → rv' q = rv q) ∧ rv' C.length = nI s'.2.1
      ∧ (b = false → rd n tx d' i' s' = .inl i') ∧ (b = true → cmpl n s'.2.1 s'.2.2.2 = true ∧ i < i' ∧ stopAt n tx d' i' s') := by
    intro hx
    obtain ⟨i', d', s', rv', a1, a2, a3, a4, a5, a6, a7, a8, a9, a10⟩ := m_digits h4 hn hs hN ht hC (fun y19 y20 y21 => (if y19 ≤ 0 then some (0, y20, y21) else gd (inb (nI C.length) 21) (bd (f_X11_isRight (y21 C.length) sv) (fun q24 => (if q24 = 0 then some (0, y20, y21) else some (1, y20, y21)))))) d i fu (C, 0, 0, false) (upd rv C.length 0) hi hR0 rfl hup0 hx (by show d < 8192; omega)
    have hf : ∀ q, q ≠ C.length → rv' q = rv q := fun q hq => by rw [a7 q hq, hup q hq]
    rcases a10 with ⟨b1', b2⟩ | ⟨b1', b2⟩
    · exact ⟨i', d', s', rv', false, b1', a1, a2, a3, a5, a6, hf, a8, fun _ => b2, fun q => absurd q (by decide)⟩
    · have hl := a3.2.2.2.1
      have hc : cmpl n s'.2.1 s'.2.2.2 = (decide (0 < s'.2.1) && okb n s'.2.1) := by unfold cmpl; rw [a4, Bool.false_or]
      refine ⟨i', d', s', rv', cmpl n s'.2.1 s'.2.2.2, ?_, a1, a2, a3, a5, a6, hf, a8, fun q => stop_no b2 q, fun q => ⟨q, ?_, b2⟩⟩
      · refine b1'.trans ?_
        by_cases c : s'.2.2.1 = 0
        · have : s'.2.1 = 0 := by have := a3.2.2.1; rw [c] at this; have : s'.2.1 < 1 := this; omega
          rw [if_pos (by rw [c]; decide), hc, this]; rfl
        · have := a3.2.2.2.2.2.1 (by omega)
          rw [if_neg (nI_nle (by omega) (by omega)), gd_t (n_inb (by omega) (by decide)), a8, bd_t (m_isRight h4 hn hs (a3.m hn)), hc, decide_eq_true this, Bool.true_and]
          cases okb n s'.2.1 <;> rfl
      · rcases a9 with w | ⟨w1, w2⟩
        · exact w
        · rw [w2] at q
          exact absurd q (by unfold cmpl; simp)
  unfold f_X11_readsChange
  rw [gd_t (n_inb (show C.length < 21 by omega) (by decide)), show (120 : Int32) = nI 120 from rfl, bd_t e0, nI_clamp (by omega)]
  by_cases c : i < N ∧ tx i = 120
  · obtain ⟨d, rfl⟩ : ∃ k, d = k + 1 := ⟨d - 1, by omega⟩
    have : (decide (i < N) && (decide (120 ≤ tx i) && decide (tx i ≤ 120))) = true := by
      rw [c.2, decide_eq_true c.1]; rfl
    rw [this, if_neg (show ¬ nI (b1 true) = 0 by decide), bd_t (show f_X11_isRight 0 sv = _ from m_isRight h4 hn hs (c := 0) (by decide))]
    cases ho : okb n 0 with
    | false =>
      rw [if_pos (show nI (b1 false) = 0 by decide)]
      exact dig (fun _ _ => Or.inr ho)
    | true =>
      have e3 : rac n (tx i) (C, 0, 0, false) = some (C, 0, 0, true) := by
        unfold rac
        rw [if_neg (by omega), if_pos c.2, if_neg Bool.false_ne_true, if_neg (show ¬ 0 < 0 by decide), if_pos ho]
      rw [if_neg (show ¬ nI (b1 true) = 0 by decide), nm_eq, nI_1]
      refine ⟨i + 1, d, (C, 0, 0, true), _, true, rfl, by omega, by omega, hR0.step hn e3, rfl, rd_some e3, hup, hup0, fun q => absurd q (by decide), fun _ => ⟨rfl, by omega, ?_⟩⟩
      by_cases w : tx (i + 1) = 46
      · exact Or.inr (Or.inl w)
      · refine Or.inr (Or.inr ?_)
        unfold rac
        rw [if_neg w]
        by_cases w2 : tx (i + 1) = 120
        · rw [if_pos w2, if_pos rfl]
        · rw [if_neg w2, if_pos rfl]
  · have : (decide (i < N) && (decide (120 ≤ tx i) && decide (tx i ≤ 120))) = false := by
      rw [← Bool.not_eq_true, Bool.and_eq_true, Bool.and_eq_true, decide_eq_true_eq, decide_eq_true_eq, decide_eq_true_eq]
      intro q; exact c ⟨q.1, by omega⟩
    rw [this, if_pos (show nI (b1 false) = 0 by decide)]
    exact dig (fun q1 q2 => absurd ⟨by omega, q2⟩ c)
theorem m_methodFault_L {n N : Nat} {tx : Nat → Nat} {sv pad : Nat → Int32} (h4 : 4 ≤ n) (hn : n ≤ 7) (hs : sv 0 = nI n) (hN : N ≤ 80) (ht : ∀ i, i < N → pad i = nI (tx i) ∧ tx i < 65536) :
    ∀ (M d i : Nat) (C : List Nat) (rv : Nat → Int32), i + d = N → C.length ≤ 19 → (∀ c ∈ C, okc n c) → placesX C rv → d + 1 < M →
    ∃ v many spot rv', f_X11_methodFault_L12 (fun y19 y20 y21 y22 => (if y21 = nI N then some ((-4), y20, y21, y22) else some (y21, y20, y21, y22))) (nI N) sv pad M 1 (nI C.length) (nI i) rv = some (v, many, spot, rv') ∧ RRes v (rd n tx d i (C, 0, 0, false)) many rv' := by
  intro M
  induction M with
  | zero => intro d i C rv _ _ _ _ h; omega
  | succ M ih =>
    intro d i C rv hi hC hCo hp hM
    obtain ⟨M2, rfl⟩ : ∃ k, M = k + 1 := ⟨M - 1, by omega⟩
    obtain ⟨i', d', s', rv', b, e1, a1, a2, a3, a4, a5, a6, a7, a8, a9⟩ := m_readsChange h4 hn hs hN ht hC hCo hi rv
    rw [f_X11_methodFault_L12, if_neg (by decide), bd_t e1, a5]
    dsimp only
    cases b with
    | false =>
      rw [if_pos (show nI (b1 false) = 0 by decide), a8 rfl]
      exact ⟨_, _, _, _, rfl, rfl⟩
    | true =>
      obtain ⟨q1, q2, q3⟩ := a9 rfl
      have hp' : placesX (C ++ [s'.2.1]) rv' := by
        intro j hj
        rw [List.length_append, List.length_singleton] at hj
        by_cases c : j = C.length
        · rw [c, a7]; simp [List.getD_eq_getElem?_getD]
        · rw [a6 j c, getD_app1 (by omega)]; exact hp j (by omega)
      have ex : ∀ (M : Nat) (s1 : Int32), s1 = 0 → (d' ≠ 0 → rd n tx d' i' s' = .inl i') → ∃ v many spot rv'', f_X11_methodFault_L12 (fun y19 y20 y21 y22 => (if y21 = nI N then some ((-4), y20, y21, y22) else some (y21, y20, y21, y22))) (nI N) sv pad (M + 1) s1 (nI (C.length + 1)) (nI i') rv' = some (v, many, spot, rv'') ∧ RRes v (rd n tx d' i' s') many rv'' := by
        intro M s1 h0 hd
        rw [f_X11_methodFault_L12, if_pos h0]
        by_cases c : d' = 0
        · rw [if_pos (by rw [show i' = N by omega])]
          subst c
          refine ⟨_, _, _, _, rfl, ?_⟩
          rw [rd, q1, a4]
          exact ⟨rfl, by rw [List.length_append, List.length_singleton], hp'⟩
        · rw [if_neg (fun w => c (by have := (nI_eq (by omega) (by omega)).mp w; omega)), hd c]
          exact ⟨_, _, _, _, rfl, rfl⟩
      rw [if_neg (show ¬ nI (b1 true) = 0 by decide), nI_1, nm_eq]
      by_cases c19 : C.length = 19
      · rw [if_pos (show (20 : Int32) ≤ nI (C.length + 1) from @nI_le 20 (C.length + 1) (by omega) (by omega)), nm_eq, nm_eq, if_pos rfl, show (nI i' + 0 : Int32) = nI i' by rw [show (0 : Int32) = nI 0 from rfl, nI_add]; rfl]
        refine ex M2 0 rfl (fun hd => ?_)
        obtain ⟨d', rfl⟩ : ∃ k, d' = k + 1 := ⟨d' - 1, by omega⟩
        refine rd_none ?_
        rcases q3 with w | w | w
        · exact absurd w hd
        · unfold rac; rw [if_pos w, a4, if_pos (by omega)]
        · exact w
      · have e0 := m_isAt (lo := 46) (up := 46) hN (show i' ≤ N by omega) ht (by decide) (by decide)
        rw [if_neg (show ¬ (20 : Int32) ≤ nI (C.length + 1) from @nI_ge (C.length + 1) 20 (by omega) (by decide)), show (46 : Int32) = nI 46 from rfl, bd_t e0]
        by_cases c : i' < N ∧ tx i' = 46
        · have e46 : (decide (i' < N) && (decide (46 ≤ tx i') && decide (tx i' ≤ 46))) = true := by
            rw [c.2, decide_eq_true c.1]; rfl
          obtain ⟨d', rfl⟩ : ∃ k, d' = k + 1 := ⟨d' - 1, by omega⟩
          have e3 : rac n (tx i') s' = some (C ++ [s'.2.1], 0, 0, false) := by
            unfold rac
            rw [if_pos c.2, a4, if_neg (by omega), if_pos q1]
          rw [e46, nm_eq, nm_eq, nm_eq, if_neg (show ¬ nI (b1 true) = 0 by decide), if_neg (show ¬ (1 : Int32) = 0 by decide), nI_1, rd_some e3]
          have := ih d' (i' + 1) (C ++ [s'.2.1]) rv' (by omega) (by rw [List.length_append, List.length_singleton]; omega) (okc_app hCo (a3.done hn q1)) hp' (by omega)
          rw [List.length_append, List.length_singleton] at this
          exact this
        · have e46 : (decide (i' < N) && (decide (46 ≤ tx i') && decide (tx i' ≤ 46))) = false := by
            rw [← Bool.not_eq_true, Bool.and_eq_true, Bool.and_eq_true, decide_eq_true_eq, decide_eq_true_eq, decide_eq_true_eq]
            intro q; exact c ⟨q.1, by omega⟩
          rw [e46, nm_eq, nm_eq, nm_eq, if_pos (show nI (b1 false) = 0 by decide), if_pos rfl, show (nI i' + 0 : Int32) = nI i' by rw [show (0 : Int32) = nI 0 from rfl, nI_add]; rfl]
          refine ex M2 0 rfl (fun hd => ?_)
          obtain ⟨d', rfl⟩ : ∃ k, d' = k + 1 := ⟨d' - 1, by omega⟩
          refine rd_none ?_
          rcases q3 with w | w | w
          · exact absurd w hd
          · exact absurd ⟨by omega, w⟩ c
          · exact w
theorem m_methodFault {n N : Nat} {tx : Nat → Nat} {sv pad : Nat → Int32} (h4 : 4 ≤ n) (hn : n ≤ 7) (hs : sv 0 = nI n) (hN : N ≤ 80) (ht : ∀ i, i < N → pad i = nI (tx i) ∧ tx i < 65536) (vm vs : Int32) (rv : Nat → Int32) :
    ∃ v many spot rv', f_X11_methodFault (nI N) vm vs sv pad rv = some (v, many, spot, rv') ∧ RRes v (rd n tx N 0 ([], 0, 0, false)) many rv' :=
  m_methodFault_L h4 hn hs hN ht fu N 0 [] rv (by omega) (by decide) (fun c hc => by cases hc) (fun j hj => absurd hj (by simp)) (by show N + 1 < 8192; omega)
