/-! ===== the model's cells: rounds, a change, a row out of its place ===== -/
theorem m_toRounds_L {n : Nat} {s : Nat → Int32} (hn : n ≤ 7) (hs : s 0 = nI n) : ∀ (d i m : Nat) (ce : Nat → Int32), i + d = n → (∀ j, j < i → ce j = nI j) → d < m → ∃ c', f_X11_toRounds_L2 s m (nI i) ce = some c' ∧ ∀ j, j < n → c' j = nI j
  | 0, i, m, ce, hi, hc, hm => by
    obtain ⟨m, rfl⟩ : ∃ k, m = k + 1 := ⟨m - 1, by omega⟩
    refine ⟨ce, ?_, fun j hj => hc j (by omega)⟩
    rw [f_X11_toRounds_L2, nl, nI_clamp (by decide), hs, if_pos (nI_le (by omega) (by omega))]
  | d + 1, i, m, ce, hi, hc, hm => by
    obtain ⟨m, rfl⟩ : ∃ k, m = k + 1 := ⟨m - 1, by omega⟩
    rw [f_X11_toRounds_L2, nl, nI_clamp (by decide), hs, if_neg (nI_ge (by omega) (by omega)), gd_t (n_inb (by omega) (by decide)), nl, nI_add, nI_clamp (by omega)]
    refine m_toRounds_L hn hs d (i + 1) m _ (by omega) (fun j hj => ?_) (by omega)
    unfold upd
    by_cases h : j = i
    · rw [if_pos h, h]
    · rw [if_neg h]; exact hc j (by omega)
theorem m_toRounds {n : Nat} {s ce : Nat → Int32} (hn : n ≤ 7) (hs : s 0 = nI n) : ∃ c', f_X11_toRounds s ce = some c' ∧ isCell n (List.range n) c' := by
  obtain ⟨c', h1, h2⟩ := m_toRounds_L hn hs n 0 fu ce (by omega) (fun j hj => by omega) (by show n < 8192; omega)
  refine ⟨c', h1, fun i hi => ?_⟩
  rw [h2 i hi]
  simp [List.getD_eq_getElem?_getD, hi]
/-- what is left of a change is right for so many places -/
def rt : Nat → Nat → Bool
  | _, 0 => true
  | c, 1 => decide (c % 2 = 1)
  | c, m + 2 => if c % 2 = 1 then rt (c / 2) (m + 1) else decide (c / 2 % 2 = 0) && rt (c / 4) m
theorem getD_app1 {A B : List Nat} {i : Nat} (h : i < A.length) : (A ++ B).getD i 0 = A.getD i 0 := by
  simp [List.getD_eq_getElem?_getD, List.getElem?_append_left h]
theorem getD_app2 {A B : List Nat} {i : Nat} : (A ++ B).getD (A.length + i) 0 = B.getD i 0 := by
  rw [List.getD_eq_getElem?_getD, List.getD_eq_getElem?_getD, List.getElem?_append_right (by omega), Nat.add_sub_cancel_left]
theorem n_bit {c p : Nat} (hc : c < 2 ^ 31) (hp : p < 32) : (nI c >>> (nI p &&& nI 31)) &&& nI 1 = nI (bitN c p) := by
  rw [n_shr hp hc, nx_and, Nat.and_one_is_mod]
  rfl
theorem m_rings_L {n c : Nat} {s : Nat → Int32} (hn : n ≤ 7) (hs : s 0 = nI n) (hc : c < 2 ^ 31) : ∀ (l done : List Nat) (ce : Nat → Int32) (m : Nat), done.length + l.length = n → isCell n (done ++ l) ce → rt (c / 2 ^ done.length) l.length = true → l.length < m →
    ∃ c', f_X11_rings_L2 (nI c) s m (nI done.length) ce = some c' ∧ isCell n (done ++ cg (c / 2 ^ done.length) l) c'
  | [], done, ce, m, hl, hcell, hr, hm => by
    obtain ⟨m, rfl⟩ : ∃ k, m = k + 1 := ⟨m - 1, by simp at hm; omega⟩
    refine ⟨ce, ?_, by simpa [cg] using hcell⟩
    simp only [List.length_nil] at hl
    rw [f_X11_rings_L2, nl, nI_clamp (by decide), hs, if_pos (nI_le (by omega) (by omega))]
  | [a], done, ce, m, hl, hcell, hr, hm => by
    obtain ⟨m, rfl⟩ : ∃ k, m = k + 1 := ⟨m - 1, by simp at hm; omega⟩
    simp only [List.length_cons, List.length_nil] at hl hm hr
    simp only [rt, decide_eq_true_eq] at hr
    rw [f_X11_rings_L2, nl, nI_clamp (by decide), hs, if_neg (nI_ge (by omega) (by omega)), nl, nl, n_bit hc (by omega), if_pos (by unfold bitN; rw [hr]), nI_add]
    have := m_rings_L hn hs hc [] (done ++ [a]) ce m (by simp; omega) (by simpa using hcell) (by simp [rt]) (by simp; omega)
    simpa [cg] using this
  | a :: b :: l, done, ce, m, hl, hcell, hr, hm => by
    obtain ⟨m, rfl⟩ : ∃ k, m = k + 1 := ⟨m - 1, by simp at hm; omega⟩
    simp only [List.length_cons] at hl hm hr
    rw [rt] at hr
    have h1 : c / 2 ^ (done.length + 1) = c / 2 ^ done.length / 2 := by rw [Nat.pow_add, ← Nat.div_div_eq_div_mul]
    have h2 : c / 2 ^ (done.length + 2) = c / 2 ^ done.length / 4 := by rw [Nat.pow_add, ← Nat.div_div_eq_div_mul]
    rw [f_X11_rings_L2, nl, nI_clamp (by decide), hs, if_neg (nI_ge (by omega) (by omega)), nl, nl, n_bit hc (by omega), cg]
    have e0 : bitN c done.length = c / 2 ^ done.length % 2 := rfl
    by_cases hb : c / 2 ^ done.length % 2 = 1
    · rw [if_pos hb] at hr ⊢
      rw [if_pos (by rw [e0, hb]), nI_add]
      have := m_rings_L hn hs hc (b :: l) (done ++ [a]) ce m (by simp; omega) (by simpa using hcell) (by simpa [h1] using hr) (by simp; omega)
      simpa [h1] using this
    · rw [if_neg hb] at hr ⊢
      simp only [Bool.and_eq_true, decide_eq_true_eq] at hr
      rw [if_neg (fun q => by rw [nI_eq (by unfold bitN; omega) (by omega)] at q; omega), gd_t (n_inb (by omega) (by decide)), nm_eq, nI_add, gd_t (n_inb (by omega) (by decide)), nl, nI_add, nI_clamp (by omega), nI_clamp (by omega)]
      have ha : ce done.length = nI a := by
        rw [hcell _ (by omega)]
        have := getD_app2 (A := done) (B := a :: b :: l) (i := 0)
        simpa using this
      have hb : ce (done.length + 1) = nI b := by
        rw [hcell _ (by omega)]
        have := getD_app2 (A := done) (B := a :: b :: l) (i := 1)
        simpa using this
      rw [ha, hb]
      have := m_rings_L hn hs hc l (done ++ [b, a]) (upd (upd ce done.length (nI b)) (done.length + 1) (nI a)) m (by simp; omega) ?_ (by simpa [h2] using hr.2) (by omega)
      · simpa [h2] using this
      · intro i hi
        unfold upd
        by_cases q1 : i = done.length + 1
        · rw [if_pos q1, q1]
          have := getD_app2 (A := done) (B := b :: a :: l) (i := 1)
          simpa using this
        · rw [if_neg q1]
          by_cases q2 : i = done.length
          · rw [if_pos q2, q2]
            have := getD_app2 (A := done) (B := b :: a :: l) (i := 0)
            simpa using this
          · rw [if_neg q2, hcell i hi]
            congr 1
            by_cases q3 : i < done.length
            · rw [List.append_assoc, getD_app1 q3, getD_app1 q3]
            · obtain ⟨k, rfl⟩ : ∃ k, i = done.length + (k + 2) := ⟨i - done.length - 2, by omega⟩
              rw [List.append_assoc, getD_app2, getD_app2]
              simp
theorem m_rings {n c : Nat} {Z : List Nat} {s ce : Nat → Int32} (h : isRow n Z) (hn : n ≤ 7) (hs : s 0 = nI n) (hc : c < 2 ^ 31) (hcell : isCell n Z ce) (hr : rt c n = true) : ∃ c', f_X11_rings (nI c) s ce = some c' ∧ isCell n (cg c Z) c' := by
  have := m_rings_L hn hs hc Z [] ce fu (by simpa using h.len) (by simpa using hcell) (by simpa [h.len] using hr) (by rw [h.len]; show n < 8192; omega)
  simp only [List.length_nil, Nat.pow_zero, Nat.div_one, List.nil_append] at this
  exact this
/-! unrank -/
def hz (n : Nat) (Z : List Nat) : Nat → Nat
  | 0 => 0
  | p + 1 => hz n Z p * (n - p) + lessL (Z.getD p 0) (Z.drop (p + 1))
theorem hr_ge : ∀ (l : List Nat) (v : Nat), v ≤ hr v l
  | [], v => by simp [hr]
  | a :: l, v => by
    rw [hr]
    refine Nat.le_trans ?_ (hr_ge l _)
    rw [Nat.mul_add]
    omega
theorem hz_hr {n : Nat} {Z : List Nat} (h : isRow n Z) : ∀ p, p ≤ n → hr (hz n Z p) (Z.drop p) = rk Z
  | 0, _ => by simp [hz, rk]
  | p + 1, hp => by
    have := hz_hr h p (by omega)
    rw [drop_cons (show p < Z.length by rw [h.len]; omega), hr, List.length_drop, h.len] at this
    rw [← this, hz, show n - (p + 1) + 1 = n - p by omega]
theorem hz_le {n : Nat} {Z : List Nat} (h : isRow n Z) {p : Nat} (hp : p ≤ n) : hz n Z p ≤ rk Z := by
  rw [← hz_hr h p hp]
  exact hr_ge _ _
theorem hz_n {n : Nat} {Z : List Nat} (h : isRow n Z) : hz n Z n = rk Z := by
  have := hz_hr h n (Nat.le_refl n)
  rwa [List.drop_eq_nil_of_le (by rw [h.len]; omega), hr] at this
/-- of two bells that are apart the lesser one has fewer lesser ones -/
theorem lessL_mono {a b : Nat} (h : a ≤ b) : ∀ (l : List Nat), lessL a l ≤ lessL b l
  | [] => by simp [lessL]
  | c :: l => by
    rw [lessL_cons, lessL_cons]
    have := lessL_mono h l
    split <;> split <;> omega
theorem lessL_strict {a b : Nat} (h : a < b) : ∀ (l : List Nat), a ∈ l → lessL a l < lessL b l
  | [], q => by cases q
  | c :: l, q => by
    rw [lessL_cons, lessL_cons]
    rcases List.mem_cons.mp q with q | q
    · subst q
      have := lessL_mono (Nat.le_of_lt h) l
      rw [if_neg (by omega), if_pos h]
      omega
    · have := lessL_strict h l q
      split <;> split <;> omega
theorem lessL_lt_len {a : Nat} {l : List Nat} : lessL a l ≤ l.length := List.countP_le_length
theorem bump {n p q : Nat} {Z : List Nat} (h : isRow n Z) (hpq : p < q) (hq : q < n) :
    lessL (Z.getD q 0) (Z.drop p) = lessL (Z.getD q 0) (Z.drop (p + 1)) + if lessL (Z.getD q 0) (Z.drop (p + 1)) < lessL (Z.getD p 0) (Z.drop (p + 1)) then 0 else 1 := by
  have hl : p < Z.length := by rw [h.len]; omega
  rw [drop_cons hl, lessL_cons]
  have hmem : Z.getD q 0 ∈ Z.drop (p + 1) := by
    rw [getD_lt (by rw [h.len]; omega)]
    obtain ⟨k, rfl⟩ : ∃ k, q = p + 1 + k := ⟨q - p - 1, by omega⟩
    rw [← List.getElem_drop (h := by rw [List.length_drop, h.len]; omega)]
    exact List.getElem_mem _
  have hne : Z.getD p 0 ≠ Z.getD q 0 := by
    intro e
    rw [getD_lt hl, getD_lt (by rw [h.len]; omega)] at e
    have := nodup_inj h.nodup hl (by rw [h.len]; omega) e
    omega
  by_cases c : Z.getD p 0 < Z.getD q 0
  · rw [if_pos c, if_neg (by have := lessL_mono (Nat.le_of_lt c) (Z.drop (p + 1)); omega), Nat.add_comm]
  · have c2 : Z.getD q 0 < Z.getD p 0 := by omega
    rw [if_neg c, if_pos (lessL_strict c2 _ hmem)]
    omega
theorem m_unrank45 {n p : Nat} {Z : List Nat} {s : Nat → Int32} (h : isRow n Z) (hn : n ≤ 7) (hp : p < n) (k : Int32 → (Nat → Int32) → Option (Nat → Int32)) (v : Int32) : ∀ (d q m : Nat) (ce : Nat → Int32), q + d = n → p < q → ce p = nI (lessL (Z.getD p 0) (Z.drop (p + 1))) → (∀ i, p < i → i < n → ce i = nI (lessL (Z.getD i 0) (if i < q then Z.drop p else Z.drop (p + 1)))) → d < m →
    ∃ c', f_X11_unrank_L45 k (nI n) v (nI p) s m (nI q) ce = k (nI n) c' ∧ (∀ i, p ≤ i → i < n → c' i = nI (lessL (Z.getD i 0) (Z.drop p)))
  | 0, q, m, ce, hq, hpq, hcp, hc, hm => by
    obtain ⟨m, rfl⟩ : ∃ k, m = k + 1 := ⟨m - 1, by omega⟩
    refine ⟨ce, ?_, fun i h1 h2 => ?_⟩
    · rw [f_X11_unrank_L45, if_pos (nI_le (by omega) (by omega)), show q = n by omega]
    · by_cases e : i = p
      · subst e
        rw [hcp, drop_cons (show i < Z.length by rw [h.len]; omega), lessL_cons, if_neg (Nat.lt_irrefl _), Nat.zero_add]
      · rw [hc i (by omega) h2, if_pos (by omega)]
  | d + 1, q, m, ce, hq, hpq, hcp, hc, hm => by
    obtain ⟨m, rfl⟩ : ∃ k, m = k + 1 := ⟨m - 1, by omega⟩
    have hqn : q < n := by omega
    have hq0 := hc q hpq hqn
    rw [if_neg (Nat.lt_irrefl _)] at hq0
    have l1 := lessL_lt_len (a := Z.getD q 0) (l := Z.drop (p + 1))
    have l2 := lessL_lt_len (a := Z.getD p 0) (l := Z.drop (p + 1))
    rw [List.length_drop, h.len] at l1 l2
    rw [f_X11_unrank_L45, if_neg (nI_ge (by omega) (by omega)), gd_t (n_inb (by omega) (by decide)), gd_t (n_inb (by omega) (by decide)), nI_clamp (by omega), nI_clamp (by omega), hq0, hcp, nm_eq]
    have e : (if nI (lessL (Z.getD q 0) (Z.drop (p + 1))) < nI (lessL (Z.getD p 0) (Z.drop (p + 1))) then (0 : Int32) else 1) = nI (if lessL (Z.getD q 0) (Z.drop (p + 1)) < lessL (Z.getD p 0) (Z.drop (p + 1)) then 0 else 1) := by
      by_cases c1 : lessL (Z.getD q 0) (Z.drop (p + 1)) < lessL (Z.getD p 0) (Z.drop (p + 1))
      · rw [if_pos (nI_lt c1 (by omega)), if_pos c1]; rfl
      · rw [if_neg (nI_nlt (by omega) (by omega)), if_neg c1]; rfl
    rw [e, nI_add, ← bump h hpq hqn, nl, nI_add]
    refine m_unrank45 h hn hp k v d (q + 1) m _ (by omega) (by omega) ?_ (fun i h1 h2 => ?_) (by omega)
    · unfold upd; rw [if_neg (by omega)]; exact hcp
    · unfold upd
      by_cases e : i = q
      · rw [if_pos e, e, if_pos (by omega)]
      · rw [if_neg e, hc i h1 h2]
        by_cases c : i < q
        · rw [if_pos c, if_pos (by omega)]
        · rw [if_neg c, if_neg (by omega)]
theorem neg1_lt : (nI 0 + (-1) : Int32) < 0 := by decide
theorem m_unrank14 {n : Nat} {Z : List Nat} {s : Nat → Int32} (h : isRow n Z) (hn : n ≤ 7) : ∀ (p m : Nat) (w : Int32) (ce : Nat → Int32), p ≤ n → w = nI p + (-1) → (∀ i, p ≤ i → i < n → ce i = nI (lessL (Z.getD i 0) (Z.drop p))) → p < m →
    ∃ c', f_X11_unrank_L14 (nI n) s m (nI (hz n Z p)) w ce = some c' ∧ isCell n Z c' := by
  intro p
  induction p with
  | zero =>
    intro m w ce hp hw hc hm
    obtain ⟨m, rfl⟩ : ∃ k, m = k + 1 := ⟨m - 1, by omega⟩
    refine ⟨ce, ?_, fun i hi => ?_⟩
    · rw [f_X11_unrank_L14, hw, if_pos neg1_lt]
    · rw [hc i (Nat.zero_le _) hi, List.drop_zero, lessL_row h hn (Nat.le_of_lt (row_at_lt h hi))]
  | succ p ih =>
    intro m w ce hp hw hc hm
    obtain ⟨m, rfl⟩ : ∃ k, m = k + 1 := ⟨m - 1, by omega⟩
    have hpn : p < n := by omega
    rw [pk_m1] at hw
    have b1 := hz_le h hp
    have b2 := rk_5040 h hn
    have l2 := lessL_lt_len (a := Z.getD p 0) (l := Z.drop (p + 1))
    rw [List.length_drop, h.len] at l2
    have hne : ¬ nI (n - p) = 0 := nI_ne0 (by omega) (by omega)
    rw [f_X11_unrank_L14, hw, if_neg (nI_pos (by omega)), pk_sub (show p ≤ n by omega), gd_t (show nzb (nI (n - p)) = true by simpa [nzb] using hne), gd_t (n_inb (by omega) (by decide)), nm_eq, nm_eq, pk_rem (by omega) (by omega) (by omega), pk_div (by omega) (by omega) (by omega), nI_clamp (by omega), nl, nI_add]
    have hdiv : hz n Z (p + 1) / (n - p) = hz n Z p := by
      rw [hz, Nat.mul_comm, Nat.mul_add_div (by omega), Nat.div_eq_of_lt (by omega), Nat.add_zero]
    have hmod : hz n Z (p + 1) % (n - p) = lessL (Z.getD p 0) (Z.drop (p + 1)) := by
      rw [hz, Nat.mul_comm, Nat.mul_add_mod, Nat.mod_eq_of_lt (by omega)]
    rw [hdiv, hmod]
    obtain ⟨c1, e1, e2⟩ := m_unrank45 (s := s) h hn hpn (fun y13 y14 => f_X11_unrank_L14 (nI n) s m (nI (hz n Z p)) (nI p + -nI 1) y14) (nI (hz n Z p)) (n - (p + 1)) (p + 1) fu (upd ce p (nI (lessL (Z.getD p 0) (Z.drop (p + 1))))) (by omega) (by omega) (by unfold upd; rw [if_pos rfl]) (fun i h1 h2 => by
      unfold upd
      rw [if_neg (by omega), hc i (by omega) h2, if_neg (by omega)]) (by show _ < 8192; omega)
    rw [e1]
    exact ih m _ c1 (by omega) rfl e2 (by omega)
theorem m_unrank {n : Nat} {Z : List Nat} {s ce : Nat → Int32} (h : isRow n Z) (hn0 : 0 < n) (hn : n ≤ 7) (hs : s 0 = nI n) : ∃ c', f_X11_unrank (nI (rk Z)) s ce = some c' ∧ isCell n Z c' := by
  unfold f_X11_unrank
  rw [nm_eq, nm_eq, nl, nI_clamp (by decide), hs, ← hz_n h]
  exact m_unrank14 h hn n fu _ ce (Nat.le_refl n) (by rw [Int32.sub_eq_add_neg]) (fun i h1 h2 => by omega) (by show n < 8192; omega)
theorem rk_inj {n : Nat} {Z Z' : List Nat} (h : isRow n Z) (h' : isRow n Z') (hn0 : 0 < n) (hn : n ≤ 7) (e : rk Z = rk Z') : Z = Z' := by
  obtain ⟨c1, e1, f1⟩ := m_unrank (s := fun _ => nI n) (ce := fun _ => 0) h hn0 hn rfl
  obtain ⟨c2, e2, f2⟩ := m_unrank (s := fun _ => nI n) (ce := fun _ => 0) h' hn0 hn rfl
  rw [e, e2] at e1
  cases e1
  apply list_ext h.len h'.len
  intro p hp
  have h1 := (f1 p hp).symm.trans (f2 p hp)
  have b1 := row_at_lt h hp
  have b2 := row_at_lt h' hp
  rwa [nI_eq (by omega) (by omega)] at h1
