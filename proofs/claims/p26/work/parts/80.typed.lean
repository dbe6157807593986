/-! ===== the text that is typed, and how it is read ===== -/
def dgr (c : Nat) : Nat → Nat → List Nat
  | 0, _ => []
  | d + 1, p => (if bitN c p = 0 then [] else [49 + p]) ++ dgr c d (p + 1)
def txc (n c : Nat) : List Nat := (if c = 0 then [120] else []) ++ dgr c n 0
def txk (n : Nat) (C : List Nat) : Nat → List Nat
  | 0 => []
  | k + 1 => txk n C k ++ ((if k = 0 then [] else [46]) ++ txc n (C.getD k 0))
theorem dgr_len (c : Nat) : ∀ d p, (dgr c d p).length ≤ d
  | 0, _ => Nat.le_refl _
  | d + 1, p => by
    have := dgr_len c d (p + 1)
    rw [dgr, List.length_append]
    split <;> simp <;> omega
theorem txk_len {n : Nat} (hn : n ≤ 7) (C : List Nat) : ∀ k, (txk n C k).length ≤ 9 * k
  | 0 => Nat.le_refl _
  | k + 1 => by
    have h1 := txk_len hn C k
    have h2 := dgr_len (C.getD k 0) n 0
    rw [txk, List.length_append, List.length_append]
    unfold txc
    rw [List.length_append]
    have a1 : (if k = 0 then ([] : List Nat) else [46]).length ≤ 1 := by split <;> simp
    have a2 : (if C.getD k 0 = 0 then [120] else ([] : List Nat)).length ≤ 1 := by split <;> simp
    omega
/-- reading a list of characters -/
def rl (n : Nat) : List Nat → RS → Option RS
  | [], s => some s
  | c :: l, s => match rac n c s with
    | none => none
    | some s' => rl n l s'
theorem rl_app (n : Nat) : ∀ (l k : List Nat) (s s' : RS), rl n l s = some s' → rl n (l ++ k) s = rl n k s'
  | [], k, s, s', h => by rw [rl] at h; cases h; rfl
  | c :: l, k, s, s', h => by
    rw [rl] at h
    show (match rac n c s with
      | none => none
      | some s' => rl n (l ++ k) s') = _
    cases q : rac n c s with
    | none => rw [q] at h; cases h
    | some s1 =>
      rw [q] at h
      exact rl_app n l k s1 s' h
theorem rd_rl {n : Nat} {tx : Nat → Nat} : ∀ (l : List Nat) (i : Nat) (s s' : RS), (∀ j, j < l.length → tx (i + j) = l.getD j 0) → rl n l s = some s' → cmpl n s'.2.1 s'.2.2.2 = true → rd n tx l.length i s = .inr (s'.1 ++ [s'.2.1])
  | [], i, s, s', ht, h, hc => by
    rw [rl] at h
    cases h
    show (if cmpl n s.2.1 s.2.2.2 then _ else _) = _
    rw [if_pos hc]
  | c :: l, i, s, s', ht, h, hc => by
    rw [rl] at h
    have h0 := ht 0 (by simp)
    rw [Nat.add_zero] at h0
    have e0 : tx i = c := h0
    rw [List.length_cons, rd, e0]
    cases q : rac n c s with
    | none => rw [q] at h; cases h
    | some s1 =>
      rw [q] at h
      refine rd_rl l (i + 1) s1 s' (fun j hj => ?_) h hc
      have := ht (j + 1) (by simp; omega)
      rw [show i + 1 + j = i + (j + 1) by omega, this]
      rfl
theorem rac_pre {n c : Nat} (h46 : c ≠ 46) (C : List Nat) (x : Nat × Nat × Bool) {s' : RS} (h : rac n c ([], x) = some s') : s'.1 = [] ∧ rac n c (C, x) = some (C, s'.2) := by
  obtain ⟨mk, lp, cr⟩ := x
  unfold rac at h ⊢
  rw [if_neg h46] at h ⊢
  dsimp only at h ⊢
  by_cases c1 : c = 120
  · rw [if_pos c1] at h ⊢
    cases cr with
    | true => rw [if_pos rfl] at h; cases h
    | false =>
      rw [if_neg (by decide)] at h ⊢
      by_cases c2 : 0 < mk
      · rw [if_pos c2] at h; cases h
      · rw [if_neg c2] at h ⊢
        by_cases c3 : okb n 0 = true
        · rw [if_pos c3] at h ⊢; cases h; exact ⟨rfl, rfl⟩
        · rw [if_neg c3] at h; cases h
  · rw [if_neg c1] at h ⊢
    cases cr with
    | true => rw [if_pos rfl] at h; cases h
    | false =>
      rw [if_neg (by decide)] at h ⊢
      by_cases c2 : c ≤ 48 + lp
      · rw [if_pos c2] at h; cases h
      · rw [if_neg c2] at h ⊢
        by_cases c3 : 48 + n < c
        · rw [if_pos c3] at h; cases h
        · rw [if_neg c3] at h ⊢
          by_cases c4 : cbr n (mk ||| 2 ^ (c - 49)) (c - 48) = true
          · rw [if_pos c4] at h ⊢; cases h; exact ⟨rfl, rfl⟩
          · rw [if_neg c4] at h; cases h
theorem rl_pre {n : Nat} (C : List Nat) : ∀ (l : List Nat) (x : Nat × Nat × Bool) (s' : RS), (∀ c ∈ l, c ≠ 46) → rl n l ([], x) = some s' → rl n l (C, x) = some (C, s'.2)
  | [], x, s', _, h => by
    rw [rl] at h ⊢
    cases h
    rfl
  | c :: l, x, s', hl, h => by
    rw [rl] at h ⊢
    cases q : rac n c ([], x) with
    | none => rw [q] at h; cases h
    | some s1 =>
      rw [q] at h
      obtain ⟨e1, e2⟩ := rac_pre (hl c List.mem_cons_self) C x q
      rw [e2]
      obtain ⟨a1, a2⟩ := s1
      dsimp only at e1 h ⊢
      subst e1
      exact rl_pre C l a2 s' (fun d hd => hl d (List.mem_cons_of_mem _ hd)) h
theorem dgr_ne (c : Nat) : ∀ d p, ∀ x ∈ dgr c d p, x ≠ 46
  | 0, _, x, h => by cases h
  | d + 1, p, x, h => by
    rw [dgr, List.mem_append] at h
    rcases h with h | h
    · split at h
      · cases h
      · rw [List.mem_singleton] at h; omega
    · exact dgr_ne c d (p + 1) x h
theorem txc_ne (n c : Nat) : ∀ x ∈ txc n c, x ≠ 46 := by
  intro x h
  unfold txc at h
  rw [List.mem_append] at h
  rcases h with h | h
  · split at h
    · rw [List.mem_singleton] at h; omega
    · cases h
  · exact dgr_ne c n 0 x h
def rcB (n c : Nat) : Bool := !okb n c || (match rl n (txc n c) ([], 0, 0, false) with
  | none => false
  | some s => s.1.isEmpty && Nat.beq s.2.1 c && cmpl n s.2.1 s.2.2.2)
theorem rcB_s : ∀ n, n < 8 → 4 ≤ n → ∀ c, c < 128 → rcB n c = true := by decide +kernel
theorem rc_s {n c : Nat} (h4 : 4 ≤ n) (hn : n ≤ 7) (hc : c < 128) (ho : okb n c = true) : ∃ lp cr, rl n (txc n c) ([], 0, 0, false) = some ([], c, lp, cr) ∧ cmpl n c cr = true := by
  have h := rcB_s n (by omega) h4 c hc
  unfold rcB at h
  rw [ho, Bool.not_true, Bool.false_or] at h
  cases q : rl n (txc n c) ([], 0, 0, false) with
  | none => rw [q] at h; cases h
  | some s =>
    rw [q] at h
    simp only [Bool.and_eq_true] at h
    obtain ⟨⟨h1, h2⟩, h3⟩ := h
    obtain ⟨a1, a2, a3, a4⟩ := s
    dsimp only at h1 h2 h3
    have e2 : a2 = c := Nat.eq_of_beq_eq_true h2
    have e1 : a1 = [] := List.isEmpty_iff.mp h1
    subst e1; subst e2
    exact ⟨a3, a4, rfl, h3⟩
theorem rl_txk {n : Nat} (h4 : 4 ≤ n) (hn : n ≤ 7) (C : List Nat) (hC : ∀ c ∈ C, okb n c = true ∧ c < 128) : ∀ k, k + 1 ≤ C.length → k ≤ 19 → ∃ lp cr, rl n (txk n C (k + 1)) ([], 0, 0, false) = some (C.take k, C.getD k 0, lp, cr) ∧ cmpl n (C.getD k 0) cr = true
  | 0, hk, h19 => by
    have hm := hC _ (getD_mem (l := C) (j := 0) (by omega))
    obtain ⟨lp, cr, e1, e2⟩ := rc_s h4 hn hm.2 hm.1
    refine ⟨lp, cr, ?_, e2⟩
    have : txk n C (0 + 1) = txc n (C.getD 0 0) := by
      rw [txk, txk, if_pos rfl]; rfl
    rw [this, e1]
    rfl
  | k + 1, hk, h19 => by
    obtain ⟨lp, cr, e1, e2⟩ := rl_txk h4 hn C hC k (by omega) (by omega)
    have hm := hC _ (getD_mem (l := C) (j := k + 1) (by omega))
    obtain ⟨lp2, cr2, e3, e4⟩ := rc_s h4 hn hm.2 hm.1
    refine ⟨lp2, cr2, ?_, e4⟩
    have hx : txk n C (k + 1 + 1) = txk n C (k + 1) ++ (46 :: txc n (C.getD (k + 1) 0)) := by
      rw [txk, if_neg (by omega)]
      rfl
    have hr : rac n 46 (C.take k, C.getD k 0, lp, cr) = some (C.take (k + 1), 0, 0, false) := by
      unfold rac
      rw [if_pos rfl]
      dsimp only
      rw [if_neg (by rw [List.length_take]; omega), if_pos e2, take_snoc (by omega)]
    rw [hx, rl_app n _ _ _ _ e1, rl, hr]
    exact rl_pre (C.take (k + 1)) _ _ _ (txc_ne n _) e3
theorem rdp_txk {n : Nat} (h4 : 4 ≤ n) (hn : n ≤ 7) (C : List Nat) (hC : ∀ c ∈ C, okb n c = true ∧ c < 128) (h1 : 1 ≤ C.length) (h20 : C.length ≤ 20) : rdp n (txk n C C.length) = .inr C := by
  obtain ⟨k, hk⟩ : ∃ k, C.length = k + 1 := ⟨C.length - 1, by omega⟩
  obtain ⟨lp, cr, e1, e2⟩ := rl_txk h4 hn C hC k (by omega) (by omega)
  unfold rdp
  rw [hk, rd_rl (txk n C (k + 1)) 0 ([], 0, 0, false) _ (fun j _ => by rw [Nat.zero_add]) e1 e2]
  dsimp only
  rw [← take_snoc (by omega), List.take_of_length_le (by omega)]
/-! the typing -/
theorem app_at {pt : List Nat} {c : Nat} (h1 : 33 ≤ c) (h2 : c ≤ 126) (h3 : pt.length < 80) : A_append pt (nI c) = some (nI (pt.length + 1), pt ++ [c]) := by
  unfold A_append
  rw [nI_clamp (by omega), if_pos ⟨rfl, h1, h2, h3⟩]
section
variable {a : AT} {m : Nat → Int32}
theorem T68 {n x c : Nat} (hn : n ≤ 7) (hc : c < 2 ^ 31) (hx : x < 20) (hm : m x = nI c) (s2 : Int32) (k : Int32 → Int32 → List Nat → Option (Int32 × List Nat)) (K : Int32 → List Nat → Option (Int32 × List Nat)) (hk : ∀ v z p, k v z p = K v p) : ∀ (d p M : Nat) (pt : List Nat), p + d = n → pt.length + d ≤ 80 → d < M →
    f_L_typed_L68 k s2 (nI n) (nI x) m a M 1 (nI p) pt = K 1 (pt ++ dgr c d p)
  | 0, p, M, pt, hp, hl, hM => by
    obtain ⟨M, rfl⟩ : ∃ k, M = k + 1 := ⟨M - 1, by omega⟩
    rw [f_L_typed_L68, if_pos (nI_le (by omega) (by omega)), hk, dgr, List.append_nil]
  | d + 1, p, M, pt, hp, hl, hM => by
    obtain ⟨M, rfl⟩ : ∃ k, M = k + 1 := ⟨M - 1, by omega⟩
    rw [f_L_typed_L68, if_neg (nI_ge (by omega) (by omega)), jj_eq, if_neg one0, gd_t (n_inb hx (by decide)), nI_clamp (by omega), hm, n_bit1 hc (by omega), dgr]
    rcases bit_cases c p with q | q
    · rw [q, if_pos (show nI 0 = 0 by decide), if_pos rfl, List.nil_append, nI_1]
      exact T68 hn hc hx hm s2 k K hk d (p + 1) M pt (by omega) (by omega) (by omega)
    · rw [q, if_neg (show ¬ nI 1 = 0 by decide), if_neg (by decide), show (49 : Int32) = nI 49 from rfl, nI_add, bd_t (app_at (by omega) (by omega) (by omega)), if_neg (nI_nle (by omega) (by omega)), nI_1, ← List.append_assoc]
      exact T68 hn hc hx hm s2 k K hk d (p + 1) M (pt ++ [49 + p]) (by omega) (by simp; omega) (by omega)
theorem T17 {n : Nat} {C : List Nat} (hn : n ≤ 7) (hC : ∀ c ∈ C, c < 128) (hl : C.length ≤ 7) (hm : ∀ j, j < C.length → m j = nI (C.getD j 0)) : ∀ (d x M : Nat), x + d = C.length → d < M →
    f_L_typed_L17 (nI C.length) (nI n) m a M 1 (nI x) (txk n C x) = some (1, txk n C C.length)
  | 0, x, M, hx, hM => by
    obtain ⟨M, rfl⟩ : ∃ k, M = k + 1 := ⟨M - 1, by omega⟩
    obtain rfl : x = C.length := by omega
    rw [f_L_typed_L17, if_pos (nI_le (Nat.le_refl _) (by omega)), gd_t (by decide)]
  | d + 1, x, M, hx, hM => by
    obtain ⟨M, rfl⟩ : ∃ k, M = k + 1 := ⟨M - 1, by omega⟩
    have hxl : x < C.length := by omega
    have hc := hC _ (getD_mem hxl)
    have hlen := txk_len hn C x
    have ih := T17 hn hC hl hm d (x + 1) M (by omega) (by omega)
    rw [f_L_typed_L17, if_neg (nI_ge hxl (by omega)), jj_eq, if_neg one0, gd_t (n_inb (show x < 20 by omega) (by decide)), nI_clamp (by omega), hm x hxl]
    have fin : ∀ pt' : List Nat, pt' = txk n C x ++ ((if x = 0 then [] else [46]) ++ (if C.getD x 0 = 0 then [120] else [])) → pt'.length ≤ 60 → (fun (w6 : Int32 × List Nat) => (f_L_typed_L68 (fun (y17 : Int32) (y18 : Int32) (y19 : List Nat) => (f_L_typed_L17 (nI C.length) (nI n) m a M y17 (nI x + 1) y19)) (nI C.length) (nI n) (nI x) m a fu w6.1 0 w6.2)) (1, pt') = some (1, txk n C C.length) := by
      intro pt' hp hl2
      dsimp only
      refine (T68 (m := m) (a := a) hn (show C.getD x 0 < 2 ^ 31 by omega) (by omega) (hm x hxl) (nI C.length) _ (fun y17 y19 => (f_L_typed_L17 (nI C.length) (nI n) m a M y17 (nI x + 1) y19)) (fun _ _ _ => rfl) n 0 fu pt' (by omega) (by omega) (by show n < 8192; omega)).trans ?_
      rw [nI_1, hp]
      have e : txk n C x ++ ((if x = 0 then [] else [46]) ++ (if C.getD x 0 = 0 then [120] else [])) ++ dgr (C.getD x 0) n 0 = txk n C (x + 1) := by
        rw [txk]
        unfold txc
        simp only [List.append_assoc]
      rw [e]
      exact ih
    by_cases q0 : x = 0
    · rw [if_pos (by rw [q0]; rfl)]
      by_cases q : C.getD x 0 = 0
      · rw [q, if_neg (show ¬ (0 : Int32) < nI 0 by decide), show (120 : Int32) = nI 120 from rfl, bd_t (app_at (by omega) (by omega) (by omega)), if_neg (nI_nle (by omega) (by omega))]
        refine fin _ ?_ (by simp; omega)
        rw [if_pos q0, if_pos q]; rfl
      · rw [if_pos (show (0 : Int32) < nI (C.getD x 0) from @nI_lt 0 _ (by omega) (by omega))]
        refine fin _ ?_ (by omega)
        rw [if_pos q0, if_neg q]; simp
    · rw [if_neg (nI_ne0 (by omega) (by omega)), show (46 : Int32) = nI 46 from rfl, bd_t (app_at (by omega) (by omega) (by omega)), if_neg (nI_nle (by omega) (by omega)), gd_t (n_inb (show x < 20 by omega) (by decide))]
      by_cases q : C.getD x 0 = 0
      · rw [q, if_neg (show ¬ (0 : Int32) < nI 0 by decide), show (120 : Int32) = nI 120 from rfl, bd_t (app_at (by omega) (by omega) (by simp; omega)), if_neg (nI_nle (by omega) (by simp; omega))]
        refine fin (txk n C x ++ [46] ++ [120]) ?_ (by simp; omega)
        rw [if_neg q0, if_pos q]; simp
      · rw [if_pos (show (0 : Int32) < nI (C.getD x 0) from @nI_lt 0 _ (by omega) (by omega))]
        refine fin (txk n C x ++ [46]) ?_ (by simp; omega)
        rw [if_neg q0, if_neg q]; simp
theorem P_typed {n : Nat} {C pt : List Nat} (hn : n ≤ 7) (hC : ∀ c ∈ C, c < 128) (hl : C.length ≤ 7) (hpt : pt.length < 2 ^ 31) (hm : ∀ j, j < C.length → m j = nI (C.getD j 0)) : f_L_typed (nI C.length) (nI n) m a pt = some (1, txk n C C.length) := by
  unfold f_L_typed
  rw [bd_t (show A_clear pt = some (nI pt.length, []) from rfl), nm_eq, if_neg (nI_pos hpt)]
  exact T17 hn hC hl hm C.length 0 fu (by omega) (by show C.length < 8192; omega)
end
