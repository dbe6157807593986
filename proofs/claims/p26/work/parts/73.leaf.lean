/-! ===== the law's leaves: longs (rows of the kit's BITS pasted first) ===== -/
theorem wb_tb (n : Nat) : (lN n).toBitVec = BitVec.ofNat 64 n := rfl
theorem wb_inj {a b : Int64} (h : a.toBitVec = b.toBitVec) : a = b := Int64.toBitVec_inj.mp h
theorem wb_tn {n : Nat} (h : n < 2 ^ 64) : (lN n).toBitVec.toNat = n := by rw [wb_tb, BitVec.toNat_ofNat, Nat.mod_eq_of_lt h]
theorem wb_of (x : Int64) : ∃ n, n < 2 ^ 64 ∧ x = lN n := ⟨x.toBitVec.toNat, x.toBitVec.isLt, wb_inj (by rw [wb_tb]; simp)⟩
theorem wb_of32 (x : Int32) : ∃ n, n < 2 ^ 32 ∧ x = nI n := ⟨x.toBitVec.toNat, x.toBitVec.isLt, Int32.toBitVec_inj.mp (by show _ = BitVec.ofNat 32 _; simp)⟩
theorem wb_c : ∀ k, k < 64 → ((nI k).toInt64 &&& 63) = lN k := by decide +kernel
theorem wb_cu : ∀ k, k < 64 → ((nI k).toInt64.toUInt64 &&& Int64.toUInt64 63) = UInt64.ofNat k := by decide +kernel
theorem wb_sm : ∀ k, k < 64 → (BitVec.ofNat 64 k).smod 64 = BitVec.ofNat 64 k := by decide +kernel
theorem wb_pw {a b : Nat} (h : a ≤ b) : 2 ^ b = 2 ^ a * 2 ^ (b - a) := by rw [← Nat.pow_add]; congr 1; omega
theorem wb_lt2 {a b : Nat} (h : a < b) : 2 ^ a < 2 ^ b := Nat.pow_lt_pow_right (by decide) h
theorem wb_mod (n : Nat) : lN n = lN (n % 2 ^ 64) := wb_inj (by rw [wb_tb, wb_tb]; apply BitVec.eq_of_toNat_eq; rw [BitVec.toNat_ofNat, BitVec.toNat_ofNat, Nat.mod_mod])
theorem wb_shr {n k : Nat} (hn : n < 2 ^ 64) (hk : k < 64) : ((lN n).toUInt64 >>> ((nI k).toInt64.toUInt64 &&& Int64.toUInt64 63)).toInt64 = lN (n / 2 ^ k) := by
  rw [wb_cu k hk]
  apply wb_inj
  apply BitVec.eq_of_toNat_eq
  show ((lN n).toUInt64 >>> UInt64.ofNat k).toNat = (BitVec.ofNat 64 _).toNat
  have h1 : (UInt64.ofNat k).toNat = k := by
    show (BitVec.ofNat 64 k).toNat = k
    rw [BitVec.toNat_ofNat, Nat.mod_eq_of_lt (by omega)]
  have h2 : (lN n).toUInt64.toNat = n := wb_tn hn
  rw [UInt64.toNat_shiftRight, h1, h2, Nat.mod_eq_of_lt hk, Nat.shiftRight_eq_div_pow, BitVec.toNat_ofNat, Nat.mod_eq_of_lt (Nat.lt_of_le_of_lt (Nat.div_le_self _ _) hn)]
theorem wb_shl (n : Nat) {k : Nat} (hk : k < 64) : lN n <<< ((nI k).toInt64 &&& 63) = lN (n * 2 ^ k) := by
  rw [wb_c k hk]
  apply wb_inj
  rw [Int64.toBitVec_shiftLeft, wb_tb, wb_tb, wb_tb, wb_sm k hk]
  apply BitVec.eq_of_toNat_eq
  rw [BitVec.shiftLeft_eq', BitVec.toNat_shiftLeft, BitVec.toNat_ofNat, BitVec.toNat_ofNat, BitVec.toNat_ofNat, Nat.mod_eq_of_lt (show k < 2 ^ 64 by omega), Nat.shiftLeft_eq, Nat.mul_mod, Nat.mod_mod, ← Nat.mul_mod]
theorem wb_and {a b : Nat} (ha : a < 2 ^ 64) (hb : b < 2 ^ 64) : lN a &&& lN b = lN (a &&& b) := by
  apply wb_inj
  rw [Int64.toBitVec_and, wb_tb, wb_tb, wb_tb]
  apply BitVec.eq_of_toNat_eq
  rw [BitVec.toNat_and, BitVec.toNat_ofNat, BitVec.toNat_ofNat, BitVec.toNat_ofNat, Nat.mod_eq_of_lt ha, Nat.mod_eq_of_lt hb, Nat.mod_eq_of_lt (Nat.and_lt_two_pow _ hb)]
theorem wb_or {a b : Nat} (ha : a < 2 ^ 64) (hb : b < 2 ^ 64) : lN a ||| lN b = lN (a ||| b) := by
  apply wb_inj
  rw [Int64.toBitVec_or, wb_tb, wb_tb, wb_tb]
  apply BitVec.eq_of_toNat_eq
  rw [BitVec.toNat_or, BitVec.toNat_ofNat, BitVec.toNat_ofNat, BitVec.toNat_ofNat, Nat.mod_eq_of_lt ha, Nat.mod_eq_of_lt hb, Nat.mod_eq_of_lt (Nat.or_lt_two_pow ha hb)]
theorem wb_mask {n k : Nat} (hn : n < 2 ^ 64) (hk : k < 64) : lN n &&& lN (2 ^ k - 1) = lN (n % 2 ^ k) := by
  rw [wb_and hn (by have := wb_lt2 hk; omega), Nat.and_two_pow_sub_one_eq_mod]
theorem jj_eq {α β : Type} (T : (α → Option β) → Option β) (K : α → Option β) : jj T K = T K := rfl
theorem l_shr {a k : Nat} (ha : a < 2 ^ 63) (hk : k < 64) : lN a >>> ((nI k).toInt64 &&& 63) = lN (a / 2 ^ k) := by
  rw [wb_c k hk]
  have hd : a / 2 ^ k ≤ a := Nat.div_le_self _ _
  have hD : ((lN k).toBitVec.smod 64).toNat = k := by rw [wb_tb, wb_sm k hk, BitVec.toNat_ofNat]; omega
  apply Int64.toInt_inj.mp
  have e : (lN a >>> lN k).toInt = (lN a).toInt >>> ((lN k).toBitVec.smod 64).toNat := BitVec.toInt_sshiftRight ..
  rw [e, hD, Int.shiftRight_eq_div_pow, pk_lT ha, pk_lT (by omega)]
  rfl
theorem cmp0 (x y : Int64) : lg_cmp x y = 0 ↔ x = y := by
  unfold lg_cmp
  by_cases h : x > y
  · rw [if_pos h]
    exact ⟨fun q => absurd q (by decide), fun q => by subst q; exact absurd h (Int64.lt_irrefl)⟩
  · rw [if_neg h]
    by_cases e : x = y
    · rw [if_pos e]; exact ⟨fun _ => e, fun _ => rfl⟩
    · rw [if_neg e]; exact ⟨fun q => absurd q (by decide), fun q => absurd q e⟩
/-! a row as a number, the first place first -/
def cd (Z : List Nat) : Nat := pk ((Z.map (· + 1)).reverse)
theorem cd_dig {n : Nat} {Z : List Nat} (h : isRow n Z) (hn : n ≤ 7) : ∀ b ∈ (Z.map (· + 1)).reverse, b < 8 := fun b hb => xr_dig h hn b (List.mem_reverse.mp hb)
theorem cd_lt {n : Nat} {Z : List Nat} (h : isRow n Z) (hn : n ≤ 7) : cd Z < 2097152 := by
  have := pkw_lt _ (cd_dig h hn)
  rw [List.length_reverse, List.length_map, h.len] at this
  exact Nat.lt_of_lt_of_le this (pow8 hn)
theorem cd_inj {n : Nat} {Z Z' : List Nat} (h : isRow n Z) (h' : isRow n Z') (hn : n ≤ 7) (e : cd Z = cd Z') : Z = Z' := by
  have e1 := pk_inj _ _ (by rw [List.length_reverse, List.length_map, List.length_reverse, List.length_map, h.len, h'.len]) (cd_dig h hn) (cd_dig h' hn) e
  have e2 : Z.map (· + 1) = Z'.map (· + 1) := List.reverse_inj.mp e1
  exact xr_inj h h' hn (by unfold xr; rw [e2])
theorem cd_dg {n p : Nat} {Z : List Nat} (h : isRow n Z) (hn : n ≤ 7) (hp : p < n) : cd Z / 2 ^ (3 * (n - 1 - p)) % 8 = Z.getD p 0 + 1 := by
  have := dg_pk _ (n - 1 - p) (cd_dig h hn)
  unfold dg at this
  rw [Nat.pow_mul]
  refine this.trans ?_
  rw [List.getD_eq_getElem?_getD, List.getElem?_reverse (by rw [List.length_map, h.len]; omega), List.length_map, h.len, show n - 1 - (n - 1 - p) = p by omega, List.getElem?_map, List.getElem?_eq_getElem (by rw [h.len]; exact hp), getD_lt (by rw [h.len]; exact hp)]
  rfl
theorem L_digit {n p : Nat} {Z : List Nat} (h : isRow n Z) (hn : n ≤ 7) (hp : p < n) : f_L_digit (nI n) (lN (cd Z)) (nI p) = nI (Z.getD p 0 + 1) := by
  unfold f_L_digit
  have := cd_lt h hn
  rw [show (1 : Int32) = nI 1 from rfl, pk_sub (by omega), pk_sub (by omega), show (3 : Int32) = nI 3 from rfl, pk_mul, l_shr (by omega) (by omega), show (7 : Int64) = lN (2 ^ 3 - 1) from rfl, wb_mask (Nat.lt_of_le_of_lt (Nat.div_le_self _ _) (by omega)) (by omega), lN_i]
  exact congrArg nI (cd_dg h hn hp)
theorem L_sounds {n : Nat} {Z : List Nat} (h : isRow n Z) (h4 : 4 ≤ n) (hn : n ≤ 7) : f_L_sounds (nI n) (lN (cd Z)) = if sw n Z then 1 else 0 := by
  unfold f_L_sounds
  have b1 := row_at_lt h (show n - 1 < n by omega)
  have b2 := row_at_lt h (show n - 2 < n by omega)
  have b3 := row_at_lt h (show n - 3 < n by omega)
  rw [show (1 : Int32) = nI 1 from rfl, show (2 : Int32) = nI 2 from rfl, show (3 : Int32) = nI 3 from rfl, pk_sub (by omega), pk_sub (by omega), pk_sub (by omega), L_digit h hn (by omega), L_digit h hn (by omega), L_digit h hn (by omega)]
  unfold sw
  by_cases c1 : Z.getD (n - 3) 0 < Z.getD (n - 2) 0
  · rw [if_neg (nI_ge (by omega) (by omega)), decide_eq_true c1]
    by_cases c2 : Z.getD (n - 2) 0 < Z.getD (n - 1) 0
    · rw [if_neg (nI_ge (by omega) (by omega)), decide_eq_true c2]; rfl
    · rw [if_pos (nI_le (by omega) (by omega)), decide_eq_false c2]; rfl
  · rw [if_pos (nI_le (by omega) (by omega)), decide_eq_false c1]; rfl
/-- the row's cells -/
def isCL (n : Nat) (Z : List Nat) (f : Nat → Int32) : Prop := ∀ i, i < n → f i = nI (Z.getD i 0 + 1)
theorem L_rounds {n : Nat} (hn : n ≤ 7) (f : Nat → Int32) : ∃ f', f_L_rounds (nI n) f = some f' ∧ isCL n (List.range n) f' := by
  have L : ∀ (d j M : Nat) (f : Nat → Int32), j + d = n → (∀ q, q < j → f q = nI (q + 1)) → d < M → ∃ f', f_L_rounds_L2 (nI n) M (nI j) f = some f' ∧ ∀ q, q < n → f' q = nI (q + 1) := by
    intro d
    induction d with
    | zero =>
      intro j M f hj h1 hM
      obtain ⟨M, rfl⟩ : ∃ k, M = k + 1 := ⟨M - 1, by omega⟩
      exact ⟨f, by rw [f_L_rounds_L2, if_pos (nI_le (by omega) (by omega))], fun q hq => h1 q (by omega)⟩
    | succ d ih =>
      intro j M f hj h1 hM
      obtain ⟨M, rfl⟩ : ∃ k, M = k + 1 := ⟨M - 1, by omega⟩
      obtain ⟨f', e1, e2⟩ := ih (j + 1) M (upd f j (nI (j + 1))) (by omega) (fun q hq => by
        by_cases c : q = j
        · rw [c, up_e]
        · rw [up_n c]; exact h1 q (by omega)) (by omega)
      refine ⟨f', ?_, e2⟩
      rw [f_L_rounds_L2, if_neg (nI_ge (by omega) (by omega)), gd_t (n_inb (show j < 7 by omega) (by decide)), nI_clamp (by omega), nI_1]
      exact e1
  obtain ⟨f', e1, e2⟩ := L n 0 fu f (by omega) (fun q hq => by omega) (by show n < 8192; omega)
  refine ⟨f', e1, fun i hi => ?_⟩
  rw [e2 i hi]
  congr 1
  simp [List.getD_eq_getElem?_getD, hi]
theorem L_code {n : Nat} {Z : List Nat} {f : Nat → Int32} (h : isRow n Z) (hn : n ≤ 7) (hf : isCL n Z f) : f_L_code (nI n) f = some (lN (cd Z)) := by
  have L : ∀ (d p M : Nat) (k : Int64 → Int32 → Option Int64), p + d = n → d < M → f_L_code_L5 k (nI n) f M (lN (pk (((Z.take p).map (· + 1)).reverse))) (nI p) = k (lN (cd Z)) (nI n) := by
    intro d
    induction d with
    | zero =>
      intro p M k hp hM
      obtain ⟨M, rfl⟩ : ∃ k, M = k + 1 := ⟨M - 1, by omega⟩
      obtain rfl : p = n := by omega
      rw [f_L_code_L5, if_pos (nI_le (by omega) (by omega)), List.take_of_length_le (by rw [h.len]; omega)]
      rfl
    | succ d ih =>
      intro p M k hp hM
      obtain ⟨M, rfl⟩ : ∃ k, M = k + 1 := ⟨M - 1, by omega⟩
      have hb := row_at_lt h (show p < n by omega)
      rw [f_L_code_L5, if_neg (nI_ge (by omega) (by omega)), gd_t (n_inb (show p < 7 by omega) (by decide)), nI_clamp (by omega), hf p (by omega), nI_l (by omega), show (8 : Int64) = lN 8 from rfl, lN_mul, lN_add, nm_eq, nI_1]
      have e : 8 * pk (((Z.take p).map (· + 1)).reverse) + (Z.getD p 0 + 1) = pk (((Z.take (p + 1)).map (· + 1)).reverse) := by
        rw [take_snoc (by rw [h.len]; omega), List.map_append, List.reverse_append]
        simp only [List.map_cons, List.map_nil, List.reverse_cons, List.reverse_nil, List.nil_append, List.singleton_append, pk]
        omega
      rw [e]
      exact ih (p + 1) M k (by omega) (by omega)
  unfold f_L_code
  rw [nm_eq]
  exact L n 0 fu _ (by omega) (by show n < 8192; omega)
theorem n_bit1 {c p : Nat} (hc : c < 2 ^ 31) (hp : p < 32) : (nI c >>> (nI p &&& 31)) &&& 1 = nI (bitN c p) := n_bit hc hp
theorem L_ring_L {n c : Nat} (hn : n ≤ 7) (hc : c < 2 ^ 31) : ∀ (l done : List Nat) (f : Nat → Int32) (M : Nat), done.length + l.length = n → isCL n (done ++ l) f → rt (c / 2 ^ done.length) l.length = true → l.length < M →
    ∃ f', f_L_ring_L5 (nI n) (nI c) M (-1) (nI done.length) f = some f' ∧ isCL n (done ++ cg (c / 2 ^ done.length) l) f'
  | [], done, f, M, hl, hcell, hr, hM => by
    obtain ⟨M, rfl⟩ : ∃ k, M = k + 1 := ⟨M - 1, by simp at hM; omega⟩
    simp only [List.length_nil] at hl
    exact ⟨f, by rw [f_L_ring_L5, if_pos (nI_le (by omega) (by omega))], by simpa [cg] using hcell⟩
  | [a], done, f, M, hl, hcell, hr, hM => by
    obtain ⟨M, rfl⟩ : ∃ k, M = k + 1 := ⟨M - 1, by simp at hM; omega⟩
    simp only [List.length_cons, List.length_nil] at hl hM hr
    simp only [rt, decide_eq_true_eq] at hr
    have e0 : bitN c done.length = c / 2 ^ done.length % 2 := rfl
    rw [f_L_ring_L5, if_neg (nI_ge (by omega) (by omega)), jj_eq, n_bit1 hc (by omega), e0, hr, if_neg (show ¬ nI 1 = 0 by decide), nI_1]
    have := L_ring_L hn hc [] (done ++ [a]) f M (by simp; omega) (by simpa using hcell) (by simp [rt]) (by simp; omega)
    simpa [cg] using this
  | a :: b :: l, done, f, M, hl, hcell, hr, hM => by
    obtain ⟨M, rfl⟩ : ∃ k, M = k + 1 := ⟨M - 1, by simp at hM; omega⟩
    simp only [List.length_cons] at hl hM hr
    rw [rt] at hr
    have h1 : c / 2 ^ (done.length + 1) = c / 2 ^ done.length / 2 := by rw [Nat.pow_add, ← Nat.div_div_eq_div_mul]
    have h2 : c / 2 ^ (done.length + 2) = c / 2 ^ done.length / 4 := by rw [Nat.pow_add, ← Nat.div_div_eq_div_mul]
    have e0 : bitN c done.length = c / 2 ^ done.length % 2 := rfl
    rw [f_L_ring_L5, if_neg (nI_ge (by omega) (by omega)), jj_eq, n_bit1 hc (by omega), e0, cg]
    by_cases hb : c / 2 ^ done.length % 2 = 1
    · rw [if_pos hb] at hr ⊢
      rw [hb, if_neg (show ¬ nI 1 = 0 by decide), nI_1]
      have := L_ring_L hn hc (b :: l) (done ++ [a]) f M (by simp; omega) (by simpa using hcell) (by simpa [h1] using hr) (by simp; omega)
      simpa [h1] using this
    · rw [if_neg hb] at hr ⊢
      simp only [Bool.and_eq_true, decide_eq_true_eq] at hr
      have hb0 : c / 2 ^ done.length % 2 = 0 := by omega
      obtain ⟨M, rfl⟩ : ∃ k, M = k + 1 := ⟨M - 1, by omega⟩
      have e1 : bitN c (done.length + 1) = 0 := by unfold bitN; rw [h1]; exact hr.1
      rw [hb0, if_pos (show nI 0 = 0 by decide), if_neg (show ¬ (0 : Int32) ≤ -1 by decide), nI_1]
      dsimp only
      rw [f_L_ring_L5, if_neg (nI_ge (by omega) (by omega)), jj_eq, n_bit1 hc (by omega), e1, if_pos (show nI 0 = 0 by decide), if_pos (nI_pos' (by omega)), gd_t (n_inb (show done.length < 7 by omega) (by decide)), nm_eq, gd_t (n_inb (show done.length + 1 < 7 by omega) (by decide)), nI_clamp (by omega), nI_clamp (by omega), nI_1]
      dsimp only
      have ha : f done.length = nI (a + 1) := by
        rw [hcell _ (by omega)]
        have := getD_app2 (A := done) (B := a :: b :: l) (i := 0)
        rw [Nat.add_zero] at this
        rw [this]; rfl
      have hb : f (done.length + 1) = nI (b + 1) := by
        rw [hcell _ (by omega)]
        have := getD_app2 (A := done) (B := a :: b :: l) (i := 1)
        rw [this]; rfl
      rw [ha, hb]
      have := L_ring_L hn hc l (done ++ [b, a]) (upd (upd f done.length (nI (b + 1))) (done.length + 1) (nI (a + 1))) M (by simp; omega) ?_ (by simpa [h2] using hr.2) (by omega)
      · simpa [h2] using this
      · intro i hi
        by_cases q1 : i = done.length + 1
        · rw [q1, up_e]
          have := getD_app2 (A := done) (B := b :: a :: l) (i := 1)
          simp only [List.append_assoc, List.cons_append, List.nil_append]
          rw [this]; rfl
        · rw [up_n q1]
          by_cases q2 : i = done.length
          · rw [q2, up_e]
            have := getD_app2 (A := done) (B := b :: a :: l) (i := 0)
            rw [Nat.add_zero] at this
            simp only [List.append_assoc, List.cons_append, List.nil_append]
            rw [this]; rfl
          · rw [up_n q2, hcell i hi]
            congr 1
            by_cases q3 : i < done.length
            · rw [List.append_assoc, getD_app1 q3, getD_app1 q3]
            · obtain ⟨k, rfl⟩ : ∃ k, i = done.length + (k + 2) := ⟨i - done.length - 2, by omega⟩
              rw [List.append_assoc, getD_app2, getD_app2]
              simp
theorem L_ring {n c : Nat} {Z : List Nat} {f : Nat → Int32} (h : isRow n Z) (hn : n ≤ 7) (hc : c < 2 ^ 31) (hcell : isCL n Z f) (hr : rt c n = true) : ∃ f', f_L_ring (nI n) (nI c) f = some f' ∧ isCL n (cg c Z) f' := by
  have := L_ring_L hn hc Z [] f fu (by simpa using h.len) (by simpa using hcell) (by simpa [h.len] using hr) (by rw [h.len]; show n < 8192; omega)
  simp only [List.length_nil, Nat.pow_zero, Nat.div_one, List.nil_append] at this
  exact this
