/-! ===== the model's cells: rounds, a change, a row out of its place ===== -/
/-- what is left of a change is right for so many places -/
def rt : Nat → Nat → Bool
  | _, 0 => true
  | c, 1 => decide (c % 2 = 1)
  | c, m + 2 => if c % 2 = 1 then rt (c / 2) (m + 1) else decide (c / 2 % 2 = 0) && rt (c / 4) m
theorem getD_app1 {A B : List Nat} {i : Nat} (h : i < A.length) : (A ++ B).getD i 0 = A.getD i 0 := by
  simp [List.getD_eq_getElem?_getD, List.getElem?_append_left h]
theorem getD_app2 {A B : List Nat} {i : Nat} : (A ++ B).getD (A.length + i) 0 = B.getD i 0 := by
  rw [List.getD_eq_getElem?_getD, List.getD_eq_getElem?_getD, List.getElem?_append_right (by omega), Nat.add_sub_cancel_left]
theorem n_bit {c p : Nat} (hc : c < 2 ^ 31) (hp : p < 32) : (nI c >>> (nI p &&& nI 31)) &&& nI 1 = nI (bitN c p) := by
  rw [n_shr hp hc, nx_and, Nat.and_one_is_mod]
  rfl
/-! unrank -/
def hz (n : Nat) (Z : List Nat) : Nat → Nat
  | 0 => 0
  | p + 1 => hz n Z p * (n - p) + lessL (Z.getD p 0) (Z.drop (p + 1))
theorem hr_ge : ∀ (l : List Nat) (v : Nat), v ≤ hr v l
  | [], v => by simp [hr]
  | a :: l, v => by
    rw [hr]
    refine Nat.le_trans ?_ (hr_ge l _)
    rw [Nat.mul_add]
    omega
theorem hz_hr {n : Nat} {Z : List Nat} (h : isRow n Z) : ∀ p, p ≤ n → hr (hz n Z p) (Z.drop p) = rk Z
  | 0, _ => by simp [hz, rk]
  | p + 1, hp => by
    have := hz_hr h p (by omega)
    rw [drop_cons (show p < Z.length by rw [h.len]; omega), hr, List.length_drop, h.len] at this
    rw [← this, hz, show n - (p + 1) + 1 = n - p by omega]
theorem hz_le {n : Nat} {Z : List Nat} (h : isRow n Z) {p : Nat} (hp : p ≤ n) : hz n Z p ≤ rk Z := by
  rw [← hz_hr h p hp]
  exact hr_ge _ _
theorem hz_n {n : Nat} {Z : List Nat} (h : isRow n Z) : hz n Z n = rk Z := by
  have := hz_hr h n (Nat.le_refl n)
  rwa [List.drop_eq_nil_of_le (by rw [h.len]; omega), hr] at this
/-- of two bells that are apart the lesser one has fewer lesser ones -/
theorem lessL_mono {a b : Nat} (h : a ≤ b) : ∀ (l : List Nat), lessL a l ≤ lessL b l
  | [] => by simp [lessL]
  | c :: l => by
    rw [lessL_cons, lessL_cons]
    have := lessL_mono h l
    split <;> split <;> omega
theorem lessL_strict {a b : Nat} (h : a < b) : ∀ (l : List Nat), a ∈ l → lessL a l < lessL b l
  | [], q => by cases q
  | c :: l, q => by
    rw [lessL_cons, lessL_cons]
    rcases List.mem_cons.mp q with q | q
    · subst q
      have := lessL_mono (Nat.le_of_lt h) l
      rw [if_neg (by omega), if_pos h]
      omega
    · have := lessL_strict h l q
      split <;> split <;> omega
theorem lessL_lt_len {a : Nat} {l : List Nat} : lessL a l ≤ l.length := List.countP_le_length
theorem bump {n p q : Nat} {Z : List Nat} (h : isRow n Z) (hpq : p < q) (hq : q < n) :
    lessL (Z.getD q 0) (Z.drop p) = lessL (Z.getD q 0) (Z.drop (p + 1)) + if lessL (Z.getD q 0) (Z.drop (p + 1)) < lessL (Z.getD p 0) (Z.drop (p + 1)) then 0 else 1 := by
  have hl : p < Z.length := by rw [h.len]; omega
  rw [drop_cons hl, lessL_cons]
  have hmem : Z.getD q 0 ∈ Z.drop (p + 1) := by
    rw [getD_lt (by rw [h.len]; omega)]
    obtain ⟨k, rfl⟩ : ∃ k, q = p + 1 + k := ⟨q - p - 1, by omega⟩
    rw [← List.getElem_drop (h := by rw [List.length_drop, h.len]; omega)]
    exact List.getElem_mem _
  have hne : Z.getD p 0 ≠ Z.getD q 0 := by
    intro e
    rw [getD_lt hl, getD_lt (by rw [h.len]; omega)] at e
    have := nodup_inj h.nodup hl (by rw [h.len]; omega) e
    omega
  by_cases c : Z.getD p 0 < Z.getD q 0
  · rw [if_pos c, if_neg (by have := lessL_mono (Nat.le_of_lt c) (Z.drop (p + 1)); omega), Nat.add_comm]
  · have c2 : Z.getD q 0 < Z.getD p 0 := by omega
    rw [if_neg c, if_pos (lessL_strict c2 _ hmem)]
    omega
theorem neg1_lt : (nI 0 + (-1) : Int32) < 0 := by decide
theorem hr_add : ∀ (l : List Nat) (v : Nat), hr v l = v * fac l.length + hr 0 l
  | [], v => by simp [hr, fac]
  | a :: l, v => by
    simp only [hr, List.length_cons, fac]
    rw [hr_add l (v * (l.length + 1) + lessL a l), hr_add l (0 * (l.length + 1) + lessL a l)]
    rw [Nat.zero_mul, Nat.zero_add, Nat.add_mul, Nat.mul_assoc, Nat.add_assoc]
theorem hr0_lt (l : List Nat) : hr 0 l < fac l.length := by simpa using hr_lt l 0
theorem lessL_self (a : Nat) (l : List Nat) : lessL a (a :: l) = lessL a l := by rw [lessL_cons, if_neg (Nat.lt_irrefl a), Nat.zero_add]
theorem lessL_perm {a : Nat} {l k : List Nat} (h : l.Perm k) : lessL a l = lessL a k := h.countP_eq _
theorem fac_pos : ∀ n, 0 < fac n
  | 0 => Nat.one_pos
  | n + 1 => Nat.mul_pos (Nat.succ_pos n) (fac_pos n)
theorem hr_inj : ∀ (l k : List Nat), l.Perm k → hr 0 l = hr 0 k → l = k
  | [], k, h, _ => by rw [List.nil_perm.mp h]
  | a :: l, [], h, _ => absurd h.length_eq (by simp)
  | a :: l, b :: k, h, e => by
    have hlen : l.length = k.length := by simpa using h.length_eq
    simp only [hr, Nat.zero_mul, Nat.zero_add] at e
    rw [hr_add l, hr_add k, hlen] at e
    have h1 := hr0_lt l
    have h2 := hr0_lt k
    rw [hlen] at h1
    have p := fac_pos k.length
    have e1 : lessL a l = lessL b k := by
      have := congrArg (fun x => x / fac k.length) e
      rwa [Nat.mul_comm (lessL a l), Nat.mul_comm (lessL b k), Nat.mul_add_div p, Nat.mul_add_div p, Nat.div_eq_of_lt h1, Nat.div_eq_of_lt h2, Nat.add_zero, Nat.add_zero] at this
    have e2 : hr 0 l = hr 0 k := by rw [e1] at e; omega
    have e3 : lessL a (a :: l) = lessL b (a :: l) := by
      rw [lessL_self, e1, lessL_perm h, lessL_self]
    have eab : a = b := by
      rcases Nat.lt_trichotomy a b with q | q | q
      · have := lessL_strict q (a :: l) List.mem_cons_self; omega
      · exact q
      · have := lessL_strict q (a :: l) (h.mem_iff.mpr List.mem_cons_self); omega
    subst eab
    rw [hr_inj l k h.cons_inv e2]
theorem rk_inj {n : Nat} {Z Z' : List Nat} (h : isRow n Z) (h' : isRow n Z') (hn0 : 0 < n) (hn : n ≤ 7) (e : rk Z = rk Z') : Z = Z' := hr_inj Z Z' (h.trans h'.symm) e
