/-! ===== a turn's act answers true ===== -/
def seek (n : Nat) : Nat → Nat → Option Nat
  | 0, _ => none
  | d + 1, x => if okb n x then some x else seek n d ((x + 1) % 2 ^ n)
def seekB (n x : Nat) : Bool := match seek n 130 x with
  | none => false
  | some c => okb n c && Nat.blt c 128
theorem seek_s : ∀ n, n < 8 → 4 ≤ n → ∀ x, x < 2 ^ n → seekB n x = true := by decide +kernel
theorem seek_ok {n x : Nat} (h4 : 4 ≤ n) (hn : n ≤ 7) (hx : x < 2 ^ n) : ∃ c, seek n 130 x = some c ∧ okb n c = true ∧ c < 128 := by
  have h := seek_s n (by omega) h4 x hx
  unfold seekB at h
  cases q : seek n 130 x with
  | none => rw [q] at h; cases h
  | some c =>
    rw [q] at h
    rw [Bool.and_eq_true] at h
    exact ⟨c, rfl, h.1, Nat.blt_eq.mp h.2⟩
theorem pw_128 {n : Nat} (hn : n ≤ 7) : 2 ^ n ≤ 128 := Nat.le_trans (Nat.pow_le_pow_right (by decide) hn) (by decide)
theorem shl_n {n : Nat} (hn : n ≤ 7) : (1 : Int32) <<< (nI n &&& 31) = nI (2 ^ n) := by
  have := pw_128 hn
  have h := n_shl (a := 1) (b := n) (by omega) (by rw [Nat.one_mul]; omega)
  rw [Nat.one_mul] at h
  exact h
abbrev actT : Type := Int32 × (Nat → Int32) × (Nat → Int32) × (Nat → Int32) × (Nat → Int32) × AT × List Nat
section
variable {a : AT} {t m c l : Nat → Int32} {pt : List Nat}
theorem U328 {n : Nat} (h4 : 4 ≤ n) (hn : n ≤ 7) (t0 : t 0 = nI n) (k : Int32 → Option actT) (s7 s8 s9 : Int32) : ∀ (d x z M : Nat), x < 2 ^ n → seek n d x = some z → d < M →
    f_L_isActed_L328 k s7 s8 s9 t m c l a pt M (nI x) = k (nI z)
  | 0, x, z, M, hx, hz, hM => by cases hz
  | d + 1, x, z, M, hx, hz, hM => by
    obtain ⟨M, rfl⟩ : ∃ k, M = k + 1 := ⟨M - 1, by omega⟩
    have hp := pw_128 hn
    have hp0 : 0 < 2 ^ n := Nat.two_pow_pos n
    rw [seek] at hz
    rw [f_L_isActed_L328, show (0 : Int32).toNatClampNeg = 0 from rfl, t0, bd_t (L_isRight_s n (by omega) h4 x (by omega))]
    by_cases q : okb n x = true
    · rw [if_pos q] at hz
      cases hz
      rw [q, if_neg (show ¬ nI (b1 true) = 0 by decide)]
    · rw [if_neg q] at hz
      rw [Bool.eq_false_iff.mpr q, if_pos (show nI (b1 false) = 0 by decide), shl_n hn, gd_t (nzb_t hp0 (by omega)), nI_1, pk_rem (by omega) hp0 (by omega), nm_eq]
      exact U328 h4 hn t0 k s7 s8 s9 d ((x + 1) % 2 ^ n) z M (Nat.mod_lt _ hp0) hz (by omega)
theorem getD_snoc {C : List Nat} {z j : Nat} (hj : j < C.length + 1) : (C ++ [z]).getD j 0 = if j = C.length then z else C.getD j 0 := by
  by_cases q : j = C.length
  · rw [if_pos q, q]; simp [List.getD_eq_getElem?_getD]
  · rw [if_neg q, getD_app1 (by omega)]
theorem U311 {n many : Nat} (h4 : 4 ≤ n) (hn : n ≤ 7) (hmany : many ≤ 7) (t0 : t 0 = nI n) (k : Int32 → Int32 → (Nat → Int32) → Option actT) : ∀ (d x seen M : Nat) (C : List Nat) (f : Nat → Int32), x + d = many → C.length = x → seen < 2 ^ 30 → (∀ y ∈ C, okb n y = true ∧ y < 128) → (∀ j, j < x → f j = nI (C.getD j 0)) → d < M →
    ∃ (seen' : Int32) (f' : Nat → Int32) (C' : List Nat), f_L_isActed_L311 k (nI many) t c l a pt M (nI seen) (nI x) f = k seen' (nI many) f' ∧ C'.length = many ∧ (∀ y ∈ C', okb n y = true ∧ y < 128) ∧ ∀ j, j < many → f' j = nI (C'.getD j 0)
  | 0, x, seen, M, C, f, hx, hC, hs, hok, hf, hM => by
    obtain ⟨M, rfl⟩ : ∃ k, M = k + 1 := ⟨M - 1, by omega⟩
    obtain rfl : x = many := by omega
    exact ⟨nI seen, f, C, by rw [f_L_isActed_L311, if_pos (nI_le (Nat.le_refl _) (by omega))], hC, hok, hf⟩
  | d + 1, x, seen, M, C, f, hx, hC, hs, hok, hf, hM => by
    obtain ⟨M, rfl⟩ : ∃ k, M = k + 1 := ⟨M - 1, by omega⟩
    have hp := pw_128 hn
    have hp0 : 0 < 2 ^ n := Nat.two_pow_pos n
    obtain ⟨z, e1, e2, e3⟩ := seek_ok (x := seen % 2 ^ n) h4 hn (Nat.mod_lt _ hp0)
    obtain ⟨seen', f', C', i1, i2, i3, i4⟩ := U311 h4 hn hmany t0 k d (x + 1) (seen / 5 + 3 * x) M (C ++ [z]) (upd f x (nI z)) (by omega) (by simp [hC]) (by omega) (fun y hy => by
      rcases List.mem_append.mp hy with q | q
      · exact hok y q
      · rw [List.mem_singleton] at q; subst q; exact ⟨e2, e3⟩) (fun j hj => by
      rw [getD_snoc (by omega), hC]
      by_cases q : j = x
      · rw [q, up_e, if_pos rfl]
      · rw [up_n q, if_neg q, hf j (by omega)]) (by omega)
    refine ⟨seen', f', C', ?_, i2, i3, i4⟩
    rw [f_L_isActed_L311, if_neg (nI_ge (by omega) (by omega)), show (0 : Int32).toNatClampNeg = 0 from rfl, t0, shl_n hn, gd_t (nzb_t hp0 (by omega)), pk_rem (by omega) hp0 (by omega), nm_eq]
    refine (U328 (m := f) (c := c) (l := l) (a := a) (pt := pt) h4 hn t0 _ (nI many) (nI seen) (nI x) 130 (seen % 2 ^ n) z fu (Nat.mod_lt _ hp0) e1 (by show 130 < 8192; omega)).trans ?_
    rw [gd_t (n_inb (show x < 20 by omega) (by decide)), show (5 : Int32) = nI 5 from rfl, show (3 : Int32) = nI 3 from rfl, pk_div (by omega) (by decide) (by decide), pk_mul, nI_add, nm_eq, nI_clamp (by omega), nI_1]
    exact i1
theorem cut_at {j : Nat} (hj : j ≤ a.2.2.2.2.length) (hl : a.2.2.2.2.length < 2 ^ 31) : A_cut a (nI j) = some (nI a.2.2.2.2.length, (a.1, a.2.1, a.2.2.1, a.2.2.2.1, a.2.2.2.2.take j)) := by
  unfold A_cut
  rw [nI_clamp (by omega), if_pos ⟨rfl, hj⟩]
theorem LR_cut {j : Nat} (hR : LR a t m c l) (hj : j ≤ a.2.2.2.2.length) : LR (a.1, a.2.1, a.2.2.1, a.2.2.2.1, a.2.2.2.2.take j) (upd t 2 (nI j)) m c l := by
  obtain ⟨r0, r1, r2, r3, r4, r5, r6⟩ := hR
  have hlen : (a.2.2.2.2.take j).length = j := by rw [List.length_take]; omega
  refine ⟨by rw [up_n (by decide)]; exact r0, by rw [up_n (by decide)]; exact r1, by rw [up_e]; show nI j = nI (a.2.2.2.2.take j).length; rw [hlen], r3, r4, r5, fun i hi => ?_⟩
  change i < (a.2.2.2.2.take j).length at hi
  rw [hlen] at hi
  show l i = nI ((a.2.2.2.2.take j).getD i 0)
  rw [r6 i (by omega), List.getD_eq_getElem?_getD, List.getD_eq_getElem?_getD, List.getElem?_take, if_pos hi]
theorem last_cut {j : Nat} (hj : j ≤ a.2.2.2.2.length) : lastA (a.1, a.2.1, a.2.2.1, a.2.2.2.1, a.2.2.2.2.take j) = j * a.2.1.length := by
  unfold lastA
  dsimp only
  rw [List.length_take, Nat.min_eq_left hj]
theorem last_le {j : Nat} (hj : j ≤ a.2.2.2.2.length) : j * a.2.1.length ≤ lastA a := Nat.mul_le_mul_right _ hj
theorem P_cut (hO : OKa a) (hR : LR a t m c l) (hT : lastA a ≤ 180) {y : Nat} (hy : y < 2 ^ 31) : ∃ (t' : Nat → Int32) (a' : AT), nm (t 2) (fun (x65 : Int32) => gd (nzb (x65 + 1)) (bd (A_cut a (nI y - nI y / (x65 + 1) * (x65 + 1))) (fun q67 => (if q67.1 = x65 then some (1, (upd t 2 (nI y - nI y / (x65 + 1) * (x65 + 1))), m, c, l, q67.2, pt) else some (0, (upd t 2 (nI y - nI y / (x65 + 1) * (x65 + 1))), m, c, l, q67.2, pt))))) = (some (1, t', m, c, l, a', pt) : Option actT) ∧ LR a' t' m c l ∧ lastA a' ≤ 180 := by
  have hl : a.2.2.2.2.length ≤ 16 := hO.2.2.2.2.2.1
  have hj : y % (a.2.2.2.2.length + 1) ≤ a.2.2.2.2.length := by have := Nat.mod_lt y (show 0 < a.2.2.2.2.length + 1 by omega); omega
  refine ⟨_, _, ?_, LR_cut hR hj, by rw [last_cut hj]; exact Nat.le_trans (last_le hj) hT⟩
  rw [hR.2.2.1, nm_eq, nI_1, gd_t (nzb_t (by omega) (by omega)), pk_rem hy (by omega) (by omega), bd_t (cut_at hj (by omega)), if_pos rfl]
end
