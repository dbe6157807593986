/-! ===== the law's own beginning, and what is right ===== -/
theorem L_isRight_s : ∀ n, n < 8 → 4 ≤ n → ∀ c, c < 140 → f_L_isRight (nI n) (nI c) = some (nI (b1 (okb n c))) := by decide +kernel
def bTop (n : Nat) : Int32 := (1 : Int32) <<< ((nI n - 1) &&& 31)
def bEv (n : Nat) : Int32 := if (nI n - nI n / 2 * 2) = 0 then (1 : Int32) else (0 : Int32)
def bV (n : Nat) (x : Int32) : Int32 := if (x - x / 2 * 2) = 0 then (if bEv n = 0 then bTop n else (0 : Int32)) else (if bEv n = 0 then (1 : Int32) else ((1 : Int32) + bTop n))
theorem bV_s : ∀ n, n < 8 → 4 ≤ n → ∀ j, j < 20 → j + 1 < 2 * n → bV n (nI j) = nI ((mS n).getD j 0) := by decide +kernel
theorem bL_s : ∀ n, n < 8 → 4 ≤ n → (if bEv n = 0 then ((3 : Int32) + bTop n) else (3 : Int32)) = nI ((mS n).getD (2 * n - 1) 0) ∧ (if nI n = 4 then (9 : Int32) else (if bEv n = 0 then ((9 : Int32) + bTop n) else (9 : Int32))) = nI (bS n) ∧ (if nI n = 4 then (12 : Int32) else (if nI n = 5 then (7 : Int32) else (if nI n = 6 then (15 : Int32) else (79 : Int32)))) = nI (gS n) := by decide +kernel
theorem L_beginning {n : Nat} (h4 : 4 ≤ n) (hn : n ≤ 7) (t m c : Nat → Int32) : ∃ t' m' c', f_L_beginning (nI n) t m c = some (t', m', c') ∧ t' 0 = nI n ∧ t' 1 = nI (mS n).length ∧ t' 2 = nI 0 ∧ (∀ j, j < (mS n).length → m' j = nI ((mS n).getD j 0)) ∧ c' 1 = nI (bS n) ∧ c' 2 = nI (gS n) := by
  have hlen : (mS n).length = 2 * n := (ok_b n (by omega) h4).1.2.2
  have L : ∀ (k : Int32 → (Nat → Int32) → Option ((Nat → Int32) × (Nat → Int32) × (Nat → Int32))) (f0 f2 : Nat → Int32) (d j M : Nat) (f : Nat → Int32), j + d = 2 * n → (∀ q, q < j → f q = bV n (nI q)) → d < M → ∃ f', f_L_beginning_L37 k (nI n) (bTop n) (bEv n) f0 f2 M (nI j) f = k (nI (2 * n)) f' ∧ ∀ q, q < 2 * n → f' q = bV n (nI q) := by
    intro k f0 f2 d
    induction d with
    | zero =>
      intro j M f hj h1 hM
      obtain ⟨M, rfl⟩ : ∃ k, M = k + 1 := ⟨M - 1, by omega⟩
      obtain rfl : j = 2 * n := by omega
      refine ⟨f, ?_, h1⟩
      rw [f_L_beginning_L37, show (2 : Int32) * nI n = nI (2 * n) from pk_mul 2 n, if_pos (nI_le (Nat.le_refl _) (by omega))]
    | succ d ih =>
      intro j M f hj h1 hM
      obtain ⟨M, rfl⟩ : ∃ k, M = k + 1 := ⟨M - 1, by omega⟩
      obtain ⟨f', e1, e2⟩ := ih (j + 1) M (upd f j (bV n (nI j))) (by omega) (fun q hq => by
        by_cases c : q = j
        · rw [c, up_e]
        · rw [up_n c]; exact h1 q (by omega)) (by omega)
      refine ⟨f', ?_, e2⟩
      rw [f_L_beginning_L37, show (2 : Int32) * nI n = nI (2 * n) from pk_mul 2 n, if_neg (nI_ge (by omega) (by omega)), nm_eq, gd_t (n_inb (show j < 20 by omega) (by decide)), nI_clamp (by omega), nI_1]
      exact e1
  obtain ⟨f', e1, e2⟩ := L (fun (y9 : Int32) (y10 : Nat → Int32) => nm (if bEv n = 0 then ((3 : Int32) + bTop n) else (3 : Int32)) (fun (w11 : Int32) => gd (inb (((2 : Int32) * nI n) - 1) 20) (nm (if nI n = 4 then (9 : Int32) else (if bEv n = 0 then ((9 : Int32) + bTop n) else (9 : Int32))) (fun (w13 : Int32) => nm (if nI n = 4 then (12 : Int32) else (if nI n = 5 then (7 : Int32) else (if nI n = 6 then (15 : Int32) else (79 : Int32)))) (fun (w14 : Int32) => some ((upd (upd (upd t (0 : Int32).toNatClampNeg (nI n)) (1 : Int32).toNatClampNeg ((2 : Int32) * nI n)) (2 : Int32).toNatClampNeg 0), (upd y10 (((2 : Int32) * nI n) - 1).toNatClampNeg w11), (upd (upd c (1 : Int32).toNatClampNeg w13) (2 : Int32).toNatClampNeg w14)))))))
    (upd (upd (upd t (0 : Int32).toNatClampNeg (nI n)) (1 : Int32).toNatClampNeg ((2 : Int32) * nI n)) (2 : Int32).toNatClampNeg 0) c (2 * n) 0 fu m (by omega) (fun q hq => by omega) (by show 2 * n < 8192; omega)
  have hs := bL_s n (by omega) h4
  have e3 : ((2 : Int32) * nI n) - 1 = nI (2 * n - 1) := by rw [show (2 : Int32) * nI n = nI (2 * n) from pk_mul 2 n, show (1 : Int32) = nI 1 from rfl, pk_sub (by omega)]
  refine ⟨upd (upd (upd t 0 (nI n)) 1 (nI (2 * n))) 2 (nI 0), upd f' (2 * n - 1) (nI ((mS n).getD (2 * n - 1) 0)), upd (upd c 1 (nI (bS n))) 2 (nI (gS n)), ?_, ?_, ?_, ?_, fun j hj => ?_, ?_, ?_⟩
  · unfold f_L_beginning
    rw [nm_eq, nm_eq]
    refine e1.trans ?_
    rw [hs.1, hs.2.1, hs.2.2, e3, nm_eq, nm_eq, nm_eq, gd_t (n_inb (show 2 * n - 1 < 20 by omega) (by decide)), nI_clamp (by omega), show (2 : Int32) * nI n = nI (2 * n) from pk_mul 2 n]
    rfl
  · rw [up_n (by decide), up_n (by decide), up_e]
  · rw [up_n (by decide), up_e, hlen]
  · rw [up_e]
  · rw [hlen] at hj
    by_cases q : j = 2 * n - 1
    · rw [q, up_e]
    · rw [up_n q, e2 j hj, bV_s n (by omega) h4 j (by omega) (by omega)]
  · rw [up_n (by decide), up_e]
  · rw [up_e]
