/-! ===== the path's check answers true ===== -/
def bt (a : AT) (b i : Nat) : Nat := (RA a i).idxOf b
section
variable {a : AT} {t : Nat → Int32} {w : Nat → Int64} {pt : List Nat}
theorem O57 {b i : Nat} (hn : a.1 ≤ 7) (hw : WR a.1 (RA a) (lastA a) w) (hi : i ≤ lastA a) (hb : b < a.1) (k : Int32 → Option Int32) (s5 s7 s8 s9 s10 s11 s12 : Int32) (f : Nat → Int32) : ∀ (d j M : Nat), j + d = bt a b i → d < M →
    f_L_isPath_L57 k (nI (b + 1)) (nI a.1) s5 s7 s8 s9 s10 s11 s12 (nI i) t w a pt f M (nI j) = k (nI (bt a b i))
  | d, j, M, hj, hM => by
    obtain ⟨M, rfl⟩ : ∃ k, M = k + 1 := ⟨M - 1, by omega⟩
    have hrow := hw i hi
    have hlt : bt a b i < a.1 := idx_lt hrow.1 hb
    have hat := at_idx hrow.1 hb (show j < a.1 by omega)
    have hv := row_at_lt hrow.1 (show j < a.1 by omega)
    rw [f_L_isPath_L57, bd_t hrow.2, L_digit hrow.1 hn (by omega)]
    cases d with
    | zero =>
      have : j = bt a b i := by omega
      rw [if_pos (by rw [hat.mpr this.symm]), this]
    | succ d =>
      rw [if_neg (fun q => by
        have := (nI_eq (by omega) (by omega)).mp q
        have h2 : (RA a i).idxOf b = j := hat.mp (by omega)
        have h3 : bt a b i = j := h2
        omega), nI_1]
      exact O57 hn hw hi hb k s5 s7 s8 s9 s10 s11 s12 f d (j + 1) M (by omega) (by omega)
  termination_by d => d
def pDO (a : AT) (b i : Nat) : Nat := cnt (dod (RA a) b) (i - 3) 0
def pON (a : AT) (b i : Nat) : Int32 := fnI (dod (RA a) b) (i - 3) 0
def pST (a : AT) (b i : Nat) : Nat := cnt (fun j => decide (bt a b j = bt a b (j + 1))) (i - 1) 0
def pBL (a : AT) (b i p : Nat) : Nat := cnt (fun j => decide (bt a b j = p)) (i - 1) 1
theorem O47 {b : Nat} (hn : a.1 ≤ 7) (hw : WR a.1 (RA a) (lastA a) w) (hT : lastA a ≤ 180) (hb : b < a.1) (k : Int32 → Int32 → Int32 → Int32 → Int32 → Int32 → Int32 → Int32 → (Nat → Int32) → Option Int32) (K : Int32 → Int32 → Int32 → Int32 → (Nat → Int32) → Option Int32) (hk : ∀ x1 x2 x3 x4 x5 x6 x7 x8 f, k x1 x2 x3 x4 x5 x6 x7 x8 f = K x1 x2 x3 x7 f) (R : Option Int32)
    (hK : ∀ f, (∀ p, p < 7 → f p = nI (pBL a b (lastA a + 1) p)) → K (nI (pDO a b (lastA a + 1))) (pON a b (lastA a + 1)) (nI (pST a b (lastA a + 1))) (nI (bt a b (lastA a))) f = R) : ∀ (d i M : Nat) (s10 s11 s12 s13 : Int32) (f : Nat → Int32), i + d = lastA a + 1 → d < M → (∀ p, p < 7 → f p = nI (pBL a b i p)) → (1 ≤ i → s12 = nI (bt a b (i - 1))) → (2 ≤ i → s11 = nI (bt a b (i - 2))) → (3 ≤ i → s10 = nI (bt a b (i - 3))) → (1 ≤ i → s13 = nI (bt a b (i - 1))) →
    f_L_isPath_L47 k (nI (b + 1)) (nI a.1) (nI (lastA a)) t w a pt M (nI (pDO a b i)) (pON a b i) (nI (pST a b i)) s10 s11 s12 s13 (nI i) f = R
  | 0, i, M, s10, s11, s12, s13, f, hi, hM, hf, h12, h11, h10, h13 => by
    obtain ⟨M, rfl⟩ : ∃ k, M = k + 1 := ⟨M - 1, by omega⟩
    obtain rfl : i = lastA a + 1 := by omega
    rw [f_L_isPath_L47, if_pos (nI_lt (by omega) (by omega)), hk, h13 (by omega)]
    exact hK f hf
  | d + 1, i, M, s10, s11, s12, s13, f, hi, hM, hf, h12, h11, h10, h13 => by
    obtain ⟨M, rfl⟩ : ∃ k, M = k + 1 := ⟨M - 1, by omega⟩
    have hiT : i ≤ lastA a := by omega
    have hlt : ∀ j, j ≤ lastA a → bt a b j < a.1 := fun j hj => idx_lt (hw j hj).1 hb
    have l0 := hlt i hiT
    rw [f_L_isPath_L47, if_neg (nI_nlt hiT (by omega))]
    refine (O57 (pt := pt) hn hw hiT hb _ (nI (lastA a)) (nI (pDO a b i)) (pON a b i) (nI (pST a b i)) s10 s11 s12 f (bt a b i) 0 fu (by omega) (by show bt a b i < 8192; omega)).trans ?_
    have e9 : (if nI i ≤ 0 then (0 : Int32) else 1) = nI (if 1 ≤ i then 1 else 0) := by
      by_cases q : 1 ≤ i
      · rw [if_neg (nI_nle (by omega) (by omega)), if_pos q]; rfl
      · rw [show i = 0 by omega, if_pos (show nI 0 ≤ 0 by decide), if_neg (by omega)]; rfl
    have e10 : (if nI i ≤ 0 then (0 : Int32) else (if nI (bt a b i) = s12 then (1 : Int32) else (0 : Int32))) = nI (pST a b (i + 1) - pST a b i) := by
      cases i with
      | zero => rw [if_pos (show nI 0 ≤ 0 by decide)]; rfl
      | succ j =>
        have l1 := hlt j (by omega)
        rw [if_neg (nI_nle (by omega) (by omega)), h12 (by omega)]
        unfold pST
        rw [show j + 1 + 1 - 1 = j + 1 from rfl, show j + 1 - 1 = j from rfl, cnt_snoc, Nat.zero_add, Nat.add_sub_cancel_left]
        by_cases q : bt a b j = bt a b (j + 1)
        · rw [if_pos (by rw [q]), decide_eq_true q]; rfl
        · rw [if_neg (fun z => q (by have := (nI_eq (by omega) (by omega)).mp z; omega)), decide_eq_false q]; rfl
    have m9 : pST a b i ≤ pST a b (i + 1) := by
      cases i with
      | zero => exact Nat.le_refl _
      | succ j =>
        unfold pST
        rw [show j + 1 + 1 - 1 = j + 1 from rfl, show j + 1 - 1 = j from rfl, cnt_snoc]
        omega
    have e12 : (if nI i ≤ 2 then (0 : Int32) else (if nI (bt a b i) = s11 then (if s12 = s10 then (if s10 = s11 then (0 : Int32) else (1 : Int32)) else (0 : Int32)) else (0 : Int32))) = nI (b1 (decide (3 ≤ i) && dod (RA a) b (i - 3))) := by
      by_cases q : 3 ≤ i
      · obtain ⟨j, rfl⟩ : ∃ j, i = j + 3 := ⟨i - 3, by omega⟩
        have l1 := hlt j (by omega)
        have l2 := hlt (j + 1) (by omega)
        have l3 := hlt (j + 2) (by omega)
        rw [if_neg (show ¬ nI (j + 3) ≤ 2 from @nI_ge 2 (j + 3) (by omega) (by omega)), h11 (by omega), h12 (by omega), h10 (by omega), decide_eq_true q, Bool.true_and, show j + 3 - 1 = j + 2 from rfl, show j + 3 - 2 = j + 1 from rfl, show j + 3 - 3 = j from rfl]
        show _ = nI (b1 (decide (bt a b j = bt a b (j + 2)) && decide (bt a b (j + 1) = bt a b (j + 3)) && decide (¬ bt a b j = bt a b (j + 1))))
        have c : ∀ x y : Nat, x < a.1 → y < a.1 → (nI x = nI y ↔ x = y) := fun x y hx hy => nI_eq (by omega) (by omega)
        by_cases q1 : bt a b (j + 1) = bt a b (j + 3)
        · rw [if_pos (by rw [q1]), decide_eq_true q1]
          by_cases q2 : bt a b j = bt a b (j + 2)
          · rw [if_pos (by rw [q2]), decide_eq_true q2]
            by_cases q3 : bt a b j = bt a b (j + 1)
            · rw [if_pos (by rw [q3]), decide_eq_false (fun z => z q3)]; rfl
            · rw [if_neg (fun z => q3 ((c _ _ l1 l2).mp z)), decide_eq_true q3]; rfl
          · rw [if_neg (fun z => q2 ((c _ _ l3 l1).mp z).symm), decide_eq_false q2]; rfl
        · rw [if_neg (fun z => q1 ((c _ _ l0 l2).mp z).symm), decide_eq_false q1, Bool.and_false, Bool.false_and]; rfl
      · rw [if_pos (show nI i ≤ 2 from @nI_le i 2 (by omega) (by decide)), decide_eq_false q]; rfl
    have eDO : pDO a b (i + 1) = pDO a b i + b1 (decide (3 ≤ i) && dod (RA a) b (i - 3)) := by
      unfold pDO
      by_cases q : 3 ≤ i
      · rw [show i + 1 - 3 = (i - 3) + 1 by omega, cnt_snoc, Nat.zero_add, decide_eq_true q, Bool.true_and]
      · rw [show i + 1 - 3 = 0 by omega, show i - 3 = 0 by omega, decide_eq_false q]; rfl
    have eON : pON a b (i + 1) = if (0 : Int32) ≤ pON a b i then pON a b i else (if nI (b1 (decide (3 ≤ i) && dod (RA a) b (i - 3))) = 0 then pON a b i else nI i - 3) := by
      unfold pON
      by_cases q : 3 ≤ i
      · have := fnI_snoc (dod (RA a) b) (i - 3) 0 (by omega)
        rw [show i + 1 - 3 = (i - 3) + 1 by omega, this, Nat.zero_add, decide_eq_true q, Bool.true_and, show (3 : Int32) = nI 3 from rfl, pk_sub q]
        cases dod (RA a) b (i - 3)
        · rw [if_neg (show ¬ (false = true) by decide), if_pos (show nI (b1 false) = 0 by decide)]
        · rw [if_pos rfl, if_neg (show ¬ nI (b1 true) = 0 by decide)]
      · rw [show i + 1 - 3 = 0 by omega, show i - 3 = 0 by omega, decide_eq_false q, Bool.false_and, if_pos (show nI (b1 false) = 0 by decide)]
        split <;> rfl
    have e14 : (if nI (b1 (decide (3 ≤ i) && dod (RA a) b (i - 3))) = 0 then (0 : Int32) else 1) = nI (b1 (decide (3 ≤ i) && dod (RA a) b (i - 3))) := by
      cases (decide (3 ≤ i) && dod (RA a) b (i - 3)) <;> rfl
    have ih := O47 hn hw hT hb k K hk R hK d (i + 1) M s11 s12 (nI (bt a b i)) (nI (bt a b i)) (upd f (bt a b i) (f (bt a b i) + nI (if 1 ≤ i then 1 else 0))) (by omega) (by omega) (fun p hp => by
      have eb : pBL a b (i + 1) p = pBL a b i p + if 1 ≤ i ∧ bt a b i = p then 1 else 0 := by
        unfold pBL
        cases i with
        | zero => rw [if_neg (by omega)]; rfl
        | succ j =>
          rw [show j + 1 + 1 - 1 = j + 1 from rfl, show j + 1 - 1 = j from rfl, cnt_snoc, Nat.add_comm 1 j]
          by_cases q : bt a b (j + 1) = p
          · rw [decide_eq_true q, if_pos ⟨by omega, q⟩]; rfl
          · rw [decide_eq_false q, if_neg (fun z => q z.2)]; rfl
      by_cases q : p = bt a b i
      · rw [q, up_e, hf _ (by omega), nI_add, ← q, eb]
        by_cases q2 : 1 ≤ i
        · rw [if_pos q2, if_pos ⟨q2, q.symm⟩]
        · rw [if_neg q2, if_neg (fun z => q2 z.1)]
      · rw [up_n q, hf p hp, eb, if_neg (fun z => q z.2.symm)]; rfl) (fun _ => rfl) (fun h => h12 (by omega)) (fun h => h11 (by omega)) (fun _ => rfl)
    rw [gd_t (n_inb (show bt a b i < 7 by omega) (by decide)), e9, e10, e12, nI_clamp (by omega)]
    simp only [nm_eq]
    rw [e14, ← eON, nI_add, nI_add, ← eDO, show pST a b i + (pST a b (i + 1) - pST a b i) = pST a b (i + 1) by omega, nI_1]
    exact ih
theorem O300 {b : Nat} (hn : 4 ≤ a.1 ∧ a.1 ≤ 7) (hT : lastA a ≤ 180) (hb : b < a.1) {f : Nat → Int32} (hf : ∀ p, p < 7 → f p = nI (pBL a b (lastA a + 1) p)) : ∀ (d p M : Nat), p + d = a.1 → d < M →
    f_L_isPath_L300 (nI (b + 1)) (nI a.1) t w a pt f M 1 (nI p) = some 1
  | 0, p, M, hp, hM => by
    obtain ⟨M, rfl⟩ : ∃ k, M = k + 1 := ⟨M - 1, by omega⟩
    rw [f_L_isPath_L300, if_pos (nI_le (by omega) (by omega)), gd_t (by decide)]
  | d + 1, p, M, hp, hM => by
    obtain ⟨M, rfl⟩ : ∃ k, M = k + 1 := ⟨M - 1, by omega⟩
    have e : A_blows a (nI (b + 1)) (nI (p + 1)) = some (nI (pBL a b (lastA a + 1) p)) := by
      unfold A_blows
      rw [show f_X10_isWithin (nI (b + 1)) 1 (nI a.1) = 1 from wi_1 (show 1 ≤ b + 1 by omega) (by omega) (by omega), if_neg one0, show f_X10_isWithin (nI (p + 1)) 1 (nI a.1) = 1 from wi_1 (show 1 ≤ p + 1 by omega) (by omega) (by omega), if_neg one0, nI_clamp (by omega), nI_clamp (by omega)]
      rfl
    rw [f_L_isPath_L300, if_neg (nI_ge (by omega) (by omega)), jj_eq, if_neg one0, nI_1, bd_t e, gd_t (n_inb (show p < 7 by omega) (by decide)), nI_clamp (by omega), hf p (by omega), if_pos rfl]
    exact O300 hn hT hb hf d (p + 1) M (by omega) (by omega)
theorem P_isPath {b : Nat} (hO : OKa a) (r0 : t 0 = nI a.1) (r1 : t 1 = nI a.2.1.length) (r2 : t 2 = nI a.2.2.2.2.length) (hw : WR a.1 (RA a) (lastA a) w) (hT : lastA a ≤ 180) (hb : b < a.1) : f_L_isPath (nI (b + 1)) t w a pt = some 1 := by
  have hn : 4 ≤ a.1 ∧ a.1 ≤ 7 := hO.1
  have hx : nI a.2.1.length * nI a.2.2.2.2.length = nI (lastA a) := by rw [pk_mul, Nat.mul_comm]; rfl
  have wb : f_X10_isWithin (nI (b + 1)) 1 (nI a.1) = 1 := wi_1 (show 1 ≤ b + 1 by omega) (by omega) (by omega)
  have cb : (nI (b + 1)).toNatClampNeg - 1 = b := by rw [nI_clamp (by omega), Nat.add_sub_cancel]
  have p0 : A_path a (nI (b + 1)) 0 = some (nI (pDO a b (lastA a + 1))) := by
    unfold A_path
    rw [wb, if_neg one0, if_neg (show ¬ f_X10_isWithin 0 0 4 = 0 by decide), if_pos rfl, cb]
    rfl
  have p1 : A_path a (nI (b + 1)) 1 = some (pON a b (lastA a + 1)) := by
    unfold A_path
    rw [wb, if_neg one0, if_neg (show ¬ f_X10_isWithin 1 0 4 = 0 by decide), if_neg one0, if_pos rfl, cb]
    exact fnd_some _ _ _
  have p2 : A_path a (nI (b + 1)) 2 = some (nI (pBL a b (lastA a + 1) 0)) := by
    unfold A_path
    rw [wb, if_neg one0, if_neg (show ¬ f_X10_isWithin 2 0 4 = 0 by decide), if_neg (show ¬ (2 : Int32) = 0 by decide), if_neg (show ¬ (2 : Int32) = 1 by decide), if_pos rfl, cb]
    rfl
  have p3 : A_path a (nI (b + 1)) 3 = some (nI (pST a b (lastA a + 1))) := by
    unfold A_path
    rw [wb, if_neg one0, if_neg (show ¬ f_X10_isWithin 3 0 4 = 0 by decide), if_neg (show ¬ (3 : Int32) = 0 by decide), if_neg (show ¬ (3 : Int32) = 1 by decide), if_neg (show ¬ (3 : Int32) = 2 by decide), if_pos rfl, cb]
    rfl
  have p4 : A_path a (nI (b + 1)) 4 = some (nI (bt a b (lastA a) + 1)) := by
    unfold A_path
    rw [wb, if_neg one0, if_neg (show ¬ f_X10_isWithin 4 0 4 = 0 by decide), if_neg (show ¬ (4 : Int32) = 0 by decide), if_neg (show ¬ (4 : Int32) = 1 by decide), if_neg (show ¬ (4 : Int32) = 2 by decide), if_neg (show ¬ (4 : Int32) = 3 by decide), cb]
    rfl
  have p5 : A_path a (nI (b + 1)) 5 = some (-1) := by
    unfold A_path
    rw [wb, if_neg one0, if_pos (show f_X10_isWithin 5 0 4 = 0 by decide)]
  have p6 : A_path a (nI (a.1 + 1)) 0 = some (-1) := by
    unfold A_path
    rw [if_pos (wi_hi (by omega) (by omega))]
  unfold f_L_isPath
  rw [show (0 : Int32).toNatClampNeg = 0 from rfl, show (1 : Int32).toNatClampNeg = 1 from rfl, show (2 : Int32).toNatClampNeg = 2 from rfl, r0, r1, r2, hx, nm_eq, nm_eq]
  refine O47 hn.2 hw hT hb _ (fun y26 y27 y28 y32 y34 => bd (A_path a (nI (b + 1)) 0) (fun q35 => jj (fun (kk38 : (Int32) → Option (Int32)) => (if q35 = y26 then bd (A_path a (nI (b + 1)) 1) (fun q49 => (if q49 = y27 then bd (A_path a (nI (b + 1)) 2) (fun q52 => (if q52 = (y34 0) then bd (A_path a (nI (b + 1)) 3) (fun q55 => (if q55 = y28 then bd (A_path a (nI (b + 1)) 4) (fun q58 => (if q58 = (y32 + 1) then bd (A_path a (nI (b + 1)) 5) (fun q61 => (if q61 = (-1) then bd (A_path a (nI a.1 + 1) 0) (fun q64 => (if q64 = (-1) then kk38 1 else kk38 0)) else kk38 0)) else kk38 0)) else kk38 0)) else kk38 0)) else kk38 0)) else kk38 0)) (fun (w37 : Int32) => (f_L_isPath_L300 (nI (b + 1)) (nI a.1) t w a pt y34 fu w37 0)))) (fun _ _ _ _ _ _ _ _ _ => rfl) (some 1) (fun f hf => ?_) (lastA a + 1) 0 fu (-1) (-2) (-3) 0 (fun _ => 0) (by omega) (by show lastA a + 1 < 8192; omega) (fun p hp => rfl) (fun h => by omega) (fun h => by omega) (fun h => by omega) (fun h => by omega)
  rw [bd_t p0, jj_eq, if_pos rfl, bd_t p1, if_pos rfl, bd_t p2, hf 0 (by omega), if_pos rfl, bd_t p3, if_pos rfl, bd_t p4, nI_1, if_pos rfl, bd_t p5, if_pos rfl, nI_1, bd_t p6, if_pos rfl]
  exact O300 hn hT hb hf a.1 0 fu (by omega) (by show a.1 < 8192; omega)
end
