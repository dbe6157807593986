/-! ===== the rows' check answers true ===== -/
theorem x_par (v : Nat) (b : Bool) : nI (v % 2) ^^^ nI (b1 b) = nI ((v + b1 b) % 2) := by
  rcases Nat.mod_two_eq_zero_or_one v with h | h
  · cases b
    · rw [h, show b1 false = 0 from rfl, Nat.add_zero, h]; decide
    · rw [h, show b1 true = 1 from rfl, show (v + 1) % 2 = 1 by omega]; decide
  · cases b
    · rw [h, show b1 false = 0 from rfl, Nat.add_zero, h]; decide
    · rw [h, show b1 true = 1 from rfl, show (v + 1) % 2 = 0 by omega]; decide
theorem M315 {n p : Nat} {Z : List Nat} (h : isRow n Z) (hn : n ≤ 7) (hp : p < n) (k : Int32 → Int32 → Option Int32) (s3 s5 s6 s7 s8 s9 s10 s11 s15 : Int32) (t : Nat → Int32) (w : Nat → Int64) (a : AT) (pt : List Nat) : ∀ (d q v M : Nat), q + d = p → d < M →
    f_L_areRows_L315 k s3 (nI n) s5 s6 s7 s8 s9 s10 s11 (lN (cd Z)) s15 (nI p) t w a pt M (nI (v % 2)) (nI q) = k (nI ((v + cnt (fun q => decide (Z.getD p 0 < Z.getD q 0)) d q) % 2)) (nI p)
  | 0, q, v, M, hq, hM => by
    obtain ⟨M, rfl⟩ : ∃ k, M = k + 1 := ⟨M - 1, by omega⟩
    obtain rfl : q = p := by omega
    rw [f_L_areRows_L315, if_pos (nI_le (Nat.le_refl _) (by omega))]
    rfl
  | d + 1, q, v, M, hq, hM => by
    obtain ⟨M, rfl⟩ : ∃ k, M = k + 1 := ⟨M - 1, by omega⟩
    have b1' := row_at_lt h hp
    have b2 := row_at_lt h (show q < n by omega)
    have e : (if f_L_digit (nI n) (lN (cd Z)) (nI q) ≤ f_L_digit (nI n) (lN (cd Z)) (nI p) then (0 : Int32) else 1) = nI (b1 (decide (Z.getD p 0 < Z.getD q 0))) := by
      rw [L_digit h hn (by omega), L_digit h hn hp]
      by_cases c : Z.getD p 0 < Z.getD q 0
      · rw [if_neg (nI_ge (by omega) (by omega)), decide_eq_true c]; rfl
      · rw [if_pos (nI_le (by omega) (by omega)), decide_eq_false c]; rfl
    rw [f_L_areRows_L315, if_neg (nI_ge (by omega) (by omega)), e, nm_eq, nm_eq, x_par, nI_1, M315 h hn hp k s3 s5 s6 s7 s8 s9 s10 s11 s15 t w a pt d (q + 1) _ M (by omega) (by omega)]
    congr 3
    show _ = v + (b1 _ + cnt _ d (q + 1))
    rw [Nat.add_assoc]
theorem M245 {n : Nat} {Z : List Nat} {s11 : Int32} {a : AT} (h : isRow n Z) (hn : n ≤ 7) (hb : ∀ p, p < n → A_bell a s11 (nI (p + 1)) = some (nI (Z.getD p 0 + 1))) (k : Int32 → Int32 → Int32 → Int32 → Option Int32) (s3 s5 s6 s7 s8 s9 : Int32) (t : Nat → Int32) (w : Nat → Int64) (pt : List Nat) : ∀ (d p v u M : Nat), p + d = n → d < M →
    f_L_areRows_L245 k s3 (nI n) s5 s6 s7 s8 s9 s11 (lN (cd Z)) t w a pt M 1 (nI (v % 2)) (nI u) (nI p) = k 1 (nI ((v + sm (fun p => cnt (fun q => decide (Z.getD p 0 < Z.getD q 0)) p 0) d p) % 2)) (nI (u + cnt (fun p => decide (Z.getD p 0 = p)) d p)) (nI n)
  | 0, p, v, u, M, hp, hM => by
    obtain ⟨M, rfl⟩ : ∃ k, M = k + 1 := ⟨M - 1, by omega⟩
    obtain rfl : p = n := by omega
    rw [f_L_areRows_L245, if_pos (nI_le (Nat.le_refl _) (by omega))]
    rfl
  | d + 1, p, v, u, M, hp, hM => by
    obtain ⟨M, rfl⟩ : ∃ k, M = k + 1 := ⟨M - 1, by omega⟩
    have b1' := row_at_lt h (show p < n by omega)
    have e : (if f_L_digit (nI n) (lN (cd Z)) (nI p) = nI (p + 1) then (1 : Int32) else 0) = nI (b1 (decide (Z.getD p 0 = p))) := by
      rw [L_digit h hn (by omega)]
      by_cases c : Z.getD p 0 = p
      · rw [if_pos (by rw [c]), decide_eq_true c]; rfl
      · rw [if_neg (fun q => c (by have := (nI_eq (by omega) (by omega)).mp q; omega)), decide_eq_false c]; rfl
    rw [f_L_areRows_L245, if_neg (nI_ge (by omega) (by omega)), jj_eq, if_neg one0, nI_1, hb p (by omega), bd_t rfl, if_pos (L_digit h hn (by omega)).symm]
    dsimp only
    rw [e, nm_eq, nm_eq, nI_add]
    refine (M315 h hn (p := p) (by omega) _ s3 s5 s6 s7 s8 s9 1 s11 _ t w a pt p 0 v fu (by omega) (by show p < 8192; omega)).trans ?_
    rw [M245 h hn hb k s3 s5 s6 s7 s8 s9 t w pt d (p + 1) _ _ M (by omega) (by omega)]
    show _ = k 1 (nI ((v + (_ + sm _ d (p + 1))) % 2)) (nI (u + (b1 _ + cnt _ d (p + 1)))) (nI n)
    rw [Nat.add_assoc v, Nat.add_assoc u]
section
variable {a : AT} {t : Nat → Int32} {w : Nat → Int64} {pt : List Nat}
def rRD (a : AT) (i : Nat) : Int32 := fnI (fun j => decide (RA a j = RA a 0)) (i - 1) 1
def rTW (a : AT) (i : Nat) : Int32 := fnI (fun j => decide (fs (RA a) 1 j < j)) (i - 1) 1
def rUL (a : AT) (i : Nat) : Int32 := nI (cnt (fun j => decide (fs (RA a) 1 j = j)) (i - 1) 1)
def rWE (a : AT) (i : Nat) : Int32 := nI (cnt (fun j => sw a.1 (RA a j)) (i - 1) 1)
theorem M_blk {i : Nat} (hO : OKa a) (hw : WR a.1 (RA a) (lastA a) w) (hT : lastA a ≤ 180) (hi : i ≤ lastA a) (K : Int32 × Int32 × Int32 × Int32 → Option Int32) :
    jj (fun (kk12 : (Int32 × Int32 × Int32 × Int32) → Option (Int32)) => (if nI i ≤ 0 then kk12 (rRD a i, rTW a i, rUL a i, rWE a i) else jj (fun (kk89 : (Int32) → Option (Int32)) => (if (0 : Int32) ≤ rRD a i then kk89 (rRD a i) else bd (f_L_rowAt 0 w) (fun q105 => (if (lg_cmp (lN (cd (RA a i))) q105) = 0 then kk89 (nI i) else kk89 (rRD a i))))) (fun (w88 : Int32) => bd (f_L_first (nI i) 1 w) (fun q90 => nm (if nI i ≤ q90 then (0 : Int32) else (1 : Int32)) (fun (w92 : Int32) => nm (if (0 : Int32) ≤ rTW a i then rTW a i else (if w92 = 0 then rTW a i else nI i)) (fun (w93 : Int32) => nm (if w92 = 0 then (1 : Int32) else (0 : Int32)) (fun (w94 : Int32) => nm (rUL a i + w94) (fun (x95 : Int32) => nm (if (f_L_sounds (nI a.1) (lN (cd (RA a i)))) = 0 then (0 : Int32) else (1 : Int32)) (fun (w97 : Int32) => nm (rWE a i + w97) (fun (x98 : Int32) => kk12 (w88, w93, x95, x98))))))))))) K = K (rRD a (i + 1), rTW a (i + 1), rUL a (i + 1), rWE a (i + 1)) := by
  have hn : 4 ≤ a.1 ∧ a.1 ≤ 7 := hO.1
  rw [jj_eq]
  cases i with
  | zero => rw [if_pos (show nI 0 ≤ 0 by decide)]; rfl
  | succ j =>
    have hrow := hw (j + 1) hi
    have h0 := hw 0 (Nat.zero_le _)
    have hf := L_first hw hn.2 hT (show 1 ≤ j + 1 by omega) hi
    have hle : fs (RA a) 1 (j + 1) ≤ j + 1 := fs_le (by omega)
    have e1 : rRD a (j + 1 + 1) = if (0 : Int32) ≤ rRD a (j + 1) then rRD a (j + 1) else if decide (RA a (j + 1) = RA a 0) = true then nI (j + 1) else rRD a (j + 1) := by
      have := fnI_snoc (fun j => decide (RA a j = RA a 0)) j 1 (by omega)
      rw [Nat.add_comm 1 j] at this
      exact this
    have e2 : rTW a (j + 1 + 1) = if (0 : Int32) ≤ rTW a (j + 1) then rTW a (j + 1) else if decide (fs (RA a) 1 (j + 1) < j + 1) = true then nI (j + 1) else rTW a (j + 1) := by
      have := fnI_snoc (fun j => decide (fs (RA a) 1 j < j)) j 1 (by omega)
      rw [Nat.add_comm 1 j] at this
      exact this
    have e3 : rUL a (j + 1 + 1) = rUL a (j + 1) + nI (b1 (decide (fs (RA a) 1 (j + 1) = j + 1))) := by
      unfold rUL
      rw [nI_add, show j + 1 + 1 - 1 = j + 1 from rfl, cnt_snoc, Nat.add_comm 1 j]; rfl
    have e4 : rWE a (j + 1 + 1) = rWE a (j + 1) + nI (b1 (sw a.1 (RA a (j + 1)))) := by
      unfold rWE
      rw [nI_add, show j + 1 + 1 - 1 = j + 1 from rfl, cnt_snoc, Nat.add_comm 1 j]; rfl
    have es : (if (f_L_sounds (nI a.1) (lN (cd (RA a (j + 1))))) = 0 then (0 : Int32) else (1 : Int32)) = nI (b1 (sw a.1 (RA a (j + 1)))) := by
      rw [L_sounds hrow.1 hn.1 hn.2]
      cases sw a.1 (RA a (j + 1)) <;> rfl
    have eq9 : (if nI (j + 1) ≤ nI (fs (RA a) 1 (j + 1)) then (0 : Int32) else 1) = nI (b1 (decide (fs (RA a) 1 (j + 1) < j + 1))) := by
      by_cases c : fs (RA a) 1 (j + 1) < j + 1
      · rw [if_neg (nI_ge c (by omega)), decide_eq_true c]; rfl
      · rw [if_pos (nI_le (by omega) (by omega)), decide_eq_false c]; rfl
    have en : decide (fs (RA a) 1 (j + 1) = j + 1) = !decide (fs (RA a) 1 (j + 1) < j + 1) := by
      by_cases c : fs (RA a) 1 (j + 1) < j + 1
      · rw [decide_eq_true c, decide_eq_false (by omega)]; rfl
      · rw [decide_eq_false c, decide_eq_true (by omega)]; rfl
    have tail : ∀ X : Int32, (fun (w88 : Int32) => bd (f_L_first (nI (j + 1)) 1 w) (fun q90 => nm (if nI (j + 1) ≤ q90 then (0 : Int32) else (1 : Int32)) (fun (w92 : Int32) => nm (if (0 : Int32) ≤ rTW a (j + 1) then rTW a (j + 1) else (if w92 = 0 then rTW a (j + 1) else nI (j + 1))) (fun (w93 : Int32) => nm (if w92 = 0 then (1 : Int32) else (0 : Int32)) (fun (w94 : Int32) => nm (rUL a (j + 1) + w94) (fun (x95 : Int32) => nm (if (f_L_sounds (nI a.1) (lN (cd (RA a (j + 1))))) = 0 then (0 : Int32) else (1 : Int32)) (fun (w97 : Int32) => nm (rWE a (j + 1) + w97) (fun (x98 : Int32) => K (w88, w93, x95, x98))))))))) X = K (X, rTW a (j + 1 + 1), rUL a (j + 1 + 1), rWE a (j + 1 + 1)) := by
      intro X
      dsimp only
      rw [bd_t (show f_L_first (nI (j + 1)) 1 w = _ from hf), es, eq9, e2, e3, e4, en]
      simp only [nm_eq]
      cases decide (fs (RA a) 1 (j + 1) < j + 1)
      · rw [if_pos (show nI (b1 false) = 0 by decide), if_pos (show nI (b1 false) = 0 by decide), if_neg (show ¬ (false = true) by decide)]; rfl
      · rw [if_neg (show ¬ nI (b1 true) = 0 by decide), if_neg (show ¬ nI (b1 true) = 0 by decide), if_pos rfl]; rfl
    rw [if_neg (nI_nle (by omega) (by omega)), jj_eq, e1]
    by_cases c : (0 : Int32) ≤ rRD a (j + 1)
    · rw [if_pos c, if_pos c]
      exact tail _
    · rw [if_neg c, if_neg c, bd_t (show f_L_rowAt 0 w = _ from h0.2)]
      by_cases c2 : RA a (j + 1) = RA a 0
      · rw [if_pos ((row_cmp hw hn.2 hi (Nat.zero_le _)).mpr c2), if_pos (decide_eq_true c2)]
        exact tail _
      · rw [if_neg (fun q => c2 ((row_cmp hw hn.2 hi (Nat.zero_le _)).mp q)), if_neg (show ¬ (decide (RA a (j + 1) = RA a 0) = true) by rw [decide_eq_false c2]; decide)]
        exact tail _
theorem M_chk {i : Nat} (hO : OKa a) (hw : WR a.1 (RA a) (lastA a) w) (hT : lastA a ≤ 180) (hi : i ≤ lastA a) (s3 s5 z1 z2 z3 z4 : Int32) (K : Int32 → Option Int32) :
    f_L_areRows_L245 (fun (y32 : Int32) (y33 : Int32) (y34 : Int32) (y35 : Int32) => jj (fun (kk37 : (Int32) → Option (Int32)) => (if y32 = 0 then kk37 0 else bd (A_row a (nI i) 0) (fun q39 => (if q39 = y33 then bd (A_row a (nI i) 1) (fun q42 => (if q42 = y33 then bd (A_row a (nI i) 2) (fun q45 => nm (if (f_L_sounds (nI a.1) (lN (cd (RA a i)))) = 0 then (0 : Int32) else (1 : Int32)) (fun (w48 : Int32) => (if q45 = w48 then bd (A_row a (nI i) 3) (fun q50 => (if q50 = y34 then bd (A_row a (nI i) 4) (fun q53 => bd (f_L_first (nI i) 0 w) (fun q55 => (if q53 = q55 then kk37 1 else kk37 0))) else kk37 0)) else kk37 0))) else kk37 0)) else kk37 0)))) (fun (w36 : Int32) => K w36)) s3 (nI a.1) s5 z1 z2 z3 z4 (nI i) (lN (cd (RA a i))) t w a pt fu 1 0 0 0 = K 1 := by
  have hn : 4 ≤ a.1 ∧ a.1 ≤ 7 := hO.1
  have hrow := (hw i hi).1
  have es : (if (f_L_sounds (nI a.1) (lN (cd (RA a i)))) = 0 then (0 : Int32) else (1 : Int32)) = nI (b1 (sw a.1 (RA a i))) := by
    rw [L_sounds hrow hn.1 hn.2]
    cases sw a.1 (RA a i) <;> rfl
  have e0 := M245 (s11 := nI i) (a := a) hrow hn.2 (fun p hp => bell_at hi (by omega) hp (by omega)) (fun (y32 : Int32) (y33 : Int32) (y34 : Int32) (y35 : Int32) => jj (fun (kk37 : (Int32) → Option (Int32)) => (if y32 = 0 then kk37 0 else bd (A_row a (nI i) 0) (fun q39 => (if q39 = y33 then bd (A_row a (nI i) 1) (fun q42 => (if q42 = y33 then bd (A_row a (nI i) 2) (fun q45 => nm (if (f_L_sounds (nI a.1) (lN (cd (RA a i)))) = 0 then (0 : Int32) else (1 : Int32)) (fun (w48 : Int32) => (if q45 = w48 then bd (A_row a (nI i) 3) (fun q50 => (if q50 = y34 then bd (A_row a (nI i) 4) (fun q53 => bd (f_L_first (nI i) 0 w) (fun q55 => (if q53 = q55 then kk37 1 else kk37 0))) else kk37 0)) else kk37 0))) else kk37 0)) else kk37 0)))) (fun (w36 : Int32) => K w36)) s3 s5 z1 z2 z3 z4 t w pt a.1 0 0 0 fu (by omega) (by show a.1 < 8192; omega)
  refine e0.trans ?_
  have i1 : ipair a.1 (RA a i) = sm (fun p => cnt (fun q => decide ((RA a i).getD p 0 < (RA a i).getD q 0)) p 0) a.1 0 := inv2_eq _ _
  have i2 := sgq_row hrow hn.1 hn.2
  rw [Nat.zero_add, Nat.zero_add, ← i1]
  rw [jj_eq, if_neg one0, row_at hi (by omega), if_pos rfl, bd_t rfl, if_pos rfl, row_at hi (by omega), if_neg one0, if_pos rfl, bd_t rfl, if_pos (by rw [i2]), row_at hi (by omega), if_neg (show ¬ (2 : Int32) = 0 by decide), if_neg (show ¬ (2 : Int32) = 1 by decide), if_pos rfl, bd_t rfl, es, nm_eq, if_pos rfl, row_at hi (by omega), if_neg (show ¬ (3 : Int32) = 0 by decide), if_neg (show ¬ (3 : Int32) = 1 by decide), if_neg (show ¬ (3 : Int32) = 2 by decide), if_pos rfl, bd_t rfl, if_pos rfl, row_at hi (by omega), if_neg (show ¬ (4 : Int32) = 0 by decide), if_neg (show ¬ (4 : Int32) = 1 by decide), if_neg (show ¬ (4 : Int32) = 2 by decide), if_neg (show ¬ (4 : Int32) = 3 by decide), if_pos rfl, bd_t rfl, bd_t (show f_L_first (nI i) 0 w = _ from L_first hw hn.2 hT (Nat.zero_le i) hi), if_pos rfl]
theorem M97 (hO : OKa a) (hw : WR a.1 (RA a) (lastA a) w) (hT : lastA a ≤ 180) (k : Int32 → Int32 → Int32 → Int32 → Int32 → Int32 → Option Int32) (s3 : Int32) : ∀ (d i M : Nat), i + d = lastA a + 1 → d < M →
    f_L_areRows_L97 k s3 (nI a.1) (nI (lastA a)) t w a pt M (rRD a i) (rTW a i) (rUL a i) (rWE a i) 1 (nI i) = k (rRD a (lastA a + 1)) (rTW a (lastA a + 1)) (rUL a (lastA a + 1)) (rWE a (lastA a + 1)) 1 (nI (lastA a + 1))
  | 0, i, M, hi, hM => by
    obtain ⟨M, rfl⟩ : ∃ k, M = k + 1 := ⟨M - 1, by omega⟩
    obtain rfl : i = lastA a + 1 := by omega
    rw [f_L_areRows_L97, if_pos (nI_lt (by omega) (by omega))]
  | d + 1, i, M, hi, hM => by
    obtain ⟨M, rfl⟩ : ∃ k, M = k + 1 := ⟨M - 1, by omega⟩
    have hiT : i ≤ lastA a := by omega
    have hrow := hw i hiT
    have ih := M97 hO hw hT k s3 d (i + 1) M (by omega) (by omega)
    rw [f_L_areRows_L97, if_neg (nI_nlt hiT (by omega)), if_neg one0, bd_t hrow.2, M_blk hO hw hT hiT, jj_eq]
    dsimp only
    have ch := M_chk (t := t) (pt := pt) hO hw hT hiT s3 (nI (lastA a)) (rRD a (i + 1)) (rTW a (i + 1)) (rUL a (i + 1)) (rWE a (i + 1)) (fun (w13 : Int32) => (f_L_areRows_L97 k s3 (nI a.1) (nI (lastA a)) t w a pt M (rRD a (i + 1)) (rTW a (i + 1)) (rUL a (i + 1)) (rWE a (i + 1)) w13 (nI i + 1)))
    rw [nI_1] at ch ⊢
    by_cases c1 : nI i - nI i / 9 * 9 = s3
    · rw [if_pos c1]; exact ch.trans ih
    · rw [if_neg c1]
      by_cases c2 : nI i = nI (lastA a)
      · rw [if_pos c2]; exact ch.trans ih
      · rw [if_neg c2]; exact ih
theorem P_areRows (hO : OKa a) (r0 : t 0 = nI a.1) (r1 : t 1 = nI a.2.1.length) (r2 : t 2 = nI a.2.2.2.2.length) (hw : WR a.1 (RA a) (lastA a) w) (hT : lastA a ≤ 180) (s3 : Int32) : f_L_areRows s3 t w a pt = some 1 := by
  have hn : 4 ≤ a.1 ∧ a.1 ≤ 7 := hO.1
  have hT31 : lastA a < 2 ^ 31 := by omega
  have g1 : A_bell a (nI (lastA a + 1)) 1 = some (-1) := by unfold A_bell; rw [if_pos (wi_hi (by omega) (by omega))]
  have g2 : A_bell a (-1) 1 = some (-1) := by unfold A_bell; rw [if_pos (wi_0 (by decide))]
  have w0 : f_X10_isWithin 0 0 (nI (lastA a)) = 1 := wi_1 (x := 0) (Nat.le_refl _) (Nat.zero_le _) hT31
  have g3 : A_bell a 0 (nI (a.1 + 1)) = some (-1) := by unfold A_bell; rw [w0, if_neg one0, if_pos (wi_hi (by omega) (by omega))]
  have g4 : A_bell a 0 0 = some (-1) := by unfold A_bell; rw [w0, if_neg one0, if_pos (wi_0 (by decide))]
  have g5 : A_row a (nI (lastA a + 1)) 0 = some (-1) := by unfold A_row; rw [if_pos (wi_hi (by omega) (by omega))]
  have hx : nI a.2.1.length * nI a.2.2.2.2.length = nI (lastA a) := by rw [pk_mul, Nat.mul_comm]; rfl
  unfold f_L_areRows
  rw [show (0 : Int32).toNatClampNeg = 0 from rfl, show (1 : Int32).toNatClampNeg = 1 from rfl, show (2 : Int32).toNatClampNeg = 2 from rfl, r0, r1, r2, hx, nm_eq, nm_eq, nI_1, nI_1, bd_t g1, jj_eq, if_pos rfl, bd_t g2, if_pos rfl, bd_t g3, if_pos rfl, bd_t g4, if_pos rfl, bd_t g5, if_pos rfl]
  have key := M97 (a := a) (t := t) (w := w) (pt := pt) hO hw hT (fun (y108 : Int32) (y109 : Int32) (y110 : Int32) (y111 : Int32) (y112 : Int32) (y113 : Int32) => (if y112 = 0 then some 0 else bd (A_count a pt 3) (fun q115 => (if q115 = nI (lastA a) then bd (A_count a pt 4) (fun q118 => (if q118 = y108 then bd (A_count a pt 5) (fun q121 => nm (if (0 : Int32) ≤ y109 then (0 : Int32) else (1 : Int32)) (fun (w123 : Int32) => (if q121 = w123 then bd (A_count a pt 6) (fun q125 => (if q125 = y109 then bd (A_count a pt 7) (fun q128 => (if q128 = y110 then bd (A_count a pt 9) (fun q131 => (if q131 = y111 then bd (A_music a) (fun q134 => jj (fun (kk137 : (UInt64) → Option (Int32)) => (if nI (lastA a) = 0 then kk137 FP.dconst0 else gd (nnb (FP.ddiv (FP.i2d y111) (FP.i2d (nI (lastA a))))) (kk137 (FP.ddiv (FP.i2d y111) (FP.i2d (nI (lastA a))))))) (fun (w136 : UInt64) => (if (Op.cmpValue (FP.dcmp q134 w136) .l) = 0 then some 1 else some 0))) else some 0)) else some 0)) else some 0)) else some 0))) else some 0)) else some 0)))) s3 (lastA a + 1) 0 fu (by omega) (by show lastA a + 1 < 8192; omega)
  refine key.trans ?_
  have c3 : A_count a pt 3 = some (nI (lastA a)) := rfl
  have c4 : A_count a pt 4 = some (rRD a (lastA a + 1)) := fnd_some _ _ _
  have c6 : A_count a pt 6 = some (rTW a (lastA a + 1)) := fnd_some _ _ _
  have cf : frst (RA a) (lastA a) = some (rTW a (lastA a + 1)) := fnd_some _ _ _
  have c5 : A_count a pt 5 = some (if rTW a (lastA a + 1) < 0 then 1 else 0) := by
    show bd (frst (RA a) (lastA a)) _ = _
    rw [bd_t cf]
  have c7 : A_count a pt 7 = some (rUL a (lastA a + 1)) := rfl
  have c9 : A_count a pt 9 = some (rWE a (lastA a + 1)) := rfl
  have e5 : (if rTW a (lastA a + 1) < 0 then (1 : Int32) else 0) = if (0 : Int32) ≤ rTW a (lastA a + 1) then 0 else 1 := by
    by_cases c : (0 : Int32) ≤ rTW a (lastA a + 1)
    · rw [if_pos c, if_neg (Int32.not_lt.mpr c)]
    · rw [if_neg c, if_pos (Int32.not_le.mp c)]
  rw [if_neg one0, bd_t c3, if_pos rfl, bd_t c4, if_pos rfl, bd_t c5, nm_eq, if_pos e5, bd_t c6, if_pos rfl, bd_t c7, if_pos rfl, bd_t c9, if_pos rfl]
  by_cases c : lastA a = 0
  · have hm : A_music a = some FP.dconst0 := by unfold A_music; rw [if_pos c]
    rw [bd_t hm, jj_eq, c, if_pos (show nI 0 = 0 by decide)]
    exact if_pos (dcmp_refl (r := FP.dconst0) (by decide))
  · have hm : A_music a = some (FP.ddiv (FP.i2d (rWE a (lastA a + 1))) (FP.i2d (nI (lastA a)))) := by unfold A_music; rw [if_neg c]; rfl
    have hnn : nnb (FP.ddiv (FP.i2d (rWE a (lastA a + 1))) (FP.i2d (nI (lastA a)))) = true := music_nn (a := cnt (fun j => sw a.1 (RA a j)) (lastA a) 1) (by omega) (by omega) (by have := cnt_le (fun j => sw a.1 (RA a j)) (lastA a) 1; omega)
    rw [bd_t hm, jj_eq, if_neg (nI_ne0 (by omega) (by omega)), gd_t hnn]
    exact if_pos (dcmp_refl hnn)
end
