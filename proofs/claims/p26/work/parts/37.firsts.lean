/-! the first row from 1 on that is the same -/
def firstEq (P : Nat → Bool) : Nat → Nat → Nat
  | 0, s => s
  | d + 1, s => if P s then s else firstEq P d (s + 1)
theorem firstEq_ge (P : Nat → Bool) : ∀ d s, s ≤ firstEq P d s
  | 0, s => Nat.le_refl s
  | d + 1, s => by
    rw [firstEq]
    split
    · exact Nat.le_refl s
    · exact Nat.le_trans (Nat.le_succ s) (firstEq_ge P d (s + 1))
theorem firstEq_le (P : Nat → Bool) : ∀ d s, firstEq P d s ≤ s + d
  | 0, s => Nat.le_refl s
  | d + 1, s => by
    rw [firstEq]
    split
    · omega
    · have := firstEq_le P d (s + 1); omega
theorem firstEq_no (P : Nat → Bool) : ∀ d s j, s ≤ j → j < firstEq P d s → P j = false
  | 0, s, j, h1, h2 => by rw [firstEq] at h2; omega
  | d + 1, s, j, h1, h2 => by
    rw [firstEq] at h2
    split at h2
    · omega
    · rename_i h
      by_cases e : j = s
      · subst e; simpa using h
      · exact firstEq_no P d (s + 1) j (by omega) h2
theorem firstEq_yes (P : Nat → Bool) : ∀ d s, P (s + d) = true → P (firstEq P d s) = true
  | 0, s, h => by simpa [firstEq] using h
  | d + 1, s, h => by
    rw [firstEq]
    split
    · assumption
    · exact firstEq_yes P d (s + 1) (by rw [show s + 1 + d = s + (d + 1) by omega]; exact h)
def fs (R : Nat → List Nat) (a i : Nat) : Nat := firstEq (fun j => decide (R j = R i)) (i - a) a
theorem fs_le {R : Nat → List Nat} {a i : Nat} (h : a ≤ i) : fs R a i ≤ i := by have := firstEq_le (fun j => decide (R j = R i)) (i - a) a; unfold fs; omega
theorem fs_ge {R : Nat → List Nat} {a i : Nat} : a ≤ fs R a i := firstEq_ge _ _ _
theorem fs_eq {R : Nat → List Nat} {a i : Nat} (h : a ≤ i) : R (fs R a i) = R i := by
  have := firstEq_yes (fun j => decide (R j = R i)) (i - a) a (by rw [show a + (i - a) = i by omega]; simp)
  simpa [fs] using this
theorem fs_no {R : Nat → List Nat} {a i j : Nat} (h1 : a ≤ j) (h2 : j < fs R a i) : R j ≠ R i := by
  have := firstEq_no (fun j => decide (R j = R i)) (i - a) a j h1 h2
  simpa using this
theorem fs_uniq {R : Nat → List Nat} {a i f : Nat} (h : a ≤ i) (h1 : a ≤ f) (h2 : R f = R i) (h3 : ∀ j, a ≤ j → j < f → R j ≠ R i) : fs R a i = f := by
  rcases Nat.lt_trichotomy (fs R a i) f with q | q | q
  · exact absurd (fs_eq h) (h3 _ fs_ge q)
  · exact q
  · exact absurd h2 (fs_no h1 q)
theorem fs_same {R : Nat → List Nat} {a i j : Nat} (hi : a ≤ i) (hj : a ≤ j) (e : R i = R j) : fs R a i = fs R a j := fs_uniq hi fs_ge (by rw [fs_eq (R := R) hj, e]) (fun q h1 h2 => by rw [e]; exact fs_no h1 h2)
/-- the rows that the class holds -/
def rowsX (n : Nat) (R : Nat → List Nat) (T : Nat) (r : Nat → Int32) : Prop := ∀ i, i ≤ T → isRow n (R i) ∧ r i = nI (xr (R i))
theorem p_rowAt {n i T : Nat} {R : Nat → List Nat} {r : Nat → Int32} (h : rowsX n R T r) (hT : T ≤ 340) (hi : i ≤ T) : f_X5_rowAt (nI i) r = some (nI (xr (R i))) := by
  unfold f_X5_rowAt
  rw [if_neg (nI_pos (by omega)), nl, if_neg (nI_ge (by omega) (by decide)), gd_t (n_inb (by omega) (by decide)), nI_clamp (by omega), (h i hi).2]
theorem p_ff2 {n T : Nat} {R : Nat → List Nat} {r : Nat → Int32} (hn : n ≤ 7) (h : rowsX n R T r) (hT : T ≤ 340) (k : Int32 → (Nat → Int32) → (Nat → Int32) → Option ((Nat → Int32) × (Nat → Int32))) :
    ∀ (d i M : Nat) (ff fr : Nat → Int32), i + d = T + 1 → 1 ≤ i → (∀ j, 1 ≤ j → j < i → ff j = nI (rk (R j)) ∧ fr (rk (R j)) = 0) → d < M →
    ∃ ff' fr', f_X5_findFirsts_L2 k (nI n) (nI T) r M (nI i) ff fr = k (nI (T + 1)) ff' fr' ∧ ∀ j, 1 ≤ j → j ≤ T → ff' j = nI (rk (R j)) ∧ fr' (rk (R j)) = 0
  | 0, i, M, ff, fr, hi, h1, hc, hM => by
    obtain ⟨M, rfl⟩ : ∃ k, M = k + 1 := ⟨M - 1, by omega⟩
    refine ⟨ff, fr, ?_, fun j a b => hc j a (by omega)⟩
    rw [f_X5_findFirsts_L2, if_pos (nI_lt (by omega) (by omega)), show i = T + 1 by omega]
  | d + 1, i, M, ff, fr, hi, h1, hc, hM => by
    obtain ⟨M, rfl⟩ : ∃ k, M = k + 1 := ⟨M - 1, by omega⟩
    have hrow := (h i (by omega)).1
    have h50 := rk_5040 hrow hn
    rw [f_X5_findFirsts_L2, if_neg (nI_nlt (by omega) (by omega)), nI_1 i, bd_t (p_rowAt h hT (by omega)), bd_t (p_rank hrow hn), gd_t (n_inb (by omega) (by decide)), if_neg (nI_pos (by omega)), nl, if_neg (nI_ge h50 (by decide)), gd_t (n_inb h50 (by decide)), nI_clamp (by omega), nI_clamp (by omega)]
    refine p_ff2 hn h hT k d (i + 1) M _ _ (by omega) (by omega) (fun j a b => ?_) (by omega)
    unfold upd
    by_cases e : j = i
    · subst e
      rw [if_pos rfl, if_pos rfl]
      exact ⟨rfl, rfl⟩
    · rw [if_neg e]
      obtain ⟨q1, q2⟩ := hc j a (by omega)
      refine ⟨q1, ?_⟩
      by_cases e2 : rk (R j) = rk (R i)
      · rw [if_pos e2]
      · rw [if_neg e2]; exact q2
theorem p_ff58 {n T : Nat} {R : Nat → List Nat} {r : Nat → Int32} (hn0 : 0 < n) (hn : n ≤ 7) (h : rowsX n R T r) (hT : T ≤ 340) :
    ∀ (d i M : Nat) (ff fr : Nat → Int32), i + d = T + 1 → 1 ≤ i → (∀ j, 1 ≤ j → j ≤ T → ff j = if j < i then nI (fs R 1 j) else nI (rk (R j))) → (∀ j, 1 ≤ j → j ≤ T → fr (rk (R j)) = if fs R 1 j < i then nI (fs R 1 j) else 0) → d < M →
    ∃ ff' fr', f_X5_findFirsts_L58 (nI n) (nI T) r M (nI i) ff fr = some (ff', fr') ∧ ∀ j, 1 ≤ j → j ≤ T → ff' j = nI (fs R 1 j)
  | 0, i, M, ff, fr, hi, h1, hc, hf, hM => by
    obtain ⟨M, rfl⟩ : ∃ k, M = k + 1 := ⟨M - 1, by omega⟩
    refine ⟨ff, fr, ?_, fun j a b => by rw [hc j a b, if_pos (by omega)]⟩
    rw [f_X5_findFirsts_L58, if_pos (nI_lt (by omega) (by omega))]
  | d + 1, i, M, ff, fr, hi, h1, hc, hf, hM => by
    obtain ⟨M, rfl⟩ : ∃ k, M = k + 1 := ⟨M - 1, by omega⟩
    have hrow := (h i (by omega)).1
    have h50 := rk_5040 hrow hn
    have hle := fs_le (R := R) h1
    have hge := fs_ge (R := R) (a := 1) (i := i)
    have hci : ff i = nI (rk (R i)) := by rw [hc i h1 (by omega), if_neg (by omega)]
    have hfi := hf i h1 (by omega)
    rw [f_X5_findFirsts_L58, if_neg (nI_nlt (by omega) (by omega)), gd_t (n_inb (by omega) (by decide)), nI_clamp (by omega), hci]
    have key : f_X5_firstWithRank (nI (rk (R i))) (nI i) fr = some (nI (fs R 1 i), if fs R 1 i < i then fr else upd fr (rk (R i)) (nI i)) := by
      unfold f_X5_firstWithRank
      rw [if_neg (nI_pos (by omega)), if_pos (show nI (rk (R i)) < 5040 from nI_lt h50 (by decide)), gd_t (n_inb h50 (by decide)), nI_clamp (by omega), hfi]
      by_cases c : fs R 1 i < i
      · rw [if_pos c, if_neg (nI_ne0 (by omega) (by omega)), if_pos c]
      · have e : fs R 1 i = i := by omega
        rw [if_neg c, if_pos rfl, if_neg c, e]
        unfold upd
        rw [if_pos rfl]
    rw [bd_t key, nI_1 i]
    dsimp only
    refine p_ff58 hn0 hn h hT d (i + 1) M _ _ (by omega) (by omega) (fun j a b => ?_) (fun j a b => ?_) (by omega)
    · unfold upd
      by_cases e : j = i
      · subst e
        rw [if_pos rfl, if_pos (by omega)]
      · rw [if_neg e, hc j a b]
        by_cases c : j < i
        · rw [if_pos c, if_pos (by omega)]
        · rw [if_neg c, if_neg (by omega)]
    · by_cases e : R j = R i
      · have e2 := fs_same a h1 e
        rw [e, e2]
        by_cases c : fs R 1 i < i
        · rw [if_pos c, hfi, if_pos c, if_pos (by omega)]
        · rw [if_neg c, if_pos (by omega)]
          unfold upd
          rw [if_pos rfl, show fs R 1 i = i by omega]
      · have hne : rk (R j) ≠ rk (R i) := fun q => e (rk_inj (h j b).1 hrow hn0 hn q)
        have h2 : (if fs R 1 i < i then fr else upd fr (rk (R i)) (nI i)) (rk (R j)) = fr (rk (R j)) := by
          by_cases c : fs R 1 i < i
          · rw [if_pos c]
          · rw [if_neg c]; unfold upd; rw [if_neg hne]
        rw [h2, hf j a b]
        have hne2 : fs R 1 j ≠ i := fun q => e (by rw [← fs_eq (R := R) a, q])
        by_cases c : fs R 1 j < i
        · rw [if_pos c, if_pos (by omega)]
        · rw [if_neg c, if_neg (by omega)]
theorem p_findFirsts {n T : Nat} {R : Nat → List Nat} {r : Nat → Int32} (hn0 : 0 < n) (hn : n ≤ 7) (h : rowsX n R T r) (hT : T ≤ 340) (ff fr : Nat → Int32) :
    ∃ ff' fr', f_X5_findFirsts (nI n) (nI T) r ff fr = some (ff', fr') ∧ ∀ j, 1 ≤ j → j ≤ T → ff' j = nI (fs R 1 j) := by
  unfold f_X5_findFirsts
  obtain ⟨f1, r1, e1, e2⟩ := p_ff2 hn h hT (fun y10 y11 y12 => f_X5_findFirsts_L58 (nI n) (nI T) r fu 1 y11 y12) T 1 fu ff fr (by omega) (by omega) (fun j a b => by omega) (by show T < 8192; omega)
  obtain ⟨f2, r2, e3, e4⟩ := p_ff58 hn0 hn h hT T 1 fu f1 r1 (by omega) (by omega) (fun j a b => by rw [if_neg (by omega)]; exact (e2 j a b).1) (fun j a b => by
    rw [if_neg (by have := fs_ge (R := R) (a := 1) (i := j); omega)]
    exact (e2 j a b).2) (by show T < 8192; omega)
  exact ⟨f2, r2, e1.trans e3, e4⟩

