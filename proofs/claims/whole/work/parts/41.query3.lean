/-! ===== the model's looks ===== -/
theorem smLx {β σ : Type} {F : Nat → Int32 → Int32 → σ → Option β} {K : Int32 → σ → Option β} {f : Nat → Nat} {a e : Nat} (hs : ∀ M v i c, a ≤ i → i < e → ∃ c', F (M + 1) (nI v) (nI i) c = F M (nI (v + f i)) (nI (i + 1)) c') (he : ∀ M v c, F (M + 1) (nI v) (nI e) c = K (nI v) c) :
    ∀ (d i v M : Nat) (c : σ), i + d = e → a ≤ i → d < M → ∃ c', F M (nI v) (nI i) c = K (nI (v + sm f d i)) c'
  | 0, i, v, M, c, hi, _, hM => by
    obtain ⟨M, rfl⟩ : ∃ k, M = k + 1 := ⟨M - 1, by omega⟩
    obtain rfl : i = e := by omega
    exact ⟨c, he _ _ _⟩
  | d + 1, i, v, M, c, hi, ha, hM => by
    obtain ⟨M, rfl⟩ : ∃ k, M = k + 1 := ⟨M - 1, by omega⟩
    obtain ⟨c1, e1⟩ := hs M v i c ha (by omega)
    obtain ⟨c2, e2⟩ := smLx hs he d (i + 1) (v + f i) M c1 (by omega) (by omega) (by omega)
    exact ⟨c2, by rw [e1, e2, sm, Nat.add_assoc]⟩
theorem orL {β : Type} {F : Nat → Int32 → Int32 → Option β} {K : Int32 → Option β} {P : Nat → Bool} {a e : Nat} (hs : ∀ M v i, a ≤ i → i < e → F (M + 1) (nI (b1 v)) (nI i) = F M (nI (b1 (v || P i))) (nI (i + 1))) (he : ∀ M v, F (M + 1) (nI (b1 v)) (nI e) = K (nI (b1 v))) :
    ∀ (d i : Nat) (v : Bool) (M : Nat), i + d = e → a ≤ i → d < M → F M (nI (b1 v)) (nI i) = K (nI (b1 (v || fnd false (fun _ => true) P d i)))
  | 0, i, v, M, hi, _, hM => by
    obtain ⟨M, rfl⟩ : ∃ k, M = k + 1 := ⟨M - 1, by omega⟩
    obtain rfl : i = e := by omega
    rw [he, fnd, Bool.or_false]
  | d + 1, i, v, M, hi, ha, hM => by
    obtain ⟨M, rfl⟩ : ∃ k, M = k + 1 := ⟨M - 1, by omega⟩
    rw [hs M v i ha (by omega), orL hs he d (i + 1) _ M (by omega) (by omega) (by omega), fnd, Bool.or_assoc]
    cases P i <;> simp
theorem m_firstSame {n i a T : Nat} {R : Nat → List Nat} {r : Nat → Int32} (h : rowsM n R T r) (hn0 : 0 < n) (hn : n ≤ 7) (hT : T ≤ 340) (ha : a ≤ i) (hi : i ≤ T) : f_X11_firstSame (nI i) (nI a) r = some (nI (fs R a i)) := by
  have : ∀ (d j M : Nat), j + d = i → d < M → f_X11_firstSame_L2 (nI i) r M (nI j) = some (nI (firstEq (fun j => decide (R j = R i)) d j)) := by
    intro d
    induction d with
    | zero =>
      intro j M hj hM
      obtain ⟨M, rfl⟩ : ∃ k, M = k + 1 := ⟨M - 1, by omega⟩
      obtain rfl : j = i := by omega
      rw [f_X11_firstSame_L2, gd_t (n_inb (by omega) (by decide)), gd_t (n_inb (by omega) (by decide)), if_pos rfl]; rfl
    | succ d ih =>
      intro j M hj hM
      obtain ⟨M, rfl⟩ : ∃ k, M = k + 1 := ⟨M - 1, by omega⟩
      have e1 := rk_5040 (h j (by omega)).1 hn
      have e2 := rk_5040 (h i hi).1 hn
      rw [f_X11_firstSame_L2, gd_t (n_inb (by omega) (by decide)), gd_t (n_inb (by omega) (by decide)), nI_clamp (by omega), nI_clamp (by omega), (h j (by omega)).2, (h i hi).2, nI_1, firstEq]
      by_cases c : R j = R i
      · rw [if_pos (by rw [c]), if_pos (decide_eq_true c)]
      · rw [if_neg (fun q => c (rk_inj (h j (by omega)).1 (h i hi).1 hn0 hn ((nI_eq (by omega) (by omega)).mp q))), if_neg (by simp [c])]
        exact ih (j + 1) M (by omega) (by omega)
  exact this (i - a) a fu (by omega) (by show i - a < 8192; omega)
theorem m_firstTwice {n T : Nat} {R : Nat → List Nat} {r : Nat → Int32} (h : rowsM n R T r) (hn0 : 0 < n) (hn : n ≤ 7) (hT : T ≤ 340) : f_X11_firstTwice (nI T) r = frst R T := by
  have := fndL (F := f_X11_firstTwice_L2 (nI T) r) (K := some (-4)) (Y := fun i => some (nI i)) (P := fun i => decide (fs R 1 i < i)) (a := 1) (e := T + 1) (fun M i h1 h2 => by
    have := fs_le (R := R) h1
    rw [f_X11_firstTwice_L2, if_neg (nI_nlt (by omega) (by omega)), bd_t (show f_X11_firstSame (nI i) 1 r = _ from m_firstSame h hn0 hn hT h1 (by omega)), nI_1]
    by_cases c : fs R 1 i < i
    · rw [if_neg (nI_ge c (by omega)), decide_eq_true c]; rfl
    · rw [if_pos (@nI_le i (fs R 1 i) (by omega) (by omega)), decide_eq_false c]; rfl) (fun M => by
    rw [f_X11_firstTwice_L2, if_pos (nI_lt (by omega) (by omega))]) T 1 fu (by omega) (by omega) (by show T < 8192; omega)
  unfold f_X11_firstTwice
  exact this
theorem m_unlike {n T : Nat} {R : Nat → List Nat} {r : Nat → Int32} (h : rowsM n R T r) (hn0 : 0 < n) (hn : n ≤ 7) (hT : T ≤ 340) : f_X11_unlike (nI T) r = some (nI (cnt (fun i => decide (fs R 1 i = i)) T 1)) := by
  have := smL (F := f_X11_unlike_L4 (nI T) r) (K := some) (f := fun i => b1 (decide (fs R 1 i = i))) (a := 1) (e := T + 1) (fun M v i h1 h2 => by
    have := fs_le (R := R) h1
    rw [f_X11_unlike_L4, if_neg (nI_nlt (by omega) (by omega)), bd_t (show f_X11_firstSame (nI i) 1 r = _ from m_firstSame h hn0 hn hT h1 (by omega)), nm_eq, nm_eq, nI_1]
    by_cases c : fs R 1 i = i
    · rw [if_pos (by rw [c]), decide_eq_true c, show (1 : Int32) = nI 1 from rfl, nI_add]; rfl
    · rw [if_neg (fun q => c ((nI_eq (by omega) (by omega)).mp q)), decide_eq_false c, show (0 : Int32) = nI 0 from rfl, nI_add]; rfl) (fun M v => by
    rw [f_X11_unlike_L4, if_pos (nI_lt (by omega) (by omega))]) T 1 0 fu (by omega) (by omega) (by show T < 8192; omega)
  unfold f_X11_unlike
  refine this.trans ?_
  rw [Nat.zero_add]; rfl
theorem m_roundAt {n T : Nat} {R : Nat → List Nat} {r : Nat → Int32} (h : rowsM n R T r) (h0 : R 0 = List.range n) (hn0 : 0 < n) (hn : n ≤ 7) (hT : T ≤ 340) : f_X11_roundAt (nI T) r = fnd (some (-4)) (fun i => some (nI i)) (fun i => decide (R i = R 0)) T 1 := by
  have := fndL (F := f_X11_roundAt_L2 (nI T) r) (K := some (-4)) (Y := fun i => some (nI i)) (P := fun i => decide (R i = R 0)) (a := 1) (e := T + 1) (fun M i h1 h2 => by
    have e0 := rk_range n (by omega)
    have e1 := rk_5040 (h i (by omega)).1 hn
    rw [f_X11_roundAt_L2, if_neg (nI_nlt (by omega) (by omega)), gd_t (n_inb (by omega) (by decide)), nI_clamp (by omega), (h i (by omega)).2, nI_1]
    by_cases c : R i = R 0
    · rw [if_pos (by rw [c, h0, e0]; rfl), decide_eq_true c]; rfl
    · rw [if_neg (fun q => c (rk_inj (h i (by omega)).1 (h 0 (by omega)).1 hn0 hn (by rw [h0, e0]; exact (nI_eq (by omega) (by omega)).mp q))), decide_eq_false c]; rfl) (fun M => by
    rw [f_X11_roundAt_L2, if_pos (nI_lt (by omega) (by omega))]) T 1 fu (by omega) (by omega) (by show T < 8192; omega)
  unfold f_X11_roundAt
  exact this
theorem m_musical {n T : Nat} {R : Nat → List Nat} {r s : Nat → Int32} (h : rowsM n R T r) (h4 : 4 ≤ n) (hn : n ≤ 7) (hT : T ≤ 340) (hs : s 0 = nI n) (ce : Nat → Int32) : ∃ c', f_X11_musical (nI T) s ce r = some (nI (cnt (fun i => sw n (R i)) T 1), c') := by
  have := smLx (F := f_X11_musical_L4 (nI T) s r) (K := fun v c => some (v, c)) (f := fun i => b1 (sw n (R i))) (a := 1) (e := T + 1) (fun M v i c h1 h2 => by
    obtain ⟨c1, e1, e2⟩ := m_unrank (s := s) (ce := c) (h i (by omega)).1 (by omega) hn hs
    refine ⟨c1, ?_⟩
    rw [f_X11_musical_L4, if_neg (nI_nlt (by omega) (by omega)), gd_t (n_inb (by omega) (by decide)), nI_clamp (by omega), (h i (by omega)).2, bd_t e1, bd_t (m_soundsWell (h i (by omega)).1 h4 hn hs e2), nm_eq, nm_eq, nI_1]
    cases sw n (R i)
    · rw [if_pos (show nI (b1 false) = 0 by decide), show (0 : Int32) = nI 0 from rfl, nI_add]; rfl
    · rw [if_neg (show ¬ nI (b1 true) = 0 by decide), show (1 : Int32) = nI 1 from rfl, nI_add]; rfl) (fun M v c => by
    rw [f_X11_musical_L4, if_pos (nI_lt (by omega) (by omega))]) T 1 0 fu ce (by omega) (by omega) (by show T < 8192; omega)
  rw [Nat.zero_add] at this
  unfold f_X11_musical
  exact this
theorem zob_b1 (b : Bool) : zob (nI (b1 b)) = true := by cases b <;> decide
theorem m_areFalse {n T c l a b : Nat} {R : Nat → List Nat} {r s : Nat → Int32} (h : rowsM n R T r) (hn0 : 0 < n) (hn : n ≤ 7) (hT : T ≤ 340) (hc : c ≤ 20) (hs : s 1 = nI c) (hlT : l * c = T) (ha : a < l) (hb : b < l) : f_X11_areFalse (nI a) (nI b) s r = some (nI (b1 (af R c a b))) := by
  have hac : ∀ i, i ≤ c → a * c + i ≤ T := fun i hi => by have := Nat.mul_le_mul_right c (show a + 1 ≤ l by omega); rw [Nat.add_mul, Nat.one_mul] at this; omega
  have hbc : ∀ i, i ≤ c → b * c + i ≤ T := fun i hi => by have := Nat.mul_le_mul_right c (show b + 1 ≤ l by omega); rw [Nat.add_mul, Nat.one_mul] at this; omega
  have inner : ∀ (k : Int32 → Int32 → Option Int32) (v : Bool) (i : Nat), 1 ≤ i → i ≤ c → f_X11_areFalse_L22 k (nI a) (nI b) (nI c) (nI i) s r fu (nI (b1 v)) (nI 1) = k (nI (b1 (v || fnd false (fun _ => true) (fun j => decide (R (a * c + i) = R (b * c + j))) c 1))) (nI (c + 1)) := by
    intro k v i hi1 hi
    exact orL (F := f_X11_areFalse_L22 k (nI a) (nI b) (nI c) (nI i) s r) (K := fun v => k v (nI (c + 1))) (P := fun j => decide (R (a * c + i) = R (b * c + j))) (a := 1) (e := c + 1) (fun M v j h1 h2 => by
      have q1 := hac i hi
      have q2 := hbc j (by omega)
      have e1 := rk_5040 (h _ q1).1 hn
      have e2 := rk_5040 (h _ q2).1 hn
      rw [f_X11_areFalse_L22, if_neg (nI_nlt (by omega) (by omega)), nI_1]
      cases v with
      | true => rw [if_neg (show ¬ nI (b1 true) = 0 by decide), Bool.true_or]; rfl
      | false =>
        rw [if_pos (show nI (b1 false) = 0 by decide), pk_mul, nI_add, gd_t (n_inb (by omega) (by decide)), pk_mul, nI_add, gd_t (n_inb (by omega) (by decide)), nI_clamp (by omega), nI_clamp (by omega), (h _ q1).2, (h _ q2).2, nm_eq, Bool.false_or]
        by_cases w : R (a * c + i) = R (b * c + j)
        · rw [if_pos (by rw [w]), decide_eq_true w]; rfl
        · rw [if_neg (fun q => w (rk_inj (h _ q1).1 (h _ q2).1 hn0 hn ((nI_eq (by omega) (by omega)).mp q))), decide_eq_false w]; rfl) (fun M v => by
      rw [f_X11_areFalse_L22, if_pos (nI_lt (by omega) (by omega))]) c 1 v fu (by omega) (by omega) (by show c < 8192; omega)
  have := orL (F := f_X11_areFalse_L13 (nI a) (nI b) (nI c) s r) (K := some) (P := fun i => fnd false (fun _ => true) (fun j => decide (R (a * c + i) = R (b * c + j))) c 1) (a := 1) (e := c + 1) (fun M v i h1 h2 => by
    rw [f_X11_areFalse_L13, if_neg (nI_nlt (by omega) (by omega)), nI_1]
    exact inner _ v i h1 (by omega)) (fun M v => by
    rw [f_X11_areFalse_L13, if_pos (nI_lt (by omega) (by omega)), gd_t (zob_b1 v)]) c 1 false fu (by omega) (by omega) (by show c < 8192; omega)
  unfold f_X11_areFalse
  rw [show (1 : Int32).toNatClampNeg = 1 from rfl, hs, nm_eq]
  refine this.trans ?_
  rw [Bool.false_or]; rfl
theorem m_falsePairs {n T c l : Nat} {R : Nat → List Nat} {r s : Nat → Int32} (h : rowsM n R T r) (hn0 : 0 < n) (hn : n ≤ 7) (hT : T ≤ 340) (hc : c ≤ 20) (hs : s 1 = nI c) (hs2 : s 2 = nI l) (hl : l ≤ 17) (hlT : l * c = T) : f_X11_falsePairs s r = some (nI (fpairs R c l)) := by
  have inner : ∀ (k : Int32 → Int32 → Option Int32) (a v : Nat), a < l → f_X11_falsePairs_L18 k (nI a) s r fu (nI v) (nI (a + 1)) = k (nI (v + cnt (af R c a) (l - (a + 1)) (a + 1))) (nI l) := by
    intro k a v ha
    exact smL (F := f_X11_falsePairs_L18 k (nI a) s r) (K := fun v => k v (nI l)) (f := fun b => b1 (af R c a b)) (a := a + 1) (e := l) (fun M v b h1 h2 => by
      rw [f_X11_falsePairs_L18, show (2 : Int32).toNatClampNeg = 2 from rfl, hs2, if_neg (nI_ge (by omega) (by omega)), bd_t (m_areFalse h hn0 hn hT hc hs hlT ha h2), nm_eq, nm_eq, nI_1]
      cases af R c a b
      · rw [if_pos (show nI (b1 false) = 0 by decide), show (0 : Int32) = nI 0 from rfl, nI_add]; rfl
      · rw [if_neg (show ¬ nI (b1 true) = 0 by decide), show (1 : Int32) = nI 1 from rfl, nI_add]; rfl) (fun M v => by
      rw [f_X11_falsePairs_L18, show (2 : Int32).toNatClampNeg = 2 from rfl, hs2, if_pos (nI_le (by omega) (by omega))]) (l - (a + 1)) (a + 1) v fu (by omega) (by omega) (by show l - (a + 1) < 8192; omega)
  have := smL (F := f_X11_falsePairs_L4 s r) (K := some) (f := fun a => cnt (af R c a) (l - (a + 1)) (a + 1)) (a := 0) (e := l) (fun M v a h1 h2 => by
    rw [f_X11_falsePairs_L4, show (2 : Int32).toNatClampNeg = 2 from rfl, hs2, if_neg (nI_ge (by omega) (by omega)), nm_eq, nI_1]
    exact inner _ a v h2) (fun M v => by
    rw [f_X11_falsePairs_L4, show (2 : Int32).toNatClampNeg = 2 from rfl, hs2, if_pos (nI_le (by omega) (by omega))]) l 0 0 fu (by omega) (by omega) (by show l < 8192; omega)
  unfold f_X11_falsePairs
  refine this.trans ?_
  rw [Nat.zero_add]; rfl
theorem m_called {n : Nat} {m : List Nat} {b g : Nat} {l : List Nat} {s : Nat → Int32} (hs : SR n m b g l s) (hl : l.length ≤ 16) (hl2 : ∀ k ∈ l, k ≤ 2) : f_X11_called s = some (nI (cnt (fun i => decide (0 < l.getD i 0)) l.length 0)) := by
  have := smL (F := f_X11_called_L4 s) (K := some) (f := fun i => b1 (decide (0 < l.getD i 0))) (a := 0) (e := l.length) (fun M v i h1 h2 => by
    have := hl2 _ (getD_mem h2)
    rw [f_X11_called_L4, show (2 : Int32).toNatClampNeg = 2 from rfl, hs.2.2.1, if_neg (nI_ge (by omega) (by omega)), show (25 : Int32) = nI 25 from rfl, nI_add, gd_t (n_inb (by omega) (by decide)), nI_clamp (by omega), hs.2.2.2.2.2.2 i h2, nm_eq, nm_eq, nI_1]
    by_cases c : 0 < l.getD i 0
    · rw [if_neg (nI_nle c (by omega)), decide_eq_true c, show (1 : Int32) = nI 1 from rfl, nI_add]; rfl
    · rw [if_pos (by rw [show l.getD i 0 = 0 by omega]; decide), decide_eq_false c, show (0 : Int32) = nI 0 from rfl, nI_add]; rfl) (fun M v => by
    rw [f_X11_called_L4, show (2 : Int32).toNatClampNeg = 2 from rfl, hs.2.2.1, if_pos (nI_le (by omega) (by omega))]) l.length 0 0 fu (by omega) (by omega) (by show l.length < 8192; omega)
  unfold f_X11_called
  refine this.trans ?_
  rw [Nat.zero_add]; rfl
