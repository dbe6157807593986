/-! ===== the model follows a bell ===== -/
def trackM (R : Nat → List Nat) (a T : Nat) (t : Nat → Int32) : Prop := ∀ i, i ≤ T → t i = nI ((R i).idxOf a + 1)
theorem m_follows28 {n a i : Nat} {Z : List Nat} {s ce r : Nat → Int32} {ve : Int32} (h : isRow n Z) (hn : n ≤ 7) (hs : s 0 = nI n) (hc : isCell n Z ce) (ha : a < n) (hi : i ≤ 340) (k : Int32 → (Nat → Int32) → Option (Int32 × (Nat → Int32) × (Nat → Int32) × (Nat → Int32))) :
    ∀ (d j M : Nat) (t : Nat → Int32), j + d = n → (Z.idxOf a < j → t i = nI (Z.idxOf a + 1)) → d < M → ∃ t', f_X11_follows_L28 k (nI (a + 1)) (nI i) ve s ce r M (nI j) t = k (nI n) t' ∧ (∀ q, q ≠ i → t' q = t q) ∧ t' i = nI (Z.idxOf a + 1)
  | 0, j, M, t, hj, ht, hM => by
    obtain ⟨M, rfl⟩ : ∃ k, M = k + 1 := ⟨M - 1, by omega⟩
    obtain rfl : j = n := by omega
    refine ⟨t, ?_, fun _ _ => rfl, ht (idx_lt h ha)⟩
    rw [f_X11_follows_L28, show (0 : Int32).toNatClampNeg = 0 from rfl, hs, if_pos (nI_le (by omega) (by omega))]
  | d + 1, j, M, t, hj, ht, hM => by
    obtain ⟨M, rfl⟩ : ∃ k, M = k + 1 := ⟨M - 1, by omega⟩
    have := row_at_lt h (p := j) (by omega)
    rw [f_X11_follows_L28, show (0 : Int32).toNatClampNeg = 0 from rfl, hs, if_neg (nI_ge (by omega) (by omega)), gd_t (n_inb (by omega) (by decide)), nI_clamp (by omega), hc j (by omega), show (1 : Int32) = nI 1 from rfl, pk_sub (by omega), Nat.add_sub_cancel, gd_t (n_inb (by omega) (by decide)), gd_t (n_inb (by omega) (by decide)), nI_clamp (by omega), nI_add]
    by_cases c : Z.getD j 0 = a
    · rw [if_pos (by rw [c])]
      obtain ⟨t', e1, e2, e3⟩ := m_follows28 h hn hs hc ha hi k d (j + 1) M (upd t i (nI (j + 1))) (by omega) (fun _ => by unfold upd; rw [if_pos rfl, (at_idx h ha (by omega)).mp c]) (by omega)
      refine ⟨t', e1, fun q hq => by rw [e2 q hq]; unfold upd; rw [if_neg hq], e3⟩
    · rw [if_neg (fun q => c ((nI_eq (by omega) (by omega)).mp q))]
      obtain ⟨t', e1, e2, e3⟩ := m_follows28 h hn hs hc ha hi k d (j + 1) M (upd t i (t i)) (by omega) (fun w => by
        unfold upd; rw [if_pos rfl]
        refine ht ?_
        rcases Nat.lt_or_ge (Z.idxOf a) j with q | q
        · exact q
        · exact absurd ((at_idx h ha (by omega)).mpr (by omega)) c) (by omega)
      refine ⟨t', e1, fun q hq => by rw [e2 q hq]; unfold upd; rw [if_neg hq], e3⟩
theorem m_follows8 {n a T : Nat} {R : Nat → List Nat} {s r : Nat → Int32} (h : rowsM n R T r) (hn0 : 0 < n) (hn : n ≤ 7) (hT : T ≤ 340) (hs : s 0 = nI n) (ha : a < n) :
    ∀ (d i M : Nat) (ce t : Nat → Int32), i + d = T + 1 → (∀ q, q < i → t q = nI ((R q).idxOf a + 1)) → d < M → ∃ c' t', f_X11_follows_L8 (nI (a + 1)) (nI T) s r M (nI i) ce t = some (nI T, c', r, t') ∧ trackM R a T t' := by
  intro d
  induction d with
  | zero =>
    intro i M ce t hi ht hM
    obtain ⟨M, rfl⟩ : ∃ k, M = k + 1 := ⟨M - 1, by omega⟩
    refine ⟨ce, t, ?_, fun q hq => ht q (by omega)⟩
    rw [f_X11_follows_L8, if_pos (nI_lt (by omega) (by omega))]
  | succ d ih =>
    intro i M ce t hi ht hM
    obtain ⟨M, rfl⟩ : ∃ k, M = k + 1 := ⟨M - 1, by omega⟩
    obtain ⟨c1, e1, e2⟩ := m_unrank (s := s) (ce := ce) (h i (by omega)).1 hn0 hn hs
    obtain ⟨t1, e3, e4, e5⟩ := m_follows28 (r := r) (ve := nI T) (h i (by omega)).1 hn hs e2 ha (show i ≤ 340 by omega) (fun y12 y13 => f_X11_follows_L8 (nI (a + 1)) (nI T) s r M (nI i + 1) c1 y13) n 0 fu t (by omega) (fun w => by omega) (by show n < 8192; omega)
    obtain ⟨c2, t2, e6, e7⟩ := ih (i + 1) M c1 t1 (by omega) (fun q hq => by
      by_cases c : q = i
      · rw [c]; exact e5
      · rw [e4 q c]; exact ht q (by omega)) (by omega)
    refine ⟨c2, t2, ?_, e7⟩
    rw [f_X11_follows_L8, if_neg (nI_nlt (by omega) (by omega)), gd_t (n_inb (by omega) (by decide)), nI_clamp (by omega), (h i (by omega)).2, bd_t e1]
    refine e3.trans ?_
    rw [nI_1]
    exact e6
theorem m_follows {n : Nat} {m : List Nat} {b g : Nat} {l : List Nat} {s : Nat → Int32} (h : OKs n m b g l) (hs : SR n m b g l s) {a : Nat} (ha : a < n) (ve : Int32) (ce r t : Nat → Int32) :
    ∃ c' r' t', f_X11_follows (nI (a + 1)) ve s ce r t = some (nI (l.length * m.length), c', r', t') ∧ trackM (rws n m b g l) a (l.length * m.length) t' := by
  obtain ⟨c1, r1, e1, -, e3⟩ := m_ringsAll h hs ve ce r
  have hT := h.r.T
  obtain ⟨c2, t2, e4, e5⟩ := m_follows8 e3 (by have := h.1; omega) h.1.2 hT hs.1 ha (l.length * m.length + 1) 0 fu c1 t (by omega) (fun q hq => by omega) (by show l.length * m.length + 1 < 8192; omega)
  refine ⟨c2, r1, t2, ?_, e5⟩
  unfold f_X11_follows
  rw [bd_t e1]
  exact e4
theorem tr_eq {n a T i j : Nat} {R : Nat → List Nat} {t : Nat → Int32} (h : trackM R a T t) (hR : ∀ i, i ≤ T → isRow n (R i)) (ha : a < n) (hn : n ≤ 7) (hi : i ≤ T) (hj : j ≤ T) : t i = t j ↔ (R i).idxOf a = (R j).idxOf a := by
  have l1 := idx_lt (hR i hi) ha
  have l2 := idx_lt (hR j hj) ha
  rw [h i hi, h j hj, nI_eq (by omega) (by omega)]
  omega
theorem m_rowsAt {n a p T : Nat} {R : Nat → List Nat} {t : Nat → Int32} (h : trackM R a T t) (hR : ∀ i, i ≤ T → isRow n (R i)) (ha : a < n) (hn : n ≤ 7) (hT : T ≤ 340) (hp : p < n) : f_X11_rowsAt (nI (p + 1)) (nI T) t = some (nI (cnt (fun i => decide ((R i).idxOf a = p)) T 1)) := by
  have := smL (F := f_X11_rowsAt_L4 (nI (p + 1)) (nI T) t) (K := some) (f := fun i => b1 (decide ((R i).idxOf a = p))) (a := 1) (e := T + 1) (fun M v i h1 h2 => by
    have l1 := idx_lt (hR i (by omega)) ha
    rw [f_X11_rowsAt_L4, if_neg (nI_nlt (by omega) (by omega)), gd_t (n_inb (by omega) (by decide)), nI_clamp (by omega), h i (by omega), nm_eq, nm_eq, nI_1 i]
    by_cases c : (R i).idxOf a = p
    · rw [if_pos (by rw [c]), decide_eq_true c, show (1 : Int32) = nI 1 from rfl, nI_add]; rfl
    · rw [if_neg (fun q => c (by have := (nI_eq (by omega) (by omega)).mp q; omega)), decide_eq_false c, show (0 : Int32) = nI 0 from rfl, nI_add]; rfl) (fun M v => by
    rw [f_X11_rowsAt_L4, if_pos (nI_lt (by omega) (by omega))]) T 1 0 fu (by omega) (by omega) (by show T < 8192; omega)
  unfold f_X11_rowsAt
  refine this.trans ?_
  rw [Nat.zero_add]; rfl
theorem m_stays {n a T : Nat} {R : Nat → List Nat} {t : Nat → Int32} (h : trackM R a T t) (hR : ∀ i, i ≤ T → isRow n (R i)) (ha : a < n) (hn : n ≤ 7) (hT : T ≤ 340) : f_X11_stays (nI T) t = some (nI (cnt (fun i => decide ((R i).idxOf a = (R (i + 1)).idxOf a)) T 0)) := by
  have := smL (F := f_X11_stays_L4 (nI T) t) (K := some) (f := fun i => b1 (decide ((R i).idxOf a = (R (i + 1)).idxOf a))) (a := 0) (e := T) (fun M v i h1 h2 => by
    have q := tr_eq h hR ha hn (show i ≤ T by omega) (show i + 1 ≤ T by omega)
    rw [f_X11_stays_L4, if_neg (nI_ge (by omega) (by omega)), gd_t (n_inb (by omega) (by decide)), nI_1 i, gd_t (n_inb (by omega) (by decide)), nI_clamp (by omega), nI_clamp (by omega), nm_eq, nm_eq]
    by_cases c : (R i).idxOf a = (R (i + 1)).idxOf a
    · rw [if_pos (q.mpr c), decide_eq_true c, show (1 : Int32) = nI 1 from rfl, nI_add]; rfl
    · rw [if_neg (fun w => c (q.mp w)), decide_eq_false c, show (0 : Int32) = nI 0 from rfl, nI_add]; rfl) (fun M v => by
    rw [f_X11_stays_L4, if_pos (nI_le (by omega) (by omega))]) T 0 0 fu (by omega) (by omega) (by show T < 8192; omega)
  unfold f_X11_stays
  refine this.trans ?_
  rw [Nat.zero_add]; rfl
theorem m_dodges0 {n a T : Nat} {R : Nat → List Nat} {t : Nat → Int32} (h : trackM R a T t) (hR : ∀ i, i ≤ T → isRow n (R i)) (ha : a < n) (hn : n ≤ 7) (hT : T ≤ 340) : f_X11_dodges 0 (nI T) t = some (nI (cnt (dod R a) (T - 2) 0)) := by
  have := smL (F := f_X11_dodges_L4 (fun y10 y11 => if (0 : Int32) = 0 then some y10 else some (-4)) 0 (nI T) t) (K := some) (f := fun i => b1 (dod R a i)) (a := 0) (e := T - 2) (fun M v i h1 h2 => by
    have q1 := tr_eq h hR ha hn (show i ≤ T by omega) (show i + 2 ≤ T by omega)
    have q2 := tr_eq h hR ha hn (show i + 1 ≤ T by omega) (show i + 3 ≤ T by omega)
    have q3 := tr_eq h hR ha hn (show i ≤ T by omega) (show i + 1 ≤ T by omega)
    rw [f_X11_dodges_L4, show (3 : Int32) = nI 3 from rfl, show (2 : Int32) = nI 2 from rfl, show (1 : Int32) = nI 1 from rfl, nI_add, nI_add, nI_add, nI_add, if_neg (nI_nlt (by omega) (by omega)), gd_t (n_inb (by omega) (by decide)), gd_t (n_inb (by omega) (by decide)), gd_t (n_inb (by omega) (by decide)), gd_t (n_inb (by omega) (by decide)), nI_clamp (by omega), nI_clamp (by omega), nI_clamp (by omega), nI_clamp (by omega), if_pos (show (0 : Int32) = 0 from rfl)]
    unfold dod
    by_cases c1 : (R i).idxOf a = (R (i + 2)).idxOf a
    · rw [if_pos (q1.mpr c1), decide_eq_true c1]
      by_cases c2 : (R (i + 1)).idxOf a = (R (i + 3)).idxOf a
      · rw [if_pos (q2.mpr c2), decide_eq_true c2]
        by_cases c3 : (R i).idxOf a = (R (i + 1)).idxOf a
        · rw [if_pos (q3.mpr c3), decide_eq_false (show ¬ ¬ (R i).idxOf a = (R (i + 1)).idxOf a from fun w => w c3)]; rfl
        · rw [if_neg (fun w => c3 (q3.mp w)), decide_eq_true c3]; rfl
      · rw [if_neg (fun w => c2 (q2.mp w)), decide_eq_false c2]; rfl
    · rw [if_neg (fun w => c1 (q1.mp w)), decide_eq_false c1]; rfl) (fun M v => by
    rw [f_X11_dodges_L4, show (3 : Int32) = nI 3 from rfl, nI_add, if_pos (nI_lt (by omega) (by omega)), if_pos rfl]) (T - 2) 0 0 fu (by omega) (by omega) (by show T - 2 < 8192; omega)
  unfold f_X11_dodges
  refine this.trans ?_
  rw [Nat.zero_add]; rfl
theorem m_dodges1 {n a T : Nat} {R : Nat → List Nat} {t : Nat → Int32} (h : trackM R a T t) (hR : ∀ i, i ≤ T → isRow n (R i)) (ha : a < n) (hn : n ≤ 7) (hT : T ≤ 340) : f_X11_dodges 1 (nI T) t = fnd (some (-4)) (fun i => some (nI i)) (dod R a) (T - 2) 0 := by
  have := fndL (F := fun M i => f_X11_dodges_L4 (fun y10 y11 => if (1 : Int32) = 0 then some y10 else some (-4)) 1 (nI T) t M 0 i) (K := some (-4)) (Y := fun i => some (nI i)) (P := dod R a) (a := 0) (e := T - 2) (fun M i h1 h2 => by
    have q1 := tr_eq h hR ha hn (show i ≤ T by omega) (show i + 2 ≤ T by omega)
    have q2 := tr_eq h hR ha hn (show i + 1 ≤ T by omega) (show i + 3 ≤ T by omega)
    have q3 := tr_eq h hR ha hn (show i ≤ T by omega) (show i + 1 ≤ T by omega)
    rw [f_X11_dodges_L4, if_neg (show ¬ (1 : Int32) = 0 by decide), show (3 : Int32) = nI 3 from rfl, show (2 : Int32) = nI 2 from rfl, nI_1 i, nI_add, nI_add, if_neg (nI_nlt (by omega) (by omega)), gd_t (n_inb (by omega) (by decide)), gd_t (n_inb (by omega) (by decide)), gd_t (n_inb (by omega) (by decide)), gd_t (n_inb (by omega) (by decide)), nI_clamp (by omega), nI_clamp (by omega), nI_clamp (by omega), nI_clamp (by omega)]
    unfold dod
    by_cases c1 : (R i).idxOf a = (R (i + 2)).idxOf a
    · rw [if_pos (q1.mpr c1), decide_eq_true c1]
      by_cases c2 : (R (i + 1)).idxOf a = (R (i + 3)).idxOf a
      · rw [if_pos (q2.mpr c2), decide_eq_true c2]
        by_cases c3 : (R i).idxOf a = (R (i + 1)).idxOf a
        · rw [if_pos (q3.mpr c3), decide_eq_false (show ¬ ¬ (R i).idxOf a = (R (i + 1)).idxOf a from fun w => w c3)]; rfl
        · rw [if_neg (fun w => c3 (q3.mp w)), decide_eq_true c3]; rfl
      · rw [if_neg (fun w => c2 (q2.mp w)), decide_eq_false c2]; rfl
    · rw [if_neg (fun w => c1 (q1.mp w)), decide_eq_false c1]; rfl) (fun M => by
    rw [f_X11_dodges_L4, show (3 : Int32) = nI 3 from rfl, nI_add, if_pos (nI_lt (by omega) (by omega)), if_neg (show ¬ (1 : Int32) = 0 by decide)]) (T - 2) 0 fu (by omega) (by omega) (by show T - 2 < 8192; omega)
  unfold f_X11_dodges
  exact this
