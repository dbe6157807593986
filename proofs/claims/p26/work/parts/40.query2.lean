/-! ===== dodges, same rows, false leads: the class ===== -/
def dod (R : Nat → List Nat) (a i : Nat) : Bool := decide ((R i).idxOf a = (R (i + 2)).idxOf a) && decide ((R (i + 1)).idxOf a = (R (i + 3)).idxOf a) && decide (¬ (R i).idxOf a = (R (i + 1)).idxOf a)
theorem p_dodgesAt {n i a T : Nat} {R : Nat → List Nat} {r : Nat → Int32} (h : rowsX n R T r) (hn : n ≤ 7) (hT : T ≤ 340) (ha : a < n) (hi : i + 3 ≤ T) : f_X5_dodgesAt (nI i) (nI (a + 1)) (nI n) r = some (nI (b1 (dod R a i))) := by
  have l0 := idx_lt (h i (by omega)).1 ha
  have l1 := idx_lt (h (i + 1) (by omega)).1 ha
  have l2 := idx_lt (h (i + 2) (by omega)).1 ha
  have l3 := idx_lt (h (i + 3) (by omega)).1 ha
  unfold f_X5_dodgesAt dod
  rw [bd_t (p_placeIn h hn hT ha (by omega)), nI_1 i, bd_t (p_placeIn h hn hT ha (by omega)), show (2 : Int32) = nI 2 from rfl, show (3 : Int32) = nI 3 from rfl, nI_add, nI_add]
  by_cases c : (R i).idxOf a = (R (i + 1)).idxOf a
  · rw [if_pos (by rw [c]), decide_eq_false (show ¬ ¬ (R i).idxOf a = (R (i + 1)).idxOf a from fun q => q c), Bool.and_false]; rfl
  · rw [if_neg (fun q => c (by have := (nI_eq (by omega) (by omega)).mp q; omega)), bd_t (p_placeIn h hn hT ha (by omega)), decide_eq_true c]
    by_cases c2 : (R i).idxOf a = (R (i + 2)).idxOf a
    · rw [if_pos (by rw [c2]), bd_t (p_placeIn h hn hT ha (by omega)), decide_eq_true c2]
      by_cases c3 : (R (i + 1)).idxOf a = (R (i + 3)).idxOf a
      · rw [if_pos (by rw [c3]), decide_eq_true c3]; rfl
      · rw [if_neg (fun q => c3 (by have := (nI_eq (by omega) (by omega)).mp q; omega)), decide_eq_false c3]; rfl
    · rw [if_neg (fun q => c2 (by have := (nI_eq (by omega) (by omega)).mp q; omega)), decide_eq_false c2]; rfl
theorem nI_b1 (b : Bool) : (nI (b1 b) = 0) ↔ b = false := by cases b <;> decide
theorem p_dodges {n a T : Nat} {R : Nat → List Nat} {r : Nat → Int32} (h : rowsX n R T r) (hn : n ≤ 7) (hT : T ≤ 340) (ha : a < n) : f_X5_dodges (nI (a + 1)) (nI n) (nI T) r = some (nI (cnt (dod R a) (T - 2) 0)) := by
  have := smL (F := f_X5_dodges_L4 (nI (a + 1)) (nI n) (nI T) r) (K := some) (f := fun i => b1 (dod R a i)) (a := 0) (e := T - 2) (fun M v i h1 h2 => by
    rw [f_X5_dodges_L4, show (3 : Int32) = nI 3 from rfl, nI_add, if_neg (nI_nlt (by omega) (by omega)), bd_t (p_dodgesAt h hn hT ha (by omega)), nm_eq, nI_1, nI_1]
    cases dod R a i <;> rfl) (fun M v => by
    rw [f_X5_dodges_L4, show (3 : Int32) = nI 3 from rfl, nI_add, if_pos (nI_lt (by omega) (by omega))]) (T - 2) 0 0 fu (by omega) (by omega) (by show T - 2 < 8192; omega)
  unfold f_X5_dodges
  refine this.trans ?_
  rw [Nat.zero_add]; rfl
theorem p_firstDodge {n a T : Nat} {R : Nat → List Nat} {r : Nat → Int32} (h : rowsX n R T r) (hn : n ≤ 7) (hT : T ≤ 340) (ha : a < n) : f_X5_firstDodge (nI (a + 1)) (nI n) (nI T) r = fnd (some (-4)) (fun i => some (nI i)) (dod R a) (T - 2) 0 := by
  have := fndL (F := f_X5_firstDodge_L2 (nI (a + 1)) (nI n) (nI T) r) (K := some (-4)) (Y := fun i => some (nI i)) (P := dod R a) (a := 0) (e := T - 2) (fun M i h1 h2 => by
    rw [f_X5_firstDodge_L2, show (3 : Int32) = nI 3 from rfl, nI_add, if_neg (nI_nlt (by omega) (by omega)), bd_t (p_dodgesAt h hn hT ha (by omega)), nI_1]
    cases dod R a i <;> rfl) (fun M => by
    rw [f_X5_firstDodge_L2, show (3 : Int32) = nI 3 from rfl, nI_add, if_pos (nI_lt (by omega) (by omega))]) (T - 2) 0 fu (by omega) (by omega) (by show T - 2 < 8192; omega)
  unfold f_X5_firstDodge
  exact this
/-- what the class's table of first ones says -/
def firstsX (R : Nat → List Nat) (T : Nat) (ff : Nat → Int32) : Prop := ∀ j, 1 ≤ j → j ≤ T → ff j = nI (fs R 1 j)
theorem xr_eq {n i j T : Nat} {R : Nat → List Nat} {r : Nat → Int32} (h : rowsX n R T r) (hn : n ≤ 7) (hi : i ≤ T) (hj : j ≤ T) : nI (xr (R i)) = nI (xr (R j)) ↔ R i = R j := by
  have a := xr_lt (h i hi).1 hn
  have b := xr_lt (h j hj).1 hn
  exact ⟨fun q => xr_inj (h i hi).1 (h j hj).1 hn ((nI_eq (by omega) (by omega)).mp q), fun q => by rw [q]⟩
theorem fs0 {R : Nat → List Nat} {i : Nat} : fs R 0 i = if R i = R 0 then 0 else fs R 1 i := by
  by_cases c : R i = R 0
  · rw [if_pos c]
    exact fs_uniq (Nat.zero_le _) (Nat.le_refl 0) c.symm (fun j a b => absurd b (by omega))
  · rw [if_neg c]
    have hi : 1 ≤ i := by rcases i with _ | i; exact absurd rfl c; omega
    refine fs_uniq (Nat.zero_le _) (Nat.zero_le _) (fs_eq (R := R) hi) (fun j a b => ?_)
    rcases j with _ | j
    · exact fun q => c q.symm
    · exact fs_no (by omega) b
theorem p_firstLike {n i T : Nat} {R : Nat → List Nat} {r ff : Nat → Int32} (h : rowsX n R T r) (hf : firstsX R T ff) (hn : n ≤ 7) (hT : T ≤ 340) (hi : i ≤ T) : f_X5_firstLike (nI i) r ff = some (nI (fs R 0 i)) := by
  unfold f_X5_firstLike
  rw [bd_t (p_rowAt h hT hi), show (0 : Int32).toNatClampNeg = 0 from rfl, (h 0 (by omega)).2, fs0]
  by_cases c : R i = R 0
  · rw [if_pos ((xr_eq h hn hi (by omega)).mpr c), if_pos c]; rfl
  · have h1 : 1 ≤ i := by rcases i with _ | i; exact absurd rfl c; omega
    rw [if_neg (fun q => c ((xr_eq h hn hi (by omega)).mp q)), if_neg c, if_neg (nI_pos (by omega)), if_neg (show ¬ (341 : Int32) ≤ nI i from @nI_ge i 341 (by omega) (by decide)), gd_t (n_inb (by omega) (by decide)), nI_clamp (by omega), hf i h1 hi]
theorem p_comesRound {n T : Nat} {R : Nat → List Nat} {r : Nat → Int32} (h : rowsX n R T r) (hn : n ≤ 7) (hT : T ≤ 340) : f_X5_comesRound (nI T) r = fnd (some (-4)) (fun i => some (nI i)) (fun i => decide (R i = R 0)) T 1 := by
  have := fndL (F := f_X5_comesRound_L2 (nI T) r) (K := some (-4)) (Y := fun i => some (nI i)) (P := fun i => decide (R i = R 0)) (a := 1) (e := T + 1) (fun M i h1 h2 => by
    rw [f_X5_comesRound_L2, if_neg (nI_nlt (by omega) (by omega)), bd_t (p_rowAt h hT (by omega)), show (0 : Int32).toNatClampNeg = 0 from rfl, (h 0 (by omega)).2, nI_1]
    by_cases c : R i = R 0
    · rw [if_pos ((xr_eq h hn (by omega) (by omega)).mpr c), decide_eq_true c]; rfl
    · rw [if_neg (fun q => c ((xr_eq h hn (by omega) (by omega)).mp q)), decide_eq_false c]; rfl) (fun M => by
    rw [f_X5_comesRound_L2, if_pos (nI_lt (by omega) (by omega))]) T 1 fu (by omega) (by omega) (by show T < 8192; omega)
  unfold f_X5_comesRound
  exact this
theorem p_isFirst {i T : Nat} {R : Nat → List Nat} {ff : Nat → Int32} (hf : firstsX R T ff) (hT : T ≤ 340) (h1 : 1 ≤ i) (hi : i ≤ T) : f_X5_isFirst (nI i) ff = some (nI (b1 (decide (fs R 1 i = i)))) := by
  have := fs_le (R := R) h1
  unfold f_X5_isFirst
  rw [if_neg (nI_pos (by omega)), if_neg (show ¬ (341 : Int32) ≤ nI i from @nI_ge i 341 (by omega) (by decide)), gd_t (n_inb (by omega) (by decide)), nI_clamp (by omega), hf i h1 hi]
  by_cases c : fs R 1 i = i
  · rw [if_pos (by rw [c]), decide_eq_true c]; rfl
  · rw [if_neg (fun q => c ((nI_eq (by omega) (by omega)).mp q)), decide_eq_false c]; rfl
def frst (R : Nat → List Nat) (T : Nat) : Option Int32 := fnd (some (-4)) (fun i => some (nI i)) (fun i => decide (fs R 1 i < i)) T 1
theorem p_firstRepeat {T : Nat} {R : Nat → List Nat} {ff : Nat → Int32} (hf : firstsX R T ff) (hT : T ≤ 340) : f_X5_firstRepeat (nI T) ff = frst R T := by
  have := fndL (F := f_X5_firstRepeat_L2 (nI T) ff) (K := some (-4)) (Y := fun i => some (nI i)) (P := fun i => decide (fs R 1 i < i)) (a := 1) (e := T + 1) (fun M i h1 h2 => by
    have := fs_le (R := R) h1
    rw [f_X5_firstRepeat_L2, if_neg (nI_nlt (by omega) (by omega)), bd_t (p_isFirst hf hT h1 (by omega)), nI_1]
    by_cases c : fs R 1 i = i
    · rw [decide_eq_true c, decide_eq_false (show ¬ fs R 1 i < i by omega)]; rfl
    · rw [decide_eq_false c, decide_eq_true (show fs R 1 i < i by omega)]; rfl) (fun M => by
    rw [f_X5_firstRepeat_L2, if_pos (nI_lt (by omega) (by omega))]) T 1 fu (by omega) (by omega) (by show T < 8192; omega)
  unfold f_X5_firstRepeat
  exact this
theorem fnd_cases {β : Type} (K : β) (Y : Nat → β) (P : Nat → Bool) : ∀ (d s : Nat), fnd K Y P d s = K ∨ ∃ i, s ≤ i ∧ i < s + d ∧ fnd K Y P d s = Y i
  | 0, _ => Or.inl rfl
  | d + 1, s => by
    rw [fnd]
    by_cases c : P s = true
    · rw [if_pos c]; exact Or.inr ⟨s, by omega, by omega, rfl⟩
    · rw [if_neg c]
      rcases fnd_cases K Y P d (s + 1) with q | ⟨i, a, b, q⟩
      · exact Or.inl q
      · exact Or.inr ⟨i, by omega, by omega, q⟩
theorem frst_some {R : Nat → List Nat} {T : Nat} : ∃ x, frst R T = some x ∧ (x = -4 ∨ ∃ i, i ≤ T ∧ x = nI i) := by
  unfold frst
  rcases fnd_cases (some (-4 : Int32)) (fun i => some (nI i)) (fun i => decide (fs R 1 i < i)) T 1 with q | ⟨i, a, b, q⟩
  · exact ⟨-4, q, Or.inl rfl⟩
  · exact ⟨nI i, q, Or.inr ⟨i, by omega, rfl⟩⟩
theorem nI_m4 {i : Nat} (h : i ≤ 340) : ¬ nI i = -4 := by
  intro q
  have : nI i = nI 4294967292 := q
  exact absurd (congrArg Int32.toNatClampNeg this) (by rw [nI_clamp (by omega)]; intro w; have : (nI 4294967292).toNatClampNeg = 0 := by decide
                                                       rw [this] at w; subst w; exact absurd q (by decide))
theorem p_isTrue {T : Nat} {R : Nat → List Nat} {ff : Nat → Int32} (hf : firstsX R T ff) (hT : T ≤ 340) : ∃ x, frst R T = some x ∧ f_X5_isTrue (nI T) ff = some (if x < 0 then 1 else 0) := by
  obtain ⟨x, e, c⟩ := frst_some (R := R) (T := T)
  refine ⟨x, e, ?_⟩
  unfold f_X5_isTrue
  rw [p_firstRepeat hf hT, bd_t e]
  rcases c with c | ⟨i, hi, c⟩
  · subst c; rfl
  · subst c
    rw [if_neg (nI_m4 (by omega)), if_neg (nI_pos (by omega))]
theorem p_differentRows {T : Nat} {R : Nat → List Nat} {ff : Nat → Int32} (hf : firstsX R T ff) (hT : T ≤ 340) : f_X5_differentRows (nI T) ff = some (nI (cnt (fun i => decide (fs R 1 i = i)) T 1)) := by
  have := smL (F := f_X5_differentRows_L4 (nI T) ff) (K := some) (f := fun i => b1 (decide (fs R 1 i = i))) (a := 1) (e := T + 1) (fun M v i h1 h2 => by
    rw [f_X5_differentRows_L4, if_neg (nI_nlt (by omega) (by omega)), bd_t (p_isFirst hf hT h1 (by omega)), nm_eq, nI_1, nI_1]
    cases decide (fs R 1 i = i) <;> rfl) (fun M v => by
    rw [f_X5_differentRows_L4, if_pos (nI_lt (by omega) (by omega))]) T 1 0 fu (by omega) (by omega) (by show T < 8192; omega)
  unfold f_X5_differentRows
  refine this.trans ?_
  rw [Nat.zero_add]; rfl
/-! false leads -/
def af (R : Nat → List Nat) (c a b : Nat) : Bool := fnd false (fun _ => true) (fun i => fnd false (fun _ => true) (fun j => decide (R (a * c + i) = R (b * c + j))) c 1) c 1
theorem fnd_yes {β : Type} (K Y : β) (P : Nat → Bool) : ∀ (d s : Nat), fnd K (fun _ => Y) P d s = if fnd false (fun _ => true) P d s then Y else K
  | 0, _ => by simp [fnd]
  | d + 1, s => by
    rw [fnd, fnd, fnd_yes K Y P d (s + 1)]
    cases P s <;> simp
theorem p_areFalse {n T c l a b : Nat} {R : Nat → List Nat} {r : Nat → Int32} (h : rowsX n R T r) (hn : n ≤ 7) (hT : T ≤ 340) (hc : c ≤ 20) (hl : l ≤ 17) (hlT : l * c = T) (ha : a < l) (hb : b < l) : f_X5_areFalse (nI a) (nI b) (nI c) r = some (nI (b1 (af R c a b))) := by
  have hac : ∀ i, i ≤ c → a * c + i ≤ T := fun i hi => by have := Nat.mul_le_mul_right c (show a + 1 ≤ l by omega); rw [Nat.add_mul, Nat.one_mul] at this; omega
  have hbc : ∀ i, i ≤ c → b * c + i ≤ T := fun i hi => by have := Nat.mul_le_mul_right c (show b + 1 ≤ l by omega); rw [Nat.add_mul, Nat.one_mul] at this; omega
  have inner : ∀ (k : Int32 → Option Int32) (K : Option Int32) (hk : k (nI (c + 1)) = K) (i : Nat), 1 ≤ i → i ≤ c → f_X5_areFalse_L13 k (nI a) (nI b) (nI i) (nI c) r fu (nI 1) = fnd K (fun _ => some 1) (fun j => decide (R (a * c + i) = R (b * c + j))) c 1 := by
    intro k K hk i hi1 hi
    exact fndL (F := f_X5_areFalse_L13 k (nI a) (nI b) (nI i) (nI c) r) (K := K) (Y := fun _ => some 1) (P := fun j => decide (R (a * c + i) = R (b * c + j))) (a := 1) (e := c + 1) (fun M j h1 h2 => by
      rw [f_X5_areFalse_L13, if_neg (nI_nlt (by omega) (by omega)), pk_mul, nI_add, bd_t (p_rowAt h hT (hac i hi)), pk_mul, nI_add, bd_t (p_rowAt h hT (hbc j (by omega))), nI_1]
      by_cases q : R (a * c + i) = R (b * c + j)
      · rw [if_pos ((xr_eq h hn (hac i hi) (hbc j (by omega))).mpr q), decide_eq_true q]; rfl
      · rw [if_neg (fun w => q ((xr_eq h hn (hac i hi) (hbc j (by omega))).mp w)), decide_eq_false q]; rfl) (fun M => by
      rw [f_X5_areFalse_L13, if_pos (nI_lt (by omega) (by omega)), hk]) c 1 fu (by omega) (by omega) (by show c < 8192; omega)
  have := fndL (F := f_X5_areFalse_L2 (nI a) (nI b) (nI c) r) (K := some 0) (Y := fun _ => some 1) (P := fun i => fnd false (fun _ => true) (fun j => decide (R (a * c + i) = R (b * c + j))) c 1) (a := 1) (e := c + 1) (fun M i h1 h2 => by
    rw [f_X5_areFalse_L2, if_neg (nI_nlt (by omega) (by omega))]
    refine (inner _ _ rfl i h1 (by omega)).trans ?_
    rw [fnd_yes, nI_1]) (fun M => by
    rw [f_X5_areFalse_L2, if_pos (nI_lt (by omega) (by omega))]) c 1 fu (by omega) (by omega) (by show c < 8192; omega)
  unfold f_X5_areFalse
  refine this.trans ?_
  rw [fnd_yes]
  unfold af
  generalize fnd false (fun _ => true) (fun i => fnd false (fun _ => true) (fun j => decide (R (a * c + i) = R (b * c + j))) c 1) c 1 = z
  cases z <;> rfl
def fpairs (R : Nat → List Nat) (c l : Nat) : Nat := sm (fun a => cnt (af R c a) (l - (a + 1)) (a + 1)) l 0
theorem p_falsePairs {n T c l : Nat} {R : Nat → List Nat} {r : Nat → Int32} (h : rowsX n R T r) (hn : n ≤ 7) (hT : T ≤ 340) (hc : c ≤ 20) (hl : l ≤ 17) (hlT : l * c = T) : f_X5_falsePairs (nI c) (nI l) r = some (nI (fpairs R c l)) := by
  have inner : ∀ (k : Int32 → Int32 → Option Int32) (a v : Nat), a < l → f_X5_falsePairs_L16 k (nI a) (nI c) (nI l) r fu (nI v) (nI (a + 1)) = k (nI (v + cnt (af R c a) (l - (a + 1)) (a + 1))) (nI l) := by
    intro k a v ha
    exact smL (F := f_X5_falsePairs_L16 k (nI a) (nI c) (nI l) r) (K := fun v => k v (nI l)) (f := fun b => b1 (af R c a b)) (a := a + 1) (e := l) (fun M v b h1 h2 => by
      rw [f_X5_falsePairs_L16, if_neg (nI_ge (by omega) (by omega)), bd_t (p_areFalse h hn hT hc hl hlT ha h2), nm_eq, nI_1, nI_1]
      cases af R c a b <;> rfl) (fun M v => by
      rw [f_X5_falsePairs_L16, if_pos (nI_le (by omega) (by omega))]) (l - (a + 1)) (a + 1) v fu (by omega) (by omega) (by show l - (a + 1) < 8192; omega)
  have := smL (F := f_X5_falsePairs_L4 (nI c) (nI l) r) (K := some) (f := fun a => cnt (af R c a) (l - (a + 1)) (a + 1)) (a := 0) (e := l) (fun M v a h1 h2 => by
    rw [f_X5_falsePairs_L4, if_neg (nI_ge (by omega) (by omega)), nm_eq, nI_1]
    exact inner _ a v h2) (fun M v => by
    rw [f_X5_falsePairs_L4, if_pos (nI_le (by omega) (by omega))]) l 0 0 fu (by omega) (by omega) (by show l < 8192; omega)
  unfold f_X5_falsePairs
  refine this.trans ?_
  rw [Nat.zero_add]; rfl
theorem p_calledLeads {l : List Nat} {kinds : Nat → Int32} (hl : l.length ≤ 17) (hl2 : ∀ k ∈ l, k ≤ 2) (hk : ∀ j, j < l.length → kinds j = nI (l.getD j 0)) : f_X9_calledLeads (nI l.length) kinds = some (nI (cnt (fun i => decide (0 < l.getD i 0)) l.length 0)) := by
  have := smL (F := f_X9_calledLeads_L4 (nI l.length) kinds) (K := some) (f := fun i => b1 (decide (0 < l.getD i 0))) (a := 0) (e := l.length) (fun M v i h1 h2 => by
    have := hl2 _ (getD_mem h2)
    rw [f_X9_calledLeads_L4, if_neg (nI_ge (by omega) (by omega)), bd_t (p_kindOfLead hl h2 hk), nm_eq, nI_1, nI_1]
    by_cases c : 0 < l.getD i 0
    · rw [if_neg (nI_ne0 c (by omega)), decide_eq_true c]; rfl
    · rw [if_pos (by rw [show l.getD i 0 = 0 by omega]; rfl), decide_eq_false c]; rfl) (fun M v => by
    rw [f_X9_calledLeads_L4, if_pos (nI_le (by omega) (by omega))]) l.length 0 0 fu (by omega) (by omega) (by show l.length < 8192; omega)
  unfold f_X9_calledLeads
  refine this.trans ?_
  rw [Nat.zero_add]; rfl

