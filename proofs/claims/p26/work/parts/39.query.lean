/-! ===== loops that add, that find, that ask whether there is one ===== -/
def sm (f : Nat → Nat) : Nat → Nat → Nat
  | 0, _ => 0
  | d + 1, s => f s + sm f d (s + 1)
theorem sm_congr {f g : Nat → Nat} : ∀ (d s : Nat), (∀ i, s ≤ i → i < s + d → f i = g i) → sm f d s = sm g d s
  | 0, _, _ => rfl
  | d + 1, s, h => by rw [sm, sm, h s (by omega) (by omega), sm_congr d (s + 1) (fun i a b => h i (by omega) (by omega))]
theorem sm_shift (f : Nat → Nat) : ∀ (d s : Nat), sm f d (s + 1) = sm (fun i => f (i + 1)) d s
  | 0, _ => rfl
  | d + 1, s => by rw [sm, sm, sm_shift f d (s + 1)]
theorem sm_le {f : Nat → Nat} {b : Nat} (h : ∀ i, f i ≤ b) : ∀ (d s : Nat), sm f d s ≤ b * d
  | 0, _ => Nat.le_refl _
  | d + 1, s => by have := sm_le h d (s + 1); have := h s; rw [sm, Nat.mul_add]; omega
def b1 (b : Bool) : Nat := if b then 1 else 0
theorem b1_le (b : Bool) : b1 b ≤ 1 := by cases b <;> decide
def cnt (P : Nat → Bool) (d s : Nat) : Nat := sm (fun i => b1 (P i)) d s
theorem cnt_le (P : Nat → Bool) (d s : Nat) : cnt P d s ≤ d := by have := sm_le (f := fun i => b1 (P i)) (fun i => b1_le _) d s; unfold cnt; omega
theorem smL {β : Type} {F : Nat → Int32 → Int32 → Option β} {K : Int32 → Option β} {f : Nat → Nat} {a e : Nat} (hs : ∀ M v i, a ≤ i → i < e → F (M + 1) (nI v) (nI i) = F M (nI (v + f i)) (nI (i + 1))) (he : ∀ M v, F (M + 1) (nI v) (nI e) = K (nI v)) :
    ∀ (d i v M : Nat), i + d = e → a ≤ i → d < M → F M (nI v) (nI i) = K (nI (v + sm f d i))
  | 0, i, v, M, hi, _, hM => by
    obtain ⟨M, rfl⟩ : ∃ k, M = k + 1 := ⟨M - 1, by omega⟩
    obtain rfl : i = e := by omega
    rw [he]; rfl
  | d + 1, i, v, M, hi, ha, hM => by
    obtain ⟨M, rfl⟩ : ∃ k, M = k + 1 := ⟨M - 1, by omega⟩
    rw [hs M v i ha (by omega), smL hs he d (i + 1) _ M (by omega) (by omega) (by omega), sm, Nat.add_assoc]
def fnd {β : Type} (K : β) (Y : Nat → β) (P : Nat → Bool) : Nat → Nat → β
  | 0, _ => K
  | d + 1, s => if P s then Y s else fnd K Y P d (s + 1)
theorem fnd_congr {β : Type} {K : β} {Y : Nat → β} {P Q : Nat → Bool} : ∀ (d s : Nat), (∀ i, s ≤ i → i < s + d → P i = Q i) → fnd K Y P d s = fnd K Y Q d s
  | 0, _, _ => rfl
  | d + 1, s, h => by rw [fnd, fnd, h s (by omega) (by omega), fnd_congr d (s + 1) (fun i a b => h i (by omega) (by omega))]
theorem fndL {β : Type} {F : Nat → Int32 → β} {K : β} {Y : Nat → β} {P : Nat → Bool} {a e : Nat} (hs : ∀ M i, a ≤ i → i < e → F (M + 1) (nI i) = if P i then Y i else F M (nI (i + 1))) (he : ∀ M, F (M + 1) (nI e) = K) :
    ∀ (d i M : Nat), i + d = e → a ≤ i → d < M → F M (nI i) = fnd K Y P d i
  | 0, i, M, hi, _, hM => by
    obtain ⟨M, rfl⟩ : ∃ k, M = k + 1 := ⟨M - 1, by omega⟩
    obtain rfl : i = e := by omega
    rw [he]; rfl
  | d + 1, i, M, hi, ha, hM => by
    obtain ⟨M, rfl⟩ : ∃ k, M = k + 1 := ⟨M - 1, by omega⟩
    rw [hs M i ha (by omega), fndL hs he d (i + 1) M (by omega) (by omega) (by omega), fnd]
/-! ### a row: sounds well, in place, place of -/
def sw (n : Nat) (Z : List Nat) : Bool := decide (Z.getD (n - 3) 0 < Z.getD (n - 2) 0) && decide (Z.getD (n - 2) 0 < Z.getD (n - 1) 0)
theorem p_soundsWell {n : Nat} {Z : List Nat} (h : isRow n Z) (h4 : 4 ≤ n) (hn : n ≤ 7) : f_X6_soundsWell (nI (xr Z)) (nI n) = if sw n Z then 1 else 0 := by
  have hx := xr_lt h hn
  obtain ⟨k, rfl⟩ : ∃ k, n = k + 3 := ⟨n - 3, by omega⟩
  have d0 := dg_xr h hn (i := k) (by omega)
  have d1 := dg_xr h hn (i := k + 1) (by omega)
  have d2 := dg_xr h hn (i := k + 2) (by omega)
  have l0 := row_at_lt h (p := k) (by omega)
  have l1 := row_at_lt h (p := k + 1) (by omega)
  have l2 := row_at_lt h (p := k + 2) (by omega)
  unfold f_X6_soundsWell sw
  rw [show (2 : Int32) = nI 2 from rfl, show (1 : Int32) = nI 1 from rfl, pk_sub (by omega), pk_sub (by omega), show k + 3 - 2 = k + 1 from rfl, show k + 3 - 1 = (k + 1) + 1 from rfl, show k + 3 = (k + 2) + 1 from rfl, p_bellAt (by omega) (by omega), p_bellAt (by omega) (by omega), p_bellAt (by omega) (by omega), d0, d1, d2, nm_eq, nm_eq, show k + 2 + 1 - 3 = k by omega, show k + 1 + 1 = k + 2 from rfl]
  by_cases c : Z.getD k 0 < Z.getD (k + 1) 0
  · rw [if_neg (nI_ge (by omega) (by omega))]
    by_cases c2 : Z.getD (k + 1) 0 < Z.getD (k + 2) 0
    · rw [if_neg (nI_ge (by omega) (by omega)), decide_eq_true c, decide_eq_true c2]; rfl
    · rw [if_pos (nI_le (by omega) (by omega)), decide_eq_false c2, Bool.and_false]; rfl
  · rw [if_pos (nI_le (by omega) (by omega)), decide_eq_false c]; rfl
theorem p_bellsInPlace {n : Nat} {Z : List Nat} (h : isRow n Z) (hn : n ≤ 7) : f_X6_bellsInPlace (nI (xr Z)) (nI n) = some (nI (cnt (fun p => decide (Z.getD p 0 = p)) n 0)) := by
  have hx := xr_lt h hn
  have := smL (F := f_X6_bellsInPlace_L4 (nI (xr Z)) (nI n)) (K := some) (f := fun i => b1 (decide (Z.getD (i - 1) 0 = i - 1))) (a := 1) (e := n + 1) (fun M v i h1 h2 => by
    obtain ⟨i, rfl⟩ : ∃ k, i = k + 1 := ⟨i - 1, by omega⟩
    rw [f_X6_bellsInPlace_L4, if_neg (nI_nlt (by omega) (by omega)), p_bellAt (by omega) (by omega), dg_xr h hn (by omega), nm_eq, nI_1 v, nI_1 (i + 1)]
    have := row_at_lt h (p := i) (by omega)
    by_cases c : Z.getD i 0 = i
    · rw [if_pos (by rw [c])]; simp only [Nat.add_sub_cancel, c, decide_true, b1, if_true]
    · rw [if_neg (fun q => c (by have := (nI_eq (by omega) (by omega)).mp q; omega))]; simp only [Nat.add_sub_cancel, c, decide_false, b1, Bool.false_eq_true, if_false, Nat.add_zero]) (fun M v => by
    rw [f_X6_bellsInPlace_L4, if_pos (nI_lt (by omega) (by omega))]) n 1 0 fu (by omega) (by omega) (by show n < 8192; omega)
  unfold f_X6_bellsInPlace
  refine this.trans ?_
  rw [Nat.zero_add, show 1 = 0 + 1 from rfl, sm_shift]
  rfl
theorem p_placeOf_L {n a : Nat} {Z : List Nat} (h : isRow n Z) (hn : n ≤ 7) (ha : a < n) : ∀ (d i M : Nat), i + d + 1 = n → i ≤ Z.idxOf a → d < M → f_X6_placeOf_L2 (nI (xr Z)) (nI (a + 1)) (nI n) M (nI (i + 1)) = some (nI (Z.idxOf a + 1))
  | 0, i, M, hi, hle, hM => by
    obtain ⟨M, rfl⟩ : ∃ k, M = k + 1 := ⟨M - 1, by omega⟩
    have := idx_lt h ha
    rw [f_X6_placeOf_L2, if_pos (nI_le (by omega) (by omega)), show Z.idxOf a + 1 = n by omega]
  | d + 1, i, M, hi, hle, hM => by
    obtain ⟨M, rfl⟩ : ∃ k, M = k + 1 := ⟨M - 1, by omega⟩
    have hx := xr_lt h hn
    have := row_at_lt h (p := i) (by omega)
    rw [f_X6_placeOf_L2, if_neg (nI_ge (by omega) (by omega)), p_bellAt (by omega) (by omega), dg_xr h hn (by omega), nI_1 (i + 1)]
    by_cases c : Z.getD i 0 = a
    · rw [if_pos (by rw [c]), ← c, idx_get h (by omega)]
    · rw [if_neg (fun q => c (by have := (nI_eq (by omega) (by omega)).mp q; omega))]
      refine p_placeOf_L h hn ha d (i + 1) M (by omega) ?_ (by omega)
      rcases Nat.lt_or_ge i (Z.idxOf a) with q | q
      · omega
      · exact absurd (by rw [show i = Z.idxOf a by omega]; exact get_idx h ha) c
theorem p_placeOf {n a : Nat} {Z : List Nat} (h : isRow n Z) (hn : n ≤ 7) (ha : a < n) : f_X6_placeOf (nI (xr Z)) (nI (a + 1)) (nI n) = some (nI (Z.idxOf a + 1)) :=
  p_placeOf_L h hn ha (n - 1) 0 fu (by omega) (by omega) (by show n - 1 < 8192; omega)
theorem p_placeIn {n i a T : Nat} {R : Nat → List Nat} {r : Nat → Int32} (h : rowsX n R T r) (hn : n ≤ 7) (hT : T ≤ 340) (ha : a < n) (hi : i ≤ T) : f_X5_placeIn (nI i) (nI (a + 1)) (nI n) r = some (nI ((R i).idxOf a + 1)) := by
  unfold f_X5_placeIn
  rw [bd_t (p_rowAt h hT hi), bd_t (p_placeOf (h i hi).1 hn ha)]
/-! ### the class's looks over the rows -/
theorem p_wellSounding {n T : Nat} {R : Nat → List Nat} {r : Nat → Int32} (h : rowsX n R T r) (h4 : 4 ≤ n) (hn : n ≤ 7) (hT : T ≤ 340) : f_X5_wellSounding (nI n) (nI T) r = some (nI (cnt (fun i => sw n (R i)) T 1)) := by
  have := smL (F := f_X5_wellSounding_L4 (nI n) (nI T) r) (K := some) (f := fun i => b1 (sw n (R i))) (a := 1) (e := T + 1) (fun M v i h1 h2 => by
    rw [f_X5_wellSounding_L4, if_neg (nI_nlt (by omega) (by omega)), bd_t (p_rowAt h hT (by omega)), nm_eq, p_soundsWell (h i (by omega)).1 h4 hn, nI_1, nI_1]
    cases sw n (R i) <;> rfl) (fun M v => by
    rw [f_X5_wellSounding_L4, if_pos (nI_lt (by omega) (by omega))]) T 1 0 fu (by omega) (by omega) (by show T < 8192; omega)
  unfold f_X5_wellSounding
  refine this.trans ?_
  rw [Nat.zero_add]; rfl
theorem p_stays {n T a : Nat} {R : Nat → List Nat} {r : Nat → Int32} (h : rowsX n R T r) (hn : n ≤ 7) (hT : T ≤ 340) (ha : a < n) : f_X5_stays (nI (a + 1)) (nI n) (nI T) r = some (nI (cnt (fun i => decide ((R i).idxOf a = (R (i + 1)).idxOf a)) T 0)) := by
  have := smL (F := f_X5_stays_L4 (nI (a + 1)) (nI n) (nI T) r) (K := some) (f := fun i => b1 (decide ((R (i - 1)).idxOf a = (R i).idxOf a))) (a := 1) (e := T + 1) (fun M v i h1 h2 => by
    have l1 := idx_lt (h i (by omega)).1 ha
    have l2 := idx_lt (h (i - 1) (by omega)).1 ha
    rw [f_X5_stays_L4, if_neg (nI_nlt (by omega) (by omega)), bd_t (p_placeIn h hn hT ha (by omega)), show (1 : Int32) = nI 1 from rfl, pk_sub (by omega), bd_t (p_placeIn h hn hT ha (by omega)), nm_eq, nI_add, nI_add]
    by_cases c : (R (i - 1)).idxOf a = (R i).idxOf a
    · rw [if_pos (by rw [c]), decide_eq_true c]; rfl
    · rw [if_neg (fun q => c (by have := (nI_eq (by omega) (by omega)).mp q; omega)), decide_eq_false c]; rfl) (fun M v => by
    rw [f_X5_stays_L4, if_pos (nI_lt (by omega) (by omega))]) T 1 0 fu (by omega) (by omega) (by show T < 8192; omega)
  unfold f_X5_stays
  refine this.trans ?_
  rw [Nat.zero_add, show 1 = 0 + 1 from rfl, sm_shift]; rfl
theorem at_idx {n a p : Nat} {Z : List Nat} (h : isRow n Z) (ha : a < n) (hp : p < n) : Z.getD p 0 = a ↔ Z.idxOf a = p :=
  ⟨fun q => by rw [← q]; exact idx_get h hp, fun q => by rw [← q]; exact get_idx h ha⟩
theorem p_blowsAt {n T a p : Nat} {R : Nat → List Nat} {r : Nat → Int32} (h : rowsX n R T r) (hn : n ≤ 7) (hT : T ≤ 340) (ha : a < n) (hp : p < n) : f_X5_blowsAt (nI (a + 1)) (nI (p + 1)) (nI T) r = some (nI (cnt (fun i => decide ((R i).idxOf a = p)) T 1)) := by
  have := smL (F := f_X5_blowsAt_L5 (nI (a + 1)) (nI (p + 1)) (nI T) r) (K := some) (f := fun i => b1 (decide ((R i).idxOf a = p))) (a := 1) (e := T + 1) (fun M v i h1 h2 => by
    have hr := (h i (by omega)).1
    have hx := xr_lt hr hn
    have l1 := row_at_lt hr hp
    rw [f_X5_blowsAt_L5, if_neg (nI_nlt (by omega) (by omega)), bd_t (p_rowAt h hT (by omega)), nm_eq, p_bellAt (by omega) (by omega), dg_xr hr hn hp, nI_1, nI_1]
    by_cases c : (R i).idxOf a = p
    · rw [if_pos (by rw [(at_idx hr ha hp).mpr c]), decide_eq_true c]; rfl
    · rw [if_neg (fun q => c ((at_idx hr ha hp).mp (by have := (nI_eq (by omega) (by omega)).mp q; omega))), decide_eq_false c]; rfl) (fun M v => by
    rw [f_X5_blowsAt_L5, if_pos (nI_lt (by omega) (by omega))]) T 1 0 fu (by omega) (by omega) (by show T < 8192; omega)
  unfold f_X5_blowsAt
  refine this.trans ?_
  rw [Nat.zero_add]; rfl

