/-! ===== methods, touches, their rows ===== -/
/-- a right change for n bells -/
def okc (n c : Nat) : Prop := c < 127 ∧ c < 2 ^ n - 1 ∧ rt c n = true
/-- the changes of a lead of a kind -/
def lc (m : List Nat) (b g k : Nat) : List Nat := if k = 1 then m.dropLast ++ [b] else if k = 2 then m.dropLast ++ [g] else m
def OKs (n : Nat) (m : List Nat) (b g : Nat) (l : List Nat) : Prop := (4 ≤ n ∧ n ≤ 7) ∧ (1 ≤ m.length ∧ m.length ≤ 20) ∧ (∀ c ∈ m, okc n c) ∧ okc n b ∧ okc n g ∧ l.length ≤ 16 ∧ ∀ k ∈ l, k ≤ 2
theorem lc_len {m : List Nat} {b g k : Nat} (h : 1 ≤ m.length) : (lc m b g k).length = m.length := by
  unfold lc
  split
  · simp; omega
  · split
    · simp; omega
    · rfl
theorem lc_ok {n : Nat} {m : List Nat} {b g k : Nat} (hm : ∀ c ∈ m, okc n c) (hb : okc n b) (hg : okc n g) : ∀ c ∈ lc m b g k, okc n c := by
  intro c hc
  unfold lc at hc
  split at hc
  · rcases List.mem_append.mp hc with h | h
    · exact hm c (List.dropLast_subset m h)
    · rw [List.mem_singleton.mp h]; exact hb
  · split at hc
    · rcases List.mem_append.mp hc with h | h
      · exact hm c (List.dropLast_subset m h)
      · rw [List.mem_singleton.mp h]; exact hg
    · exact hm c hc
theorem lc_at {m : List Nat} {b g k j : Nat} (hj : j < m.length) : (lc m b g k).getD j 0 = if j + 1 = m.length ∧ k = 1 then b else if j + 1 = m.length ∧ k = 2 then g else m.getD j 0 := by
  have key : ∀ x, (m.dropLast ++ [x]).getD j 0 = if j + 1 = m.length then x else m.getD j 0 := by
    intro x
    by_cases e : j + 1 = m.length
    · rw [if_pos e]
      have hl : m.dropLast.length = j := by rw [List.length_dropLast]; omega
      have := getD_app2 (A := m.dropLast) (B := [x]) (i := 0)
      rw [hl, Nat.add_zero] at this
      rw [this]; rfl
    · rw [if_neg e, getD_app1 (by rw [List.length_dropLast]; omega), getD_lt (by rw [List.length_dropLast]; omega), getD_lt hj, List.getElem_dropLast]
  unfold lc
  by_cases k1 : k = 1
  · rw [if_pos k1, key]
    simp [k1]
  · rw [if_neg k1]
    by_cases k2 : k = 2
    · rw [if_pos k2, key]
      simp [k2]
    · rw [if_neg k2]
      simp [k1, k2]
/-- rows by changes -/
def run (Z : List Nat) (cs : List Nat) : List Nat := cs.foldl (fun Z c => cg c Z) Z
theorem run_cons (Z : List Nat) (c : Nat) (cs : List Nat) : run Z (c :: cs) = run (cg c Z) cs := rfl
theorem run_app (Z cs ds : List Nat) : run Z (cs ++ ds) = run (run Z cs) ds := by simp [run]
theorem isRow.run {n : Nat} : ∀ (cs : List Nat) {Z : List Nat}, isRow n Z → isRow n (run Z cs)
  | [], _, h => h
  | c :: cs, _, h => isRow.run cs (h.cg (c := c))
/-- a touch's changes -/
def tc (m : List Nat) (b g : Nat) (l : List Nat) : List Nat := (l.map (lc m b g)).flatten
theorem tc_len {m : List Nat} {b g : Nat} (h : 1 ≤ m.length) : ∀ (l : List Nat), (tc m b g l).length = l.length * m.length
  | [] => by simp [tc]
  | k :: l => by
    have := tc_len h (b := b) (g := g) l
    unfold tc at this ⊢
    rw [List.map_cons, List.flatten_cons, List.length_append, this, lc_len h, List.length_cons, Nat.add_mul, Nat.one_mul, Nat.add_comm]
/-! the class's touch -/
def TR (n : Nat) (m : List Nat) (b g : Nat) (l : List Nat) (t : TV) : Prop := t.1 = nI n ∧ t.2.1 = nI m.length ∧ t.2.2.1 = nI b ∧ t.2.2.2.1 = nI g ∧ t.2.2.2.2.1 = nI l.length ∧ (∀ j, j < m.length → t.2.2.2.2.2.1 j = nI (m.getD j 0)) ∧ ∀ j, j < l.length → t.2.2.2.2.2.2 j = nI (l.getD j 0)
/-- the model's state -/
def SR (n : Nat) (m : List Nat) (b g : Nat) (l : List Nat) (s : Nat → Int32) : Prop := s 0 = nI n ∧ s 1 = nI m.length ∧ s 2 = nI l.length ∧ s 3 = nI b ∧ s 4 = nI g ∧ (∀ j, j < m.length → s (5 + j) = nI (m.getD j 0)) ∧ ∀ j, j < l.length → s (25 + j) = nI (l.getD j 0)
theorem p_placesMade {m : List Nat} {b g k j : Nat} {places : Nat → Int32} (hm1 : 1 ≤ m.length) (hm : m.length ≤ 20) (hk : k ≤ 2) (hj : j < m.length) (hp : ∀ j, j < m.length → places j = nI (m.getD j 0)) :
    f_X9_placesMade (nI k) (nI j) (nI m.length) (nI b) (nI g) places = some (nI ((lc m b g k).getD j 0)) := by
  have hdef : (if nI j < 0 then some (0 : Int32) else if (20 : Int32) ≤ nI j then some 0 else gd (inb (nI j) 20) (some (places (nI j).toNatClampNeg))) = some (nI (m.getD j 0)) := by
    rw [if_neg (nI_pos (by omega)), nl, if_neg (nI_ge (by omega) (by decide)), gd_t (n_inb (by omega) (by decide)), nI_clamp (by omega), hp j hj]
  unfold f_X9_placesMade
  rw [lc_at hj]
  have e1 : (nI j = nI m.length - 1) ↔ j + 1 = m.length := by
    rw [nl, pk_sub (by omega), nI_eq (by omega) (by omega)]; omega
  have e2 : (nI k = 1) ↔ k = 1 := by rw [nl, nI_eq (by omega) (by decide)]
  have e3 : (nI k = 2) ↔ k = 2 := by rw [nl, nI_eq (by omega) (by decide)]
  simp only [e1, e2, e3, hdef]
  by_cases c1 : j + 1 = m.length
  · by_cases c2 : k = 1
    · simp [c1, c2]
    · by_cases c3 : k = 2
      · simp [c1, c3]
      · simp [c1, c2, c3]
  · simp [c1]
theorem p_kindOfLead {l : List Nat} {j : Nat} {kinds : Nat → Int32} (hl : l.length ≤ 17) (hj : j < l.length) (hp : ∀ j, j < l.length → kinds j = nI (l.getD j 0)) : f_X9_kindOfLead (nI j) kinds = some (nI (l.getD j 0)) := by
  unfold f_X9_kindOfLead
  rw [if_neg (nI_pos (by omega)), nl, if_neg (nI_ge (by omega) (by decide)), gd_t (n_inb (by omega) (by decide)), nI_clamp (by omega), hp j hj]
/-- rows that were filled in behind the place T -/
def filled (F : List Nat → Nat) (Z : List Nat) (T : Nat) (cs : List Nat) (r r' : Nat → Int32) : Prop := (∀ i, i ≤ T → r' i = r i) ∧ ∀ i, i < cs.length → r' (T + 1 + i) = nI (F (run Z (cs.take (i + 1))))
theorem filled.nil {F : List Nat → Nat} {Z : List Nat} {T : Nat} {r : Nat → Int32} : filled F Z T [] r r := ⟨fun _ _ => rfl, fun i h => absurd h (by simp)⟩
theorem filled.cons {F : List Nat → Nat} {Z : List Nat} {T c : Nat} {cs : List Nat} {r r' : Nat → Int32} (h : filled F (cg c Z) (T + 1) cs (upd r (T + 1) (nI (F (cg c Z)))) r') : filled F Z T (c :: cs) r r' := by
  obtain ⟨h1, h2⟩ := h
  refine ⟨fun i hi => ?_, fun i hi => ?_⟩
  · rw [h1 i (by omega)]; unfold upd; rw [if_neg (by omega)]
  · cases i with
    | zero =>
      rw [Nat.add_zero, h1 _ (Nat.le_refl _)]; unfold upd; rw [if_pos rfl]; rfl
    | succ i =>
      rw [List.take_succ_cons, run_cons, ← h2 i (by simpa using hi)]
      congr 1; omega
theorem filled.app {F : List Nat → Nat} {Z : List Nat} {T : Nat} {cs ds : List Nat} {r r1 r2 : Nat → Int32} (h : filled F Z T cs r r1) (k : filled F (run Z cs) (T + cs.length) ds r1 r2) : filled F Z T (cs ++ ds) r r2 := by
  obtain ⟨h1, h2⟩ := h
  obtain ⟨k1, k2⟩ := k
  refine ⟨fun i hi => by rw [k1 i (by omega), h1 i hi], fun i hi => ?_⟩
  by_cases c : i < cs.length
  · rw [k1 _ (by omega), h2 i c, List.take_append_of_le_length (by omega)]
  · obtain ⟨j, rfl⟩ : ∃ j, i = cs.length + j := ⟨i - cs.length, by omega⟩
    rw [List.length_append] at hi
    have := k2 j (by omega)
    rw [show T + 1 + (cs.length + j) = T + cs.length + 1 + j by omega, this, Nat.add_assoc, List.take_length_add_append, run_app]
theorem p_keep {x T : Nat} {r : Nat → Int32} (hT : T + 1 ≤ 340) : f_X5_keep (nI x) (nI T) r = some (nI (T + 1), upd r (T + 1) (nI x)) := by
  unfold f_X5_keep
  rw [nI_1, nl, if_neg (nI_ge (by omega) (by decide)), nm_eq, gd_t (n_inb (by omega) (by decide)), nI_clamp (by omega)]

