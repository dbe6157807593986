/-! ===== rows reached by leads, each by the fewest ===== -/
abbrev BS := List (List Nat) × (Nat → Int32)
def e1 (Ls : Nat → List Nat) (Z : List Nat) (k : Nat) (s : BS) : BS := if s.2 (rk (mulp Z (Ls k))) = -4 then (s.1 ++ [mulp Z (Ls k)], upd s.2 (rk (mulp Z (Ls k))) (s.2 (rk Z) + 1)) else s
def eN (Ls : Nat → List Nat) (Z : List Nat) : Nat → Nat → BS → BS
  | 0, _, s => s
  | d + 1, k, s => eN Ls Z d (k + 1) (e1 Ls Z k s)
def bfs (Ls : Nat → List Nat) : Nat → Nat → BS → BS
  | 0, _, s => s
  | d + 1, i, s => if s.1.length ≤ i then s else bfs Ls d (i + 1) (eN Ls (s.1.getD i []) 3 0 s)
def BI (n : Nat) (Ls : Nat → List Nat) (s : BS) : Prop :=
  (∀ Z ∈ s.1, isRow n Z) ∧ (s.1.map rk).Nodup ∧ (∀ i, i < s.1.length → ∃ d, d ≤ i ∧ s.2 (rk (s.1.getD i [])) = nI d) ∧ (∀ r, r ∉ s.1.map rk → s.2 r = -4) ∧ ∀ Z ∈ s.1, s.2 (rk Z) = nI 0 ∨ ∃ P ∈ s.1, ∃ k, k ≤ 2 ∧ Z = mulp P (Ls k) ∧ s.2 (rk Z) = s.2 (rk P) + 1
theorem BI.rows {n : Nat} {Ls : Nat → List Nat} {s : BS} (h : BI n Ls s) : ∀ Z ∈ s.1, isRow n Z := h.1
theorem BI.nd {n : Nat} {Ls : Nat → List Nat} {s : BS} (h : BI n Ls s) : (s.1.map rk).Nodup := h.2.1
theorem BI.dist {n : Nat} {Ls : Nat → List Nat} {s : BS} (h : BI n Ls s) : ∀ i, i < s.1.length → ∃ d, d ≤ i ∧ s.2 (rk (s.1.getD i [])) = nI d := h.2.2.1
theorem BI.un {n : Nat} {Ls : Nat → List Nat} {s : BS} (h : BI n Ls s) : ∀ r, r ∉ s.1.map rk → s.2 r = -4 := h.2.2.2.1
theorem BI.par {n : Nat} {Ls : Nat → List Nat} {s : BS} (h : BI n Ls s) : ∀ Z ∈ s.1, s.2 (rk Z) = nI 0 ∨ ∃ P ∈ s.1, ∃ k, k ≤ 2 ∧ Z = mulp P (Ls k) ∧ s.2 (rk Z) = s.2 (rk P) + 1 := h.2.2.2.2
theorem qget {Q : List (List Nat)} {i : Nat} (h : i < Q.length) : Q.getD i [] = Q[i] := by simp [List.getD_eq_getElem?_getD, h]
theorem qmem {Q : List (List Nat)} {i : Nat} (h : i < Q.length) : Q.getD i [] ∈ Q := by rw [qget h]; exact List.getElem_mem h
theorem qidx {Q : List (List Nat)} {Z : List Nat} (h : Z ∈ Q) : ∃ i, i < Q.length ∧ Q.getD i [] = Z := by
  obtain ⟨i, hi, e⟩ := List.getElem_of_mem h
  exact ⟨i, hi, by rw [qget hi, e]⟩
theorem qapp1 {Q : List (List Nat)} {Y : List Nat} {i : Nat} (h : i < Q.length) : (Q ++ [Y]).getD i [] = Q.getD i [] := by
  simp [List.getD_eq_getElem?_getD, List.getElem?_append_left h]
theorem qapp2 {Q : List (List Nat)} {Y : List Nat} : (Q ++ [Y]).getD Q.length [] = Y := by simp [List.getD_eq_getElem?_getD]
theorem BI.len {n : Nat} {Ls : Nat → List Nat} {s : BS} (h : BI n Ls s) (hn : n ≤ 7) : s.1.length ≤ 5040 := by
  have := nodup_len 5040 (s.1.map rk) h.nd (fun x hx => by
    obtain ⟨Z, hZ, e⟩ := List.mem_map.mp hx
    rw [← e]; exact rk_5040 (h.rows Z hZ) hn)
  rwa [List.length_map] at this
theorem nI_n4 {d : Nat} (h : d < 2 ^ 31) : nI d ≠ -4 := fun q => nI_pos h (by rw [q]; decide)
theorem BI.val {n : Nat} {Ls : Nat → List Nat} {s : BS} (h : BI n Ls s) (hn : n ≤ 7) (r : Nat) : (s.2 r = -4 ∧ r ∉ s.1.map rk) ∨ ∃ d, d ≤ 5040 ∧ s.2 r = nI d ∧ ∃ Z ∈ s.1, rk Z = r := by
  by_cases c : r ∈ s.1.map rk
  · obtain ⟨Z, hZ, e⟩ := List.mem_map.mp c
    obtain ⟨i, hi, e2⟩ := qidx hZ
    obtain ⟨d, hd, e3⟩ := h.dist i hi
    have := h.len hn
    exact Or.inr ⟨d, by omega, by rw [← e, ← e2]; exact e3, Z, hZ, e⟩
  · exact Or.inl ⟨h.un r c, c⟩
def extB (s s' : BS) : Prop := s.1.length ≤ s'.1.length ∧ (∀ i, i < s.1.length → s'.1.getD i [] = s.1.getD i []) ∧ ∀ r, s.2 r ≠ -4 → s'.2 r = s.2 r
theorem extB.refl (s : BS) : extB s s := ⟨Nat.le_refl _, fun _ _ => rfl, fun _ _ => rfl⟩
theorem extB.trans {s t u : BS} (h : extB s t) (k : extB t u) : extB s u := ⟨Nat.le_trans h.1 k.1, fun i hi => by rw [k.2.1 i (Nat.lt_of_lt_of_le hi h.1), h.2.1 i hi], fun r hr => by rw [k.2.2 r (by rw [h.2.2 r hr]; exact hr), h.2.2 r hr]⟩
theorem e1_ext (Ls : Nat → List Nat) (Z : List Nat) (k : Nat) (s : BS) : extB s (e1 Ls Z k s) := by
  unfold e1
  by_cases c : s.2 (rk (mulp Z (Ls k))) = -4
  · rw [if_pos c]
    refine ⟨by simp, fun i hi => qapp1 hi, fun r hr => ?_⟩
    show upd _ _ _ r = _
    unfold upd
    rw [if_neg (fun q => hr (by rw [q]; exact c))]
  · rw [if_neg c]; exact extB.refl s
theorem eN_ext (Ls : Nat → List Nat) (Z : List Nat) : ∀ (d k : Nat) (s : BS), extB s (eN Ls Z d k s)
  | 0, _, s => extB.refl s
  | d + 1, k, s => (e1_ext Ls Z k s).trans (eN_ext Ls Z d (k + 1) _)
theorem bfs_ext (Ls : Nat → List Nat) : ∀ (d i : Nat) (s : BS), extB s (bfs Ls d i s)
  | 0, _, s => extB.refl s
  | d + 1, i, s => by
    rw [bfs]
    by_cases c : s.1.length ≤ i
    · rw [if_pos c]; exact extB.refl s
    · rw [if_neg c]; exact (eN_ext Ls _ 3 0 s).trans (bfs_ext Ls d (i + 1) _)
theorem e1_BI {n : Nat} {Ls : Nat → List Nat} {s : BS} (h : BI n Ls s) (hn : n ≤ 7) (hL : ∀ k, k ≤ 2 → isRow n (Ls k)) {i k : Nat} (hi : i < s.1.length) (hk : k ≤ 2) : BI n Ls (e1 Ls (s.1.getD i []) k s) := by
  unfold e1
  generalize hZ : s.1.getD i [] = Z
  by_cases c : s.2 (rk (mulp Z (Ls k))) = -4
  · rw [if_pos c]
    have hZm : Z ∈ s.1 := hZ ▸ qmem hi
    have hnew : isRow n (mulp Z (Ls k)) := (h.rows Z hZm).mul (hL k hk)
    have hnot : rk (mulp Z (Ls k)) ∉ s.1.map rk := by
      rcases h.val hn (rk (mulp Z (Ls k))) with q | ⟨d, hd, e, -⟩
      · exact q.2
      · exact absurd (e.symm.trans c) (nI_n4 (by omega))
    have hne : ∀ Y ∈ s.1, rk Y ≠ rk (mulp Z (Ls k)) := fun Y hY q => hnot (q ▸ List.mem_map.mpr ⟨Y, hY, rfl⟩)
    have hup : ∀ Y ∈ s.1, upd s.2 (rk (mulp Z (Ls k))) (s.2 (rk Z) + 1) (rk Y) = s.2 (rk Y) := fun Y hY => by unfold upd; rw [if_neg (hne Y hY)]
    have hupn : upd s.2 (rk (mulp Z (Ls k))) (s.2 (rk Z) + 1) (rk (mulp Z (Ls k))) = s.2 (rk Z) + 1 := by unfold upd; rw [if_pos rfl]
    refine ⟨fun Y hY => ?_, ?_, fun j hj => ?_, fun r hr => ?_, fun Y hY => ?_⟩
    · rcases List.mem_append.mp hY with q | q
      · exact h.rows Y q
      · rw [List.mem_singleton.mp q]; exact hnew
    · show ((s.1 ++ [mulp Z (Ls k)]).map rk).Nodup
      rw [List.map_append]
      refine List.nodup_append.mpr ⟨h.nd, by simp, fun a ha b hb q => ?_⟩
      rw [List.map_singleton, List.mem_singleton] at hb
      exact hnot (by rw [← hb, ← q]; exact ha)
    · change j < (s.1 ++ [mulp Z (Ls k)]).length at hj
      rw [List.length_append, List.length_singleton] at hj
      show ∃ d, d ≤ j ∧ upd s.2 (rk (mulp Z (Ls k))) (s.2 (rk Z) + 1) (rk ((s.1 ++ [mulp Z (Ls k)]).getD j [])) = nI d
      rcases Nat.lt_or_ge j s.1.length with q | q
      · rw [qapp1 q, hup _ (qmem q)]; exact h.dist j q
      · obtain rfl : j = s.1.length := by omega
        obtain ⟨d, hd, e⟩ := h.dist i hi
        rw [hZ] at e
        exact ⟨d + 1, by omega, by rw [qapp2, hupn, e, nI_1]⟩
    · change r ∉ (s.1 ++ [mulp Z (Ls k)]).map rk at hr
      rw [List.map_append, List.mem_append, List.map_singleton, List.mem_singleton] at hr
      show upd s.2 (rk (mulp Z (Ls k))) (s.2 (rk Z) + 1) r = -4
      unfold upd
      rw [if_neg (fun q => hr (Or.inr q))]
      exact h.un r (fun q => hr (Or.inl q))
    · show upd s.2 (rk (mulp Z (Ls k))) (s.2 (rk Z) + 1) (rk Y) = nI 0 ∨ ∃ P ∈ s.1 ++ [mulp Z (Ls k)], ∃ k', k' ≤ 2 ∧ Y = mulp P (Ls k') ∧ upd s.2 (rk (mulp Z (Ls k))) (s.2 (rk Z) + 1) (rk Y) = upd s.2 (rk (mulp Z (Ls k))) (s.2 (rk Z) + 1) (rk P) + 1
      rcases List.mem_append.mp hY with q | q
      · rw [hup Y q]
        rcases h.par Y q with w | ⟨P, hP, k', a, b, e⟩
        · exact Or.inl w
        · exact Or.inr ⟨P, List.mem_append.mpr (Or.inl hP), k', a, b, by rw [hup P hP]; exact e⟩
      · rw [List.mem_singleton.mp q]
        exact Or.inr ⟨Z, List.mem_append.mpr (Or.inl hZm), k, hk, rfl, by rw [hupn, hup Z hZm]⟩
  · rw [if_neg c]; exact h
theorem eN_BI {n : Nat} {Ls : Nat → List Nat} (hn : n ≤ 7) (hL : ∀ k, k ≤ 2 → isRow n (Ls k)) {i : Nat} {Z : List Nat} : ∀ (d k : Nat) (s : BS), BI n Ls s → i < s.1.length → s.1.getD i [] = Z → k + d = 3 → BI n Ls (eN Ls Z d k s)
  | 0, _, s, h, _, _, _ => h
  | d + 1, k, s, h, hi, hZ, hk => by
    have q := e1_ext Ls Z k s
    have h2 := e1_BI h hn hL hi (k := k) (by omega)
    rw [hZ] at h2
    exact eN_BI hn hL d (k + 1) _ h2 (Nat.lt_of_lt_of_le hi q.1) (by rw [q.2.1 i hi, hZ]) (by omega)
theorem bfs_BI {n : Nat} {Ls : Nat → List Nat} (hn : n ≤ 7) (hL : ∀ k, k ≤ 2 → isRow n (Ls k)) : ∀ (d i : Nat) (s : BS), BI n Ls s → BI n Ls (bfs Ls d i s)
  | 0, _, s, h => h
  | d + 1, i, s, h => by
    rw [bfs]
    by_cases c : s.1.length ≤ i
    · rw [if_pos c]; exact h
    · rw [if_neg c]; exact bfs_BI hn hL d (i + 1) _ (eN_BI hn hL 3 0 s h (by omega) rfl rfl)
/-! ### the model -/
def agM (s : BS) (dist line : Nat → Int32) : Prop := (∀ r, r < 5040 → dist r = s.2 r) ∧ ∀ i, i < s.1.length → line i = nI (rk (s.1.getD i []))
theorem m_spread55 {n : Nat} {Ls : Nat → List Nat} {s ld : Nat → Int32} {w : Int32} (hn : n ≤ 7) (hL : ∀ k, k ≤ 2 → isRow n (Ls k))
    (hmv : ∀ (Z : List Nat) (k : Nat) (ce ot : Nat → Int32), isRow n Z → k ≤ 2 → ∃ c' o', f_X11_moved (nI (rk Z)) (nI k) w s ce ot ld = some (nI (rk (mulp Z (Ls k))), c', o'))
    (k : Int32 → Int32 → (Nat → Int32) → (Nat → Int32) → (Nat → Int32) → (Nat → Int32) → Option ((Nat → Int32) × (Nat → Int32) × (Nat → Int32) × (Nat → Int32) × (Nat → Int32))) {i : Nat} {Z : List Nat} :
    ∀ (d j M : Nat) (st : BS) (ce ot dist line : Nat → Int32), j + d = 3 → BI n Ls st → i < st.1.length → st.1.getD i [] = Z → agM st dist line → d < M →
    ∃ c' o' dist' line', f_X11_spreadsFrom_L55 k w (nI i) s ld M (nI st.1.length) (nI j) ce ot dist line = k (nI (eN Ls Z d j st).1.length) (nI 3) c' o' dist' line' ∧ agM (eN Ls Z d j st) dist' line'
  | 0, j, M, st, ce, ot, dist, line, hj, hB, hi, hZ, ha, hM => by
    obtain ⟨M, rfl⟩ : ∃ k, M = k + 1 := ⟨M - 1, by omega⟩
    obtain rfl : j = 3 := by omega
    refine ⟨ce, ot, dist, line, ?_, ha⟩
    rw [f_X11_spreadsFrom_L55, if_pos (by decide)]; rfl
  | d + 1, j, M, st, ce, ot, dist, line, hj, hB, hi, hZ, ha, hM => by
    obtain ⟨M, rfl⟩ : ∃ k, M = k + 1 := ⟨M - 1, by omega⟩
    have hZr : isRow n Z := by rw [← hZ]; exact hB.rows _ (qmem hi)
    have hlen := hB.len hn
    obtain ⟨c1, o1, q1⟩ := hmv Z j ce ot hZr (by omega)
    have hr := rk_5040 (hZr.mul (hL j (by omega))) hn
    have hrZ := rk_5040 hZr hn
    have hB2 := e1_BI hB hn hL hi (k := j) (by omega)
    have hE := e1_ext Ls Z j st
    rw [hZ] at hB2
    rw [f_X11_spreadsFrom_L55, if_neg (show ¬ (3 : Int32) ≤ nI j from @nI_ge j 3 (by omega) (by decide)), gd_t (n_inb (show i < 5040 by omega) (by decide)), nI_clamp (by omega), ha.2 i hi, hZ, bd_t q1]
    dsimp only
    rw [gd_t (n_inb hr (by decide)), nI_clamp (by omega), ha.1 _ hr, nI_1 j, eN]
    by_cases c : st.2 (rk (mulp Z (Ls j))) = -4
    · have e : e1 Ls Z j st = (st.1 ++ [mulp Z (Ls j)], upd st.2 (rk (mulp Z (Ls j))) (st.2 (rk Z) + 1)) := by unfold e1; rw [if_pos c]
      have hl2 := hB2.len hn
      have hlen2 : (e1 Ls Z j st).1.length = st.1.length + 1 := by rw [e]; simp
      rw [if_neg (by rw [c]; decide), gd_t (n_inb hrZ (by decide)), gd_t (n_inb (show st.1.length < 5040 by omega) (by decide)), nI_clamp (by omega), nI_clamp (by omega), ha.1 _ hrZ, nI_1, ← hlen2]
      refine m_spread55 hn hL hmv k d (j + 1) M (e1 Ls Z j st) c1 o1 _ _ (by omega) hB2 (Nat.lt_of_lt_of_le hi hE.1) (by rw [hE.2.1 i hi, hZ]) ⟨fun r hr2 => ?_, fun q hq => ?_⟩ (by omega)
      · rw [e]
        show upd dist _ _ r = upd st.2 _ _ r
        unfold upd
        by_cases c2 : r = rk (mulp Z (Ls j))
        · rw [if_pos c2, if_pos c2]
        · rw [if_neg c2, if_neg c2, ha.1 r hr2]
      · rw [hlen2] at hq
        rw [e]
        show upd line _ _ q = nI (rk ((st.1 ++ [mulp Z (Ls j)]).getD q []))
        unfold upd
        by_cases c2 : q = st.1.length
        · rw [if_pos c2, c2, qapp2]
        · rw [if_neg c2, qapp1 (by omega), ha.2 q (by omega)]
    · have e : e1 Ls Z j st = st := by unfold e1; rw [if_neg c]
      rw [if_pos (by
        rcases hB.val hn (rk (mulp Z (Ls j))) with q | ⟨d', hd', e', -⟩
        · exact absurd q.1 c
        · rw [e']; exact nI_pos' (by omega)), e]
      exact m_spread55 hn hL hmv k d (j + 1) M st c1 o1 dist line (by omega) hB hi hZ ha (by omega)
theorem m_spread46 {n : Nat} {Ls : Nat → List Nat} {s ld : Nat → Int32} {w : Int32} (hn : n ≤ 7) (hL : ∀ k, k ≤ 2 → isRow n (Ls k))
    (hmv : ∀ (Z : List Nat) (k : Nat) (ce ot : Nat → Int32), isRow n Z → k ≤ 2 → ∃ c' o', f_X11_moved (nI (rk Z)) (nI k) w s ce ot ld = some (nI (rk (mulp Z (Ls k))), c', o')) :
    ∀ (d i M : Nat) (st : BS) (ce ot dist line : Nat → Int32), i + d = 5041 → BI n Ls st → agM st dist line → d < M →
    ∃ c' o' dist' line', f_X11_spreadsFrom_L46 w s ld M (nI st.1.length) (nI i) ce ot dist line = some (c', o', ld, dist', line') ∧ agM (bfs Ls d i st) dist' line' := by
  intro d
  induction d with
  | zero =>
    intro i M st ce ot dist line hi hB ha hM
    obtain ⟨M, rfl⟩ : ∃ k, M = k + 1 := ⟨M - 1, by omega⟩
    have hlen := hB.len hn
    refine ⟨ce, ot, dist, line, ?_, ha⟩
    rw [f_X11_spreadsFrom_L46, if_pos (nI_le (by omega) (by omega))]
  | succ d ih =>
    intro i M st ce ot dist line hi hB ha hM
    obtain ⟨M, rfl⟩ : ∃ k, M = k + 1 := ⟨M - 1, by omega⟩
    have hlen := hB.len hn
    rw [f_X11_spreadsFrom_L46, bfs]
    by_cases c : st.1.length ≤ i
    · rw [if_pos (nI_le c (by omega)), if_pos c]
      exact ⟨ce, ot, dist, line, rfl, ha⟩
    · rw [if_neg (nI_ge (by omega) (by omega)), if_neg c]
      obtain ⟨c1, o1, d1, l1, q1, q2⟩ := m_spread55 hn hL hmv (fun y17 y18 y19 y20 y21 y22 => f_X11_spreadsFrom_L46 w s ld M y17 (nI i + 1) y19 y20 y21 y22) 3 0 fu st ce ot dist line (i := i) rfl hB (by omega) rfl ha (by show 3 < 8192; omega)
      obtain ⟨c2, o2, d2, l2, q3, q4⟩ := ih (i + 1) M _ c1 o1 d1 l1 (by omega) (eN_BI hn hL 3 0 st hB (show i < st.1.length by omega) rfl rfl) q2 (by omega)
      refine ⟨c2, o2, d2, l2, ?_, q4⟩
      refine q1.trans ?_
      rw [nI_1]
      exact q3
/-- where the search begins -/
def bs0 (Z : List Nat) : BS := ([Z], upd (fun _ => -4) (rk Z) (nI 0))
theorem bs0_at {Z : List Nat} {r : Nat} : (bs0 Z).2 r = if r = rk Z then nI 0 else -4 := rfl
theorem bs0_BI {n : Nat} {Ls : Nat → List Nat} {Z : List Nat} (h : isRow n Z) : BI n Ls (bs0 Z) := by
  refine ⟨fun Y hY => by rw [List.mem_singleton.mp hY]; exact h, by simp [bs0], fun i hi => ⟨0, Nat.zero_le _, ?_⟩, fun r hr => ?_, fun Y hY => Or.inl ?_⟩
  · have : i = 0 := by have : i < 1 := hi; omega
    subst this
    rw [bs0_at]; exact if_pos rfl
  · rw [bs0_at, if_neg (fun q => hr (by rw [q]; simp [bs0]))]
  · rw [List.mem_singleton.mp hY, bs0_at, if_pos rfl]
def B (Ls : Nat → List Nat) (Z : List Nat) : BS := bfs Ls 5041 0 (bs0 Z)
theorem m_spread6 {s ce ot ld line : Nat → Int32} (s1 s2 : Int32) (k : Int32 → (Nat → Int32) → Option ((Nat → Int32) × (Nat → Int32) × (Nat → Int32) × (Nat → Int32) × (Nat → Int32))) :
    ∀ (d i M : Nat) (dist : Nat → Int32), i + d = 5040 → (∀ r, r < i → dist r = -4) → d < M → ∃ d', f_X11_spreadsFrom_L6 k s1 s2 s ce ot ld line M (nI i) dist = k (nI 5040) d' ∧ ∀ r, r < 5040 → d' r = -4
  | 0, i, M, dist, hi, hd, hM => by
    obtain ⟨M, rfl⟩ : ∃ k, M = k + 1 := ⟨M - 1, by omega⟩
    obtain rfl : i = 5040 := by omega
    refine ⟨dist, ?_, hd⟩
    rw [f_X11_spreadsFrom_L6, if_pos (by decide)]
  | d + 1, i, M, dist, hi, hd, hM => by
    obtain ⟨M, rfl⟩ : ∃ k, M = k + 1 := ⟨M - 1, by omega⟩
    obtain ⟨d', q1, q2⟩ := m_spread6 (s := s) (ce := ce) (ot := ot) (ld := ld) (line := line) s1 s2 k d (i + 1) M (upd dist i (-4)) (by omega) (fun r hr => by
      unfold upd
      by_cases c : r = i
      · rw [if_pos c]
      · rw [if_neg c]; exact hd r (by omega)) (by omega)
    refine ⟨d', ?_, q2⟩
    rw [f_X11_spreadsFrom_L6, if_neg (show ¬ (5040 : Int32) ≤ nI i from @nI_ge i 5040 (by omega) (by decide)), gd_t (n_inb (show i < 5040 by omega) (by decide)), nI_clamp (by omega), nI_1]
    exact q1
theorem m_spreadsFrom {n : Nat} {m : List Nat} {b g : Nat} {l : List Nat} {s : Nat → Int32} (h : OKs n m b g l) (hs : SR n m b g l s) {Z : List Nat} (hZ : isRow n Z) (bk : Bool) (ce ot ld dist line : Nat → Int32) :
    ∃ c' o' ld' dist' line', f_X11_spreadsFrom (nI (rk Z)) (nI (b1 bk)) s ce ot ld dist line = some (c', o', ld', dist', line') ∧ leadM n (LD n m b g) ld' ∧ ∀ r, r < 5040 → dist' r = (B (fun k => if bk then inv n (LD n m b g k) else LD n m b g k) Z).2 r := by
  unfold B
  obtain ⟨⟨hn4, hn⟩, -⟩ := id h
  obtain ⟨c1, l1, e1, hl⟩ := m_takesLeads h hs ce ld
  have hL : ∀ k, k ≤ 2 → isRow n ((fun k => if bk then inv n (LD n m b g k) else LD n m b g k) k) := fun k _ => by
    dsimp only
    cases bk
    · exact LD_row n m b g k
    · exact (LD_row n m b g k).inv
  have hr := rk_5040 hZ hn
  unfold f_X11_spreadsFrom
  rw [bd_t e1]
  dsimp only
  obtain ⟨d1, e2, e3⟩ := m_spread6 (s := s) (ce := c1) (ot := ot) (ld := l1) (line := line) (nI (rk Z)) (nI (b1 bk)) (fun y5 y6 => gd (inb (nI (rk Z)) 5040) (f_X11_spreadsFrom_L46 (nI (b1 bk)) s l1 fu 1 0 c1 ot (upd y6 (nI (rk Z)).toNatClampNeg 0) (upd line (0 : Int32).toNatClampNeg (nI (rk Z))))) 5040 0 fu dist (by omega) (fun r hr => by omega) (by show 5040 < 8192; omega)
  obtain ⟨c2, o2, d2, l2, e4, e5⟩ := m_spread46 (n := n) (Ls := fun k => if bk then inv n (LD n m b g k) else LD n m b g k) (s := s) (ld := l1) (w := nI (b1 bk)) hn hL (fun Z k ce ot hZ hk => by
    cases bk
    · exact m_movedF hZ (by omega) hn hs.1 hl (LD_row n m b g k) hk ce ot
    · exact m_movedB hZ (by omega) hn hs.1 hl (LD_row n m b g k) hk ce ot) 5041 0 fu (bs0 Z) c1 ot (upd d1 (rk Z) 0) (upd line 0 (nI (rk Z))) rfl (bs0_BI hZ) ⟨fun r hr => by
      rw [bs0_at]
      unfold upd
      by_cases c : r = rk Z
      · rw [if_pos c, if_pos c]; rfl
      · rw [if_neg c, if_neg c, e3 r hr], fun i hi => by
      have : i = 0 := by have : i < 1 := hi; omega
      subst this
      rfl⟩ (by show 5041 < 8192; omega)
  refine ⟨c2, o2, l1, d2, l2, ?_, hl, e5.1⟩
  refine e2.trans ?_
  rw [gd_t (n_inb hr (by decide)), nI_clamp (by omega)]
  exact e4
