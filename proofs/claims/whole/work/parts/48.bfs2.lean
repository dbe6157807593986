/-! ===== the class spreads ===== -/
theorem e1_congr {Ls Ks : Nat → List Nat} {k : Nat} (h : Ls k = Ks k) (Z : List Nat) (s : BS) : e1 Ls Z k s = e1 Ks Z k s := by unfold e1; rw [h]
theorem eN_congr {Ls Ks : Nat → List Nat} (h : ∀ k, k ≤ 2 → Ls k = Ks k) (Z : List Nat) : ∀ (d k : Nat) (s : BS), k + d = 3 → eN Ls Z d k s = eN Ks Z d k s
  | 0, _, _, _ => rfl
  | d + 1, k, s, hk => by rw [eN, eN, e1_congr (h k (by omega)), eN_congr h Z d (k + 1) _ (by omega)]
theorem bfs_congr {Ls Ks : Nat → List Nat} (h : ∀ k, k ≤ 2 → Ls k = Ks k) : ∀ (d i : Nat) (s : BS), bfs Ls d i s = bfs Ks d i s
  | 0, _, _ => rfl
  | d + 1, i, s => by rw [bfs, bfs, eN_congr h _ 3 0 s rfl, bfs_congr h d]
theorem B_congr {Ls Ks : Nat → List Nat} (h : ∀ k, k ≤ 2 → Ls k = Ks k) (Z : List Nat) : B Ls Z = B Ks Z := bfs_congr h _ _ _
def agX (s : BS) (few rch : Nat → Int32) : Prop := (∀ r, r < 5040 → few r = s.2 r) ∧ ∀ i, i < s.1.length → rch i = nI (xr (s.1.getD i []))
theorem xr_pos {n : Nat} {Z : List Nat} (h : isRow n Z) (hn0 : 0 < n) (hn : n ≤ 7) : 0 < xr Z := by
  rcases Nat.eq_zero_or_pos (xr Z) with c | c
  · have := dg_xr h hn hn0
    rw [c] at this
    have e : dg 0 0 = 0 := by decide
    omega
  · exact c
theorem nge5040 {r : Nat} (h : r < 5040) : ¬ (5040 : Int32) ≤ nI r := @nI_ge r 5040 h (by decide)
theorem p_fewestTo {n : Nat} {Z : List Nat} {few : Nat → Int32} (h : isRow n Z) (hn : n ≤ 7) : f_X7_fewestTo (nI (xr Z)) (nI n) few = some (few (rk Z)) := by
  have hr := rk_5040 h hn
  unfold f_X7_fewestTo
  rw [bd_t (p_rank h hn), if_neg (nI_pos (by omega)), if_neg (nge5040 hr), gd_t (n_inb hr (by decide)), nI_clamp (by omega)]
theorem p_reach1 {n len : Nat} {Z : List Nat} {few rch : Nat → Int32} {v : Int32} (h : isRow n Z) (hn : n ≤ 7) (hl : len < 5040) (c : few (rk Z) = -4) : f_X7_reach (nI (xr Z)) v (nI n) (nI len) few rch = some (nI (len + 1), upd few (rk Z) v, upd rch len (nI (xr Z))) := by
  have hr := rk_5040 h hn
  unfold f_X7_reach
  rw [bd_t (p_rank h hn), if_neg (nI_pos (by omega)), if_neg (nge5040 hr), gd_t (n_inb hr (by decide)), nI_clamp (by omega), if_pos c, if_neg (nI_pos (by omega)), if_neg (nge5040 hl), gd_t (n_inb hl (by decide)), nI_clamp (by omega), nm_eq, nI_1]
theorem p_reach2 {n len : Nat} {Z : List Nat} {few rch : Nat → Int32} {v : Int32} (h : isRow n Z) (hn : n ≤ 7) (c : ¬ few (rk Z) = -4) : f_X7_reach (nI (xr Z)) v (nI n) (nI len) few rch = some (nI len, few, rch) := by
  have hr := rk_5040 h hn
  unfold f_X7_reach
  rw [bd_t (p_rank h hn), if_neg (nI_pos (by omega)), if_neg (nge5040 hr), gd_t (n_inb hr (by decide)), nI_clamp (by omega), if_neg c]
theorem p_from77 {n : Nat} {Ls : Nat → List Nat} {lv : Nat → Int32} {s2 s5 : Int32} (hn : n ≤ 7) (hL : ∀ k, k ≤ 2 → isRow n (Ls k)) (hlv : ∀ k, k ≤ 2 → lv k = nI (xr (Ls k)))
    (k : Int32 → Int32 → (Nat → Int32) → (Nat → Int32) → Option (Int32 × Int32 × (Nat → Int32) × (Nat → Int32))) {i : Nat} {Z : List Nat} {s7 : Int32} :
    ∀ (d j M : Nat) (st : BS) (few rch : Nat → Int32), j + d = 3 → BI n Ls st → i < st.1.length → st.1.getD i [] = Z → s7 = st.2 (rk Z) + 1 → agX st few rch → d < M →
    ∃ few' rch', f_X7_from_L77 k s2 (nI n) s5 (nI (xr Z)) s7 3 (nI n) lv M (nI j) (nI st.1.length) few rch = k (nI 3) (nI (eN Ls Z d j st).1.length) few' rch' ∧ agX (eN Ls Z d j st) few' rch'
  | 0, j, M, st, few, rch, hj, hB, hi, hZ, h7, ha, hM => by
    obtain ⟨M, rfl⟩ : ∃ k, M = k + 1 := ⟨M - 1, by omega⟩
    obtain rfl : j = 3 := by omega
    refine ⟨few, rch, ?_, ha⟩
    rw [f_X7_from_L77, if_pos (by decide)]; rfl
  | d + 1, j, M, st, few, rch, hj, hB, hi, hZ, h7, ha, hM => by
    obtain ⟨M, rfl⟩ : ∃ k, M = k + 1 := ⟨M - 1, by omega⟩
    have hZr : isRow n Z := by rw [← hZ]; exact hB.rows _ (qmem hi)
    have hlen := hB.len hn
    have hnew := hZr.mul (hL j (by omega))
    have hr := rk_5040 hnew hn
    have hB2 := e1_BI hB hn hL hi (k := j) (by omega)
    have hE := e1_ext Ls Z j st
    rw [hZ] at hB2
    have hd := hB.dist i hi
    rw [hZ] at hd
    obtain ⟨dd, hdd, hd⟩ := hd
    have h7' : s7 = (e1 Ls Z j st).2 (rk Z) + 1 := by rw [hE.2.2 _ (by rw [hd]; exact nI_n4 (by omega))]; exact h7
    rw [f_X7_from_L77, if_neg (nI_ge (by omega) (by decide)), gd_t (n_inb (show j < 3 by omega) (by decide)), nI_clamp (by omega), hlv j (by omega), bd_t (p_behindLead hZr (hL j (by omega)) hn), nI_1, eN]
    by_cases c : st.2 (rk (mulp Z (Ls j))) = -4
    · have e : e1 Ls Z j st = (st.1 ++ [mulp Z (Ls j)], upd st.2 (rk (mulp Z (Ls j))) (st.2 (rk Z) + 1)) := by unfold e1; rw [if_pos c]
      have hl2 := hB2.len hn
      have hlen2 : (e1 Ls Z j st).1.length = st.1.length + 1 := by rw [e]; simp
      rw [bd_t (p_reach1 hnew hn (show st.1.length < 5040 by omega) (by rw [ha.1 _ hr]; exact c)), ← hlen2]
      refine p_from77 hn hL hlv k d (j + 1) M (e1 Ls Z j st) _ _ (by omega) hB2 (Nat.lt_of_lt_of_le hi hE.1) (by rw [hE.2.1 i hi, hZ]) h7' ⟨fun r hr2 => ?_, fun q hq => ?_⟩ (by omega)
      · rw [e, h7]
        show upd few _ _ r = upd st.2 _ _ r
        unfold upd
        by_cases c2 : r = rk (mulp Z (Ls j))
        · rw [if_pos c2, if_pos c2]
        · rw [if_neg c2, if_neg c2, ha.1 r hr2]
      · rw [hlen2] at hq
        rw [e]
        show upd rch _ _ q = nI (xr ((st.1 ++ [mulp Z (Ls j)]).getD q []))
        unfold upd
        by_cases c2 : q = st.1.length
        · rw [if_pos c2, c2, qapp2]
        · rw [if_neg c2, qapp1 (by omega), ha.2 q (by omega)]
    · have e : e1 Ls Z j st = st := by unfold e1; rw [if_neg c]
      rw [bd_t (p_reach2 hnew hn (by rw [ha.1 _ hr]; exact c)), e]
      exact p_from77 hn hL hlv k d (j + 1) M st few rch (by omega) hB hi hZ h7 ha (by omega)
def goalI (G : Option (List Nat)) : Int32 := match G with
  | none => 0
  | some Y => nI (xr Y)
theorem p_from29 {n : Nat} {Ls : Nat → List Nat} {lv : Nat → Int32} {G : Option (List Nat)} (hn0 : 0 < n) (hn : n ≤ 7) (hL : ∀ k, k ≤ 2 → isRow n (Ls k)) (hlv : ∀ k, k ≤ 2 → lv k = nI (xr (Ls k))) (hG : ∀ Y, G = some Y → isRow n Y) :
    ∀ (d i M : Nat) (st : BS) (few rch : Nat → Int32), i + d = 5041 → BI n Ls st → agX st few rch → d < M →
    ∃ z few' rch', f_X7_from_L29 (goalI G) (nI n) 3 (nI n) lv M (nI i) (nI st.1.length) few rch = some (nI n, z, few', rch') ∧ ∀ r, r < 5040 → (G = none ∨ ∃ Y, G = some Y ∧ r = rk Y) → few' r = (bfs Ls d i st).2 r := by
  intro d
  induction d with
  | zero =>
    intro i M st few rch hi hB ha hM
    obtain ⟨M, rfl⟩ : ∃ k, M = k + 1 := ⟨M - 1, by omega⟩
    have hlen := hB.len hn
    refine ⟨nI st.1.length, few, rch, ?_, fun r hr _ => ha.1 r hr⟩
    rw [f_X7_from_L29, if_pos (nI_le (by omega) (by omega))]
  | succ d ih =>
    intro i M st few rch hi hB ha hM
    obtain ⟨M, rfl⟩ : ∃ k, M = k + 1 := ⟨M - 1, by omega⟩
    have hlen := hB.len hn
    rw [f_X7_from_L29]
    by_cases c : st.1.length ≤ i
    · rw [if_pos (nI_le c (by omega)), bfs, if_pos c]
      exact ⟨nI st.1.length, few, rch, rfl, fun r hr _ => ha.1 r hr⟩
    · have hi2 : i < st.1.length := by omega
      have hZr := hB.rows _ (qmem hi2)
      have hx := xr_lt hZr hn
      have hd := hB.dist i hi2
      obtain ⟨dd, hdd, hd⟩ := hd
      rw [if_neg (nI_ge (by omega) (by omega)), if_neg (nge5040 (by omega)), gd_t (n_inb (show i < 5040 by omega) (by decide)), nm_eq, nI_clamp (by omega), ha.2 i hi2]
      by_cases cg : nI (xr (st.1.getD i [])) = goalI G
      · rw [if_pos cg]
        refine ⟨nI st.1.length, few, rch, rfl, fun r hr hg => ?_⟩
        have hp := xr_pos hZr hn0 hn
        rcases hg with hg | ⟨Y, hg, e⟩
        · subst hg; exact absurd cg (nI_ne0 hp (by omega))
        · have hY := hG Y hg
          subst hg
          have hyx := xr_lt hY hn
          have e2 : st.1.getD i [] = Y := xr_inj hZr hY hn ((nI_eq (by omega) (by omega)).mp cg)
          rw [ha.1 r hr, (bfs_ext Ls (d + 1) i st).2.2 r (by rw [e, ← e2, hd]; exact nI_n4 (by omega))]
      · rw [if_neg cg, bd_t (p_fewestTo hZr hn), nm_eq, ha.1 _ (rk_5040 hZr hn), bfs, if_neg c]
        obtain ⟨few1, rch1, q1, q2⟩ := p_from77 (s2 := goalI G) (s5 := nI i) hn hL hlv (fun y19 y20 y21 y22 => f_X7_from_L29 (goalI G) (nI n) 3 (nI n) lv M (nI i + 1) y20 y21 y22) 3 0 fu st few rch (i := i) rfl hB hi2 rfl rfl ha (by show 3 < 8192; omega)
        obtain ⟨z, few2, rch2, q3, q4⟩ := ih (i + 1) M _ few1 rch1 (by omega) (eN_BI hn hL 3 0 st hB hi2 rfl rfl) q2 (by omega)
        refine ⟨z, few2, rch2, ?_, q4⟩
        refine q1.trans ?_
        rw [nI_1]
        exact q3
theorem p_fill : ∀ (d i M : Nat) (few : Nat → Int32), i + d = 5040 → (∀ r, r < i → few r = -4) → d < M → ∃ few', f_J7_fill_53178_L5 (-4) (nI 5040) 5040 M (nI i) few = some few' ∧ ∀ r, r < 5040 → few' r = -4
  | 0, i, M, few, hi, hd, hM => by
    obtain ⟨M, rfl⟩ : ∃ k, M = k + 1 := ⟨M - 1, by omega⟩
    obtain rfl : i = 5040 := by omega
    refine ⟨few, ?_, hd⟩
    rw [f_J7_fill_53178_L5, if_pos (nI_le (Nat.le_refl _) (by decide))]
  | d + 1, i, M, few, hi, hd, hM => by
    obtain ⟨M, rfl⟩ : ∃ k, M = k + 1 := ⟨M - 1, by omega⟩
    obtain ⟨d', q1, q2⟩ := p_fill d (i + 1) M (upd few i (-4)) (by omega) (fun r hr => by
      unfold upd
      by_cases c : r = i
      · rw [if_pos c]
      · rw [if_neg c]; exact hd r (by omega)) (by omega)
    refine ⟨d', ?_, q2⟩
    rw [f_J7_fill_53178_L5, if_neg (nI_ge (show i < 5040 by omega) (by decide)), gd_t (n_inb (show i < 5040 by omega) (by decide)), nI_clamp (by omega), nI_1]
    exact q1
theorem p_from {n : Nat} {Ls : Nat → List Nat} {lv : Nat → Int32} {G : Option (List Nat)} {Z : List Nat} (hZ : isRow n Z) (hn0 : 0 < n) (hn : n ≤ 7) (hL : ∀ k, k ≤ 2 → isRow n (Ls k)) (hlv : ∀ k, k ≤ 2 → lv k = nI (xr (Ls k))) (hG : ∀ Y, G = some Y → isRow n Y) (vb vs : Int32) (few rch : Nat → Int32) :
    ∃ z few' rch', f_X7_from (nI (xr Z)) (goalI G) (nI n) 3 vb vs few rch lv = some (nI n, z, few', rch') ∧ ∀ r, r < 5040 → (G = none ∨ ∃ Y, G = some Y ∧ r = rk Y) → few' r = (B Ls Z).2 r := by
  unfold B
  obtain ⟨few1, e1, e2⟩ := p_fill 5040 0 fu few (by omega) (fun r hr => by omega) (by show 5040 < 8192; omega)
  have hr := rk_5040 hZ hn
  obtain ⟨z, few2, rch2, e3, e4⟩ := p_from29 (G := G) hn0 hn hL hlv hG 5041 0 fu (bs0 Z) (upd few1 (rk Z) 0) (upd rch 0 (nI (xr Z))) (by omega) (bs0_BI hZ) ⟨fun r hr => by
    rw [bs0_at]
    unfold upd
    by_cases c : r = rk Z
    · rw [if_pos c, if_pos c]; rfl
    · rw [if_neg c, if_neg c, e2 r hr], fun i hi => by
    have : i = 0 := by have : i < 1 := hi; omega
    subst this
    rfl⟩ (by show 5041 < 8192; omega)
  refine ⟨z, few2, rch2, ?_, e4⟩
  unfold f_X7_from f_J7_fill_53178
  rw [nm_eq, show (0 : Int32) = nI 0 from rfl, bd_t e1, bd_t (p_reach1 hZ hn (len := 0) (v := nI 0) (by decide) (e2 _ hr))]
  exact e3
