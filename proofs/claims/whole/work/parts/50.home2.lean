/-! ===== the calls that lead home ===== -/
theorem m_home61 {n kk D : Nat} {Ls : Nat → List Nat} {Z : List Nat} {s dist ld rows line : Nat → Int32} {s1 s4 ve : Int32} (h : isRow n Z) (hn0 : 0 < n) (hn : n ≤ 7) (hs : s 0 = nI n) (hld : leadM n Ls ld) (hL : ∀ k, k ≤ 2 → isRow n (Ls k)) (hD : dist (rk Z) = nI (D + 1)) (hk : kk ≤ 2) (hy : dist (rk (mulp Z (Ls kk))) = nI D) (hno : ∀ j, j < kk → dist (rk (mulp Z (Ls j))) ≠ nI D)
    (k : Int32 → Int32 → (Nat → Int32) → (Nat → Int32) → Option (Int32 × Int32 × (Nat → Int32) × (Nat → Int32) × (Nat → Int32) × (Nat → Int32) × (Nat → Int32) × (Nat → Int32))) :
    ∀ (d j M : Nat) (c o : Nat → Int32), j + d = kk → d < M → ∃ c' o', f_X11_homeCall_L61 k s1 (nI (rk Z)) s4 ve s rows ld dist line M (nI j) (nI (rk (mulp Z (Ls j)))) c o = k (nI kk) (nI (rk (mulp Z (Ls kk)))) c' o'
  | 0, j, M, c, o, hj, hM => by
    obtain ⟨M, rfl⟩ : ∃ k, M = k + 1 := ⟨M - 1, by omega⟩
    obtain rfl : j = kk := by omega
    have r1 := rk_5040 (h.mul (hL j hk)) hn
    have r2 := rk_5040 h hn
    refine ⟨c, o, ?_⟩
    rw [f_X11_homeCall_L61, gd_t (n_inb r1 (by decide)), gd_t (n_inb r2 (by decide)), nI_clamp (by omega), nI_clamp (by omega), hD, hy, show (1 : Int32) = nI 1 from rfl, pk_sub (by omega), Nat.add_sub_cancel, if_pos rfl]
  | d + 1, j, M, c, o, hj, hM => by
    obtain ⟨M, rfl⟩ : ∃ k, M = k + 1 := ⟨M - 1, by omega⟩
    have r1 := rk_5040 (h.mul (hL j (by omega))) hn
    have r2 := rk_5040 h hn
    obtain ⟨c1, o1, e1⟩ := m_movedF h hn0 hn hs hld (hL (j + 1) (by omega)) (show j + 1 ≤ 2 by omega) c o
    obtain ⟨c2, o2, e2⟩ := m_home61 (s1 := s1) (s4 := s4) (ve := ve) (rows := rows) (line := line) h hn0 hn hs hld hL hD hk hy hno k d (j + 1) M c1 o1 (by omega) (by omega)
    refine ⟨c2, o2, ?_⟩
    rw [f_X11_homeCall_L61, gd_t (n_inb r1 (by decide)), gd_t (n_inb r2 (by decide)), nI_clamp (by omega), nI_clamp (by omega), hD, nI_1 j, show (1 : Int32) = nI 1 from rfl, pk_sub (by omega), Nat.add_sub_cancel, if_neg (hno j (by omega)), bd_t e1]
    exact e2
theorem home_steps {n idx : Nat} {Ls : Nat → List Nat} {s few lv dist ld rows line : Nat → Int32} {ve : Int32} (hn0 : 0 < n) (hn : n ≤ 7) (hs : s 0 = nI n) (hld : leadM n Ls ld) (hL : ∀ k, k ≤ 2 → isRow n (Ls k)) (hlv : ∀ k, k ≤ 2 → lv k = nI (xr (Ls k)))
    (hfew : ∀ r, r < 5040 → few r = (B (fun k => inv n (Ls k)) (List.range n)).2 r) (hdist : ∀ r, r < 5040 → dist r = (B (fun k => inv n (Ls k)) (List.range n)).2 r) (hidx : idx < 2 ^ 30) :
    ∀ (d i M M' D : Nat) (Z : List Nat) (s3 : Int32) (c o : Nat → Int32), i + d = idx → isRow n Z → (B (fun k => inv n (Ls k)) (List.range n)).2 (rk Z) = nI (D + d + 1) → D + d < 2 ^ 30 → d < M → d + 1 < M' →
    ∃ kk c' o', f_X1_callAt_L24 (fun y10 y11 => bd (f_X1_callFrom y10 (nI n) (nI n) few lv) (fun q12 => some q12)) (nI idx) (nI n) (nI n) few lv M (nI (xr Z)) (nI i) = some (nI kk)
      ∧ f_X11_homeCall_L44 (nI idx) ve s rows ld dist line M' (nI (rk Z)) s3 (nI i) c o = some (nI kk, ve, c', o', rows, ld, dist, line) := by
  intro d
  induction d with
  | zero =>
    intro i M M' D Z s3 c o hi hZ hD hDb hM hM'
    obtain ⟨M, rfl⟩ : ∃ k, M = k + 1 := ⟨M - 1, by omega⟩
    obtain ⟨M', rfl⟩ : ∃ k, M' = k + 1 + 1 := ⟨M' - 2, by omega⟩
    obtain rfl : i = idx := by omega
    obtain ⟨kk, hk, hy, hno⟩ := nearer hZ hn hL hD hn0 (by omega)
    have r0 := rk_5040 hZ hn
    have rj : ∀ j, j ≤ 2 → rk (mulp Z (Ls j)) < 5040 := fun j hj => rk_5040 (hZ.mul (hL j hj)) hn
    obtain ⟨c1, o1, e1⟩ := m_movedF hZ hn0 hn hs hld (hL 0 (by omega)) (show 0 ≤ 2 by omega) c o
    obtain ⟨c2, o2, e2⟩ := m_home61 (s1 := nI i) (s4 := nI i) (ve := ve) (rows := rows) (line := line) hZ hn0 hn hs hld hL ((hdist _ r0).trans hD) hk ((hdist _ (rj kk hk)).trans hy) (fun j hj w => hno j hj ((hdist _ (rj j (by omega))).symm.trans w)) (fun y18 y19 y20 y21 => f_X11_homeCall_L44 (nI i) ve s rows ld dist line (M' + 1) y19 y18 (nI i + 1) y20 y21) kk 0 fu c1 o1 (by omega) (by show kk < 8192; omega)
    refine ⟨kk, c2, o2, ?_, ?_⟩
    · rw [f_X1_callAt_L24, if_pos (nI_le (by omega) (by omega)), bd_t (p_callFrom hZ hn hL hlv ((hfew _ r0).trans hD) hk ((hfew _ (rj kk hk)).trans hy) (fun j hj w => hno j hj ((hfew _ (rj j (by omega))).symm.trans w)))]
    · rw [f_X11_homeCall_L44, if_neg (nI_nlt (by omega) (by omega)), bd_t (show f_X11_moved _ 0 0 _ _ _ _ = _ from e1)]
      refine e2.trans ?_
      rw [nI_1, f_X11_homeCall_L44, if_pos (nI_lt (by omega) (by omega))]
  | succ d ih =>
    intro i M M' D Z s3 c o hi hZ hD hDb hM hM'
    obtain ⟨M, rfl⟩ : ∃ k, M = k + 1 := ⟨M - 1, by omega⟩
    obtain ⟨M', rfl⟩ : ∃ k, M' = k + 1 := ⟨M' - 1, by omega⟩
    obtain ⟨kk, hk, hy, hno⟩ := nearer hZ hn hL hD hn0 (by omega)
    have r0 := rk_5040 hZ hn
    have rj : ∀ j, j ≤ 2 → rk (mulp Z (Ls j)) < 5040 := fun j hj => rk_5040 (hZ.mul (hL j hj)) hn
    obtain ⟨c1, o1, e1⟩ := m_movedF hZ hn0 hn hs hld (hL 0 (by omega)) (show 0 ≤ 2 by omega) c o
    obtain ⟨c2, o2, e2⟩ := m_home61 (s1 := nI idx) (s4 := nI i) (ve := ve) (rows := rows) (line := line) hZ hn0 hn hs hld hL ((hdist _ r0).trans hD) hk ((hdist _ (rj kk hk)).trans hy) (fun j hj w => hno j hj ((hdist _ (rj j (by omega))).symm.trans w)) (fun y18 y19 y20 y21 => f_X11_homeCall_L44 (nI idx) ve s rows ld dist line M' y19 y18 (nI i + 1) y20 y21) kk 0 fu c1 o1 (by omega) (by show kk < 8192; omega)
    obtain ⟨kz, c3, o3, e3, e4⟩ := ih (i + 1) M M' D (mulp Z (Ls kk)) (nI kk) c2 o2 (by omega) (hZ.mul (hL kk hk)) hy (by omega) (by omega) (by omega)
    refine ⟨kz, c3, o3, ?_, ?_⟩
    · rw [f_X1_callAt_L24, if_neg (nI_ge (by omega) (by omega)), bd_t (p_callFrom hZ hn hL hlv ((hfew _ r0).trans hD) hk ((hfew _ (rj kk hk)).trans hy) (fun j hj w => hno j hj ((hfew _ (rj j (by omega))).symm.trans w))), bd_t (p_behind hZ hn hL hlv hk), nI_1]
      exact e3
    · rw [f_X11_homeCall_L44, if_neg (nI_nlt (by omega) (by omega)), bd_t (show f_X11_moved _ 0 0 _ _ _ _ = _ from e1)]
      refine e2.trans ?_
      rw [nI_1]
      exact e4
theorem home_calls {n idx : Nat} {Ls : Nat → List Nat} {Z : List Nat} {s few lv dist ld rows line : Nat → Int32} {ve : Int32} (hZ : isRow n Z) (hn0 : 0 < n) (hn : n ≤ 7) (hs : s 0 = nI n) (hld : leadM n Ls ld) (hL : ∀ k, k ≤ 2 → isRow n (Ls k)) (hlv : ∀ k, k ≤ 2 → lv k = nI (xr (Ls k)))
    (hfew : ∀ r, r < 5040 → few r = (B (fun k => inv n (Ls k)) (List.range n)).2 r) (hdist : ∀ r, r < 5040 → dist r = (B (fun k => inv n (Ls k)) (List.range n)).2 r) (hidx : idx < 2 ^ 31) (c o : Nat → Int32) :
    ∃ v c' o', f_X1_callAt (nI (xr Z)) (nI idx) (nI n) (nI n) few lv = some v
      ∧ (if nI idx < dist (rk Z) then f_X11_homeCall_L44 (nI idx) ve s rows ld dist line fu (nI (rk Z)) 0 0 c o else some (-4, ve, c, o, rows, ld, dist, line)) = some (v, ve, c', o', rows, ld, dist, line) := by
  have r0 := rk_5040 hZ hn
  have hB : BI n (fun k => inv n (Ls k)) (B (fun k => inv n (Ls k)) (List.range n)) := by unfold B; exact bfs_BI hn (fun k hk => (hL k hk).inv) _ _ _ (bs0_BI (isRow.range n))
  unfold f_X1_callAt
  rw [bd_t (p_leadsFrom hZ hn), if_neg (nI_pos hidx), hfew _ r0, hdist _ r0]
  rcases hB.val hn (rk Z) with q | ⟨d, hd, e, -⟩
  · rw [q.1, if_neg (fun w => nI_pos hidx (Int32.lt_trans w (by decide))), if_neg (fun w => nI_pos hidx (Int32.lt_trans w (by decide)))]
    exact ⟨_, _, _, rfl, rfl⟩
  · rw [e]
    by_cases w : idx < d
    · rw [if_pos (nI_lt w (by omega)), if_pos (nI_lt w (by omega))]
      obtain ⟨kk, c', o', e1, e2⟩ := home_steps (rows := rows) (line := line) (ve := ve) hn0 hn hs hld hL hlv hfew hdist (show idx < 2 ^ 30 by omega) idx 0 fu fu (d - idx - 1) Z 0 c o (by omega) hZ (by rw [e, show d - idx - 1 + idx + 1 = d by omega]) (by omega) (by show idx < 8192; omega) (by show idx + 1 < 8192; omega)
      exact ⟨nI kk, c', o', e1, e2⟩
    · rw [if_neg (nI_nlt (by omega) (by omega)), if_neg (nI_nlt (by omega) (by omega))]
      exact ⟨_, _, _, rfl, rfl⟩
