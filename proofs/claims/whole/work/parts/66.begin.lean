/-! ===== what there is at the beginning; bells, both ===== -/
def mS (n : Nat) : List Nat := if n = 4 then [0, 9, 0, 9, 0, 9, 0, 3] else if n = 5 then [16, 1, 16, 1, 16, 1, 16, 1, 16, 19] else if n = 6 then [0, 33, 0, 33, 0, 33, 0, 33, 0, 33, 0, 3] else [64, 1, 64, 1, 64, 1, 64, 1, 64, 1, 64, 1, 64, 67]
def bS (n : Nat) : Nat := if n = 4 then 9 else if n = 5 then 25 else if n = 6 then 9 else 73
def gS (n : Nat) : Nat := if n = 4 then 12 else if n = 5 then 7 else if n = 6 then 15 else 79
def natS : List (List Nat) := [[49, 52, 53], [49, 52, 55], [49, 52], [51, 52], [49, 50, 51], [49, 50, 51, 52], [49, 50, 51, 52, 55],
  [120, 46, 49, 52, 46, 120, 46, 49, 52, 46, 120, 46, 49, 52, 46, 120, 46, 49, 50],
  [53, 46, 49, 46, 53, 46, 49, 46, 53, 46, 49, 46, 53, 46, 49, 46, 53, 46, 49, 50, 53],
  [120, 46, 49, 54, 46, 120, 46, 49, 54, 46, 120, 46, 49, 54, 46, 120, 46, 49, 54, 46, 120, 46, 49, 54, 46, 120, 46, 49, 50],
  [55, 46, 49, 46, 55, 46, 49, 46, 55, 46, 49, 46, 55, 46, 49, 46, 55, 46, 49, 46, 55, 46, 49, 46, 55, 46, 49, 50, 55]]
def txS (i : Nat) : Nat → Nat := fun j => (natS.getD i []).getD j 0
theorem ch_s : ∀ i, i < 11 → ∀ j, j < lenS.getD i 0 → chS i j = nI (txS i j) ∧ txS i j < 65536 := by decide +kernel
def ib (n : Nat) : Nat := if n = 5 then 0 else if n = 7 then 1 else 2
def ig (n : Nat) : Nat := if n = 4 then 3 else if n = 5 then 4 else if n = 6 then 5 else 6
def il (n : Nat) : Nat := if n = 4 then 7 else if n = 5 then 8 else if n = 6 then 9 else 10
theorem ix_s : ∀ n, n < 8 → 4 ≤ n → (f_X8_bob (nI n) = ib n ∧ f_X8_single (nI n) = ig n ∧ f_X8_lead (nI n) = il n) ∧ (ib n < 11 ∧ ig n < 11 ∧ il n < 11) := by decide +kernel
theorem len_s : ∀ i, i < 11 → lenS.getD i 0 ≤ 80 := by decide +kernel
theorem rd_b : ∀ n, n < 8 → 4 ≤ n → rd n (txS (ib n)) (lenS.getD (ib n) 0) 0 ([], 0, 0, false) = .inr [bS n] := by decide +kernel
theorem rd_g : ∀ n, n < 8 → 4 ≤ n → rd n (txS (ig n)) (lenS.getD (ig n) 0) 0 ([], 0, 0, false) = .inr [gS n] := by decide +kernel
theorem rd_l : ∀ n, n < 8 → 4 ≤ n → rd n (txS (il n)) (lenS.getD (il n) 0) 0 ([], 0, 0, false) = .inr (mS n) := by decide +kernel
theorem ok_b : ∀ n, n < 8 → 4 ≤ n → (1 ≤ (mS n).length ∧ (mS n).length ≤ 20 ∧ (mS n).length = 2 * n) ∧ (∀ c ∈ mS n, okb n c = true) ∧ okb n (bS n) = true ∧ okb n (gS n) = true := by decide +kernel
theorem okS {n : Nat} (h4 : 4 ≤ n) (hn : n ≤ 7) : OKs n (mS n) (bS n) (gS n) [] := by
  have h := ok_b n (by omega) h4
  exact ⟨⟨h4, hn⟩, ⟨h.1.1, h.1.2.1⟩, fun c hc => (okb_c hn).mp (h.2.1 c hc), (okb_c hn).mp h.2.2.1, (okb_c hn).mp h.2.2.2, by simp, fun k hk => by cases hk⟩
theorem p_start {n i : Nat} {C : List Nat} (h4 : 4 ≤ n) (hn : n ≤ 7) (hi : i < 11) (hr : rd n (txS i) (lenS.getD i 0) 0 ([], 0, 0, false) = .inr C) (rc rm rl rx : Int32) (rp : Nat → Int32) : ∃ a b d rp', f_X2_read (nI (lenS.getD i 0)) (nI n) (lenS.getD i 0) rc rm rl rx rp (chS i) = some (-4, nI C.length, a, b, d, rp') ∧ placesX C rp' := by
  obtain ⟨v, vo, a, b, e, f', e1, e2⟩ := p_read (np := lenS.getD i 0) h4 hn (Nat.le_refl _) (len_s i hi) (fun j hj => ch_s i hi j hj) rc rm rl rx rp
  rw [hr] at e2
  obtain ⟨g0, g1, g2⟩ := e2
  subst g0
  subst g1
  exact ⟨a, b, e, f', e1, g2⟩
theorem p_begin {n : Nat} (h4 : 4 ≤ n) (hn : n ≤ 7) (v0 v1 v2 v3 v4 rc rm rl rx : Int32) (places rp : Nat → Int32) : ∃ p' q1 q2 q3 q4 q5, f_X10_begin (nI n) v0 v1 v2 v3 v4 places rc rm rl rx rp = some (nI n, nI (mS n).length, nI (bS n), nI (gS n), 0, p', q1, q2, q3, q4, q5) ∧ placesX (mS n) p' := by
  have hx := ix_s n (by omega) h4
  have hm := (ok_b n (by omega) h4).1
  obtain ⟨a1, a2, a3, r1, e1, e2⟩ := p_start h4 hn hx.2.1 (rd_b n (by omega) h4) rc rm rl rx rp
  obtain ⟨b1', b2, b3, r2, e3, e4⟩ := p_start h4 hn hx.2.2.1 (rd_g n (by omega) h4) (nI [bS n].length) a1 a2 a3 r1
  obtain ⟨c1, c2, c3, r3, e5, e6⟩ := p_start h4 hn hx.2.2.2 (rd_l n (by omega) h4) (nI [gS n].length) b1' b2 b3 r2
  have h1 : r1 0 = nI (bS n) := e2 0 (by simp)
  have h2 : r2 0 = nI (gS n) := e4 0 (by simp)
  unfold f_X10_begin
  rw [hx.1.1, hx.1.2.1, hx.1.2.2, bd_t e1]
  dsimp only
  rw [show (0 : Int32).toNatClampNeg = 0 from rfl, nm_eq, bd_t e3]
  dsimp only
  rw [nm_eq, bd_t e5, h1, h2]
  refine ⟨_, _, _, _, _, _, rfl, fun j hj => ?_⟩
  show va_cpy r3 places 0 0 20 j = _
  rw [cpy_at (by omega)]
  exact e6 j hj
/-! the model lays -/
def layV (n : Nat) (s2 s3 s4 : Int32) : Int32 := if s4 ≤ (((2 : Int32) * nI n) - 1) then (if s4 = (((2 : Int32) * nI n) - 1) then ((3 : Int32) ||| s3) else (if (s4 - s4 / 2 * 2) = 0 then s3 else (if s2 = 0 then ((1 : Int32) ||| ((1 : Int32) <<< ((nI n - 1) &&& 31))) else (1 : Int32)))) else (0 : Int32)
def odd1 (n : Nat) : Int32 := if (nI n - nI n / 2 * 2) = 1 then (1 : Int32) else (0 : Int32)
def ten1 (n : Nat) : Int32 := if odd1 n = 0 then (0 : Int32) else ((1 : Int32) <<< ((nI n - 1) &&& 31))
theorem lay_s : ∀ n, n < 8 → 4 ≤ n → ∀ j, j < 20 → layV n (odd1 n) (ten1 n) (nI j) = nI ((mS n).getD j 0) := by decide +kernel
theorem m_lays53 {n : Nat} {s2 s3 : Int32} {V : Nat → Int32} (hV : ∀ j, j < 20 → layV n s2 s3 (nI j) = V j) (k : Int32 → (Nat → Int32) → Option (Nat → Int32)) : ∀ (d j M : Nat) (s : Nat → Int32), j + d = 20 → (∀ q, q < j → s (5 + q) = V q) → d < M → ∃ s', f_X11_lays_L53 k (nI n) s2 s3 M (nI j) s = k (nI 20) s' ∧ (∀ q, q < 20 → s' (5 + q) = V q) ∧ ∀ q, q < 5 → s' q = s q
  | 0, j, M, s, hj, h1, hM => by
    obtain ⟨M, rfl⟩ : ∃ k, M = k + 1 := ⟨M - 1, by omega⟩
    obtain rfl : j = 20 := by omega
    exact ⟨s, by rw [f_X11_lays_L53, if_pos (by decide)], h1, fun _ _ => rfl⟩
  | d + 1, j, M, s, hj, h1, hM => by
    obtain ⟨M, rfl⟩ : ∃ k, M = k + 1 := ⟨M - 1, by omega⟩
    obtain ⟨s', f1, f2, f3⟩ := m_lays53 hV k d (j + 1) M (upd s (5 + j) (layV n s2 s3 (nI j))) (by omega) (fun q hq => by
      by_cases z : q = j
      · rw [z, up_e, hV j (by omega)]
      · rw [up_n (by omega)]; exact h1 q (by omega)) (by omega)
    refine ⟨s', ?_, f2, fun q hq => by rw [f3 q hq, up_n (by omega)]⟩
    rw [f_X11_lays_L53, if_neg (show ¬ (20 : Int32) ≤ nI j from @nI_ge j 20 (by omega) (by decide)), nm_eq, nm_eq, show (5 : Int32) = nI 5 from rfl, nI_add, gd_t (n_inb (show 5 + j < 41 by omega) (by decide)), nI_clamp (by omega), nI_1]
    exact f1
theorem m_lays138 {s1 s3 : Int32} (k : Int32 → (Nat → Int32) → Option (Nat → Int32)) : ∀ (d j M : Nat) (s : Nat → Int32), j + d = 16 → d < M → ∃ s', f_X11_lays_L138 k s1 s3 M (nI j) s = k (nI 16) s' ∧ ∀ q, q < 25 → s' q = s q
  | 0, j, M, s, hj, hM => by
    obtain ⟨M, rfl⟩ : ∃ k, M = k + 1 := ⟨M - 1, by omega⟩
    obtain rfl : j = 16 := by omega
    exact ⟨s, by rw [f_X11_lays_L138, if_pos (by decide)], fun _ _ => rfl⟩
  | d + 1, j, M, s, hj, hM => by
    obtain ⟨M, rfl⟩ : ∃ k, M = k + 1 := ⟨M - 1, by omega⟩
    obtain ⟨s', f1, f3⟩ := m_lays138 (s1 := s1) (s3 := s3) k d (j + 1) M (upd s (25 + j) 0) (by omega) (by omega)
    refine ⟨s', ?_, fun q hq => by rw [f3 q hq, up_n (by omega)]⟩
    rw [f_X11_lays_L138, if_neg (show ¬ (16 : Int32) ≤ nI j from @nI_ge j 16 (by omega) (by decide)), show (25 : Int32) = nI 25 from rfl, nI_add, gd_t (n_inb (show 25 + j < 41 by omega) (by decide)), nI_clamp (by omega), nI_1]
    exact f1
theorem lay_c : ∀ n, n < 8 → 4 ≤ n → (9 : Int32) ||| ten1 n = nI (bS n) ∧ (if nI n = 4 then (12 : Int32) else (if nI n = 5 then (7 : Int32) else ((15 : Int32) ||| ten1 n))) = nI (gS n) ∧ (2 : Int32) * nI n = nI (mS n).length := by decide +kernel
theorem m_lays {n : Nat} (h4 : 4 ≤ n) (hn : n ≤ 7) (s : Nat → Int32) : ∃ s', f_X11_lays (nI n) s = some s' ∧ SR n (mS n) (bS n) (gS n) [] s' := by
  have hm := (ok_b n (by omega) h4).1
  have hc := lay_c n (by omega) h4
  obtain ⟨s1, e1, e2, e3⟩ := m_lays53 (lay_s n (by omega) h4) (fun y11 y12 => f_X11_lays_L138 (fun y15 y16 => nm (if nI n = 4 then (12 : Int32) else (if nI n = 5 then (7 : Int32) else ((15 : Int32) ||| ten1 n))) (fun w17 => some (upd (upd y16 (3 : Int32).toNatClampNeg ((9 : Int32) ||| ten1 n)) (4 : Int32).toNatClampNeg w17))) (nI n) (ten1 n) fu 0 y12) 20 0 fu (upd (upd (upd s 0 (nI n)) 1 ((2 : Int32) * nI n)) 2 0) (by omega) (fun q hq => by omega) (by show 20 < 8192; omega)
  obtain ⟨s2, e4, e5⟩ := m_lays138 (s1 := nI n) (s3 := ten1 n) (fun y15 y16 => nm (if nI n = 4 then (12 : Int32) else (if nI n = 5 then (7 : Int32) else ((15 : Int32) ||| ten1 n))) (fun w17 => some (upd (upd y16 (3 : Int32).toNatClampNeg ((9 : Int32) ||| ten1 n)) (4 : Int32).toNatClampNeg w17))) 16 0 fu s1 (by omega) (by show 16 < 8192; omega)
  refine ⟨upd (upd s2 3 (nI (bS n))) 4 (nI (gS n)), ?_, ?_, ?_, ?_, ?_, ?_, fun j hj => ?_, fun j hj => absurd hj (by simp)⟩
  · unfold f_X11_lays
    rw [nm_eq, nm_eq]
    refine e1.trans (e4.trans ?_)
    rw [nm_eq, hc.1, hc.2.1]
    rfl
  · rw [up_n (by omega), up_n (by omega), e5 _ (by omega), e3 _ (by omega), up_n (by omega), up_n (by omega), up_e]
  · rw [up_n (by omega), up_n (by omega), e5 _ (by omega), e3 _ (by omega), up_n (by omega), up_e, hc.2.2]
  · rw [up_n (by omega), up_n (by omega), e5 _ (by omega), e3 _ (by omega), up_e]; rfl
  · rw [up_n (by omega), up_e]
  · rw [up_e]
  · rw [up_n (by omega), up_n (by omega), e5 _ (by omega), e2 _ (by omega)]
theorem x_bells {t : TV} {hsz vp : Int32} {hh : Nat → TV} {s past : Nat → Int32} (h : Sx t hsz hh s vp past) (x rc rm rl rx : Int32) (rp : Nat → Int32) : ∃ v w0 w1 w2 w3 w4 w5 hs' hh' q1 q2 q3 q4 q5 vp' s' past', f_X10_bells x t.1 t.2.1 t.2.2.1 t.2.2.2.1 t.2.2.2.2.1 t.2.2.2.2.2.1 t.2.2.2.2.2.2 hsz hh rc rm rl rx rp = some (v, w0, w1, w2, w3, w4, w5, hs', hh', q1, q2, q3, q4, q5) ∧ f_X11_bells x vp s past = some (v, vp', s', past') ∧ Sx (w0, w1, w2, w3, w4, w5, t.2.2.2.2.2.2) hs' hh' s' vp' past' := by
  obtain ⟨a, P, hO, hT, hS, hP, rfl, rfl, hX, hM⟩ := id h
  unfold f_X10_bells f_X11_bells
  rw [wi_in]
  by_cases c0 : f_X11_in x 4 7 = 0
  · rw [if_pos c0, if_pos c0]
    exact ⟨_, _, _, _, _, _, _, _, _, _, _, _, _, _, _, _, _, rfl, rfl, h⟩
  · rw [if_neg c0, if_neg c0]
    have hx : ∃ n, 4 ≤ n ∧ n ≤ 7 ∧ x = nI n := by
      unfold f_X11_in at c0
      by_cases w : x < 4
      · exact absurd (if_pos w) c0
      · rw [if_neg w] at c0
        obtain ⟨c, hc, rfl⟩ := nI_of (x := x) (fun q => w (Int32.lt_trans q (by decide)))
        by_cases w2 : 7 < nI c
        · exact absurd (if_pos w2) c0
        · refine ⟨c, ?_, ?_, rfl⟩
          · rcases Nat.lt_or_ge c 4 with q | q
            · exact absurd (show nI c < 4 from @nI_lt c 4 q (by decide)) w
            · exact q
          · rcases Nat.lt_or_ge 7 c with q | q
            · exact absurd (show 7 < nI c from @nI_lt 7 c q hc) w2
            · exact q
    obtain ⟨n, h4, hn, rfl⟩ := hx
    obtain ⟨hh', e1, e2⟩ := p_record hP hX hO hT
    obtain ⟨past', e3, e4⟩ := m_changes hP hM hO hS
    obtain ⟨p', q1, q2, q3, q4, q5, e5, e6⟩ := p_begin h4 hn t.1 t.2.1 t.2.2.1 t.2.2.2.1 t.2.2.2.2.1 rc rm rl rx t.2.2.2.2.2.1 rp
    obtain ⟨s', e7, e8⟩ := m_lays h4 hn s
    rw [bd_t e1, bd_t e5, bd_t e3, nm_eq, bd_t e7]
    dsimp only
    rw [show s (0 : Int32).toNatClampNeg = t.1 from hS.1.trans hT.1.symm]
    exact ⟨_, _, _, _, _, _, _, _, _, _, _, _, _, _, _, _, _, rfl, rfl, (n, mS n, bS n, gS n, []), push P a, okS h4 hn, ⟨rfl, rfl, rfl, rfl, rfl, e6, fun j hj => absurd hj (by simp)⟩, e8, push_len4 hP, rfl, rfl, e2, e4⟩
/-- at the beginning -/
theorem x_init : ∃ w0 w1 w2 w3 w4 w5 q1 q2 q3 q4 q5 s', f_X10_init = some (w0, w1, w2, w3, w4, w5, q1, q2, q3, q4, q5) ∧ f_X11_init = some s' ∧ ∀ kinds hh past, Sx (w0, w1, w2, w3, w4, w5, kinds) 0 hh s' 0 past := by
  obtain ⟨p', q1, q2, q3, q4, q5, e5, e6⟩ := p_begin (n := 6) (by omega) (by omega) 0 0 0 0 0 0 0 0 0 (fun _ => 0) (fun _ => 0)
  obtain ⟨s', e7, e8⟩ := m_lays (n := 6) (by omega) (by omega) (fun _ => 0)
  unfold f_X10_init f_X11_init
  rw [bd_t (show f_X10_begin 6 0 0 0 0 0 _ 0 0 0 0 _ = _ from e5), bd_t (show f_X11_lays 6 _ = _ from e7)]
  exact ⟨_, _, _, _, _, _, _, _, _, _, _, _, rfl, rfl, fun kinds hh past => ⟨(6, mS 6, bS 6, gS 6, []), [], okS (by omega) (by omega), ⟨rfl, rfl, rfl, rfl, rfl, e6, fun j hj => absurd hj (by simp)⟩, e8, by simp, rfl, rfl, fun i a e => absurd e (by simp), fun i a e => absurd e (by simp)⟩⟩
