/-! ===== what there is at the beginning; bells, both ===== -/
def mS (n : Nat) : List Nat := if n = 4 then [0, 9, 0, 9, 0, 9, 0, 3] else if n = 5 then [16, 1, 16, 1, 16, 1, 16, 1, 16, 19] else if n = 6 then [0, 33, 0, 33, 0, 33, 0, 33, 0, 33, 0, 3] else [64, 1, 64, 1, 64, 1, 64, 1, 64, 1, 64, 1, 64, 67]
def bS (n : Nat) : Nat := if n = 4 then 9 else if n = 5 then 25 else if n = 6 then 9 else 73
def gS (n : Nat) : Nat := if n = 4 then 12 else if n = 5 then 7 else if n = 6 then 15 else 79
def natS : List (List Nat) := [[49, 52, 53], [49, 52, 55], [49, 52], [51, 52], [49, 50, 51], [49, 50, 51, 52], [49, 50, 51, 52, 55],
  [120, 46, 49, 52, 46, 120, 46, 49, 52, 46, 120, 46, 49, 52, 46, 120, 46, 49, 50],
  [53, 46, 49, 46, 53, 46, 49, 46, 53, 46, 49, 46, 53, 46, 49, 46, 53, 46, 49, 50, 53],
  [120, 46, 49, 54, 46, 120, 46, 49, 54, 46, 120, 46, 49, 54, 46, 120, 46, 49, 54, 46, 120, 46, 49, 54, 46, 120, 46, 49, 50],
  [55, 46, 49, 46, 55, 46, 49, 46, 55, 46, 49, 46, 55, 46, 49, 46, 55, 46, 49, 46, 55, 46, 49, 46, 55, 46, 49, 50, 55]]
def txS (i : Nat) : Nat → Nat := fun j => (natS.getD i []).getD j 0
theorem ch_s : ∀ i, i < 11 → ∀ j, j < lenS.getD i 0 → chS i j = nI (txS i j) ∧ txS i j < 65536 := by decide +kernel
def ib (n : Nat) : Nat := if n = 5 then 0 else if n = 7 then 1 else 2
def ig (n : Nat) : Nat := if n = 4 then 3 else if n = 5 then 4 else if n = 6 then 5 else 6
def il (n : Nat) : Nat := if n = 4 then 7 else if n = 5 then 8 else if n = 6 then 9 else 10
theorem ix_s : ∀ n, n < 8 → 4 ≤ n → (f_X8_bob (nI n) = ib n ∧ f_X8_single (nI n) = ig n ∧ f_X8_lead (nI n) = il n) ∧ (ib n < 11 ∧ ig n < 11 ∧ il n < 11) := by decide +kernel
theorem len_s : ∀ i, i < 11 → lenS.getD i 0 ≤ 80 := by decide +kernel
theorem rd_b : ∀ n, n < 8 → 4 ≤ n → rd n (txS (ib n)) (lenS.getD (ib n) 0) 0 ([], 0, 0, false) = .inr [bS n] := by decide +kernel
theorem rd_g : ∀ n, n < 8 → 4 ≤ n → rd n (txS (ig n)) (lenS.getD (ig n) 0) 0 ([], 0, 0, false) = .inr [gS n] := by decide +kernel
theorem rd_l : ∀ n, n < 8 → 4 ≤ n → rd n (txS (il n)) (lenS.getD (il n) 0) 0 ([], 0, 0, false) = .inr (mS n) := by decide +kernel
theorem ok_b : ∀ n, n < 8 → 4 ≤ n → (1 ≤ (mS n).length ∧ (mS n).length ≤ 20 ∧ (mS n).length = 2 * n) ∧ (∀ c ∈ mS n, okb n c = true) ∧ okb n (bS n) = true ∧ okb n (gS n) = true := by decide +kernel
theorem okS {n : Nat} (h4 : 4 ≤ n) (hn : n ≤ 7) : OKs n (mS n) (bS n) (gS n) [] := by
  have h := ok_b n (by omega) h4
  exact ⟨⟨h4, hn⟩, ⟨h.1.1, h.1.2.1⟩, fun c hc => (okb_c hn).mp (h.2.1 c hc), (okb_c hn).mp h.2.2.1, (okb_c hn).mp h.2.2.2, by simp, fun k hk => by cases hk⟩
theorem p_start {n i : Nat} {C : List Nat} (h4 : 4 ≤ n) (hn : n ≤ 7) (hi : i < 11) (hr : rd n (txS i) (lenS.getD i 0) 0 ([], 0, 0, false) = .inr C) (rc rm rl rx : Int32) (rp : Nat → Int32) : ∃ a b d rp', f_X2_read (nI (lenS.getD i 0)) (nI n) (lenS.getD i 0) rc rm rl rx rp (chS i) = some (-4, nI C.length, a, b, d, rp') ∧ placesX C rp' := by
  obtain ⟨v, vo, a, b, e, f', e1, e2⟩ := p_read (np := lenS.getD i 0) h4 hn (Nat.le_refl _) (len_s i hi) (fun j hj => ch_s i hi j hj) rc rm rl rx rp
  rw [hr] at e2
  obtain ⟨g0, g1, g2⟩ := e2
  subst g0
  subst g1
  exact ⟨a, b, e, f', e1, g2⟩
theorem p_begin {n : Nat} (h4 : 4 ≤ n) (hn : n ≤ 7) (v0 v1 v2 v3 v4 rc rm rl rx : Int32) (places rp : Nat → Int32) : ∃ p' q1 q2 q3 q4 q5, f_X10_begin (nI n) v0 v1 v2 v3 v4 places rc rm rl rx rp = some (nI n, nI (mS n).length, nI (bS n), nI (gS n), 0, p', q1, q2, q3, q4, q5) ∧ placesX (mS n) p' := by
  have hx := ix_s n (by omega) h4
  have hm := (ok_b n (by omega) h4).1
  obtain ⟨a1, a2, a3, r1, e1, e2⟩ := p_start h4 hn hx.2.1 (rd_b n (by omega) h4) rc rm rl rx rp
  obtain ⟨b1', b2, b3, r2, e3, e4⟩ := p_start h4 hn hx.2.2.1 (rd_g n (by omega) h4) (nI [bS n].length) a1 a2 a3 r1
  obtain ⟨c1, c2, c3, r3, e5, e6⟩ := p_start h4 hn hx.2.2.2 (rd_l n (by omega) h4) (nI [gS n].length) b1' b2 b3 r2
  have h1 : r1 0 = nI (bS n) := e2 0 (by simp)
  have h2 : r2 0 = nI (gS n) := e4 0 (by simp)
  unfold f_X10_begin
  rw [hx.1.1, hx.1.2.1, hx.1.2.2, bd_t e1]
  dsimp only
  rw [show (0 : Int32).toNatClampNeg = 0 from rfl, nm_eq, bd_t e3]
  dsimp only
  rw [nm_eq, bd_t e5, h1, h2]
  refine ⟨_, _, _, _, _, _, rfl, fun j hj => ?_⟩
  show va_cpy r3 places 0 0 20 j = _
  rw [cpy_at (by omega)]
  exact e6 j hj
/-! the model lays -/
def layV (n : Nat) (s2 s3 s4 : Int32) : Int32 := if s4 ≤ (((2 : Int32) * nI n) - 1) then (if s4 = (((2 : Int32) * nI n) - 1) then ((3 : Int32) ||| s3) else (if (s4 - s4 / 2 * 2) = 0 then s3 else (if s2 = 0 then ((1 : Int32) ||| ((1 : Int32) <<< ((nI n - 1) &&& 31))) else (1 : Int32)))) else (0 : Int32)
def odd1 (n : Nat) : Int32 := if (nI n - nI n / 2 * 2) = 1 then (1 : Int32) else (0 : Int32)
def ten1 (n : Nat) : Int32 := if odd1 n = 0 then (0 : Int32) else ((1 : Int32) <<< ((nI n - 1) &&& 31))
theorem lay_s : ∀ n, n < 8 → 4 ≤ n → ∀ j, j < 20 → layV n (odd1 n) (ten1 n) (nI j) = nI ((mS n).getD j 0) := by decide +kernel
theorem lay_c : ∀ n, n < 8 → 4 ≤ n → (9 : Int32) ||| ten1 n = nI (bS n) ∧ (if nI n = 4 then (12 : Int32) else (if nI n = 5 then (7 : Int32) else ((15 : Int32) ||| ten1 n))) = nI (gS n) ∧ (2 : Int32) * nI n = nI (mS n).length := by decide +kernel
