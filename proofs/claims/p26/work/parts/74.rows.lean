/-! ===== the law's rows ===== -/
def LR (a : AT) (t m c l : Nat → Int32) : Prop := t 0 = nI a.1 ∧ t 1 = nI a.2.1.length ∧ t 2 = nI a.2.2.2.2.length ∧ (∀ j, j < a.2.1.length → m j = nI (a.2.1.getD j 0)) ∧ c 1 = nI a.2.2.1 ∧ c 2 = nI a.2.2.2.1 ∧ ∀ j, j < a.2.2.2.2.length → l j = nI (a.2.2.2.2.getD j 0)
theorem nzb_t {k : Nat} (h0 : 0 < k) (h : k < 2 ^ 31) : nzb (nI k) = true := by
  unfold nzb
  exact decide_eq_true (nI_ne0 h0 h)
theorem tc_get {m : List Nat} {b g : Nat} (h1 : 1 ≤ m.length) : ∀ (l : List Nat) (k : Nat), k < l.length * m.length → (tc m b g l).getD k 0 = (lc m b g (l.getD (k / m.length) 0)).getD (k % m.length) 0
  | [], k, h => by simp at h
  | x :: l, k, h => by
    have e : tc m b g (x :: l) = lc m b g x ++ tc m b g l := by simp [tc]
    have hx : (lc m b g x).length = m.length := lc_len h1
    rw [e]
    by_cases c : k < m.length
    · rw [getD_app1 (by omega), Nat.div_eq_of_lt c, Nat.mod_eq_of_lt c]; rfl
    · obtain ⟨j, rfl⟩ : ∃ j, k = m.length + j := ⟨k - m.length, by omega⟩
      have hj : j < l.length * m.length := by
        rw [List.length_cons, Nat.add_mul, Nat.one_mul] at h
        omega
      have := getD_app2 (A := lc m b g x) (B := tc m b g l) (i := j)
      rw [hx] at this
      rw [this, tc_get h1 l j hj, Nat.add_div_left _ (by omega), Nat.add_mod_left]
      rfl
theorem div_lt_len {k l m : Nat} (h : k < l * m) : k / m < l := Nat.div_lt_of_lt_mul (by rw [Nat.mul_comm]; exact h)
theorem L_change {a : AT} {t m c l : Nat → Int32} (hO : OKa a) (hR : LR a t m c l) {k : Nat} (hk : k < lastA a) : f_L_change (nI k) t m c l = some (nI ((tc a.2.1 a.2.2.1 a.2.2.2.1 a.2.2.2.2).getD k 0)) := by
  obtain ⟨n, ml, b, g, kl⟩ := a
  obtain ⟨hn, ⟨hm1, hm⟩, hmo, hbo, hgo, hl, hl2⟩ := id hO
  obtain ⟨r0, r1, r2, r3, r4, r5, r6⟩ := hR
  dsimp only at r0 r1 r2 r3 r4 r5 r6 hn hm1 hm hl hl2
  change k < kl.length * ml.length at hk
  have hd := div_lt_len hk
  have hmod : k % ml.length < ml.length := Nat.mod_lt _ (by omega)
  have hk31 : k < 2 ^ 31 := by
    have : kl.length * ml.length ≤ 16 * 20 := Nat.mul_le_mul hl hm
    omega
  have hkd := hl2 _ (getD_mem hd)
  show _ = some (nI ((tc ml b g kl).getD k 0))
  rw [tc_get hm1 kl k hk]
  unfold f_L_change
  rw [show (1 : Int32).toNatClampNeg = 1 from rfl, r1, gd_t (nzb_t (by omega) (by omega)), nm_eq, pk_rem hk31 (by omega) (by omega), pk_div hk31 (by omega) (by omega), gd_t (n_inb (show k / ml.length < 16 by omega) (by decide)), nI_clamp (by omega), r6 _ hd, nm_eq, show (1 : Int32) = nI 1 from rfl, pk_sub (by omega), nI_clamp (by omega), lc_at hmod]
  generalize kl.getD (k / ml.length) 0 = kd at hkd ⊢
  by_cases c1 : k % ml.length + 1 = ml.length
  · rw [if_pos (congrArg nI (show k % ml.length = ml.length - 1 by omega))]
    rcases (show kd = 0 ∨ kd = 1 ∨ kd = 2 by omega) with rfl | rfl | rfl
    · rw [if_pos (show nI 0 ≤ 0 by decide), gd_t (n_inb (show k % ml.length < 20 by omega) (by decide)), if_neg (by omega), if_neg (by omega), r3 _ hmod]
    · rw [if_neg (show ¬ nI 1 ≤ 0 by decide), gd_t (show inb (nI 1) 3 = true by decide), if_pos ⟨c1, rfl⟩, show (nI 1).toNatClampNeg = 1 from rfl, r4]
    · rw [if_neg (show ¬ nI 2 ≤ 0 by decide), gd_t (show inb (nI 2) 3 = true by decide), if_neg (by omega), if_pos ⟨c1, rfl⟩, show (nI 2).toNatClampNeg = 2 from rfl, r5]
  · rw [if_neg (fun q => c1 (by have := (nI_eq (by omega) (by omega)).mp q; omega)), gd_t (n_inb (show k % ml.length < 20 by omega) (by decide)), if_neg (by omega), if_neg (by omega), r3 _ hmod]
theorem RA_succ {a : AT} {k : Nat} (h1 : 1 ≤ a.2.1.length) (hk : k < lastA a) : RA a (k + 1) = cg ((tc a.2.1 a.2.2.1 a.2.2.2.1 a.2.2.2.2).getD k 0) (RA a k) := by
  unfold RA rws
  rw [take_snoc (by rw [tc_len h1]; exact hk), run_app]
  rfl
theorem RA_row (a : AT) (i : Nat) : isRow a.1 (RA a i) := rws_row i
theorem tc_ok {a : AT} (hO : OKa a) {k : Nat} (hk : k < lastA a) : okc a.1 ((tc a.2.1 a.2.2.1 a.2.2.2.1 a.2.2.2.2).getD k 0) := by
  obtain ⟨n, ml, b, g, kl⟩ := a
  obtain ⟨hn, ⟨hm1, hm⟩, hmo, hbo, hgo, hl, hl2⟩ := id hO
  dsimp only at hm1
  show okc n ((tc ml b g kl).getD k 0)
  rw [tc_get hm1 kl k hk]
  exact lc_ok hmo hbo hgo _ (getD_mem (by rw [lc_len hm1]; exact Nat.mod_lt _ (by omega)))
/-! the rows as bits -/
def wv (F : Nat → Nat) (j : Nat) : Nat := F (3 * j) + F (3 * j + 1) * 2097152 + F (3 * j + 2) * 4398046511104
def cut0 (R : Nat → List Nat) (k i : Nat) : Nat := if i ≤ k then cd (R i) else 0
def WR (n : Nat) (R : Nat → List Nat) (T : Nat) (w : Nat → Int64) : Prop := ∀ i, i ≤ T → isRow n (R i) ∧ f_L_rowAt (nI i) w = some (lN (cd (R i)))
theorem wv_lt {F : Nat → Nat} (h : ∀ i, F i < 2097152) (j : Nat) : wv F j < 2 ^ 63 := by
  have h0 := h (3 * j); have h1 := h (3 * j + 1); have h2 := h (3 * j + 2)
  unfold wv
  omega
theorem cut0_lt {n : Nat} {R : Nat → List Nat} (hR : ∀ i, isRow n (R i)) (hn : n ≤ 7) (k i : Nat) : cut0 R k i < 2097152 := by
  unfold cut0
  split
  · exact cd_lt (hR i) hn
  · decide
theorem wv_step {n : Nat} {R : Nat → List Nat} (hR : ∀ i, isRow n (R i)) (hn : n ≤ 7) (k : Nat) : lN (wv (cut0 R k) ((k + 1) / 3)) ||| (lN (cd (R (k + 1))) <<< ((nI (21 * ((k + 1) % 3))).toInt64 &&& 63)) = lN (wv (cut0 R (k + 1)) ((k + 1) / 3)) := by
  have hc := cd_lt (hR (k + 1)) hn
  obtain ⟨j, e, he, hi⟩ : ∃ j e, e < 3 ∧ k + 1 = 3 * j + e := ⟨(k + 1) / 3, (k + 1) % 3, Nat.mod_lt _ (by decide), by omega⟩
  have hj : (k + 1) / 3 = j := by omega
  have hm : (k + 1) % 3 = e := by omega
  rw [hj, hm, wb_shl _ (by omega)]
  have key : ∀ (A B e' : Nat), A < 8 ^ (7 * e') → B < 2097152 → e' ≤ 2 → lN A ||| lN (B * 2 ^ (21 * e')) = lN (A + 2 ^ (21 * e') * B) := by
    intro A B e' hA hB he'
    have h8 : 8 ^ (7 * e') = 2 ^ (21 * e') := by rw [show (8 : Nat) = 2 ^ 3 from rfl, ← Nat.pow_mul]; congr 1; omega
    have hb : B * 2 ^ (21 * e') < 2 ^ 64 := by
      rcases (show e' = 0 ∨ e' = 1 ∨ e' = 2 by omega) with rfl | rfl | rfl <;> omega
    have ha : A < 2 ^ 64 := by
      rw [h8] at hA
      rcases (show e' = 0 ∨ e' = 1 ∨ e' = 2 by omega) with rfl | rfl | rfl <;> omega
    rw [wb_or ha hb, ← h8, or_add hA]
  have f : ∀ i, i ≤ k → cut0 R k i = cut0 R (k + 1) i := fun i q => by unfold cut0; rw [if_pos q, if_pos (by omega)]
  have z : ∀ i, k < i → cut0 R k i = 0 := fun i q => by unfold cut0; rw [if_neg (by omega)]
  have z1 : ∀ i, k + 1 < i → cut0 R (k + 1) i = 0 := fun i q => by unfold cut0; rw [if_neg (by omega)]
  have v1 : cut0 R (k + 1) (k + 1) = cd (R (k + 1)) := by unfold cut0; rw [if_pos (Nat.le_refl _)]
  have b := cut0_lt hR hn k
  unfold wv
  rcases (show e = 0 ∨ e = 1 ∨ e = 2 by omega) with rfl | rfl | rfl
  · rw [z (3 * j) (by omega), z (3 * j + 1) (by omega), z (3 * j + 2) (by omega), z1 (3 * j + 1) (by omega), z1 (3 * j + 2) (by omega), show 3 * j = k + 1 by omega, v1, key 0 _ 0 (by decide) hc (by omega)]
    exact congrArg lN (by omega)
  · rw [z (3 * j + 1) (by omega), z (3 * j + 2) (by omega), z1 (3 * j + 2) (by omega), f (3 * j) (by omega), show 3 * j + 1 = k + 1 by omega, v1, key _ _ 1 (by have := cut0_lt hR hn (k + 1) (3 * j); omega) hc (by omega)]
    exact congrArg lN (by omega)
  · have b1 := cut0_lt hR hn (k + 1) (3 * j)
    have b2 := cut0_lt hR hn (k + 1) (3 * j + 1)
    rw [z (3 * j + 2) (by omega), f (3 * j) (by omega), f (3 * j + 1) (by omega), show 3 * j + 2 = k + 1 by omega, v1, key _ _ 2 (by omega) hc (by omega)]
    exact congrArg lN (by omega)
theorem wv_other {R : Nat → List Nat} {k j : Nat} (h : j ≠ (k + 1) / 3) : wv (cut0 R (k + 1)) j = wv (cut0 R k) j := by
  have f : ∀ i, i ≠ k + 1 → cut0 R (k + 1) i = cut0 R k i := fun i q => by
    unfold cut0
    by_cases c : i ≤ k
    · rw [if_pos c, if_pos (by omega)]
    · rw [if_neg c, if_neg (by omega)]
  unfold wv
  rw [f _ (by omega), f _ (by omega), f _ (by omega)]
theorem L_rowAt {n k i : Nat} {R : Nat → List Nat} {w : Nat → Int64} (hR : ∀ i, isRow n (R i)) (hn : n ≤ 7) (hw : ∀ j, j < 64 → w j = lN (wv (cut0 R k) j)) (hk : k < 190) (hi : i ≤ k) : f_L_rowAt (nI i) w = some (lN (cd (R i))) := by
  have b := cut0_lt hR hn k
  unfold f_L_rowAt
  rw [show (3 : Int32) = nI 3 from rfl, pk_rem (by omega) (by decide) (by decide), pk_div (by omega) (by decide) (by decide), gd_t (n_inb (show i / 3 < 64 by omega) (by decide)), nI_clamp (by omega), hw _ (by omega), show (21 : Int32) = nI 21 from rfl, pk_mul, l_shr (wv_lt b _) (by omega), show (2097151 : Int64) = lN (2 ^ 21 - 1) from rfl, wb_mask (Nat.lt_of_le_of_lt (Nat.div_le_self _ _) (by have := wv_lt b (i / 3); omega)) (by omega)]
  congr 2
  obtain ⟨j, e, he, hi2⟩ : ∃ j e, e < 3 ∧ i = 3 * j + e := ⟨i / 3, i % 3, Nat.mod_lt _ (by decide), by omega⟩
  have hj : i / 3 = j := by omega
  have hm : i % 3 = e := by omega
  rw [hj, hm]
  have v : cut0 R k i = cd (R i) := by unfold cut0; rw [if_pos hi]
  have b0 := b (3 * j); have b1 := b (3 * j + 1); have b2 := b (3 * j + 2)
  rw [← v, hi2]
  unfold wv
  rcases (show e = 0 ∨ e = 1 ∨ e = 2 by omega) with rfl | rfl | rfl
  · show (_ / 1) % 2097152 = cut0 R k (3 * j)
    rw [Nat.div_one]; omega
  · show (_ / 2097152) % 2097152 = _
    omega
  · show (_ / 4398046511104) % 2097152 = _
    omega
theorem L_all {a : AT} {t m c l r : Nat → Int32} {w : Nat → Int64} (hO : OKa a) (hR : LR a t m c l) (hT : lastA a ≤ 180) : ∃ r' w', f_L_all t m c l r w = some (r', w') ∧ WR a.1 (RA a) (lastA a) w' := by
  have hn : 4 ≤ a.1 ∧ a.1 ≤ 7 := hO.1
  have hm1 : 1 ≤ a.2.1.length := hO.2.1.1
  obtain ⟨r0, r1, r2, -⟩ := id hR
  have hRr : ∀ i, isRow a.1 (RA a i) := RA_row a
  have hT31 : a.2.2.2.2.length * a.2.1.length < 2 ^ 31 := by
    have : lastA a < 2 ^ 31 := by omega
    exact this
  have L3 : ∀ (k : Int32 → (Nat → Int64) → Option ((Nat → Int32) × (Nat → Int64))) (d j M : Nat) (w : Nat → Int64), j + d = 64 → (∀ q, q < j → w q = lN 0) → d < M → ∃ w', f_L_all_L3 k t m c l r M (nI j) w = k (nI 64) w' ∧ ∀ q, q < 64 → w' q = lN 0 := by
    intro k d
    induction d with
    | zero =>
      intro j M w hj h1 hM
      obtain ⟨M, rfl⟩ : ∃ k, M = k + 1 := ⟨M - 1, by omega⟩
      obtain rfl : j = 64 := by omega
      exact ⟨w, by rw [f_L_all_L3, if_pos (by decide)], h1⟩
    | succ d ih =>
      intro j M w hj h1 hM
      obtain ⟨M, rfl⟩ : ∃ k, M = k + 1 := ⟨M - 1, by omega⟩
      obtain ⟨w', e1, e2⟩ := ih (j + 1) M (vp_updL w j 0) (by omega) (fun q hq => by
        by_cases c : q = j
        · rw [c, pk_uLs]; rfl
        · rw [pk_uLn c]; exact h1 q (by omega)) (by omega)
      refine ⟨w', ?_, e2⟩
      rw [f_L_all_L3, if_neg (show ¬ (64 : Int32) ≤ nI j from @nI_ge j 64 (by omega) (by decide)), gd_t (n_inb (show j < 64 by omega) (by decide)), nI_clamp (by omega), nI_1]
      exact e1
  have L45 : ∀ (d k M : Nat) (f : Nat → Int32) (w : Nat → Int64), k + d = lastA a → isCL a.1 (RA a k) f → (∀ j, j < 64 → w j = lN (wv (cut0 (RA a) k) j)) → d < M → ∃ f' w', f_L_all_L45 t m c l M (nI k) f w = some (f', w') ∧ ∀ j, j < 64 → w' j = lN (wv (cut0 (RA a) (lastA a)) j) := by
    intro d
    induction d with
    | zero =>
      intro k M f w hk hf hw hM
      obtain ⟨M, rfl⟩ : ∃ k, M = k + 1 := ⟨M - 1, by omega⟩
      obtain rfl : k = lastA a := by omega
      refine ⟨f, w, ?_, hw⟩
      rw [f_L_all_L45, show (1 : Int32).toNatClampNeg = 1 from rfl, show (2 : Int32).toNatClampNeg = 2 from rfl, r1, r2, pk_mul, if_pos]
      rw [Nat.mul_comm]
      exact nI_le (Nat.le_refl _) hT31
    | succ d ih =>
      intro k M f w hk hf hw hM
      obtain ⟨M, rfl⟩ : ∃ k, M = k + 1 := ⟨M - 1, by omega⟩
      have hkT : k < lastA a := by omega
      have hok := tc_ok hO hkT
      obtain ⟨f1, e1, e2⟩ := L_ring (hRr k) hn.2 (by have := hok.1; omega) hf hok.2.2
      rw [← RA_succ hm1 hkT] at e2
      have e3 := L_code (hRr (k + 1)) hn.2 e2
      obtain ⟨f', w', e4, e5⟩ := ih (k + 1) M f1 (vp_updL w ((k + 1) / 3) (lN (wv (cut0 (RA a) (k + 1)) ((k + 1) / 3)))) (by omega) e2 (fun j hj => by
        by_cases c : j = (k + 1) / 3
        · rw [c, pk_uLs]
        · rw [pk_uLn c, hw j hj, wv_other c]) (by omega)
      refine ⟨f', w', ?_, e5⟩
      rw [f_L_all_L45, show (0 : Int32).toNatClampNeg = 0 from rfl, show (1 : Int32).toNatClampNeg = 1 from rfl, show (2 : Int32).toNatClampNeg = 2 from rfl, r0, r1, r2, pk_mul, if_neg (by rw [Nat.mul_comm]; exact nI_ge hkT hT31), bd_t (L_change hO hR hkT), bd_t e1, nI_1, show (3 : Int32) = nI 3 from rfl, pk_rem (by omega) (by decide) (by decide), pk_div (by omega) (by decide) (by decide), gd_t (n_inb (show (k + 1) / 3 < 64 by omega) (by decide)), bd_t e3, nI_clamp (by omega), hw _ (by omega), show (21 : Int32) = nI 21 from rfl, pk_mul, wv_step hRr hn.2]
      exact e4
  obtain ⟨w1, e1, e2⟩ := L3 (fun (y3 : Int32) (y4 : Nat → Int64) => bd (f_L_rounds (t (0 : Int32).toNatClampNeg) r) (fun q5 => bd (f_L_code (t (0 : Int32).toNatClampNeg) q5) (fun q7 => (f_L_all_L45 t m c l fu 0 q5 (vp_updL y4 (0 : Int32).toNatClampNeg q7))))) 64 0 fu w (by omega) (fun q hq => by omega) (by show 64 < 8192; omega)
  obtain ⟨f1, e3, e4⟩ := L_rounds hn.2 r
  have hR0 : RA a 0 = List.range a.1 := rws_0
  rw [← hR0] at e4
  have e5 := L_code (hRr 0) hn.2 e4
  obtain ⟨f', w', e6, e7⟩ := L45 (lastA a) 0 fu f1 (vp_updL w1 0 (lN (cd (RA a 0)))) (by omega) e4 (fun j hj => by
    have z : ∀ i, 0 < i → cut0 (RA a) 0 i = 0 := fun i q => by unfold cut0; rw [if_neg (by omega)]
    by_cases c : j = 0
    · rw [c, pk_uLs]
      unfold wv
      rw [z (3 * 0 + 1) (by decide), z (3 * 0 + 2) (by decide)]
      simp [cut0]
    · rw [pk_uLn c, e2 j hj]
      unfold wv
      rw [z _ (by omega), z _ (by omega), z _ (by omega)]) (by show lastA a < 8192; omega)
  refine ⟨f', w', ?_, fun i hi => ⟨hRr i, L_rowAt hRr hn.2 e7 (by omega) hi⟩⟩
  unfold f_L_all
  refine e1.trans ?_
  rw [show (0 : Int32).toNatClampNeg = 0 from rfl, r0, bd_t e3, bd_t e5]
  exact e6
theorem L_first {n T i s0 : Nat} {R : Nat → List Nat} {w : Nat → Int64} (h : WR n R T w) (hn : n ≤ 7) (hT : T ≤ 180) (hs : s0 ≤ i) (hi : i ≤ T) : f_L_first (nI i) (nI s0) w = some (nI (fs R s0 i)) := by
  have L : ∀ (d s M : Nat), s + d = i → d < M → f_L_first_L2 (nI i) w M (nI s) = some (nI (firstEq (fun j => decide (R j = R i)) d s)) := by
    intro d
    induction d with
    | zero =>
      intro s M hs hM
      obtain ⟨M, rfl⟩ : ∃ k, M = k + 1 := ⟨M - 1, by omega⟩
      obtain rfl : s = i := by omega
      rw [f_L_first_L2, bd_t (h s hi).2, bd_t (h s hi).2, if_pos ((cmp0 _ _).mpr rfl)]
      rfl
    | succ d ih =>
      intro s M hs hM
      obtain ⟨M, rfl⟩ : ∃ k, M = k + 1 := ⟨M - 1, by omega⟩
      have h1 := h s (by omega)
      have h2 := h i hi
      have b1 := cd_lt h1.1 hn
      have b2 := cd_lt h2.1 hn
      rw [f_L_first_L2, bd_t h1.2, bd_t h2.2, firstEq]
      by_cases c : R s = R i
      · rw [if_pos ((cmp0 _ _).mpr (by rw [c])), if_pos (decide_eq_true c)]
      · rw [if_neg (fun q => c (cd_inj h1.1 h2.1 hn ((pk_lEQ (by omega) (by omega)).mp ((cmp0 _ _).mp q)))), if_neg (by rw [decide_eq_false c]; decide), nI_1]
        exact ih (s + 1) M (by omega) (by omega)
  unfold f_L_first fs
  exact L (i - s0) s0 fu (by omega) (by show i - s0 < 8192; omega)
theorem row_cmp {n T i j : Nat} {R : Nat → List Nat} {w : Nat → Int64} (h : WR n R T w) (hn : n ≤ 7) (hi : i ≤ T) (hj : j ≤ T) : lg_cmp (lN (cd (R i))) (lN (cd (R j))) = 0 ↔ R i = R j := by
  have b1 := cd_lt (h i hi).1 hn
  have b2 := cd_lt (h j hj).1 hn
  rw [cmp0, pk_lEQ (by omega) (by omega)]
  exact ⟨fun q => cd_inj (h i hi).1 (h j hj).1 hn q, fun q => by rw [q]⟩
