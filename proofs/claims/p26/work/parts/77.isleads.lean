/-! ===== the leads' check answers true ===== -/
theorem fnd_iff (P : Nat → Bool) : ∀ (d s : Nat), fnd false (fun _ => true) P d s = true ↔ ∃ i, s ≤ i ∧ i < s + d ∧ P i = true
  | 0, s => ⟨fun h => absurd (show false = true from h) (by decide), fun ⟨i, h1, h2, _⟩ => by omega⟩
  | d + 1, s => by
    rw [fnd]
    by_cases c : P s = true
    · rw [if_pos c]
      exact ⟨fun _ => ⟨s, Nat.le_refl _, by omega, c⟩, fun _ => rfl⟩
    · rw [if_neg c, fnd_iff P d (s + 1)]
      constructor
      · rintro ⟨i, h1, h2, h3⟩
        exact ⟨i, by omega, by omega, h3⟩
      · rintro ⟨i, h1, h2, h3⟩
        refine ⟨i, ?_, by omega, h3⟩
        rcases Nat.lt_or_ge s i with q | q
        · exact q
        · have : i = s := by omega
          subst this
          exact absurd h3 c
theorem af_iff (R : Nat → List Nat) (c a b : Nat) : af R c a b = true ↔ ∃ i j, 1 ≤ i ∧ i < 1 + c ∧ 1 ≤ j ∧ j < 1 + c ∧ R (a * c + i) = R (b * c + j) := by
  unfold af
  rw [fnd_iff]
  constructor
  · rintro ⟨i, h1, h2, h3⟩
    rw [fnd_iff] at h3
    obtain ⟨j, h4, h5, h6⟩ := h3
    exact ⟨i, j, h1, h2, h4, h5, of_decide_eq_true h6⟩
  · rintro ⟨i, j, h1, h2, h4, h5, h6⟩
    refine ⟨i, h1, h2, ?_⟩
    rw [fnd_iff]
    exact ⟨j, h4, h5, decide_eq_true h6⟩
theorem af_sym (R : Nat → List Nat) (c a b : Nat) : af R c a b = af R c b a := by
  rw [Bool.eq_iff_iff, af_iff, af_iff]
  constructor
  · rintro ⟨i, j, h1, h2, h3, h4, h5⟩
    exact ⟨j, i, h3, h4, h1, h2, h5.symm⟩
  · rintro ⟨i, j, h1, h2, h3, h4, h5⟩
    exact ⟨j, i, h3, h4, h1, h2, h5.symm⟩
def fp2 (R : Nat → List Nat) (c l : Nat) : Nat := sm (fun a => cnt (fun b => af R c a b) a 0) l 0
theorem fp2_eq (R : Nat → List Nat) (c l : Nat) : fpairs R c l = fp2 R c l := by
  have := tri_swap (fun i j => b1 (af R c i j)) l
  unfold fpairs fp2 cnt
  refine this.trans (sm_congr l 0 (fun j _ _ => sm_congr j 0 (fun i _ _ => ?_)))
  rw [af_sym]
theorem isW_m1 {L : Nat} (hL : L < 2 ^ 30) : f_X10_isWithin (-1) (-1) (nI L - 1) = 1 := by
  unfold f_X10_isWithin
  rw [if_neg (show ¬ (-1 : Int32) < -1 by decide), if_neg]
  rw [Int32.lt_iff_toInt_lt, show (1 : Int32) = nI 1 from rfl, pk_sub_toInt hL (by decide), show (-nI 1 : Int32).toInt = -1 by decide]
  omega
theorem isW_x {x L : Nat} (hx : x < L) (hL : L < 2 ^ 30) : f_X10_isWithin (nI x) (-1) (nI L - 1) = 1 := by
  unfold f_X10_isWithin
  rw [if_neg, if_neg]
  · rw [Int32.lt_iff_toInt_lt, show (1 : Int32) = nI 1 from rfl, pk_sub_toInt hL (by decide), nI_toInt (by omega)]
    omega
  · rw [Int32.lt_iff_toInt_lt, nI_toInt (by omega), show (-1 : Int32).toInt = -1 by decide]
    omega
theorem isW_L {L : Nat} (hL : L < 2 ^ 30) : f_X10_isWithin (nI L) (-1) (nI L - 1) = 0 := by
  unfold f_X10_isWithin
  by_cases c : nI L < -1
  · rw [if_pos c]
  · rw [if_neg c, if_pos]
    rw [Int32.lt_iff_toInt_lt, show (1 : Int32) = nI 1 from rfl, pk_sub_toInt hL (by decide), nI_toInt (by omega)]
    omega
section
variable {a : AT} {t m c l : Nat → Int32} {w : Nat → Int64} {pt : List Nat}
theorem change_at {x j : Nat} (hx : x < a.2.2.2.2.length) (hL : a.2.2.2.2.length < 2 ^ 30) (hj : j < a.2.1.length) (hm : a.2.1.length < 2 ^ 31) : A_change a (nI x) (nI j) = some (nI ((lc a.2.1 a.2.2.1 a.2.2.2.1 (a.2.2.2.2.getD x 0)).getD j 0)) := by
  unfold A_change
  rw [isW_x hx hL, if_neg one0, if_neg (nI_pos (by omega)), nI_clamp (show j < 2 ^ 31 by omega), if_neg (by omega), if_neg (nI_pos (by omega)), nI_clamp (by omega)]
theorem change_m1 {j : Nat} (hL : a.2.2.2.2.length < 2 ^ 30) (hj : j < a.2.1.length) (hm : a.2.1.length < 2 ^ 31) : A_change a (-1) (nI j) = some (nI (a.2.1.getD j 0)) := by
  unfold A_change
  rw [isW_m1 hL, if_neg one0, if_neg (nI_pos (by omega)), nI_clamp (show j < 2 ^ 31 by omega), if_neg (by omega), if_pos (show (-1 : Int32) < 0 by decide)]
  rfl
theorem N241 {x y i c0 : Nat} (hn : a.1 ≤ 7) (hw : WR a.1 (RA a) (lastA a) w) (hT : lastA a ≤ 180) (t1 : t 1 = nI c0) (hx : x * c0 + i ≤ lastA a) (hy : y * c0 + c0 ≤ lastA a) (K : Int32 → Option Int32) (k : Int32 → Int32 → Option Int32) (hk : ∀ v z, k v z = K v) (s6 s7 s8 : Int32) : ∀ (d j M : Nat), j + d = c0 + 1 → d < M →
    f_L_areLeads_L241 k s6 s7 s8 (nI x) (nI y) (nI i) t m c l w a pt M 0 (nI j) = K (nI (b1 (fnd false (fun _ => true) (fun j => decide (RA a (x * c0 + i) = RA a (y * c0 + j))) d j)))
  | 0, j, M, hj, hM => by
    obtain ⟨M, rfl⟩ : ∃ k, M = k + 1 := ⟨M - 1, by omega⟩
    rw [f_L_areLeads_L241, show (1 : Int32).toNatClampNeg = 1 from rfl, t1, if_pos (nI_lt (by omega) (by omega)), hk]
    rfl
  | d + 1, j, M, hj, hM => by
    obtain ⟨M, rfl⟩ : ∃ k, M = k + 1 := ⟨M - 1, by omega⟩
    have hjT : y * c0 + j ≤ lastA a := by omega
    rw [f_L_areLeads_L241, show (1 : Int32).toNatClampNeg = 1 from rfl, t1, if_neg (nI_nlt (by omega) (by omega)), if_pos rfl, pk_mul, pk_mul, nI_add, nI_add, bd_t (hw _ hx).2, bd_t (hw _ hjT).2, nm_eq, nI_1, fnd]
    by_cases q : RA a (x * c0 + i) = RA a (y * c0 + j)
    · rw [if_pos ((row_cmp hw hn hx hjT).mpr q), if_pos (decide_eq_true q)]
      obtain ⟨M, rfl⟩ : ∃ k, M = k + 1 := ⟨M - 1, by omega⟩
      rw [f_L_areLeads_L241, show (1 : Int32).toNatClampNeg = 1 from rfl, t1]
      by_cases q2 : nI c0 < nI (j + 1)
      · rw [if_pos q2, hk]; rfl
      · rw [if_neg q2, if_neg one0, hk]; rfl
    · rw [if_neg (fun z => q ((row_cmp hw hn hx hjT).mp z)), if_neg (by rw [decide_eq_false q]; decide)]
      exact N241 hn hw hT t1 hx hy K k hk s6 s7 s8 d (j + 1) M (by omega) (by omega)
theorem N225 {x y c0 : Nat} (hn : a.1 ≤ 7) (hw : WR a.1 (RA a) (lastA a) w) (hT : lastA a ≤ 180) (t1 : t 1 = nI c0) (hx : x * c0 + c0 ≤ lastA a) (hy : y * c0 + c0 ≤ lastA a) (K : Int32 → Option Int32) (k : Int32 → Int32 → Option Int32) (hk : ∀ v z, k v z = K v) (s6 s7 s8 : Int32) : ∀ (d i M : Nat), i + d = c0 + 1 → d < M →
    f_L_areLeads_L225 k s6 s7 s8 (nI x) (nI y) t m c l w a pt M 0 (nI i) = K (nI (b1 (fnd false (fun _ => true) (fun i => fnd false (fun _ => true) (fun j => decide (RA a (x * c0 + i) = RA a (y * c0 + j))) c0 1) d i)))
  | 0, i, M, hi, hM => by
    obtain ⟨M, rfl⟩ : ∃ k, M = k + 1 := ⟨M - 1, by omega⟩
    rw [f_L_areLeads_L225, show (1 : Int32).toNatClampNeg = 1 from rfl, t1, if_pos (nI_lt (by omega) (by omega)), hk]
    rfl
  | d + 1, i, M, hi, hM => by
    obtain ⟨M, rfl⟩ : ∃ k, M = k + 1 := ⟨M - 1, by omega⟩
    have e := N241 (m := m) (c := c) (l := l) (pt := pt) (i := i) hn hw hT t1 (show x * c0 + i ≤ lastA a by omega) hy (fun v => f_L_areLeads_L225 k s6 s7 s8 (nI x) (nI y) t m c l w a pt M v (nI i + 1)) (fun (y22 : Int32) (y23 : Int32) => (f_L_areLeads_L225 k s6 s7 s8 (nI x) (nI y) t m c l w a pt M y22 (nI i + 1))) (fun _ _ => rfl) s6 s7 s8 c0 1 fu (by omega) (by show c0 < 8192; omega)
    rw [f_L_areLeads_L225, show (1 : Int32).toNatClampNeg = 1 from rfl, t1, if_neg (nI_nlt (by omega) (by omega)), if_pos rfl]
    refine e.trans ?_
    rw [fnd, nI_1]
    generalize hB : fnd false (fun _ => true) (fun j => decide (RA a (x * c0 + i) = RA a (y * c0 + j))) c0 1 = B
    cases B with
    | true =>
      rw [if_pos rfl]
      obtain ⟨M, rfl⟩ : ∃ k, M = k + 1 := ⟨M - 1, by omega⟩
      rw [f_L_areLeads_L225, show (1 : Int32).toNatClampNeg = 1 from rfl, t1]
      by_cases q2 : nI c0 < nI (i + 1)
      · rw [if_pos q2, hk]
      · rw [if_neg q2, if_neg (show ¬ nI (b1 true) = 0 by decide), hk]
    | false =>
      rw [if_neg (by decide)]
      exact N225 hn hw hT t1 hx hy K k hk s6 s7 s8 d (i + 1) M (by omega) (by omega)
theorem N212 {x c0 : Nat} (hn : a.1 ≤ 7) (hw : WR a.1 (RA a) (lastA a) w) (hT : lastA a ≤ 180) (t1 : t 1 = nI c0) (hc1 : 1 ≤ c0) (hx : x * c0 + c0 ≤ lastA a) (K : Int32 → Option Int32) (k : Int32 → Int32 → Option Int32) (hk : ∀ v z, k v z = K v) (s7 s8 : Int32) : ∀ (d b u M : Nat), b + d = x → d < M →
    f_L_areLeads_L212 k s7 s8 (nI x) t m c l w a pt M (nI u) (nI b) = K (nI (u + cnt (fun b => af (RA a) c0 x b) d b))
  | 0, b, u, M, hb, hM => by
    obtain ⟨M, rfl⟩ : ∃ k, M = k + 1 := ⟨M - 1, by omega⟩
    have : x * 1 ≤ x * c0 := Nat.mul_le_mul_left x hc1
    rw [f_L_areLeads_L212, if_pos (nI_le (by omega) (by omega)), hk]
    rfl
  | d + 1, b, u, M, hb, hM => by
    obtain ⟨M, rfl⟩ : ∃ k, M = k + 1 := ⟨M - 1, by omega⟩
    have hxl : x * 1 ≤ x * c0 := Nat.mul_le_mul_left x hc1
    have hbl : b * c0 ≤ x * c0 := Nat.mul_le_mul_right c0 (by omega)
    have e := N225 (m := m) (c := c) (l := l) (pt := pt) (x := x) (y := b) hn hw hT t1 hx (show b * c0 + c0 ≤ lastA a by omega) (fun (y24 : Int32) => nm (if y24 = 0 then (0 : Int32) else (1 : Int32)) (fun (w26 : Int32) => nm (nI u + w26) (fun (x27 : Int32) => (f_L_areLeads_L212 k s7 s8 (nI x) t m c l w a pt M x27 (nI b + 1))))) (fun (y24 : Int32) (y25 : Int32) => nm (if y24 = 0 then (0 : Int32) else (1 : Int32)) (fun (w26 : Int32) => nm (nI u + w26) (fun (x27 : Int32) => (f_L_areLeads_L212 k s7 s8 (nI x) t m c l w a pt M x27 (nI b + 1))))) (fun _ _ => rfl) (nI u) s7 s8 c0 1 fu (by omega) (by show c0 < 8192; omega)
    rw [f_L_areLeads_L212, if_neg (nI_ge (by omega) (by omega))]
    refine e.trans ?_
    have e1 : (if nI (b1 (af (RA a) c0 x b)) = 0 then (0 : Int32) else 1) = nI (b1 (af (RA a) c0 x b)) := by cases af (RA a) c0 x b <;> rfl
    show nm (if nI (b1 (af (RA a) c0 x b)) = 0 then (0 : Int32) else 1) _ = _
    rw [e1, nm_eq, nm_eq, nI_add, nI_1, N212 hn hw hT t1 hc1 hx K k hk s7 s8 d (b + 1) _ M (by omega) (by omega)]
    show _ = K (nI (u + (b1 _ + cnt _ d (b + 1))))
    rw [Nat.add_assoc u]
theorem N119 (hO : OKa a) (hR : LR a t m c l) (hw : WR a.1 (RA a) (lastA a) w) (hT : lastA a ≤ 180) (k : Int32 → Int32 → Int32 → Int32 → Option Int32) : ∀ (d x u v M : Nat), x + d = a.2.2.2.2.length → d < M →
    f_L_areLeads_L119 k t m c l w a pt M (nI u) (nI v) 1 (nI x) = k (nI (u + sm (fun x => cnt (fun b => af (RA a) a.2.1.length x b) x 0) d x)) (nI (v + cnt (fun i => decide (0 < a.2.2.2.2.getD i 0)) d x)) 1 (nI a.2.2.2.2.length)
  | 0, x, u, v, M, hx, hM => by
    obtain ⟨M, rfl⟩ : ∃ k, M = k + 1 := ⟨M - 1, by omega⟩
    have hl : a.2.2.2.2.length ≤ 16 := hO.2.2.2.2.2.1
    obtain rfl : x = a.2.2.2.2.length := by omega
    rw [f_L_areLeads_L119, show (2 : Int32).toNatClampNeg = 2 from rfl, hR.2.2.1, if_pos (nI_le (Nat.le_refl _) (by omega))]
    rfl
  | d + 1, x, u, v, M, hx, hM => by
    obtain ⟨M, rfl⟩ : ∃ k, M = k + 1 := ⟨M - 1, by omega⟩
    have hn : 4 ≤ a.1 ∧ a.1 ≤ 7 := hO.1
    have hl : a.2.2.2.2.length ≤ 16 := hO.2.2.2.2.2.1
    have hm1 : 1 ≤ a.2.1.length := hO.2.1.1
    have hm2 : a.2.1.length ≤ 20 := hO.2.1.2
    have hxl : x < a.2.2.2.2.length := by omega
    have hxT : x * a.2.1.length + a.2.1.length ≤ lastA a := by
      have : (x + 1) * a.2.1.length ≤ a.2.2.2.2.length * a.2.1.length := Nat.mul_le_mul_right _ (by omega)
      rw [Nat.add_mul, Nat.one_mul] at this
      exact this
    have hkd : a.2.2.2.2.getD x 0 ≤ 2 := hO.2.2.2.2.2.2 _ (getD_mem hxl)
    obtain ⟨r0, r1, r2, r3, r4, r5, r6⟩ := id hR
    have e1 : (if l (nI x).toNatClampNeg ≤ 0 then (0 : Int32) else 1) = nI (b1 (decide (0 < a.2.2.2.2.getD x 0))) := by
      rw [nI_clamp (by omega), r6 x hxl]
      by_cases q : 0 < a.2.2.2.2.getD x 0
      · rw [if_neg (nI_nle q (by omega)), decide_eq_true q]; rfl
      · rw [show a.2.2.2.2.getD x 0 = 0 by omega, if_pos (show nI 0 ≤ 0 by decide)]; rfl
    have ix : (x + 1) * a.2.1.length - 1 = a.2.1.length * x + (a.2.1.length - 1) := by rw [Nat.add_mul, Nat.one_mul, Nat.mul_comm x]; omega
    have e2 : A_change a (nI x) (nI (a.2.1.length - 1)) = some (nI ((tc a.2.1 a.2.2.1 a.2.2.2.1 a.2.2.2.2).getD ((x + 1) * a.2.1.length - 1) 0)) := by
      rw [change_at hxl (by omega) (by omega) (by omega), tc_get hm1 a.2.2.2.2 _ (by show _ < lastA a; rw [Nat.add_mul, Nat.one_mul]; omega), ix, Nat.mul_add_div (by omega), Nat.mul_add_mod, Nat.div_eq_of_lt (by omega), Nat.mod_eq_of_lt (by omega), Nat.add_zero]
    have e3 : f_L_change (nI ((x + 1) * a.2.1.length - 1)) t m c l = some (nI ((tc a.2.1 a.2.2.1 a.2.2.2.1 a.2.2.2.2).getD ((x + 1) * a.2.1.length - 1) 0)) := L_change hO hR (by rw [Nat.add_mul, Nat.one_mul]; omega)
    have hpos : 1 ≤ (x + 1) * a.2.1.length := Nat.mul_pos (by omega) (by omega)
    have fin := N212 (m := m) (c := c) (l := l) (pt := pt) hn.2 hw hT r1 hm1 hxT (fun (y29 : Int32) => (f_L_areLeads_L119 k t m c l w a pt M y29 (nI (v + b1 (decide (0 < a.2.2.2.2.getD x 0)))) 1 (nI (x + 1)))) (fun (y29 : Int32) (y30 : Int32) => (f_L_areLeads_L119 k t m c l w a pt M y29 (nI (v + b1 (decide (0 < a.2.2.2.2.getD x 0)))) 1 (nI (x + 1)))) (fun _ _ => rfl) (nI (v + b1 (decide (0 < a.2.2.2.2.getD x 0)))) 1 x 0 u fu (by omega) (by show x < 8192; omega)
    have ih := N119 hO hR hw hT k d (x + 1) (u + cnt (fun b => af (RA a) a.2.1.length x b) x 0) (v + b1 (decide (0 < a.2.2.2.2.getD x 0))) M (by omega) (by omega)
    have goal := fin.trans ih
    rw [f_L_areLeads_L119, show (2 : Int32).toNatClampNeg = 2 from rfl, show (1 : Int32).toNatClampNeg = 1 from rfl, show (0 : Int32).toNatClampNeg = 0 from rfl, r2, r1, if_neg (nI_ge hxl (by omega)), gd_t (n_inb (show x < 16 by omega) (by decide)), e1, nm_eq, nm_eq, nI_add, jj_eq, if_neg one0, nI_1, pk_mul, show (1 : Int32) = nI 1 from rfl, pk_sub hm1, pk_sub hpos, bd_t e2, bd_t e3, if_pos rfl]
    have fold : k (nI (u + cnt (fun b => af (RA a) a.2.1.length x b) x 0 + sm (fun x => cnt (fun b => af (RA a) a.2.1.length x b) x 0) d (x + 1))) (nI (v + b1 (decide (0 < a.2.2.2.2.getD x 0)) + cnt (fun i => decide (0 < a.2.2.2.2.getD i 0)) d (x + 1))) 1 (nI a.2.2.2.2.length) = k (nI (u + sm (fun x => cnt (fun b => af (RA a) a.2.1.length x b) x 0) (d + 1) x)) (nI (v + cnt (fun i => decide (0 < a.2.2.2.2.getD i 0)) (d + 1) x)) 1 (nI a.2.2.2.2.length) := by
      show _ = k (nI (u + (_ + sm _ d (x + 1)))) (nI (v + (b1 _ + cnt _ d (x + 1)))) 1 _
      rw [Nat.add_assoc u, Nat.add_assoc v]
    have goal := goal.trans fold
    by_cases q1 : a.2.1.length = 1
    · rw [if_pos (congrArg nI q1)]
      exact goal
    · rw [if_neg (fun z => q1 ((nI_eq (by omega) (by decide)).mp z))]
      have e4 : A_change a (nI x) 0 = some (m 0) := by
        rw [show (0 : Int32) = nI 0 from rfl, change_at hxl (by omega) (by omega) (by omega), lc_at (by omega), if_neg (by omega), if_neg (by omega), r3 0 (by omega)]
      rw [bd_t e4, if_pos rfl]
      exact goal
theorem N335 (hO : OKa a) (hR : LR a t m c l) (K : Int32 → Option Int32) (k : Int32 → Int32 → Option Int32) (hk : ∀ v z, k v z = K v) (s6 s7 : Int32) : ∀ (d j M : Nat), j + d = a.2.1.length → d < M →
    f_L_areLeads_L335 k s6 s7 t m c l w a pt M 1 (nI j) = K 1
  | 0, j, M, hj, hM => by
    obtain ⟨M, rfl⟩ : ∃ k, M = k + 1 := ⟨M - 1, by omega⟩
    have hm2 : a.2.1.length ≤ 20 := hO.2.1.2
    rw [f_L_areLeads_L335, show (1 : Int32).toNatClampNeg = 1 from rfl, hR.2.1, if_pos (nI_le (by omega) (by omega)), hk]
  | d + 1, j, M, hj, hM => by
    obtain ⟨M, rfl⟩ : ∃ k, M = k + 1 := ⟨M - 1, by omega⟩
    have hm2 : a.2.1.length ≤ 20 := hO.2.1.2
    have hl : a.2.2.2.2.length ≤ 16 := hO.2.2.2.2.2.1
    have ih := N335 hO hR K k hk s6 s7 d (j + 1) M (by omega) (by omega)
    rw [f_L_areLeads_L335, show (1 : Int32).toNatClampNeg = 1 from rfl, hR.2.1, if_neg (nI_ge (by omega) (by omega)), jj_eq, if_neg one0, bd_t (change_m1 (by omega) (by omega) (by omega)), gd_t (n_inb (show j < 20 by omega) (by decide)), nI_clamp (by omega), hR.2.2.2.1 j (by omega), if_pos rfl, nI_1]
    exact ih
theorem P_areLeads (hO : OKa a) (hR : LR a t m c l) (hw : WR a.1 (RA a) (lastA a) w) (hT : lastA a ≤ 180) : f_L_areLeads t m c l w a pt = some 1 := by
  have hl : a.2.2.2.2.length ≤ 16 := hO.2.2.2.2.2.1
  have hm1 : 1 ≤ a.2.1.length := hO.2.1.1
  have hm2 : a.2.1.length ≤ 20 := hO.2.1.2
  obtain ⟨r0, r1, r2, r3, r4, r5, r6⟩ := id hR
  have g1 : A_change a (nI a.2.2.2.2.length) 0 = some (-1) := by unfold A_change; rw [isW_L (by omega), if_pos rfl]
  have g2 : A_change a (-2) 0 = some (-1) := by unfold A_change; rw [wi_0 (show (-2 : Int32) < -1 by decide), if_pos rfl]
  have g3 : A_change a (-1) (nI a.2.1.length) = some (-4) := by unfold A_change; rw [isW_m1 (by omega), if_neg one0, if_neg (nI_pos (by omega)), nI_clamp (by omega), if_pos (Nat.le_refl _)]
  have g4 : A_change a (-1) (-1) = some (-1) := by unfold A_change; rw [isW_m1 (by omega), if_neg one0, if_pos (show (-1 : Int32) < 0 by decide)]
  have c0 : A_count a pt 0 = some (nI a.1) := rfl
  have c1 : A_count a pt 1 = some (nI a.2.1.length) := rfl
  have c2 : A_count a pt 2 = some (nI a.2.2.2.2.length) := rfl
  have c12 : A_count a pt 12 = some (nI a.2.2.1) := rfl
  have c13 : A_count a pt 13 = some (nI a.2.2.2.1) := rfl
  have c8 : A_count a pt 8 = some (nI (fp2 (RA a) a.2.1.length a.2.2.2.2.length)) := by
    show some (nI (fpairs _ _ _)) = _
    rw [fp2_eq]
  have c10 : A_count a pt 10 = some (nI (cnt (fun i => decide (0 < a.2.2.2.2.getD i 0)) a.2.2.2.2.length 0)) := rfl
  unfold f_L_areLeads
  rw [show (0 : Int32).toNatClampNeg = 0 from rfl, show (1 : Int32).toNatClampNeg = 1 from rfl, show (2 : Int32).toNatClampNeg = 2 from rfl, r0, r1, r2, r4, r5, bd_t c0, jj_eq, if_pos rfl, bd_t c1, if_pos rfl, bd_t c2, if_pos rfl, bd_t c12, if_pos rfl, bd_t c13, if_pos rfl, bd_t g1, if_pos rfl, bd_t g2, if_pos rfl, bd_t g3, if_pos rfl, bd_t g4, if_pos rfl]
  have e1 := N119 (a := a) (t := t) (m := m) (c := c) (l := l) (w := w) (pt := pt) hO hR hw hT (fun (y42 : Int32) (y43 : Int32) (y44 : Int32) (y45 : Int32) => (f_L_areLeads_L335 (fun (y54 : Int32) (y55 : Int32) => (if y54 = 0 then some 0 else bd (A_count a pt 8) (fun q57 => (if q57 = y42 then bd (A_count a pt 10) (fun q60 => (if q60 = y43 then some 1 else some 0)) else some 0)))) y42 y43 t m c l w a pt fu y44 0)) a.2.2.2.2.length 0 0 0 fu (by omega) (by show a.2.2.2.2.length < 8192; omega)
  refine e1.trans ?_
  rw [Nat.zero_add, Nat.zero_add]
  have e2 := N335 (a := a) (t := t) (m := m) (c := c) (l := l) (w := w) (pt := pt) hO hR (fun (y54 : Int32) => (if y54 = 0 then some 0 else bd (A_count a pt 8) (fun q57 => (if q57 = nI (fp2 (RA a) a.2.1.length a.2.2.2.2.length) then bd (A_count a pt 10) (fun q60 => (if q60 = nI (cnt (fun i => decide (0 < a.2.2.2.2.getD i 0)) a.2.2.2.2.length 0) then some 1 else some 0)) else some 0)))) (fun (y54 : Int32) (y55 : Int32) => (if y54 = 0 then some 0 else bd (A_count a pt 8) (fun q57 => (if q57 = nI (fp2 (RA a) a.2.1.length a.2.2.2.2.length) then bd (A_count a pt 10) (fun q60 => (if q60 = nI (cnt (fun i => decide (0 < a.2.2.2.2.getD i 0)) a.2.2.2.2.length 0) then some 1 else some 0)) else some 0)))) (fun _ _ => rfl) (nI (fp2 (RA a) a.2.1.length a.2.2.2.2.length)) (nI (cnt (fun i => decide (0 < a.2.2.2.2.getD i 0)) a.2.2.2.2.length 0)) a.2.1.length 0 fu (by omega) (by show a.2.1.length < 8192; omega)
  refine e2.trans ?_
  rw [if_neg one0, bd_t c8, if_pos rfl, bd_t c10, if_pos rfl]
end
