/-! ===== what changes the state, said of the state ===== -/
def SX (a : AT) (t : TV) (hsz : Int32) (hh : Nat → TV) : Prop := ∃ P : List AT, OKa a ∧ TRa a t ∧ P.length ≤ 4 ∧ hsz = nI P.length ∧ HX P hh
def PX (pt : List Nat) (pl : Int32) (ps : Nat → Int32) : Prop := pt.length ≤ 80 ∧ pl = nI pt.length ∧ ∀ i, i < pt.length → ps i = nI (pt.getD i 0) ∧ pt.getD i 0 < 65536
def A_clear (pt : List Nat) : Option (Int32 × List Nat) := some (nI pt.length, [])
def A_append (pt : List Nat) (x : Int32) : Option (Int32 × List Nat) :=
  if x = nI x.toNatClampNeg ∧ 33 ≤ x.toNatClampNeg ∧ x.toNatClampNeg ≤ 126 ∧ pt.length < 80 then some (nI (pt.length + 1), pt ++ [x.toNatClampNeg]) else none
def rdp (n : Nat) (pt : List Nat) : Nat ⊕ List Nat := rd n (fun i => pt.getD i 0) pt.length 0 ([], 0, 0, false)
def A_fault (a : AT) (pt : List Nat) (x : Int32) : Option Int32 :=
  if x = 0 then (match rdp a.1 pt with
    | .inr _ => some (-4)
    | .inl _ => none) else none
def A_method (a : AT) (pt : List Nat) : Option (Int32 × AT × List Nat) := match rdp a.1 pt with
  | .inr C => some (nI C.length, (a.1, C, a.2.2.1, a.2.2.2.1, a.2.2.2.2), [])
  | .inl _ => none
def A_add (a : AT) (x : Int32) : Option (Int32 × AT) :=
  if x = nI x.toNatClampNeg ∧ x.toNatClampNeg ≤ 2 ∧ a.2.2.2.2.length < 16 then some (nI (a.2.2.2.2.length + 1), (a.1, a.2.1, a.2.2.1, a.2.2.2.1, a.2.2.2.2 ++ [x.toNatClampNeg])) else none
def A_cut (a : AT) (x : Int32) : Option (Int32 × AT) :=
  if x = nI x.toNatClampNeg ∧ x.toNatClampNeg ≤ a.2.2.2.2.length then some (nI a.2.2.2.2.length, (a.1, a.2.1, a.2.2.1, a.2.2.2.1, a.2.2.2.2.take x.toNatClampNeg)) else none
def A_call (a : AT) (x y : Int32) : Option (Int32 × AT) :=
  if (x = 1 ∨ x = 2) ∧ y = nI y.toNatClampNeg ∧ y.toNatClampNeg < 128 then
    (if okb a.1 y.toNatClampNeg = true then (if x = 1 then some (nI a.2.2.1, (a.1, a.2.1, y.toNatClampNeg, a.2.2.2.1, a.2.2.2.2)) else some (nI a.2.2.2.1, (a.1, a.2.1, a.2.2.1, y.toNatClampNeg, a.2.2.2.2))) else some (-1, a))
  else if (x = 1 ∨ x = 2) ∧ y = nI y.toNatClampNeg ∧ y.toNatClampNeg < 140 then some (-1, a) else none
def A_bells (a : AT) (x : Int32) : Option (Int32 × AT) :=
  if x = nI x.toNatClampNeg ∧ 4 ≤ x.toNatClampNeg ∧ x.toNatClampNeg ≤ 7 then some (nI a.1, (x.toNatClampNeg, mS x.toNatClampNeg, bS x.toNatClampNeg, gS x.toNatClampNeg, [])) else none
theorem v_clear {pt : List Nat} {pl : Int32} {ps : Nat → Int32} (h : PX pt pl ps) {R : Int32 × List Nat} (hA : A_clear pt = some R) : (f_X10_clear pl).1 = R.1 ∧ PX R.2 (f_X10_clear pl).2 ps := by
  obtain rfl := Option.some.inj hA
  exact ⟨h.2.1, by simp, rfl, fun i hi => absurd hi (by simp)⟩
theorem v_append {pt : List Nat} {pl : Int32} {ps : Nat → Int32} (h : PX pt pl ps) {x : Int32} {R : Int32 × List Nat} (hA : A_append pt x = some R) : ∃ R1, f_X10_append x pl ps = some R1 ∧ R1.1 = R.1 ∧ PX R.2 R1.2.1 R1.2.2 := by
  obtain ⟨hN, rfl, ht⟩ := h
  unfold A_append at hA
  generalize x.toNatClampNeg = c at hA
  by_cases q : x = nI c ∧ 33 ≤ c ∧ c ≤ 126 ∧ pt.length < 80
  · rw [if_pos q] at hA
    obtain rfl := Option.some.inj hA
    obtain ⟨rfl, h1, h2, h3⟩ := q
    have e0 : f_X3_put (((nI c).toUInt32 % 65536).toInt32) (nI pt.length) ps = some (nI (pt.length + 1), upd ps pt.length (nI c)) := by
      unfold f_X3_put
      rw [if_neg (nI_pos (by omega)), if_neg (show ¬ (80 : Int32) ≤ nI pt.length from @nI_ge pt.length 80 (by omega) (by decide)), gd_t (n_inb (by omega) (by decide)), nI_clamp (by omega), nI_1, nm_eq, nar_c c (by omega)]
    have e1 : ¬ f_X10_isWithin (nI c) 33 126 = 0 := by
      unfold f_X10_isWithin
      rw [if_neg (show ¬ nI c < 33 from @nI_nlt c 33 h1 (by omega)), if_neg (show ¬ (126 : Int32) < nI c from @nI_nlt 126 c h2 (by decide))]
      decide
    unfold f_X10_append
    rw [if_neg e1, if_pos (show nI pt.length < 80 from @nI_lt pt.length 80 h3 (by decide)), bd_t e0]
    refine ⟨_, rfl, rfl, by simp; omega, by simp, fun i hi => ?_⟩
    simp only [List.length_append, List.length_singleton] at hi
    by_cases w : i = pt.length
    · subst w
      have e : (pt ++ [c]).getD pt.length 0 = c := by simp [List.getD_eq_getElem?_getD]
      dsimp only
      rw [e, up_e]; exact ⟨rfl, by omega⟩
    · dsimp only
      rw [up_n w, getD_app1 (by omega)]; exact ht i (by omega)
  · rw [if_neg q] at hA; cases hA
theorem p_readP {n : Nat} {pt : List Nat} {pl : Int32} {ps : Nat → Int32} (h4 : 4 ≤ n) (hn : n ≤ 7) (h : PX pt pl ps) (vc va vb ve : Int32) (f : Nat → Int32) : ∃ v vo a b e f', f_X2_read pl (nI n) 80 vc va vb ve f ps = some (v, vo, a, b, e, f') ∧ RRes v (rdp n pt) vo f' := by
  obtain ⟨hN, rfl, ht⟩ := h
  exact p_read (np := 80) (tx := fun i => pt.getD i 0) h4 hn hN (by omega) (fun i hi => ht i hi) vc va vb ve f
theorem v_fault {a : AT} {t : TV} {hsz : Int32} {hh : Nat → TV} {pt : List Nat} {pl : Int32} {ps : Nat → Int32} (hS : SX a t hsz hh) (h : PX pt pl ps) {x r : Int32} (hA : A_fault a pt x = some r) (rc rm rl rx : Int32) (rp : Nat → Int32) : ∃ R1, f_X10_fault x t.1 pl ps rc rm rl rx rp = some R1 ∧ R1.1 = r := by
  obtain ⟨P, hO, hT, -⟩ := hS
  have hn : 4 ≤ a.1 ∧ a.1 ≤ 7 := hO.1
  have k0 : t.1 = nI a.1 := hT.1
  unfold A_fault at hA
  by_cases c : x = 0
  · rw [if_pos c] at hA
    obtain ⟨v, vo, q1, q2, q3, f', e1, e2⟩ := p_readP hn.1 hn.2 h rc rm rl rx rp
    unfold f_X10_fault
    rw [if_pos c, k0, bd_t e1]
    cases hr : rdp a.1 pt with
    | inl i => rw [hr] at hA; cases hA
    | inr C =>
      rw [hr] at hA e2
      obtain rfl := Option.some.inj hA
      exact ⟨_, rfl, e2.1⟩
  · rw [if_neg c] at hA; cases hA
theorem v_method {a : AT} {t : TV} {hsz : Int32} {hh : Nat → TV} {pt : List Nat} {pl : Int32} {ps : Nat → Int32} (hS : SX a t hsz hh) (h : PX pt pl ps) {R : Int32 × AT × List Nat} (hA : A_method a pt = some R) (rc rm rl rx : Int32) (rp : Nat → Int32) : ∃ R1, f_X10_method t.1 t.2.1 t.2.2.1 t.2.2.2.1 t.2.2.2.2.1 t.2.2.2.2.2.1 t.2.2.2.2.2.2 hsz hh pl ps rc rm rl rx rp = some R1 ∧ R1.1 = R.1 ∧ SX R.2.1 (t.1, R1.2.1, t.2.2.1, t.2.2.2.1, t.2.2.2.2.1, R1.2.2.1, t.2.2.2.2.2.2) R1.2.2.2.1 R1.2.2.2.2.1 ∧ PX R.2.2 R1.2.2.2.2.2.1 ps := by
  obtain ⟨P, hO, hT, hP, rfl, hX⟩ := hS
  obtain ⟨n, m, b, g, l⟩ := a
  obtain ⟨k0, k1, k2, k3, k4, k5, k6⟩ := id hT
  dsimp only at k0 k1 k2 k3 k4 k5 k6
  have hO2 : OKs n m b g l := hO
  have hn := hO2.1
  obtain ⟨v, vo, q1, q2, q3, f', e1, e2⟩ := p_readP hn.1 hn.2 h rc rm rl rx rp
  unfold A_method at hA
  dsimp only at hA
  cases hr : rdp n pt with
  | inl i => rw [hr] at hA; cases hA
  | inr C =>
    rw [hr] at hA e2
    obtain rfl := Option.some.inj hA
    obtain ⟨rfl, rfl, g2⟩ := e2
    obtain ⟨hC1, hC2, hC3⟩ := rd_ok hn.2 _ _ _ _ (RI.beg (by decide) (fun c hc => by cases hc)) hr
    obtain ⟨hh', e5, e6⟩ := p_record hP hX hO hT
    rw [k0] at e5
    unfold f_X10_method
    rw [k0, bd_t e1]
    dsimp only
    rw [if_pos rfl, bd_t e5]
    refine ⟨_, rfl, rfl, ⟨push P (n, m, b, g, l), ⟨hO2.1, ⟨hC1, hC2⟩, hC3, hO2.2.2.2.1, hO2.2.2.2.2.1, hO2.2.2.2.2.2⟩, ⟨rfl, rfl, k2, k3, k4, fun j hj => ?_, k6⟩, push_len4 hP, rfl, e6⟩, by simp, rfl, fun i hi => absurd hi (by simp)⟩
    change j < C.length at hj
    show va_cpy f' t.2.2.2.2.2.1 0 0 20 j = _
    rw [cpy_at (by omega)]
    exact g2 j hj
theorem v_add {a : AT} {t : TV} {hsz : Int32} {hh : Nat → TV} (hS : SX a t hsz hh) {x : Int32} {R : Int32 × AT} (hA : A_add a x = some R) : ∃ R1, f_X10_add x t.1 t.2.1 t.2.2.1 t.2.2.2.1 t.2.2.2.2.1 t.2.2.2.2.2.1 t.2.2.2.2.2.2 hsz hh = some R1 ∧ R1.1 = R.1 ∧ SX R.2 (t.1, t.2.1, t.2.2.1, t.2.2.2.1, R1.2.1, t.2.2.2.2.2.1, R1.2.2.1) R1.2.2.2.1 R1.2.2.2.2 := by
  obtain ⟨P, hO, hT, hP, rfl, hX⟩ := hS
  obtain ⟨n, m, b, g, l⟩ := a
  obtain ⟨k0, k1, k2, k3, k4, k5, k6⟩ := id hT
  dsimp only at k0 k1 k2 k3 k4 k5 k6
  have hO2 : OKs n m b g l := hO
  unfold A_add at hA
  dsimp only at hA
  generalize x.toNatClampNeg = y at hA
  by_cases q : x = nI y ∧ y ≤ 2 ∧ l.length < 16
  · rw [if_pos q] at hA
    obtain rfl := Option.some.inj hA
    obtain ⟨rfl, hy, hl⟩ := q
    obtain ⟨hh', e1, e2⟩ := p_record hP hX hO hT
    have e0 : f_X9_addLead (nI y) (nI l.length) t.2.2.2.2.2.2 = some (nI (l.length + 1), upd t.2.2.2.2.2.2 l.length (nI y)) := by
      unfold f_X9_addLead
      rw [if_neg (nI_pos (by omega)), if_neg (show ¬ (17 : Int32) ≤ nI l.length from @nI_ge l.length 17 (by omega) (by decide)), gd_t (n_inb (by omega) (by decide)), nI_clamp (by omega), nI_1, nm_eq]
    have e3 : ¬ f_X10_isWithin (nI y) 0 2 = 0 := by
      rcases (show y = 0 ∨ y = 1 ∨ y = 2 by omega) with rfl | rfl | rfl <;> decide
    unfold f_X10_add
    rw [if_neg e3, bd_t e1, if_pos (show t.2.2.2.2.1 < 16 by rw [k4]; exact @nI_lt l.length 16 (by omega) (by decide)), k4, bd_t e0]
    have hlen : (l ++ [y]).length = l.length + 1 := by simp
    refine ⟨_, rfl, rfl, push P (n, m, b, g, l), ⟨hO2.1, hO2.2.1, hO2.2.2.1, hO2.2.2.2.1, hO2.2.2.2.2.1, by show (l ++ [y]).length ≤ 16; omega, (hO2.r1 hy).2.2.2.2.2.2⟩, ⟨k0, k1, k2, k3, by show nI (l.length + 1) = nI (l ++ [y]).length; rw [hlen], k5, fun j hj => ?_⟩, push_len4 hP, rfl, e2⟩
    change j < (l ++ [y]).length at hj
    rw [hlen] at hj
    show upd t.2.2.2.2.2.2 l.length (nI y) j = nI ((l ++ [y]).getD j 0)
    by_cases w : j = l.length
    · rw [w, up_e]; simp [List.getD_eq_getElem?_getD]
    · rw [up_n w, getD_app1 (by omega)]; exact k6 j (by omega)
  · rw [if_neg q] at hA; cases hA
theorem v_cut {a : AT} {t : TV} {hsz : Int32} {hh : Nat → TV} (hS : SX a t hsz hh) {x : Int32} {R : Int32 × AT} (hA : A_cut a x = some R) : ∃ R1, f_X10_cut x t.1 t.2.1 t.2.2.1 t.2.2.2.1 t.2.2.2.2.1 t.2.2.2.2.2.1 t.2.2.2.2.2.2 hsz hh = some R1 ∧ R1.1 = R.1 ∧ SX R.2 (t.1, t.2.1, t.2.2.1, t.2.2.2.1, R1.2.1, t.2.2.2.2.2.1, t.2.2.2.2.2.2) R1.2.2.1 R1.2.2.2 := by
  obtain ⟨P, hO, hT, hP, rfl, hX⟩ := hS
  obtain ⟨n, m, b, g, l⟩ := a
  obtain ⟨k0, k1, k2, k3, k4, k5, k6⟩ := id hT
  dsimp only at k0 k1 k2 k3 k4 k5 k6
  have hO2 : OKs n m b g l := hO
  have hl := hO2.2.2.2.2.2.1
  unfold A_cut at hA
  dsimp only at hA
  generalize x.toNatClampNeg = y at hA
  by_cases q : x = nI y ∧ y ≤ l.length
  · rw [if_pos q] at hA
    obtain rfl := Option.some.inj hA
    obtain ⟨rfl, hy⟩ := q
    obtain ⟨hh', e1, e2⟩ := p_record hP hX hO hT
    rw [k4] at e1
    have e3 : ¬ f_X10_isWithin (nI y) 0 (nI l.length) = 0 := by
      unfold f_X10_isWithin
      rw [if_neg (nI_pos (by omega)), if_neg (nI_nlt hy (by omega))]
      decide
    unfold f_X10_cut
    rw [k4, if_neg e3, bd_t e1]
    have hlen : (l.take y).length = y := by rw [List.length_take]; omega
    have hget : ∀ j, j < y → (l.take y).getD j 0 = l.getD j 0 := fun j hj => by rw [List.getD_eq_getElem?_getD, List.getElem?_take, if_pos hj, List.getD_eq_getElem?_getD]
    refine ⟨_, rfl, rfl, push P (n, m, b, g, l), ⟨hO2.1, hO2.2.1, hO2.2.2.1, hO2.2.2.2.1, hO2.2.2.2.2.1, by show (l.take y).length ≤ 16; omega, fun k hk => hO2.2.2.2.2.2.2 k (List.mem_of_mem_take hk)⟩, ⟨k0, k1, k2, k3, by show nI y = nI (l.take y).length; rw [hlen], k5, fun j hj => ?_⟩, push_len4 hP, rfl, e2⟩
    change j < (l.take y).length at hj
    rw [hlen] at hj
    show t.2.2.2.2.2.2 j = nI ((l.take y).getD j 0)
    rw [hget j hj]; exact k6 j (by omega)
  · rw [if_neg q] at hA; cases hA
theorem areRight_big : ∀ n, n < 8 → 4 ≤ n → ∀ c, c < 140 → 128 ≤ c → f_X4_areRight (nI c) (nI n) = some 0 := by decide +kernel
theorem v_call {a : AT} {t : TV} {hsz : Int32} {hh : Nat → TV} (hS : SX a t hsz hh) {x y : Int32} {R : Int32 × AT} (hA : A_call a x y = some R) : ∃ R1, f_X10_call x y t.1 t.2.1 t.2.2.1 t.2.2.2.1 t.2.2.2.2.1 t.2.2.2.2.2.1 t.2.2.2.2.2.2 hsz hh = some R1 ∧ R1.1 = R.1 ∧ SX R.2 (t.1, t.2.1, R1.2.1, R1.2.2.1, t.2.2.2.2.1, t.2.2.2.2.2.1, t.2.2.2.2.2.2) R1.2.2.2.1 R1.2.2.2.2 := by
  have hS0 := hS
  obtain ⟨P, hO, hT, hP, rfl, hX⟩ := hS
  obtain ⟨n, m, b, g, l⟩ := a
  obtain ⟨k0, k1, k2, k3, k4, k5, k6⟩ := id hT
  dsimp only at k0 k1 k2 k3 k4 k5 k6
  have hO2 : OKs n m b g l := hO
  have hn := hO2.1
  unfold A_call at hA
  dsimp only at hA
  generalize y.toNatClampNeg = c at hA
  have hwi : x = 1 ∨ x = 2 → ¬ f_X10_isWithin x 1 2 = 0 := by
    intro h
    rcases h with rfl | rfl <;> decide
  by_cases q : (x = 1 ∨ x = 2) ∧ y = nI c ∧ c < 128
  · rw [if_pos q] at hA
    obtain ⟨hx, rfl, hc⟩ := q
    have r1 := p_areRight (n := n) (c := c) hn.1 hn.2 hc
    unfold f_X10_call
    rw [if_neg (hwi hx), k0, bd_t r1]
    by_cases c0 : okb n c = true
    · rw [if_pos c0] at hA
      obtain ⟨hh', e1, e2⟩ := p_record hP hX hO hT
      rw [k0] at e1
      rw [c0, if_neg (show ¬ nI (b1 true) = 0 by decide), bd_t e1]
      have hok : okc n c := (okb_c hn.2).mp c0
      by_cases c1 : x = 1
      · rw [if_pos c1] at hA ⊢
        obtain rfl := Option.some.inj hA
        exact ⟨_, rfl, k2, push P (n, m, b, g, l), ⟨hO2.1, hO2.2.1, hO2.2.2.1, hok, hO2.2.2.2.2.1, hO2.2.2.2.2.2⟩, ⟨rfl, k1, rfl, k3, k4, k5, k6⟩, push_len4 hP, rfl, e2⟩
      · rw [if_neg c1] at hA ⊢
        obtain rfl := Option.some.inj hA
        exact ⟨_, rfl, k3, push P (n, m, b, g, l), ⟨hO2.1, hO2.2.1, hO2.2.2.1, hO2.2.2.2.1, hok, hO2.2.2.2.2.2⟩, ⟨rfl, k1, k2, rfl, k4, k5, k6⟩, push_len4 hP, rfl, e2⟩
    · rw [if_neg c0] at hA
      obtain rfl := Option.some.inj hA
      rw [Bool.eq_false_iff.mpr c0, if_pos (show nI (b1 false) = 0 by decide)]
      refine ⟨_, rfl, rfl, ?_⟩
      have : SX (n, m, b, g, l) (nI n, t.2.1, t.2.2.1, t.2.2.2.1, t.2.2.2.2.1, t.2.2.2.2.2.1, t.2.2.2.2.2.2) (nI P.length) hh := by rw [← k0]; exact hS0
      exact this
  · rw [if_neg q] at hA
    by_cases q2 : (x = 1 ∨ x = 2) ∧ y = nI c ∧ c < 140
    · rw [if_pos q2] at hA
      obtain rfl := Option.some.inj hA
      obtain ⟨hx, rfl, hc⟩ := q2
      have hc2 : 128 ≤ c := by
        rcases Nat.lt_or_ge c 128 with w | w
        · exact absurd ⟨hx, rfl, w⟩ q
        · exact w
      unfold f_X10_call
      rw [if_neg (hwi hx), k0, bd_t (areRight_big n (by omega) hn.1 c hc hc2), if_pos rfl]
      refine ⟨_, rfl, rfl, ?_⟩
      have : SX (n, m, b, g, l) (nI n, t.2.1, t.2.2.1, t.2.2.2.1, t.2.2.2.2.1, t.2.2.2.2.2.1, t.2.2.2.2.2.2) (nI P.length) hh := by rw [← k0]; exact hS0
      exact this
    · rw [if_neg q2] at hA; cases hA
theorem v_bells {a : AT} {t : TV} {hsz : Int32} {hh : Nat → TV} (hS : SX a t hsz hh) {x : Int32} {R : Int32 × AT} (hA : A_bells a x = some R) (rc rm rl rx : Int32) (rp : Nat → Int32) : ∃ R1, f_X10_bells x t.1 t.2.1 t.2.2.1 t.2.2.2.1 t.2.2.2.2.1 t.2.2.2.2.2.1 t.2.2.2.2.2.2 hsz hh rc rm rl rx rp = some R1 ∧ R1.1 = R.1 ∧ SX R.2 (R1.2.1, R1.2.2.1, R1.2.2.2.1, R1.2.2.2.2.1, R1.2.2.2.2.2.1, R1.2.2.2.2.2.2.1, t.2.2.2.2.2.2) R1.2.2.2.2.2.2.2.1 R1.2.2.2.2.2.2.2.2.1 := by
  obtain ⟨P, hO, hT, hP, rfl, hX⟩ := hS
  unfold A_bells at hA
  generalize x.toNatClampNeg = n at hA
  by_cases q : x = nI n ∧ 4 ≤ n ∧ n ≤ 7
  · rw [if_pos q] at hA
    obtain rfl := Option.some.inj hA
    obtain ⟨rfl, h4, hn⟩ := q
    have e3 : ¬ f_X10_isWithin (nI n) 4 7 = 0 := by
      rcases (show n = 4 ∨ n = 5 ∨ n = 6 ∨ n = 7 by omega) with rfl | rfl | rfl | rfl <;> decide
    obtain ⟨hh', e1, e2⟩ := p_record hP hX hO hT
    obtain ⟨p', q1, q2, q3, q4, q5, e5, e6⟩ := p_begin h4 hn t.1 t.2.1 t.2.2.1 t.2.2.2.1 t.2.2.2.2.1 rc rm rl rx t.2.2.2.2.2.1 rp
    unfold f_X10_bells
    rw [if_neg e3, bd_t e1, bd_t e5]
    exact ⟨_, rfl, hT.1, push P a, okS h4 hn, ⟨rfl, rfl, rfl, rfl, rfl, e6, fun j hj => absurd hj (by simp)⟩, push_len4 hP, rfl, e2⟩
  · rw [if_neg q] at hA; cases hA
theorem v_count {n : Nat} {m : List Nat} {b g : Nat} {l pt : List Nat} {places kinds : Nat → Int32} {r : Int32} (h : OKs n m b g l) (hp : ∀ j, j < m.length → places j = nI (m.getD j 0)) (hk : ∀ j, j < l.length → kinds j = nI (l.getD j 0)) (x hz pl vb vc vl va : Int32) (fr ff fo : Nat → Int32) (hpl : pl = nI pt.length) (hA : A_count (n, m, b, g, l) pt x = some r) :
    ∃ R1, f_X10_count x (nI n) (nI m.length) (nI b) (nI g) (nI l.length) places kinds hz pl vb vc vl va fr ff fo = some R1 ∧ R1.1 = r := by
  have hT := h.r.T
  have hn := h.1
  have hl17 : l.length ≤ 17 := by have := h.2.2.2.2.2.1; omega
  obtain ⟨r1, f1, o1, e1, e2, e3⟩ := p_ring h.r hp hk vb vc vl va fr ff fo
  have e3' : firstsX (rws n m b g l) (l.length * m.length) f1 := e3
  have h0 : rws n m b g l 0 = List.range n := rws_0
  have hw : ∃ w, w ≤ 14 ∧ w ≠ 11 ∧ x = nI w := by
    unfold A_count at hA
    by_cases c0 : x = 0
    · exact ⟨0, by omega, by omega, c0⟩
    by_cases c1 : x = 1
    · exact ⟨1, by omega, by omega, c1⟩
    by_cases c2 : x = 2
    · exact ⟨2, by omega, by omega, c2⟩
    by_cases c3 : x = 3
    · exact ⟨3, by omega, by omega, c3⟩
    by_cases c4 : x = 4
    · exact ⟨4, by omega, by omega, c4⟩
    by_cases c5 : x = 5
    · exact ⟨5, by omega, by omega, c5⟩
    by_cases c6 : x = 6
    · exact ⟨6, by omega, by omega, c6⟩
    by_cases c7 : x = 7
    · exact ⟨7, by omega, by omega, c7⟩
    by_cases c8 : x = 8
    · exact ⟨8, by omega, by omega, c8⟩
    by_cases c9 : x = 9
    · exact ⟨9, by omega, by omega, c9⟩
    by_cases c10 : x = 10
    · exact ⟨10, by omega, by omega, c10⟩
    by_cases c12 : x = 12
    · exact ⟨12, by omega, by omega, c12⟩
    by_cases c13 : x = 13
    · exact ⟨13, by omega, by omega, c13⟩
    by_cases c14 : x = 14
    · exact ⟨14, by omega, by omega, c14⟩
    rw [if_neg c0, if_neg c1, if_neg c2, if_neg c3, if_neg c4, if_neg c5, if_neg c6, if_neg c7, if_neg c8, if_neg c9, if_neg c10, if_neg c12, if_neg c13, if_neg c14] at hA
    cases hA
  obtain ⟨w, hw1, hw2, rfl⟩ := hw
  have hC : ∀ w, (4 ≤ w ∧ w ≤ 9) → ¬ f_X10_isWithin (nI w) 4 9 = 0 := by
    intro w hw
    rcases (show w = 4 ∨ w = 5 ∨ w = 6 ∨ w = 7 ∨ w = 8 ∨ w = 9 by omega) with rfl | rfl | rfl | rfl | rfl | rfl <;> decide
  unfold A_count lastA RA at hA
  dsimp only at hA
  unfold f_X10_count f_X9_lastRow
  rw [pk_mul]
  rcases (show w = 0 ∨ w = 1 ∨ w = 2 ∨ w = 3 ∨ w = 4 ∨ w = 5 ∨ w = 6 ∨ w = 7 ∨ w = 8 ∨ w = 9 ∨ w = 10 ∨ w = 12 ∨ w = 13 ∨ w = 14 by omega) with rfl | rfl | rfl | rfl | rfl | rfl | rfl | rfl | rfl | rfl | rfl | rfl | rfl | rfl
  · rw [if_pos (show nI 0 = 0 by decide)] at hA
    rw [if_pos (show nI 0 = 0 by decide)]
    exact ⟨_, rfl, Option.some.inj hA⟩
  · rw [if_neg (show ¬ nI 1 = 0 by decide), if_pos (show nI 1 = 1 by decide)] at hA
    rw [if_neg (show ¬ nI 1 = 0 by decide), if_pos (show nI 1 = 1 by decide)]
    exact ⟨_, rfl, Option.some.inj hA⟩
  · rw [if_neg (show ¬ nI 2 = 0 by decide), if_neg (show ¬ nI 2 = 1 by decide), if_pos (show nI 2 = 2 by decide)] at hA
    rw [if_neg (show ¬ nI 2 = 0 by decide), if_neg (show ¬ nI 2 = 1 by decide), if_pos (show nI 2 = 2 by decide)]
    exact ⟨_, rfl, Option.some.inj hA⟩
  · rw [if_neg (show ¬ nI 3 = 0 by decide), if_neg (show ¬ nI 3 = 1 by decide), if_neg (show ¬ nI 3 = 2 by decide), if_pos (show nI 3 = 3 by decide)] at hA
    rw [if_neg (show ¬ nI 3 = 0 by decide), if_neg (show ¬ nI 3 = 1 by decide), if_neg (show ¬ nI 3 = 2 by decide), if_pos (show nI 3 = 3 by decide)]
    exact ⟨_, rfl, Option.some.inj hA⟩
  · rw [if_neg (show ¬ nI 4 = 0 by decide), if_neg (show ¬ nI 4 = 1 by decide), if_neg (show ¬ nI 4 = 2 by decide), if_neg (show ¬ nI 4 = 3 by decide), if_pos (show nI 4 = 4 by decide)] at hA
    rw [if_neg (show ¬ nI 4 = 0 by decide), if_neg (show ¬ nI 4 = 1 by decide), if_neg (show ¬ nI 4 = 2 by decide), if_neg (show ¬ nI 4 = 3 by decide), if_pos (show nI 4 = 4 by decide)]
    rw [if_neg (hC 4 (by omega))]
    unfold f_X10_countRows
    rw [bd_t e1]
    dsimp only
    rw [if_pos (show nI 4 = 4 by decide)]
    rw [p_comesRound e2 hn.2 hT]
    rcases fnd_cases (some (-4 : Int32)) (fun i => some (nI i)) (fun i => decide (rws n m b g l i = rws n m b g l 0)) (l.length * m.length) 1 with w | ⟨i, -, -, w⟩
    · rw [w]; exact ⟨_, rfl, Option.some.inj (w.symm.trans hA)⟩
    · rw [w]; exact ⟨_, rfl, Option.some.inj (w.symm.trans hA)⟩
  · rw [if_neg (show ¬ nI 5 = 0 by decide), if_neg (show ¬ nI 5 = 1 by decide), if_neg (show ¬ nI 5 = 2 by decide), if_neg (show ¬ nI 5 = 3 by decide), if_neg (show ¬ nI 5 = 4 by decide), if_pos (show nI 5 = 5 by decide)] at hA
    rw [if_neg (show ¬ nI 5 = 0 by decide), if_neg (show ¬ nI 5 = 1 by decide), if_neg (show ¬ nI 5 = 2 by decide), if_neg (show ¬ nI 5 = 3 by decide), if_neg (show ¬ nI 5 = 4 by decide), if_pos (show nI 5 = 5 by decide)]
    rw [if_neg (hC 5 (by omega))]
    unfold f_X10_countRows
    rw [bd_t e1]
    dsimp only
    rw [if_neg (show ¬ nI 5 = 4 by decide), if_pos (show nI 5 = 5 by decide)]
    obtain ⟨z, z1, z2⟩ := p_isTrue e3' hT
    rw [bd_t (show frst (fun i => rws n m b g l i) (l.length * m.length) = some z from z1)] at hA
    rw [bd_t z2]
    by_cases w : z < 0
    · rw [if_pos w] at hA ⊢; exact ⟨_, rfl, Option.some.inj hA⟩
    · rw [if_neg w] at hA ⊢; exact ⟨_, rfl, Option.some.inj hA⟩
  · rw [if_neg (show ¬ nI 6 = 0 by decide), if_neg (show ¬ nI 6 = 1 by decide), if_neg (show ¬ nI 6 = 2 by decide), if_neg (show ¬ nI 6 = 3 by decide), if_neg (show ¬ nI 6 = 4 by decide), if_neg (show ¬ nI 6 = 5 by decide), if_pos (show nI 6 = 6 by decide)] at hA
    rw [if_neg (show ¬ nI 6 = 0 by decide), if_neg (show ¬ nI 6 = 1 by decide), if_neg (show ¬ nI 6 = 2 by decide), if_neg (show ¬ nI 6 = 3 by decide), if_neg (show ¬ nI 6 = 4 by decide), if_neg (show ¬ nI 6 = 5 by decide), if_pos (show nI 6 = 6 by decide)]
    rw [if_neg (hC 6 (by omega))]
    unfold f_X10_countRows
    rw [bd_t e1]
    dsimp only
    rw [if_neg (show ¬ nI 6 = 4 by decide), if_neg (show ¬ nI 6 = 5 by decide), if_pos (show nI 6 = 6 by decide)]
    obtain ⟨z, z1, -⟩ := frst_some (R := rws n m b g l) (T := l.length * m.length)
    rw [p_firstRepeat e3' hT, z1]
    exact ⟨_, rfl, Option.some.inj (z1.symm.trans hA)⟩
  · rw [if_neg (show ¬ nI 7 = 0 by decide), if_neg (show ¬ nI 7 = 1 by decide), if_neg (show ¬ nI 7 = 2 by decide), if_neg (show ¬ nI 7 = 3 by decide), if_neg (show ¬ nI 7 = 4 by decide), if_neg (show ¬ nI 7 = 5 by decide), if_neg (show ¬ nI 7 = 6 by decide), if_pos (show nI 7 = 7 by decide)] at hA
    rw [if_neg (show ¬ nI 7 = 0 by decide), if_neg (show ¬ nI 7 = 1 by decide), if_neg (show ¬ nI 7 = 2 by decide), if_neg (show ¬ nI 7 = 3 by decide), if_neg (show ¬ nI 7 = 4 by decide), if_neg (show ¬ nI 7 = 5 by decide), if_neg (show ¬ nI 7 = 6 by decide), if_pos (show nI 7 = 7 by decide)]
    rw [if_neg (hC 7 (by omega))]
    unfold f_X10_countRows
    rw [bd_t e1]
    dsimp only
    rw [if_neg (show ¬ nI 7 = 4 by decide), if_neg (show ¬ nI 7 = 5 by decide), if_neg (show ¬ nI 7 = 6 by decide), if_pos (show nI 7 = 7 by decide)]
    rw [bd_t (p_differentRows e3' hT)]
    exact ⟨_, rfl, Option.some.inj hA⟩
  · rw [if_neg (show ¬ nI 8 = 0 by decide), if_neg (show ¬ nI 8 = 1 by decide), if_neg (show ¬ nI 8 = 2 by decide), if_neg (show ¬ nI 8 = 3 by decide), if_neg (show ¬ nI 8 = 4 by decide), if_neg (show ¬ nI 8 = 5 by decide), if_neg (show ¬ nI 8 = 6 by decide), if_neg (show ¬ nI 8 = 7 by decide), if_pos (show nI 8 = 8 by decide)] at hA
    rw [if_neg (show ¬ nI 8 = 0 by decide), if_neg (show ¬ nI 8 = 1 by decide), if_neg (show ¬ nI 8 = 2 by decide), if_neg (show ¬ nI 8 = 3 by decide), if_neg (show ¬ nI 8 = 4 by decide), if_neg (show ¬ nI 8 = 5 by decide), if_neg (show ¬ nI 8 = 6 by decide), if_neg (show ¬ nI 8 = 7 by decide), if_pos (show nI 8 = 8 by decide)]
    rw [if_neg (hC 8 (by omega))]
    unfold f_X10_countRows
    rw [bd_t e1]
    dsimp only
    rw [if_neg (show ¬ nI 8 = 4 by decide), if_neg (show ¬ nI 8 = 5 by decide), if_neg (show ¬ nI 8 = 6 by decide), if_neg (show ¬ nI 8 = 7 by decide), if_pos (show nI 8 = 8 by decide)]
    rw [bd_t (p_falsePairs e2 hn.2 hT h.2.1.2 hl17 rfl)]
    exact ⟨_, rfl, Option.some.inj hA⟩
  · rw [if_neg (show ¬ nI 9 = 0 by decide), if_neg (show ¬ nI 9 = 1 by decide), if_neg (show ¬ nI 9 = 2 by decide), if_neg (show ¬ nI 9 = 3 by decide), if_neg (show ¬ nI 9 = 4 by decide), if_neg (show ¬ nI 9 = 5 by decide), if_neg (show ¬ nI 9 = 6 by decide), if_neg (show ¬ nI 9 = 7 by decide), if_neg (show ¬ nI 9 = 8 by decide), if_pos (show nI 9 = 9 by decide)] at hA
    rw [if_neg (show ¬ nI 9 = 0 by decide), if_neg (show ¬ nI 9 = 1 by decide), if_neg (show ¬ nI 9 = 2 by decide), if_neg (show ¬ nI 9 = 3 by decide), if_neg (show ¬ nI 9 = 4 by decide), if_neg (show ¬ nI 9 = 5 by decide), if_neg (show ¬ nI 9 = 6 by decide), if_neg (show ¬ nI 9 = 7 by decide), if_neg (show ¬ nI 9 = 8 by decide), if_pos (show nI 9 = 9 by decide)]
    rw [if_neg (hC 9 (by omega))]
    unfold f_X10_countRows
    rw [bd_t e1]
    dsimp only
    rw [if_neg (show ¬ nI 9 = 4 by decide), if_neg (show ¬ nI 9 = 5 by decide), if_neg (show ¬ nI 9 = 6 by decide), if_neg (show ¬ nI 9 = 7 by decide), if_neg (show ¬ nI 9 = 8 by decide)]
    rw [bd_t (p_wellSounding e2 hn.1 hn.2 hT)]
    exact ⟨_, rfl, Option.some.inj hA⟩
  · rw [if_neg (show ¬ nI 10 = 0 by decide), if_neg (show ¬ nI 10 = 1 by decide), if_neg (show ¬ nI 10 = 2 by decide), if_neg (show ¬ nI 10 = 3 by decide), if_neg (show ¬ nI 10 = 4 by decide), if_neg (show ¬ nI 10 = 5 by decide), if_neg (show ¬ nI 10 = 6 by decide), if_neg (show ¬ nI 10 = 7 by decide), if_neg (show ¬ nI 10 = 8 by decide), if_neg (show ¬ nI 10 = 9 by decide), if_pos (show nI 10 = 10 by decide)] at hA
    rw [if_neg (show ¬ nI 10 = 0 by decide), if_neg (show ¬ nI 10 = 1 by decide), if_neg (show ¬ nI 10 = 2 by decide), if_neg (show ¬ nI 10 = 3 by decide), if_neg (show ¬ nI 10 = 4 by decide), if_neg (show ¬ nI 10 = 5 by decide), if_neg (show ¬ nI 10 = 6 by decide), if_neg (show ¬ nI 10 = 7 by decide), if_neg (show ¬ nI 10 = 8 by decide), if_neg (show ¬ nI 10 = 9 by decide), if_pos (show nI 10 = 10 by decide)]
    rw [bd_t (p_calledLeads hl17 h.2.2.2.2.2.2 hk)]
    exact ⟨_, rfl, Option.some.inj hA⟩
  · rw [if_neg (show ¬ nI 12 = 0 by decide), if_neg (show ¬ nI 12 = 1 by decide), if_neg (show ¬ nI 12 = 2 by decide), if_neg (show ¬ nI 12 = 3 by decide), if_neg (show ¬ nI 12 = 4 by decide), if_neg (show ¬ nI 12 = 5 by decide), if_neg (show ¬ nI 12 = 6 by decide), if_neg (show ¬ nI 12 = 7 by decide), if_neg (show ¬ nI 12 = 8 by decide), if_neg (show ¬ nI 12 = 9 by decide), if_neg (show ¬ nI 12 = 10 by decide), if_pos (show nI 12 = 12 by decide)] at hA
    rw [if_neg (show ¬ nI 12 = 0 by decide), if_neg (show ¬ nI 12 = 1 by decide), if_neg (show ¬ nI 12 = 2 by decide), if_neg (show ¬ nI 12 = 3 by decide), if_neg (show ¬ nI 12 = 4 by decide), if_neg (show ¬ nI 12 = 5 by decide), if_neg (show ¬ nI 12 = 6 by decide), if_neg (show ¬ nI 12 = 7 by decide), if_neg (show ¬ nI 12 = 8 by decide), if_neg (show ¬ nI 12 = 9 by decide), if_neg (show ¬ nI 12 = 10 by decide), if_neg (show ¬ nI 12 = 11 by decide), if_pos (show nI 12 = 12 by decide)]
    exact ⟨_, rfl, Option.some.inj hA⟩
  · rw [if_neg (show ¬ nI 13 = 0 by decide), if_neg (show ¬ nI 13 = 1 by decide), if_neg (show ¬ nI 13 = 2 by decide), if_neg (show ¬ nI 13 = 3 by decide), if_neg (show ¬ nI 13 = 4 by decide), if_neg (show ¬ nI 13 = 5 by decide), if_neg (show ¬ nI 13 = 6 by decide), if_neg (show ¬ nI 13 = 7 by decide), if_neg (show ¬ nI 13 = 8 by decide), if_neg (show ¬ nI 13 = 9 by decide), if_neg (show ¬ nI 13 = 10 by decide), if_neg (show ¬ nI 13 = 12 by decide), if_pos (show nI 13 = 13 by decide)] at hA
    rw [if_neg (show ¬ nI 13 = 0 by decide), if_neg (show ¬ nI 13 = 1 by decide), if_neg (show ¬ nI 13 = 2 by decide), if_neg (show ¬ nI 13 = 3 by decide), if_neg (show ¬ nI 13 = 4 by decide), if_neg (show ¬ nI 13 = 5 by decide), if_neg (show ¬ nI 13 = 6 by decide), if_neg (show ¬ nI 13 = 7 by decide), if_neg (show ¬ nI 13 = 8 by decide), if_neg (show ¬ nI 13 = 9 by decide), if_neg (show ¬ nI 13 = 10 by decide), if_neg (show ¬ nI 13 = 11 by decide), if_neg (show ¬ nI 13 = 12 by decide), if_pos (show nI 13 = 13 by decide)]
    exact ⟨_, rfl, Option.some.inj hA⟩
  · rw [if_neg (show ¬ nI 14 = 0 by decide), if_neg (show ¬ nI 14 = 1 by decide), if_neg (show ¬ nI 14 = 2 by decide), if_neg (show ¬ nI 14 = 3 by decide), if_neg (show ¬ nI 14 = 4 by decide), if_neg (show ¬ nI 14 = 5 by decide), if_neg (show ¬ nI 14 = 6 by decide), if_neg (show ¬ nI 14 = 7 by decide), if_neg (show ¬ nI 14 = 8 by decide), if_neg (show ¬ nI 14 = 9 by decide), if_neg (show ¬ nI 14 = 10 by decide), if_neg (show ¬ nI 14 = 12 by decide), if_neg (show ¬ nI 14 = 13 by decide), if_pos (show nI 14 = 14 by decide)] at hA
    rw [if_neg (show ¬ nI 14 = 0 by decide), if_neg (show ¬ nI 14 = 1 by decide), if_neg (show ¬ nI 14 = 2 by decide), if_neg (show ¬ nI 14 = 3 by decide), if_neg (show ¬ nI 14 = 4 by decide), if_neg (show ¬ nI 14 = 5 by decide), if_neg (show ¬ nI 14 = 6 by decide), if_neg (show ¬ nI 14 = 7 by decide), if_neg (show ¬ nI 14 = 8 by decide), if_neg (show ¬ nI 14 = 9 by decide), if_neg (show ¬ nI 14 = 10 by decide), if_neg (show ¬ nI 14 = 11 by decide), if_neg (show ¬ nI 14 = 12 by decide), if_neg (show ¬ nI 14 = 13 by decide), if_pos (show nI 14 = 14 by decide)]
    rw [hpl]
    exact ⟨_, rfl, Option.some.inj hA⟩
