/-! ===== the five acts ===== -/
section
variable {a : AT} {t m c l : Nat → Int32} {pt : List Nat}
theorem LR_add {k : Nat} (hR : LR a t m c l) : LR (a.1, a.2.1, a.2.2.1, a.2.2.2.1, a.2.2.2.2 ++ [k]) (upd t 2 (nI (a.2.2.2.2.length + 1))) m c (upd l a.2.2.2.2.length (nI k)) := by
  obtain ⟨r0, r1, r2, r3, r4, r5, r6⟩ := hR
  have hlen : (a.2.2.2.2 ++ [k]).length = a.2.2.2.2.length + 1 := by simp
  refine ⟨by rw [up_n (by decide)]; exact r0, by rw [up_n (by decide)]; exact r1, by rw [up_e]; show _ = nI (a.2.2.2.2 ++ [k]).length; rw [hlen], r3, r4, r5, fun i hi => ?_⟩
  change i < (a.2.2.2.2 ++ [k]).length at hi
  rw [hlen] at hi
  show upd l a.2.2.2.2.length (nI k) i = nI ((a.2.2.2.2 ++ [k]).getD i 0)
  rw [getD_snoc hi]
  by_cases q : i = a.2.2.2.2.length
  · rw [q, up_e, if_pos rfl]
  · rw [up_n q, if_neg q]; exact r6 i (by omega)
theorem P_add (hO : OKa a) (hR : LR a t m c l) (hT : lastA a ≤ 180) {y : Nat} (hy : y < 2 ^ 31) : ∃ (t' l' : Nat → Int32) (a' : AT), jj (fun (kk71 : (Int32) → Option actT) => (if (181 : Int32) ≤ ((t 1) * ((t 2) + 1)) then kk71 0 else (if (16 : Int32) ≤ (t 2) then kk71 0 else kk71 1))) (fun (w70 : Int32) => (if w70 = 0 then nm (t 2) (fun (x73 : Int32) => gd (nzb (x73 + 1)) (bd (A_cut a (nI y - nI y / (x73 + 1) * (x73 + 1))) (fun q75 => (if q75.1 = x73 then some (1, (upd t 2 (nI y - nI y / (x73 + 1) * (x73 + 1))), m, c, l, q75.2, pt) else some (0, (upd t 2 (nI y - nI y / (x73 + 1) * (x73 + 1))), m, c, l, q75.2, pt))))) else gd (inb (t 2) 16) (bd (A_add a (nI y - nI y / 3 * 3)) (fun q79 => (if q79.1 = ((upd t 2 ((t 2) + 1)) 2) then some (1, (upd t 2 ((t 2) + 1)), m, c, (upd l (t 2).toNatClampNeg (nI y - nI y / 3 * 3)), q79.2, pt) else some (0, (upd t 2 ((t 2) + 1)), m, c, (upd l (t 2).toNatClampNeg (nI y - nI y / 3 * 3)), q79.2, pt)))))) = (some (1, t', m, c, l', a', pt) : Option actT) ∧ LR a' t' m c l' ∧ lastA a' ≤ 180 := by
  have hl : a.2.2.2.2.length ≤ 16 := hO.2.2.2.2.2.1
  have hm2 : a.2.1.length ≤ 20 := hO.2.1.2
  have r1 := hR.2.1
  have r2 := hR.2.2.1
  obtain ⟨t', a', e, e1, e2⟩ := P_cut (pt := pt) hO hR hT hy
  rw [jj_eq]
  have hx : t 1 * (t 2 + 1) = nI (a.2.1.length * (a.2.2.2.2.length + 1)) := by rw [r1, r2, nI_1, pk_mul]
  have hb : a.2.1.length * (a.2.2.2.2.length + 1) ≤ 20 * 17 := Nat.mul_le_mul hm2 (by omega)
  by_cases q1 : 181 ≤ a.2.1.length * (a.2.2.2.2.length + 1)
  · refine ⟨t', l, a', ?_, e1, e2⟩
    rw [if_pos (by rw [hx]; exact @nI_le 181 _ q1 (by omega))]
    dsimp only
    rw [if_pos rfl]
    exact e
  · rw [if_neg (by rw [hx]; exact @nI_ge _ 181 (by omega) (by decide))]
    by_cases q2 : 16 ≤ a.2.2.2.2.length
    · refine ⟨t', l, a', ?_, e1, e2⟩
      rw [if_pos (by rw [r2]; exact @nI_le 16 _ q2 (by omega))]
      dsimp only
      rw [if_pos rfl]
      exact e
    · have hk : y % 3 < 3 := Nat.mod_lt _ (by decide)
      have hA : A_add a (nI (y % 3)) = some (nI (a.2.2.2.2.length + 1), (a.1, a.2.1, a.2.2.1, a.2.2.2.1, a.2.2.2.2 ++ [y % 3])) := by
        unfold A_add
        rw [nI_clamp (by omega), if_pos ⟨rfl, by omega, by omega⟩]
      refine ⟨_, _, _, ?_, LR_add (k := y % 3) hR, ?_⟩
      · rw [if_neg (by rw [r2]; exact @nI_ge _ 16 (by omega) (by decide))]
        dsimp only
        rw [if_neg one0, r2, gd_t (n_inb (show a.2.2.2.2.length < 16 by omega) (by decide)), nI_1, show (3 : Int32) = nI 3 from rfl, pk_rem hy (by decide) (by decide), bd_t hA, up_e, if_pos rfl, nI_clamp (by omega)]
      · show (a.2.2.2.2 ++ [y % 3]).length * a.2.1.length ≤ 180
        rw [List.length_append, List.length_singleton, Nat.mul_comm]
        omega
theorem P_bells (hO : OKa a) (hR : LR a t m c l) {y : Nat} (hy : y < 2 ^ 31) : ∃ (t' m' c' : Nat → Int32) (a' : AT), nm (t 0) (fun (x42 : Int32) => bd (f_L_beginning ((4 : Int32) + (nI y - nI y / 4 * 4)) t m c) (fun q43 => bd (A_bells a ((4 : Int32) + (nI y - nI y / 4 * 4))) (fun q45 => (if q45.1 = x42 then some (1, q43.1, q43.2.1, q43.2.2, l, q45.2, pt) else some (0, q43.1, q43.2.1, q43.2.2, l, q45.2, pt))))) = (some (1, t', m', c', l, a', pt) : Option actT) ∧ LR a' t' m' c' l ∧ lastA a' ≤ 180 := by
  have hk : y % 4 < 4 := Nat.mod_lt _ (by decide)
  have ex : (4 : Int32) + (nI y - nI y / 4 * 4) = nI (4 + y % 4) := by rw [show (4 : Int32) = nI 4 from rfl, pk_rem hy (by decide) (by decide), nI_add]
  obtain ⟨t', m', c', e1, s0, s1, s2, s3, s4, s5⟩ := L_beginning (n := 4 + y % 4) (by omega) (by omega) t m c
  have hA : A_bells a (nI (4 + y % 4)) = some (nI a.1, (4 + y % 4, mS (4 + y % 4), bS (4 + y % 4), gS (4 + y % 4), [])) := by
    unfold A_bells
    rw [nI_clamp (by omega), if_pos ⟨rfl, by omega, by omega⟩]
  refine ⟨t', m', c', (4 + y % 4, mS (4 + y % 4), bS (4 + y % 4), gS (4 + y % 4), []), ?_, ⟨s0, s1, s2, s3, s4, s5, fun j hj => absurd hj (by simp)⟩, ?_⟩
  · rw [nm_eq, ex, bd_t e1, bd_t hA, if_pos hR.1.symm]
  · show ([] : List Nat).length * _ ≤ 180
    simp
theorem P_call (hO : OKa a) (hR : LR a t m c l) (hT : lastA a ≤ 180) {y : Nat} (hy : y < 2 ^ 31) : ∃ (c' : Nat → Int32) (a' : AT), nm ((1 : Int32) + (nI y - nI y / 2 * 2)) (fun (x48 : Int32) => nm ((nI y / 2) - (nI y / 2) / 140 * 140) (fun (x49 : Int32) => bd (f_L_isRight (t 0) x49) (fun q50 => jj (fun (kk54 : (Int32) → Option actT) => (if q50 = 0 then kk54 (-1) else gd (inb x48 3) (kk54 (c x48.toNatClampNeg)))) (fun (w53 : Int32) => jj (fun (kk56 : (Int32) → Option actT) => (if q50 = 0 then gd (inb x48 3) (kk56 (c x48.toNatClampNeg)) else kk56 x49)) (fun (w55 : Int32) => gd (inb x48 3) (bd (A_call a x48 x49) (fun q58 => (if q58.1 = w53 then some (1, t, m, (upd c x48.toNatClampNeg w55), l, q58.2, pt) else some (0, t, m, (upd c x48.toNatClampNeg w55), l, q58.2, pt))))))))) = (some (1, t, m, c', l, a', pt) : Option actT) ∧ LR a' t m c' l ∧ lastA a' ≤ 180 := by
  have hn : 4 ≤ a.1 ∧ a.1 ≤ 7 := hO.1
  obtain ⟨r0, r1, r2, r3, r4, r5, r6⟩ := id hR
  have hk : y % 2 < 2 := Nat.mod_lt _ (by decide)
  have hp : y / 2 % 140 < 140 := Nat.mod_lt _ (by decide)
  have e1 : (1 : Int32) + (nI y - nI y / 2 * 2) = nI (1 + y % 2) := by rw [show (2 : Int32) = nI 2 from rfl, pk_rem hy (by decide) (by decide), show (1 : Int32) = nI 1 from rfl, nI_add]
  have e2 : (nI y / 2) - (nI y / 2) / 140 * 140 = nI (y / 2 % 140) := by rw [show (2 : Int32) = nI 2 from rfl, pk_div hy (by decide) (by decide), show (140 : Int32) = nI 140 from rfl, pk_rem (by omega) (by decide) (by decide)]
  have e3 := L_isRight_s a.1 (by omega) hn.1 (y / 2 % 140) hp
  generalize hpp : y / 2 % 140 = p at hp e2 e3
  rw [e1, e2, nm_eq, nm_eq, r0, bd_t e3, jj_eq]
  have hin : inb (nI (1 + y % 2)) 3 = true := n_inb (by omega) (by decide)
  have hcl : (nI (1 + y % 2)).toNatClampNeg = 1 + y % 2 := nI_clamp (by omega)
  have hx12 : nI (1 + y % 2) = 1 ∨ nI (1 + y % 2) = 2 := by
    rcases (show y % 2 = 0 ∨ y % 2 = 1 by omega) with q | q
    · exact Or.inl (by rw [q]; rfl)
    · exact Or.inr (by rw [q]; rfl)
  by_cases q : okb a.1 p = true
  · have hp128 : p < 128 := by
      have : p < 2 ^ a.1 - 1 := by
        unfold okb at q
        rw [Bool.and_eq_true, decide_eq_true_eq] at q
        exact q.1
      have := pw_128 hn.2
      omega
    rw [q, if_neg (show ¬ nI (b1 true) = 0 by decide), gd_t hin, hcl]
    dsimp only
    rw [jj_eq, if_neg (show ¬ nI (b1 true) = 0 by decide)]
    dsimp only
    rw [gd_t hin]
    rcases (show y % 2 = 0 ∨ y % 2 = 1 by omega) with z | z
    · have hA : A_call a 1 (nI p) = some (nI a.2.2.1, (a.1, a.2.1, p, a.2.2.2.1, a.2.2.2.2)) := by
        unfold A_call
        rw [nI_clamp (by omega), if_pos ⟨Or.inl rfl, rfl, hp128⟩, if_pos q, if_pos rfl]
      refine ⟨upd c 1 (nI p), (a.1, a.2.1, p, a.2.2.2.1, a.2.2.2.2), ?_, ⟨r0, r1, r2, r3, up_e, by rw [up_n (by decide)]; exact r5, r6⟩, hT⟩
      rw [z, bd_t (show A_call a (nI (1 + 0)) (nI p) = _ from hA), if_pos (show nI a.2.2.1 = c (1 + 0) from r4.symm)]
    · have hA : A_call a 2 (nI p) = some (nI a.2.2.2.1, (a.1, a.2.1, a.2.2.1, p, a.2.2.2.2)) := by
        unfold A_call
        rw [nI_clamp (by omega), if_pos ⟨Or.inr rfl, rfl, hp128⟩, if_pos q, if_neg (show ¬ (2 : Int32) = 1 by decide)]
      refine ⟨upd c 2 (nI p), (a.1, a.2.1, a.2.2.1, p, a.2.2.2.2), ?_, ⟨r0, r1, r2, r3, by rw [up_n (by decide)]; exact r4, up_e, r6⟩, hT⟩
      rw [z, bd_t (show A_call a (nI (1 + 1)) (nI p) = _ from hA), if_pos (show nI a.2.2.2.1 = c (1 + 1) from r5.symm)]
  · rw [Bool.eq_false_iff.mpr q, if_pos (show nI (b1 false) = 0 by decide)]
    dsimp only
    rw [jj_eq, if_pos (show nI (b1 false) = 0 by decide), gd_t hin, hcl]
    dsimp only
    rw [gd_t hin]
    have hA : A_call a (nI (1 + y % 2)) (nI p) = some (-1, a) := by
      unfold A_call
      rw [nI_clamp (show p < 2 ^ 31 by omega)]
      by_cases w : p < 128
      · rw [if_pos ⟨hx12, rfl, w⟩, if_neg q]
      · rw [if_neg (fun z => w z.2.2), if_pos ⟨hx12, rfl, hp⟩]
    refine ⟨upd c (1 + y % 2) (c (1 + y % 2)), a, ?_, ⟨r0, r1, r2, r3, ?_, ?_, r6⟩, hT⟩
    · rw [bd_t hA, if_pos rfl]
    · by_cases w : 1 = 1 + y % 2
      · rw [← w, up_e]; exact r4
      · rw [up_n w]; exact r4
    · by_cases w : 2 = 1 + y % 2
      · rw [← w, up_e]; exact r5
      · rw [up_n w]; exact r5
theorem P_method (hO : OKa a) (hR : LR a t m c l) (hT : lastA a ≤ 180) (hpt : pt.length ≤ 80) {y : Nat} (hy : y < 2 ^ 31) : ∃ (t' m' : Nat → Int32) (a' : AT) (pt' : List Nat), nm ((1 : Int32) + (nI y - nI y / 7 * 7)) (fun (x5 : Int32) => nm (nI y / 7) (fun (x6 : Int32) => (f_L_isActed_L311 (fun (y19 : Int32) (y20 : Int32) (y21 : Nat → Int32) => jj (fun (kk23 : (Int32) → Option actT) => (if (181 : Int32) ≤ ((t 2) * x5) then gd (nzb x5) (kk23 (180 / x5)) else kk23 (t 2))) (fun (w22 : Int32) => bd (A_cut a ((upd (upd t 2 w22) 1 x5) 2)) (fun q24 => (if q24.1 < 0 then some (0, (upd (upd t 2 w22) 1 x5), y21, c, l, q24.2, pt) else bd (f_L_typed x5 ((upd (upd t 2 w22) 1 x5) 0) y21 q24.2 pt) (fun q27 => (if q27.1 = 0 then some (0, (upd (upd t 2 w22) 1 x5), y21, c, l, q24.2, q27.2) else bd (A_fault q24.2 q27.2 0) (fun q31 => (if q31 = (-4) then bd (A_method q24.2 q27.2) (fun q34 => (if q34.1 = x5 then bd (A_count q34.2.1 q34.2.2 14) (fun q37 => (if q37 = 0 then some (1, (upd (upd t 2 w22) 1 x5), y21, c, l, q34.2.1, q34.2.2) else some (0, (upd (upd t 2 w22) 1 x5), y21, c, l, q34.2.1, q34.2.2))) else some (0, (upd (upd t 2 w22) 1 x5), y21, c, l, q34.2.1, q34.2.2))) else some (0, (upd (upd t 2 w22) 1 x5), y21, c, l, q24.2, q27.2))))))))) x5 t c l a pt fu x6 0 m))) = (some (1, t', m', c, l, a', pt') : Option actT) ∧ LR a' t' m' c l ∧ lastA a' ≤ 180 := by
  have hn : 4 ≤ a.1 ∧ a.1 ≤ 7 := hO.1
  have hl : a.2.2.2.2.length ≤ 16 := hO.2.2.2.2.2.1
  have hk : y % 7 < 7 := Nat.mod_lt _ (by decide)
  have e1 : (1 : Int32) + (nI y - nI y / 7 * 7) = nI (1 + y % 7) := by rw [show (7 : Int32) = nI 7 from rfl, pk_rem hy (by decide) (by decide), show (1 : Int32) = nI 1 from rfl, nI_add]
  have e2 : nI y / 7 = nI (y / 7) := by rw [show (7 : Int32) = nI 7 from rfl, pk_div hy (by decide) (by decide)]
  obtain ⟨r0, r1, r2, r3, r4, r5, r6⟩ := id hR
  generalize hmm : 1 + y % 7 = many at e1
  have hm1 : 1 ≤ many := by omega
  have hm7 : many ≤ 7 := by omega
  rw [e1, e2, nm_eq, nm_eq]
  have u := U311 (a := a) (t := t) (c := c) (l := l) (pt := pt) hn.1 hn.2 hm7 r0 (fun (y19 : Int32) (y20 : Int32) (y21 : Nat → Int32) => jj (fun (kk23 : (Int32) → Option actT) => (if (181 : Int32) ≤ ((t 2) * (nI many)) then gd (nzb (nI many)) (kk23 (180 / (nI many))) else kk23 (t 2))) (fun (w22 : Int32) => bd (A_cut a ((upd (upd t 2 w22) 1 (nI many)) 2)) (fun q24 => (if q24.1 < 0 then some (0, (upd (upd t 2 w22) 1 (nI many)), y21, c, l, q24.2, pt) else bd (f_L_typed (nI many) ((upd (upd t 2 w22) 1 (nI many)) 0) y21 q24.2 pt) (fun q27 => (if q27.1 = 0 then some (0, (upd (upd t 2 w22) 1 (nI many)), y21, c, l, q24.2, q27.2) else bd (A_fault q24.2 q27.2 0) (fun q31 => (if q31 = (-4) then bd (A_method q24.2 q27.2) (fun q34 => (if q34.1 = (nI many) then bd (A_count q34.2.1 q34.2.2 14) (fun q37 => (if q37 = 0 then some (1, (upd (upd t 2 w22) 1 (nI many)), y21, c, l, q34.2.1, q34.2.2) else some (0, (upd (upd t 2 w22) 1 (nI many)), y21, c, l, q34.2.1, q34.2.2))) else some (0, (upd (upd t 2 w22) 1 (nI many)), y21, c, l, q34.2.1, q34.2.2))) else some (0, (upd (upd t 2 w22) 1 (nI many)), y21, c, l, q24.2, q27.2))))))))) many 0 (y / 7) fu [] m (by omega) rfl (by omega) (fun y hy => by cases hy) (fun j hj => by omega) (by show many < 8192; omega)
  obtain ⟨seen', f', C, u1, u2, u3, u4⟩ := u
  subst u2
  have fin : ∀ j, j ≤ a.2.2.2.2.length → j * C.length ≤ 180 → (fun (w22 : Int32) => bd (A_cut a ((upd (upd t 2 w22) 1 (nI C.length)) 2)) (fun q24 => (if q24.1 < 0 then some (0, (upd (upd t 2 w22) 1 (nI C.length)), f', c, l, q24.2, pt) else bd (f_L_typed (nI C.length) ((upd (upd t 2 w22) 1 (nI C.length)) 0) f' q24.2 pt) (fun q27 => (if q27.1 = 0 then some (0, (upd (upd t 2 w22) 1 (nI C.length)), f', c, l, q24.2, q27.2) else bd (A_fault q24.2 q27.2 0) (fun q31 => (if q31 = (-4) then bd (A_method q24.2 q27.2) (fun q34 => (if q34.1 = (nI C.length) then bd (A_count q34.2.1 q34.2.2 14) (fun q37 => (if q37 = 0 then some (1, (upd (upd t 2 w22) 1 (nI C.length)), f', c, l, q34.2.1, q34.2.2) else some (0, (upd (upd t 2 w22) 1 (nI C.length)), f', c, l, q34.2.1, q34.2.2))) else some (0, (upd (upd t 2 w22) 1 (nI C.length)), f', c, l, q34.2.1, q34.2.2))) else some (0, (upd (upd t 2 w22) 1 (nI C.length)), f', c, l, q24.2, q27.2)))))))) (nI j) = (some (1, upd (upd t 2 (nI j)) 1 (nI C.length), f', c, l, (a.1, C, a.2.2.1, a.2.2.2.1, a.2.2.2.2.take j), []) : Option actT) := by
    intro j hj hj2
    have d2 : upd (upd t 2 (nI j)) 1 (nI C.length) 2 = nI j := by rw [up_n (by decide), up_e]
    have d0 : upd (upd t 2 (nI j)) 1 (nI C.length) 0 = nI a.1 := by rw [up_n (by decide), up_n (by decide)]; exact r0
    have ty := P_typed (a := (a.1, a.2.1, a.2.2.1, a.2.2.2.1, a.2.2.2.2.take j)) (m := f') (pt := pt) hn.2 (fun c hc => (u3 c hc).2) hm7 (by omega) u4
    have rd' := rdp_txk hn.1 hn.2 C u3 hm1 (by omega)
    have hF : A_fault (a.1, a.2.1, a.2.2.1, a.2.2.2.1, a.2.2.2.2.take j) (txk a.1 C C.length) 0 = some (-4) := by
      unfold A_fault
      rw [if_pos rfl]
      dsimp only
      rw [rd']
    have hM : A_method (a.1, a.2.1, a.2.2.1, a.2.2.2.1, a.2.2.2.2.take j) (txk a.1 C C.length) = some (nI C.length, (a.1, C, a.2.2.1, a.2.2.2.1, a.2.2.2.2.take j), []) := by
      unfold A_method
      dsimp only
      rw [rd']
    dsimp only
    rw [d2, d0, bd_t (cut_at hj (by omega))]
    dsimp only
    rw [if_neg (nI_pos (by omega)), bd_t ty]
    dsimp only
    rw [if_neg one0, bd_t hF, if_pos rfl, bd_t hM]
    dsimp only
    rw [if_pos rfl, bd_t (show A_count (a.1, C, a.2.2.1, a.2.2.2.1, a.2.2.2.2.take j) [] 14 = some 0 from rfl), if_pos rfl]
  have LRm : ∀ j, j ≤ a.2.2.2.2.length → j * C.length ≤ 180 → LR (a.1, C, a.2.2.1, a.2.2.2.1, a.2.2.2.2.take j) (upd (upd t 2 (nI j)) 1 (nI C.length)) f' c l ∧ lastA (a.1, C, a.2.2.1, a.2.2.2.1, a.2.2.2.2.take j) ≤ 180 := by
    intro j hj hj2
    obtain ⟨v0, v1, v2, v3, v4, v5, v6⟩ := LR_cut hR hj
    refine ⟨⟨by rw [up_n (by decide)]; exact v0, up_e, by rw [up_n (by decide)]; exact v2, u4, v4, v5, v6⟩, ?_⟩
    show (a.2.2.2.2.take j).length * C.length ≤ 180
    rw [List.length_take, Nat.min_eq_left hj]
    exact hj2
  by_cases q : 181 ≤ a.2.2.2.2.length * C.length
  · have hj : 180 / C.length ≤ a.2.2.2.2.length := by
      refine Nat.le_of_lt_succ (Nat.div_lt_of_lt_mul ?_)
      rw [Nat.mul_comm, Nat.succ_mul]
      omega
    have hj2 : 180 / C.length * C.length ≤ 180 := Nat.div_mul_le_self _ _
    refine ⟨upd (upd t 2 (nI (180 / C.length))) 1 (nI C.length), f', (a.1, C, a.2.2.1, a.2.2.2.1, a.2.2.2.2.take (180 / C.length)), [], ?_, (LRm _ hj hj2).1, (LRm _ hj hj2).2⟩
    refine u1.trans ?_
    have hb : a.2.2.2.2.length * C.length ≤ 16 * 7 := Nat.mul_le_mul hl hm7
    rw [jj_eq, r2, pk_mul, if_pos (show (181 : Int32) ≤ nI (a.2.2.2.2.length * C.length) from @nI_le 181 _ q (by omega)), gd_t (nzb_t (by omega) (by omega)), show (180 : Int32) / nI C.length = nI (180 / C.length) from pk_div (a := 180) (by decide) (by omega) (by omega)]
    exact fin _ hj hj2
  · refine ⟨upd (upd t 2 (nI a.2.2.2.2.length)) 1 (nI C.length), f', (a.1, C, a.2.2.1, a.2.2.2.1, a.2.2.2.2.take a.2.2.2.2.length), [], ?_, (LRm a.2.2.2.2.length (Nat.le_refl _) (by omega)).1, (LRm a.2.2.2.2.length (Nat.le_refl _) (by omega)).2⟩
    refine u1.trans ?_
    rw [jj_eq, if_neg (show ¬ (181 : Int32) ≤ t 2 * nI C.length by rw [r2, pk_mul]; exact @nI_ge _ 181 (by omega) (by decide)), r2]
    exact fin _ (Nat.le_refl _) (by omega)
theorem P_isActed (hO : OKa a) (hR : LR a t m c l) (hT : lastA a ≤ 180) (hpt : pt.length ≤ 80) {way y : Nat} (hw : way < 15) (hy : y < 2 ^ 31) : ∃ t' m' c' l' a' pt', f_L_isActed (nI way) (nI y) t m c l a pt = some (1, t', m', c', l', a', pt') ∧ LR a' t' m' c' l' ∧ lastA a' ≤ 180 := by
  unfold f_L_isActed
  by_cases c9 : 9 ≤ way
  · rw [if_pos (show (9 : Int32) ≤ nI way from @nI_le 9 way c9 (by omega))]
    by_cases w9 : way = 9
    · rw [if_pos (show nI way = 9 by rw [w9]; rfl)]
      obtain ⟨t', a', e, h1, h2⟩ := P_cut (pt := pt) hO hR hT hy
      exact ⟨t', m, c, l, a', pt, e, h1, h2⟩
    · rw [if_neg (show ¬ nI way = 9 from fun z => w9 ((nI_eq (b := 9) (by omega) (by decide)).mp z))]
      by_cases c12 : 12 ≤ way
      · rw [if_pos (show (12 : Int32) ≤ nI way from @nI_le 12 way c12 (by omega))]
        by_cases w12 : way = 12
        · rw [if_pos (show nI way = 12 by rw [w12]; rfl)]
          obtain ⟨t', m', c', a', e, h1, h2⟩ := P_bells (pt := pt) hO hR hy
          exact ⟨t', m', c', l, a', pt, e, h1, h2⟩
        · rw [if_neg (show ¬ nI way = 12 from fun z => w12 ((nI_eq (b := 12) (by omega) (by decide)).mp z))]
          obtain ⟨t', m', a', pt', e, h1, h2⟩ := P_method hO hR hT hpt hy
          exact ⟨t', m', c, l, a', pt', e, h1, h2⟩
      · rw [if_neg (show ¬ (12 : Int32) ≤ nI way from @nI_ge way 12 (by omega) (by decide))]
        obtain ⟨c', a', e, h1, h2⟩ := P_call (pt := pt) hO hR hT hy
        exact ⟨t, m, c', l, a', pt, e, h1, h2⟩
  · rw [if_neg (show ¬ (9 : Int32) ≤ nI way from @nI_ge way 9 (by omega) (by decide))]
    obtain ⟨t', l', a', e, h1, h2⟩ := P_add (pt := pt) hO hR hT hy
    exact ⟨t', m, c, l', a', pt, e, h1, h2⟩
end
