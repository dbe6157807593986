def f_L_areRows_L315 (k : Int32 → Int32 → Option (Int32)) (s3 : Int32) (s4 : Int32) (s5 : Int32) (s6 : Int32) (s7 : Int32) (s8 : Int32) (s9 : Int32) (s10 : Int32) (s11 : Int32) (s12 : Int64) (s15 : Int32) (s16 : Int32) (f_p1 : Nat → Int32) (f_p2 : Nat → Int64) (v_o_a : AT) (v_o_p : List Nat) : Nat → Int32 → Int32 → Option (Int32)
  | 0, _, _ => none
  | n + 1, s14, s17 => (if s16 ≤ s17 then (k s14 s17) else nm (if (f_L_digit s4 s12 s17) ≤ (f_L_digit s4 s12 s16) then (0 : Int32) else (1 : Int32)) (fun (w22 : Int32) => nm (s14 ^^^ w22) (fun (x23 : Int32) => (f_L_areRows_L315 k s3 s4 s5 s6 s7 s8 s9 s10 s11 s12 s15 s16 f_p1 f_p2 v_o_a v_o_p n x23 (s17 + 1)))))
def f_L_areRows_L245 (k : Int32 → Int32 → Int32 → Int32 → Option (Int32)) (s3 : Int32) (s4 : Int32) (s5 : Int32) (s6 : Int32) (s7 : Int32) (s8 : Int32) (s9 : Int32) (s11 : Int32) (s12 : Int64) (f_p1 : Nat → Int32) (f_p2 : Nat → Int64) (v_o_a : AT) (v_o_p : List Nat) : Nat → Int32 → Int32 → Int32 → Int32 → Option (Int32)
  | 0, _, _, _, _ => none
  | n + 1, s10, s14, s15, s16 => (if s4 ≤ s16 then (k s10 s14 s15 s16) else jj (fun (kk18 : (Int32) → Option (Int32)) => (if s10 = 0 then kk18 0 else bd (A_bell v_o_a s11 (s16 + 1)) (fun q29 => (if q29 = (f_L_digit s4 s12 s16) then kk18 1 else kk18 0)))) (fun (w17 : Int32) => nm (if (f_L_digit s4 s12 s16) = (s16 + 1) then (1 : Int32) else (0 : Int32)) (fun (w19 : Int32) => nm (s15 + w19) (fun (x20 : Int32) => (f_L_areRows_L315 (fun (y25 : Int32) (y26 : Int32) => (f_L_areRows_L245 k s3 s4 s5 s6 s7 s8 s9 s11 s12 f_p1 f_p2 v_o_a v_o_p n w17 y25 x20 (s16 + 1))) s3 s4 s5 s6 s7 s8 s9 w17 s11 s12 x20 s16 f_p1 f_p2 v_o_a v_o_p fu s14 0)))))
def f_L_areRows_L97 (k : Int32 → Int32 → Int32 → Int32 → Int32 → Int32 → Option (Int32)) (s3 : Int32) (s4 : Int32) (s5 : Int32) (f_p1 : Nat → Int32) (f_p2 : Nat → Int64) (v_o_a : AT) (v_o_p : List Nat) : Nat → Int32 → Int32 → Int32 → Int32 → Int32 → Int32 → Option (Int32)
  | 0, _, _, _, _, _, _ => none
  | n + 1, s6, s7, s8, s9, s10, s11 => (if s5 < s11 then (k s6 s7 s8 s9 s10 s11) else (if s10 = 0 then (k s6 s7 s8 s9 s10 s11) else bd (f_L_rowAt s11 f_p2) (fun q9 => jj (fun (kk12 : (Int32 × Int32 × Int32 × Int32) → Option (Int32)) => (if s11 ≤ 0 then kk12 (s6, s7, s8, s9) else jj (fun (kk89 : (Int32) → Option (Int32)) => (if (0 : Int32) ≤ s6 then kk89 s6 else bd (f_L_rowAt 0 f_p2) (fun q105 => (if (lg_cmp q9 q105) = 0 then kk89 s11 else kk89 s6)))) (fun (w88 : Int32) => bd (f_L_first s11 1 f_p2) (fun q90 => nm (if s11 ≤ q90 then (0 : Int32) else (1 : Int32)) (fun (w92 : Int32) => nm (if (0 : Int32) ≤ s7 then s7 else (if w92 = 0 then s7 else s11)) (fun (w93 : Int32) => nm (if w92 = 0 then (1 : Int32) else (0 : Int32)) (fun (w94 : Int32) => nm (s8 + w94) (fun (x95 : Int32) => nm (if (f_L_sounds s4 q9) = 0 then (0 : Int32) else (1 : Int32)) (fun (w97 : Int32) => nm (s9 + w97) (fun (x98 : Int32) => kk12 (w88, w93, x95, x98))))))))))) (fun (w11 : Int32 × Int32 × Int32 × Int32) => jj (fun (kk14 : (Int32) → Option (Int32)) => (if (s11 - s11 / 9 * 9) = s3 then (f_L_areRows_L245 (fun (y32 : Int32) (y33 : Int32) (y34 : Int32) (y35 : Int32) => jj (fun (kk37 : (Int32) → Option (Int32)) => (if y32 = 0 then kk37 0 else bd (A_row v_o_a s11 0) (fun q39 => (if q39 = y33 then bd (A_row v_o_a s11 1) (fun q42 => (if q42 = y33 then bd (A_row v_o_a s11 2) (fun q45 => nm (if (f_L_sounds s4 q9) = 0 then (0 : Int32) else (1 : Int32)) (fun (w48 : Int32) => (if q45 = w48 then bd (A_row v_o_a s11 3) (fun q50 => (if q50 = y34 then bd (A_row v_o_a s11 4) (fun q53 => bd (f_L_first s11 0 f_p2) (fun q55 => (if q53 = q55 then kk37 1 else kk37 0))) else kk37 0)) else kk37 0))) else kk37 0)) else kk37 0)))) (fun (w36 : Int32) => kk14 w36)) s3 s4 s5 w11.1 w11.2.1 w11.2.2.1 w11.2.2.2 s11 q9 f_p1 f_p2 v_o_a v_o_p fu s10 0 0 0) else (if s11 = s5 then (f_L_areRows_L245 (fun (y60 : Int32) (y61 : Int32) (y62 : Int32) (y63 : Int32) => jj (fun (kk65 : (Int32) → Option (Int32)) => (if y60 = 0 then kk65 0 else bd (A_row v_o_a s11 0) (fun q67 => (if q67 = y61 then bd (A_row v_o_a s11 1) (fun q70 => (if q70 = y61 then bd (A_row v_o_a s11 2) (fun q73 => nm (if (f_L_sounds s4 q9) = 0 then (0 : Int32) else (1 : Int32)) (fun (w76 : Int32) => (if q73 = w76 then bd (A_row v_o_a s11 3) (fun q78 => (if q78 = y62 then bd (A_row v_o_a s11 4) (fun q81 => bd (f_L_first s11 0 f_p2) (fun q83 => (if q81 = q83 then kk65 1 else kk65 0))) else kk65 0)) else kk65 0))) else kk65 0)) else kk65 0)))) (fun (w64 : Int32) => kk14 w64)) s3 s4 s5 w11.1 w11.2.1 w11.2.2.1 w11.2.2.2 s11 q9 f_p1 f_p2 v_o_a v_o_p fu s10 0 0 0) else kk14 s10))) (fun (w13 : Int32) => (f_L_areRows_L97 k s3 s4 s5 f_p1 f_p2 v_o_a v_o_p n w11.1 w11.2.1 w11.2.2.1 w11.2.2.2 w13 (s11 + 1)))))))
def f_L_areRows (s3 : Int32) (f_p1 : Nat → Int32) (f_p2 : Nat → Int64) (v_o_a : AT) (v_o_p : List Nat) : Option (Int32) :=
  nm (f_p1 (0 : Int32).toNatClampNeg) (fun (x1 : Int32) => nm ((f_p1 (1 : Int32).toNatClampNeg) * (f_p1 (2 : Int32).toNatClampNeg)) (fun (x2 : Int32) => bd (A_bell v_o_a (x2 + 1) 1) (fun q3 => jj (fun (kk6 : (Int32) → Option (Int32)) => (if q3 = (-1) then bd (A_bell v_o_a (-1) 1) (fun q143 => (if q143 = (-1) then bd (A_bell v_o_a 0 (x1 + 1)) (fun q146 => (if q146 = (-1) then bd (A_bell v_o_a 0 0) (fun q149 => (if q149 = (-1) then bd (A_row v_o_a (x2 + 1) 0) (fun q152 => (if q152 = (-1) then kk6 1 else kk6 0)) else kk6 0)) else kk6 0)) else kk6 0)) else kk6 0)) (fun (w5 : Int32) => (f_L_areRows_L97 (fun (y108 : Int32) (y109 : Int32) (y110 : Int32) (y111 : Int32) (y112 : Int32) (y113 : Int32) => (if y112 = 0 then some 0 else bd (A_count v_o_a v_o_p 3) (fun q115 => (if q115 = x2 then bd (A_count v_o_a v_o_p 4) (fun q118 => (if q118 = y108 then bd (A_count v_o_a v_o_p 5) (fun q121 => nm (if (0 : Int32) ≤ y109 then (0 : Int32) else (1 : Int32)) (fun (w123 : Int32) => (if q121 = w123 then bd (A_count v_o_a v_o_p 6) (fun q125 => (if q125 = y109 then bd (A_count v_o_a v_o_p 7) (fun q128 => (if q128 = y110 then bd (A_count v_o_a v_o_p 9) (fun q131 => (if q131 = y111 then bd (A_music v_o_a) (fun q134 => jj (fun (kk137 : (UInt64) → Option (Int32)) => (if x2 = 0 then kk137 FP.dconst0 else gd (nnb (FP.ddiv (FP.i2d y111) (FP.i2d x2))) (kk137 (FP.ddiv (FP.i2d y111) (FP.i2d x2))))) (fun (w136 : UInt64) => (if (Op.cmpValue (FP.dcmp q134 w136) .l) = 0 then some 1 else some 0))) else some 0)) else some 0)) else some 0)) else some 0))) else some 0)) else some 0)))) s3 x1 x2 f_p1 f_p2 v_o_a v_o_p fu (-4) (-4) 0 0 w5 0)))))
abbrev rm_L_areRows : Room := { frames := 7, cells := 0, slots := 0, locals := 170 }
set_option maxHeartbeats 4000000 in
set_option maxRecDepth 100000 in
theorem c_L_areRows (l : Launch) (D : va_G) (Y : ClassId × ClassId × ClassId × ClassId) (a_p1 a_p2 a_o : Nat) (f_p1 : Nat → Int32) (f_p2 : Nat → Int64) (v_o_a : AT) (v_o_p : List Nat) (s3 : Int32) (ws : va_W) (hX : OX Y a_o v_o_a v_o_p ws) (sz : Nat) (R : Int32) (hf : f_L_areRows s3 f_p1 f_p2 v_o_a v_o_p = some R) : Met l yL_areRows (ws_ yL_areRows cL_areRows 18 (some .boolean)) rm_L_areRows (va_Pc [.ref a_o, .ref a_p1, .ref a_p2, .int s3] (RW D Y sz ([(a_p1, .inl (Y.1, 3, .inl f_p1)), (a_p2, .inl (Y.2.2.2, 64, .inr (.inl f_p2)))] ++ ws))) (QXz D R (fun ws => OX Y a_o v_o_a v_o_p ws) (fun ws => ([(a_p1, .inl (Y.1, 3, .inl f_p1)), (a_p2, .inl (Y.2.2.2, 64, .inr (.inl f_p2)))] ++ ws)) (va_A ([(a_p1, .inl (Y.1, 3, .inl f_p1)), (a_p2, .inl (Y.2.2.2, 64, .inr (.inl f_p2)))] ++ ws) sz)) 0 0 (va_A ([(a_p1, .inl (Y.1, 3, .inl f_p1)), (a_p2, .inl (Y.2.2.2, 64, .inr (.inl f_p2)))] ++ ws) sz) := by
  refine rw_start (l := l) (y := yL_areRows) (cc := cL_areRows) (maxL := 18) (ret := (some .boolean)) (rm := rm_L_areRows) (args := [.ref a_o, .ref a_p1, .ref a_p2, .int s3]) (D := D) (Y := Y) (sz := sz) (ws := ([(a_p1, .inl (Y.1, 3, .inl f_p1)), (a_p2, .inl (Y.2.2.2, 64, .inr (.inl f_p2)))] ++ ws)) (mc := 0) (ms := 0) (Qc := (fun A => QXz D R (fun ws => OX Y a_o v_o_a v_o_p ws) (fun ws => ([(a_p1, .inl (Y.1, 3, .inl f_p1)), (a_p2, .inl (Y.2.2.2, 64, .inr (.inl f_p2)))] ++ ws)) A)) (by decide) (Nat.le_of_ble_eq_true rfl) ?_
  intro p e s m below meth c ls A hx hb hml hr hlocks hown hts hnm hA hP hD hS hE hl
  generalize hargs : List.toArray _ = args at hts ⊢
  have hown : s.vm.findClass RL = some m.cls := hown
  have E : EN p m c cL_areRows 18 s args RL := ⟨hx, hb, hml, hown, hts⟩
  have hl : lv_has ls 18 [(0, .ref a_o), (1, .ref a_p1), (2, .ref a_p2), (3, .int s3)] := hl
  generalize hQ : MQ below _ args s 0 0 _ = Q
  unfold f_L_areRows at hf
  have L315 : ∀ (n : Nat) (k : Int32 → Int32 → Option (Int32)) (s3 : Int32) (s4 : Int32) (s5 : Int32) (s6 : Int32) (s7 : Int32) (s8 : Int32) (s9 : Int32) (s10 : Int32) (s11 : Int32) (s12 : Int64) (s15 : Int32) (s16 : Int32) (s14 : Int32) (s17 : Int32) (H : Heap) (locs : List Loc) (ws : va_W) (ls : Array Slot), f_L_areRows_L315 k s3 s4 s5 s6 s7 s8 s9 s10 s11 s12 s15 s16 f_p1 f_p2 v_o_a v_o_p n s14 s17 = some R → OX Y a_o v_o_a v_o_p ws → va_P D vwCl ([(a_p1, .inl (Y.1, 3, .inl f_p1)), (a_p2, .inl (Y.2.2.2, 64, .inr (.inl f_p2)))] ++ ws) H → va_D A ([(a_p1, .inl (Y.1, 3, .inl f_p1)), (a_p2, .inl (Y.2.2.2, 64, .inr (.inl f_p2)))] ++ ws) → va_S A s.heap H locs → lv_has ls 18 [(0, .ref a_o), (2, .ref a_p2), (3, .int s3), (4, .int s4), (5, .int s5), (6, .int s6), (7, .int s7), (8, .int s8), (9, .int s9), (10, .int s10), (11, .int s11), (12, .long s12), (14, .int s14), (15, .int s15), (16, .int s16), (17, .int s17)] → (∀ (y_s14 : Int32) (y_s17 : Int32) (H : Heap) (locs : List Loc) (ws : va_W) (ls : Array Slot), k y_s14 y_s17 = some R → OX Y a_o v_o_a v_o_p ws → va_P D vwCl ([(a_p1, .inl (Y.1, 3, .inl f_p1)), (a_p2, .inl (Y.2.2.2, 64, .inr (.inl f_p2)))] ++ ws) H → va_D A ([(a_p1, .inl (Y.1, 3, .inl f_p1)), (a_p2, .inl (Y.2.2.2, 64, .inr (.inl f_p2)))] ++ ws) → va_S A s.heap H locs → lv_has ls 18 [(0, .ref a_o), (2, .ref a_p2), (3, .int s3), (4, .int s4), (5, .int s5), (6, .int s6), (7, .int s7), (8, .int s8), (9, .int s9), (10, .int s10), (11, .int s11), (12, .long s12), (14, .int y_s14), (15, .int s15), (16, .int s16)] → W p l e rm_L_areRows s m args below meth c H locs 0 0 Q (F0 m 359 ls [])) → W p l e rm_L_areRows s m args below meth c H locs 0 0 Q (F0 m 315 ls []) := by
    intro n
    induction n with
    | zero =>
      intro k s3 s4 s5 s6 s7 s8 s9 s10 s11 s12 s15 s16 s14 s17 H locs ws ls hf
      cases hf
    | succ n ih =>
      intro k s3 s4 s5 s6 s7 s8 s9 s10 s11 s12 s15 s16 s14 s17 H locs ws ls hf hX hP hD hS hl hk
      unfold f_L_areRows_L315 at hf
      refine lv_iload hx hb dL_areRows_315 (lv_at hl 15 rfl) ?_
      refine lv_iload hx hb dL_areRows_317 (lv_at hl 14 rfl) ?_
      refine lv_icmp_ge (tgt := 359) hx hb dL_areRows_319 (by decide) (fun c21 => ?_) (fun c21 => ?_)
      · have hf := ite_t c21 hf
        exact hk _ _ _ _ _ _ hf hX hP hD hS (lv_sub hl [0, 1, 2, 3, 4, 5, 6, 7, 8, 9, 10, 11, 12, 13, 14] rfl)
      have hf := ite_f c21 hf
      refine lv_iload hx hb dL_areRows_322 (lv_at hl 12 rfl) ?_
      refine lv_iload hx hb dL_areRows_324 (lv_at hl 3 rfl) ?_
      refine lv_lload hx hb dL_areRows_326 (lv_at hl 11 rfl) ?_
      refine lv_iload hx hb dL_areRows_328 (lv_at hl 15 rfl) ?_
      refine af_oi (run_S (As := [.int s4, .long s12, .int s17]) (rest := [.int s14]) E (c_L_digit l D Y s4 s12 s17 (f_L_digit s4 s12 s17) rfl) qw516 qw517 qw18 qw518 rfl rfl hd_L_digit ⟨Nat.le_of_ble_eq_true rfl, Nat.le_of_ble_eq_true rfl⟩ (pre_roS hP hE [] rfl) rfl hl.1 rfl (Nat.le_of_ble_eq_true rfl) dL_areRows_330 ⟨Nat.le_of_ble_eq_true rfl, Nat.le_of_ble_eq_true rfl⟩) ?_
      refine lv_iload hx hb dL_areRows_333 (lv_at hl 3 rfl) ?_
      refine lv_lload hx hb dL_areRows_335 (lv_at hl 11 rfl) ?_
      refine lv_iload hx hb dL_areRows_337 (lv_at hl 14 rfl) ?_
      refine af_oi (run_S (As := [.int s4, .long s12, .int s16]) (rest := [.int (f_L_digit s4 s12 s17), .int s14]) E (c_L_digit l D Y s4 s12 s16 (f_L_digit s4 s12 s16) rfl) qw516 qw517 qw18 qw518 rfl rfl hd_L_digit ⟨Nat.le_of_ble_eq_true rfl, Nat.le_of_ble_eq_true rfl⟩ (pre_roS hP hE [] rfl) rfl hl.1 rfl (Nat.le_of_ble_eq_true rfl) dL_areRows_339 ⟨Nat.le_of_ble_eq_true rfl, Nat.le_of_ble_eq_true rfl⟩) ?_
      refine mg (P := fun (w22 : Int32) => ∀ (ls : Array Slot), lv_has ls 18 [(0, .ref a_o), (2, .ref a_p2), (3, .int s3), (4, .int s4), (5, .int s5), (6, .int s6), (7, .int s7), (8, .int s8), (9, .int s9), (10, .int s10), (11, .int s11), (12, .long s12), (15, .int s15), (16, .int s16), (17, .int s17)] → W p l e rm_L_areRows s m args below meth c H locs 0 0 Q (F0 m 350 ls [.int w22, .int s14])) hf (fun w22 hf ls hl => ?_) (fun hJ => ?_)
      · refine lv_ixor hx hb dL_areRows_350 ?_
        refine nm_W hf (fun x23 hf => ?_)
        refine lv_istore (lv' := [(14, .int x23), (0, .ref a_o), (2, .ref a_p2), (3, .int s3), (4, .int s4), (5, .int s5), (6, .int s6), (7, .int s7), (8, .int s8), (9, .int s9), (10, .int s10), (11, .int s11), (12, .long s12), (15, .int s15), (16, .int s16), (17, .int s17)]) hx hb dL_areRows_351 hl (by decide) rfl (fun ls hl => ?_)
        refine lv_iinc (v := (s17 + 1)) (lv' := [(17, .int (s17 + 1)), (14, .int x23), (0, .ref a_o), (2, .ref a_p2), (3, .int s3), (4, .int s4), (5, .int s5), (6, .int s6), (7, .int s7), (8, .int s8), (9, .int s9), (10, .int s10), (11, .int s11), (12, .long s12), (15, .int s15), (16, .int s16)]) hx hb dL_areRows_353 hl (k := 15) rfl rfl (by decide) rfl (fun ls hl => ?_)
        refine lv_goto (tgt := 315) hx hb dL_areRows_356 (by decide) ?_
        exact ih _ _ _ _ _ _ _ _ _ _ _ _ _ _ _ _ _ _ _ hf hX hP hD hS (lv_sub hl [2, 3, 4, 5, 6, 7, 8, 9, 10, 11, 12, 13, 1, 14, 15, 0] rfl) hk
      refine lv_icmp_le (tgt := 349) hx hb dL_areRows_342 (by decide) (fun c24 => ?_) (fun c24 => ?_)
      · have hf := nmi_t c24 hf
        refine lv_iconst (v := 0) hx hb dL_areRows_349 (by decide) ?_
        exact hJ _ (nm_b hf) _ (lv_sub hl [0, 1, 2, 3, 4, 5, 6, 7, 8, 9, 10, 11, 13, 14, 15] rfl)
      have hf := nmi_f c24 hf
      refine lv_iconst (v := 1) hx hb dL_areRows_345 (by decide) ?_
      refine lv_goto (tgt := 350) hx hb dL_areRows_346 (by decide) ?_
      exact hJ _ (nm_b hf) _ (lv_sub hl [0, 1, 2, 3, 4, 5, 6, 7, 8, 9, 10, 11, 13, 14, 15] rfl)
  have L245 : ∀ (n : Nat) (k : Int32 → Int32 → Int32 → Int32 → Option (Int32)) (s3 : Int32) (s4 : Int32) (s5 : Int32) (s6 : Int32) (s7 : Int32) (s8 : Int32) (s9 : Int32) (s11 : Int32) (s12 : Int64) (s10 : Int32) (s14 : Int32) (s15 : Int32) (s16 : Int32) (H : Heap) (locs : List Loc) (ws : va_W) (ls : Array Slot), f_L_areRows_L245 k s3 s4 s5 s6 s7 s8 s9 s11 s12 f_p1 f_p2 v_o_a v_o_p n s10 s14 s15 s16 = some R → OX Y a_o v_o_a v_o_p ws → va_P D vwCl ([(a_p1, .inl (Y.1, 3, .inl f_p1)), (a_p2, .inl (Y.2.2.2, 64, .inr (.inl f_p2)))] ++ ws) H → va_D A ([(a_p1, .inl (Y.1, 3, .inl f_p1)), (a_p2, .inl (Y.2.2.2, 64, .inr (.inl f_p2)))] ++ ws) → va_S A s.heap H locs → lv_has ls 18 [(0, .ref a_o), (2, .ref a_p2), (3, .int s3), (4, .int s4), (5, .int s5), (6, .int s6), (7, .int s7), (8, .int s8), (9, .int s9), (10, .int s10), (11, .int s11), (12, .long s12), (14, .int s14), (15, .int s15), (16, .int s16)] → (∀ (y_s10 : Int32) (y_s14 : Int32) (y_s15 : Int32) (y_s16 : Int32) (H : Heap) (locs : List Loc) (ws : va_W) (ls : Array Slot), k y_s10 y_s14 y_s15 y_s16 = some R → OX Y a_o v_o_a v_o_p ws → va_P D vwCl ([(a_p1, .inl (Y.1, 3, .inl f_p1)), (a_p2, .inl (Y.2.2.2, 64, .inr (.inl f_p2)))] ++ ws) H → va_D A ([(a_p1, .inl (Y.1, 3, .inl f_p1)), (a_p2, .inl (Y.2.2.2, 64, .inr (.inl f_p2)))] ++ ws) → va_S A s.heap H locs → lv_has ls 18 [(0, .ref a_o), (2, .ref a_p2), (3, .int s3), (4, .int s4), (5, .int s5), (6, .int s6), (7, .int s7), (8, .int s8), (9, .int s9), (10, .int y_s10), (11, .int s11), (12, .long s12), (14, .int y_s14), (15, .int y_s15)] → W p l e rm_L_areRows s m args below meth c H locs 0 0 Q (F0 m 365 ls [])) → W p l e rm_L_areRows s m args below meth c H locs 0 0 Q (F0 m 245 ls []) := by
    intro n
    induction n with
    | zero =>
      intro k s3 s4 s5 s6 s7 s8 s9 s11 s12 s10 s14 s15 s16 H locs ws ls hf
      cases hf
    | succ n ih =>
      intro k s3 s4 s5 s6 s7 s8 s9 s11 s12 s10 s14 s15 s16 H locs ws ls hf hX hP hD hS hl hk
      unfold f_L_areRows_L245 at hf
      refine lv_iload hx hb dL_areRows_245 (lv_at hl 14 rfl) ?_
      refine lv_iload hx hb dL_areRows_247 (lv_at hl 3 rfl) ?_
      refine lv_icmp_ge (tgt := 365) hx hb dL_areRows_249 (by decide) (fun c16 => ?_) (fun c16 => ?_)
      · have hf := ite_t c16 hf
        exact hk _ _ _ _ _ _ _ _ hf hX hP hD hS (lv_sub hl [0, 1, 2, 3, 4, 5, 6, 7, 8, 9, 10, 11, 12, 13] rfl)
      have hf := ite_f c16 hf
      refine lv_iload hx hb dL_areRows_252 (lv_at hl 9 rfl) ?_
      refine jj_W (P := fun (w17 : Int32) => ∀ (H : Heap) (locs : List Loc) (ws : va_W) (ls : Array Slot), OX Y a_o v_o_a v_o_p ws → va_P D vwCl ([(a_p1, .inl (Y.1, 3, .inl f_p1)), (a_p2, .inl (Y.2.2.2, 64, .inr (.inl f_p2)))] ++ ws) H → va_D A ([(a_p1, .inl (Y.1, 3, .inl f_p1)), (a_p2, .inl (Y.2.2.2, 64, .inr (.inl f_p2)))] ++ ws) → va_S A s.heap H locs → lv_has ls 18 [(0, .ref a_o), (2, .ref a_p2), (3, .int s3), (4, .int s4), (5, .int s5), (6, .int s6), (7, .int s7), (8, .int s8), (9, .int s9), (11, .int s11), (12, .long s12), (14, .int s14), (15, .int s15), (16, .int s16)] → W p l e rm_L_areRows s m args below meth c H locs 0 0 Q (F0 m 284 ls [.int w17])) hf (fun w17 hf H locs ws ls hX hP hD hS hl => ?_) (fun kk18 hkk18 hf => ?_)
      · refine lv_istore (lv' := [(10, .int w17), (0, .ref a_o), (2, .ref a_p2), (3, .int s3), (4, .int s4), (5, .int s5), (6, .int s6), (7, .int s7), (8, .int s8), (9, .int s9), (11, .int s11), (12, .long s12), (14, .int s14), (15, .int s15), (16, .int s16)]) hx hb dL_areRows_284 hl (by decide) rfl (fun ls hl => ?_)
        refine lv_iload hx hb dL_areRows_286 (lv_at hl 13 rfl) ?_
        refine lv_iload hx hb dL_areRows_288 (lv_at hl 4 rfl) ?_
        refine lv_lload hx hb dL_areRows_290 (lv_at hl 11 rfl) ?_
        refine lv_iload hx hb dL_areRows_292 (lv_at hl 14 rfl) ?_
        refine af_oi (run_S (As := [.int s4, .long s12, .int s16]) (rest := [.int s15]) E (c_L_digit l D Y s4 s12 s16 (f_L_digit s4 s12 s16) rfl) qw516 qw517 qw18 qw518 rfl rfl hd_L_digit ⟨Nat.le_of_ble_eq_true rfl, Nat.le_of_ble_eq_true rfl⟩ (pre_roS hP hE [] rfl) rfl hl.1 rfl (Nat.le_of_ble_eq_true rfl) dL_areRows_294 ⟨Nat.le_of_ble_eq_true rfl, Nat.le_of_ble_eq_true rfl⟩) ?_
        refine lv_iload hx hb dL_areRows_297 (lv_at hl 14 rfl) ?_
        refine lv_iconst (v := 1) hx hb dL_areRows_299 (by decide) ?_
        refine lv_iadd hx hb dL_areRows_300 ?_
        refine mg (P := fun (w19 : Int32) => ∀ (ls : Array Slot), lv_has ls 18 [(0, .ref a_o), (2, .ref a_p2), (3, .int s3), (4, .int s4), (5, .int s5), (6, .int s6), (7, .int s7), (8, .int s8), (9, .int s9), (10, .int w17), (11, .int s11), (12, .long s12), (14, .int s14), (16, .int s16)] → W p l e rm_L_areRows s m args below meth c H locs 0 0 Q (F0 m 309 ls [.int w19, .int s15])) hf (fun w19 hf ls hl => ?_) (fun hJ => ?_)
        · refine lv_iadd hx hb dL_areRows_309 ?_
          refine nm_W hf (fun x20 hf => ?_)
          refine lv_istore (lv' := [(15, .int x20), (0, .ref a_o), (2, .ref a_p2), (3, .int s3), (4, .int s4), (5, .int s5), (6, .int s6), (7, .int s7), (8, .int s8), (9, .int s9), (10, .int w17), (11, .int s11), (12, .long s12), (14, .int s14), (16, .int s16)]) hx hb dL_areRows_310 hl (by decide) rfl (fun ls hl => ?_)
          refine lv_iconst (v := 0) hx hb dL_areRows_312 (by decide) ?_
          refine lv_istore (lv' := [(17, .int 0), (15, .int x20), (0, .ref a_o), (2, .ref a_p2), (3, .int s3), (4, .int s4), (5, .int s5), (6, .int s6), (7, .int s7), (8, .int s8), (9, .int s9), (10, .int w17), (11, .int s11), (12, .long s12), (14, .int s14), (16, .int s16)]) hx hb dL_areRows_313 hl (by decide) rfl (fun ls hl => ?_)
          refine L315 _ _ _ _ _ _ _ _ _ _ _ _ _ _ _ _ _ _ _ _ hf hX hP hD hS (lv_sub hl [2, 3, 4, 5, 6, 7, 8, 9, 10, 11, 12, 13, 14, 1, 15, 0] rfl) ?_
          intro y25 y26 H locs ws ls hf hX hP hD hS hl
          refine lv_iinc (v := (s16 + 1)) (lv' := [(16, .int (s16 + 1)), (0, .ref a_o), (2, .ref a_p2), (3, .int s3), (4, .int s4), (5, .int s5), (6, .int s6), (7, .int s7), (8, .int s8), (9, .int s9), (10, .int w17), (11, .int s11), (12, .long s12), (14, .int y25), (15, .int x20)]) hx hb dL_areRows_359 hl (k := 14) rfl rfl (by decide) rfl (fun ls hl => ?_)
          refine lv_goto (tgt := 245) hx hb dL_areRows_362 (by decide) ?_
          exact ih _ _ _ _ _ _ _ _ _ _ _ _ _ _ _ _ _ _ hf hX hP hD hS (lv_sub hl [1, 2, 3, 4, 5, 6, 7, 8, 9, 10, 11, 12, 13, 14, 0] rfl) hk
        refine lv_icmp_ne (tgt := 308) hx hb dL_areRows_301 (by decide) (fun c27 => ?_) (fun c27 => ?_)
        · have hf := nmi_f c27 hf
          refine lv_iconst (v := 0) hx hb dL_areRows_308 (by decide) ?_
          exact hJ _ (nm_b hf) _ (lv_sub hl [1, 2, 3, 4, 5, 6, 7, 8, 9, 0, 10, 11, 12, 14] rfl)
        have hf := nmi_t c27 hf
        refine lv_iconst (v := 1) hx hb dL_areRows_304 (by decide) ?_
        refine lv_goto (tgt := 309) hx hb dL_areRows_305 (by decide) ?_
        exact hJ _ (nm_b hf) _ (lv_sub hl [1, 2, 3, 4, 5, 6, 7, 8, 9, 0, 10, 11, 12, 14] rfl)
      refine lv_if_eq (tgt := 283) hx hb dL_areRows_254 (by decide) (fun c28 => ?_) (fun c28 => ?_)
      · have hf := ite_t c28 hf
        refine lv_iconst (v := 0) hx hb dL_areRows_283 (by decide) ?_
        exact hkk18 _ hf _ _ _ _ hX hP hD hS (lv_sub hl [0, 1, 2, 3, 4, 5, 6, 7, 8, 10, 11, 12, 13, 14] rfl)
      have hf := ite_f c28 hf
      refine lv_aload_n hx hb dL_areRows_257 rfl (lv_at hl 0 rfl) ?_
      refine lv_iload hx hb dL_areRows_258 (lv_at hl 10 rfl) ?_
      refine lv_iload hx hb dL_areRows_260 (lv_at hl 14 rfl) ?_
      refine lv_iconst (v := 1) hx hb dL_areRows_262 (by decide) ?_
      refine lv_iadd hx hb dL_areRows_263 ?_
      obtain ⟨q29, h30, hf⟩ := bd_s hf
      refine ak_i (run_V (As := [.int s11, .int (s16 + 1)]) (rest := []) E (k_bell l D Y hX s11 (s16 + 1) H.size q29 h30) qw376 qw377 qw378 qw19 qw379 rfl rfl hd_X10_bell ⟨Nat.le_of_ble_eq_true rfl, Nat.le_of_ble_eq_true rfl⟩ (pre_xV hP hD hE (ci := 7) rfl hX.head) rfl hl.1 rfl (Nat.le_of_ble_eq_true rfl) dL_areRows_264 ⟨Nat.le_of_ble_eq_true rfl, Nat.le_of_ble_eq_true rfl⟩) hP hD hS hA (fun ws H locs hX hP hD hS => ?_)
      refine lv_iload hx hb dL_areRows_267 (lv_at hl 3 rfl) ?_
      refine lv_lload hx hb dL_areRows_269 (lv_at hl 11 rfl) ?_
      refine lv_iload hx hb dL_areRows_271 (lv_at hl 14 rfl) ?_
      refine af_oi (run_S (As := [.int s4, .long s12, .int s16]) (rest := [.int q29]) E (c_L_digit l D Y s4 s12 s16 (f_L_digit s4 s12 s16) rfl) qw516 qw517 qw18 qw518 rfl rfl hd_L_digit ⟨Nat.le_of_ble_eq_true rfl, Nat.le_of_ble_eq_true rfl⟩ (pre_roS hP hE [] rfl) rfl hl.1 rfl (Nat.le_of_ble_eq_true rfl) dL_areRows_273 ⟨Nat.le_of_ble_eq_true rfl, Nat.le_of_ble_eq_true rfl⟩) ?_
      refine lv_icmp_ne (tgt := 283) hx hb dL_areRows_276 (by decide) (fun c31 => ?_) (fun c31 => ?_)
      · have hf := ite_f c31 hf
        refine lv_iconst (v := 0) hx hb dL_areRows_283 (by decide) ?_
        exact hkk18 _ hf _ _ _ _ hX hP hD hS (lv_sub hl [0, 1, 2, 3, 4, 5, 6, 7, 8, 10, 11, 12, 13, 14] rfl)
      have hf := ite_t c31 hf
      refine lv_iconst (v := 1) hx hb dL_areRows_279 (by decide) ?_
      refine lv_goto (tgt := 284) hx hb dL_areRows_280 (by decide) ?_
      exact hkk18 _ hf _ _ _ _ hX hP hD hS (lv_sub hl [0, 1, 2, 3, 4, 5, 6, 7, 8, 10, 11, 12, 13, 14] rfl)
  have L97 : ∀ (n : Nat) (k : Int32 → Int32 → Int32 → Int32 → Int32 → Int32 → Option (Int32)) (s3 : Int32) (s4 : Int32) (s5 : Int32) (s6 : Int32) (s7 : Int32) (s8 : Int32) (s9 : Int32) (s10 : Int32) (s11 : Int32) (H : Heap) (locs : List Loc) (ws : va_W) (ls : Array Slot), f_L_areRows_L97 k s3 s4 s5 f_p1 f_p2 v_o_a v_o_p n s6 s7 s8 s9 s10 s11 = some R → OX Y a_o v_o_a v_o_p ws → va_P D vwCl ([(a_p1, .inl (Y.1, 3, .inl f_p1)), (a_p2, .inl (Y.2.2.2, 64, .inr (.inl f_p2)))] ++ ws) H → va_D A ([(a_p1, .inl (Y.1, 3, .inl f_p1)), (a_p2, .inl (Y.2.2.2, 64, .inr (.inl f_p2)))] ++ ws) → va_S A s.heap H locs → lv_has ls 18 [(0, .ref a_o), (2, .ref a_p2), (3, .int s3), (4, .int s4), (5, .int s5), (6, .int s6), (7, .int s7), (8, .int s8), (9, .int s9), (10, .int s10), (11, .int s11)] → (∀ (y_s6 : Int32) (y_s7 : Int32) (y_s8 : Int32) (y_s9 : Int32) (y_s10 : Int32) (y_s11 : Int32) (H : Heap) (locs : List Loc) (ws : va_W) (ls : Array Slot), k y_s6 y_s7 y_s8 y_s9 y_s10 y_s11 = some R → OX Y a_o v_o_a v_o_p ws → va_P D vwCl ([(a_p1, .inl (Y.1, 3, .inl f_p1)), (a_p2, .inl (Y.2.2.2, 64, .inr (.inl f_p2)))] ++ ws) H → va_D A ([(a_p1, .inl (Y.1, 3, .inl f_p1)), (a_p2, .inl (Y.2.2.2, 64, .inr (.inl f_p2)))] ++ ws) → va_S A s.heap H locs → lv_has ls 18 [(0, .ref a_o), (5, .int s5), (6, .int y_s6), (7, .int y_s7), (8, .int y_s8), (9, .int y_s9), (10, .int y_s10)] → W p l e rm_L_areRows s m args below meth c H locs 0 0 Q (F0 m 461 ls [])) → W p l e rm_L_areRows s m args below meth c H locs 0 0 Q (F0 m 97 ls []) := by
    intro n
    induction n with
    | zero =>
      intro k s3 s4 s5 s6 s7 s8 s9 s10 s11 H locs ws ls hf
      cases hf
    | succ n ih =>
      intro k s3 s4 s5 s6 s7 s8 s9 s10 s11 H locs ws ls hf hX hP hD hS hl hk
      unfold f_L_areRows_L97 at hf
      refine lv_iload hx hb dL_areRows_97 (lv_at hl 10 rfl) ?_
      refine lv_iload hx hb dL_areRows_99 (lv_at hl 4 rfl) ?_
      refine lv_icmp_gt (tgt := 461) hx hb dL_areRows_101 (by decide) (fun c7 => ?_) (fun c7 => ?_)
      · have hf := ite_t c7 hf
        exact hk _ _ _ _ _ _ _ _ _ _ hf hX hP hD hS (lv_sub hl [0, 4, 5, 6, 7, 8, 9] rfl)
      have hf := ite_f c7 hf
      refine lv_iload hx hb dL_areRows_104 (lv_at hl 9 rfl) ?_
      refine lv_if_eq (tgt := 461) hx hb dL_areRows_106 (by decide) (fun c8 => ?_) (fun c8 => ?_)
      · have hf := ite_t c8 hf
        exact hk _ _ _ _ _ _ _ _ _ _ hf hX hP hD hS (lv_sub hl [0, 4, 5, 6, 7, 8, 9] rfl)
      have hf := ite_f c8 hf
      refine lv_aload_n hx hb dL_areRows_109 rfl (lv_at hl 1 rfl) ?_
      refine lv_iload hx hb dL_areRows_110 (lv_at hl 10 rfl) ?_
      obtain ⟨q9, h10, hf⟩ := bd_s hf
      refine af_ol (run_S (As := [.ref a_p2, .int s11]) (rest := []) E (c_L_rowAt l D Y a_p2 f_p2 s11 q9 h10) qw506 qw507 qw18 qw508 rfl rfl hd_L_rowAt ⟨Nat.le_of_ble_eq_true rfl, Nat.le_of_ble_eq_true rfl⟩ (pre_roS hP hE [1] rfl) rfl hl.1 rfl (Nat.le_of_ble_eq_true rfl) dL_areRows_112 ⟨Nat.le_of_ble_eq_true rfl, Nat.le_of_ble_eq_true rfl⟩) ?_
      refine lv_lstore (lv' := [(12, .long q9), (0, .ref a_o), (2, .ref a_p2), (3, .int s3), (4, .int s4), (5, .int s5), (6, .int s6), (7, .int s7), (8, .int s8), (9, .int s9), (10, .int s10), (11, .int s11)]) hx hb dL_areRows_115 hl (by decide) rfl (fun ls hl => ?_)
      refine lv_iload hx hb dL_areRows_117 (lv_at hl 11 rfl) ?_
      refine jj_W (P := fun (w11 : Int32 × Int32 × Int32 × Int32) => ∀ (H : Heap) (locs : List Loc) (ws : va_W) (ls : Array Slot), OX Y a_o v_o_a v_o_p ws → va_P D vwCl ([(a_p1, .inl (Y.1, 3, .inl f_p1)), (a_p2, .inl (Y.2.2.2, 64, .inr (.inl f_p2)))] ++ ws) H → va_D A ([(a_p1, .inl (Y.1, 3, .inl f_p1)), (a_p2, .inl (Y.2.2.2, 64, .inr (.inl f_p2)))] ++ ws) → va_S A s.heap H locs → lv_has ls 18 [(0, .ref a_o), (2, .ref a_p2), (3, .int s3), (4, .int s4), (5, .int s5), (6, .int w11.1), (7, .int w11.2.1), (8, .int w11.2.2.1), (9, .int w11.2.2.2), (10, .int s10), (11, .int s11), (12, .long q9)] → W p l e rm_L_areRows s m args below meth c H locs 0 0 Q (F0 m 220 ls [])) hf (fun w11 hf H locs ws ls hX hP hD hS hl => ?_) (fun kk12 hkk12 hf => ?_)
      · refine lv_iload hx hb dL_areRows_220 (lv_at hl 10 rfl) ?_
        refine lv_bipush (v := 9) hx hb dL_areRows_222 (by decide) ?_
        refine lv_irem hx hb dL_areRows_224 (by decide) ?_
        refine lv_iload_n hx hb dL_areRows_225 rfl (lv_at hl 2 rfl) ?_
        refine jj_W (P := fun (w13 : Int32) => ∀ (H : Heap) (locs : List Loc) (ws : va_W) (ls : Array Slot), OX Y a_o v_o_a v_o_p ws → va_P D vwCl ([(a_p1, .inl (Y.1, 3, .inl f_p1)), (a_p2, .inl (Y.2.2.2, 64, .inr (.inl f_p2)))] ++ ws) H → va_D A ([(a_p1, .inl (Y.1, 3, .inl f_p1)), (a_p2, .inl (Y.2.2.2, 64, .inr (.inl f_p2)))] ++ ws) → va_S A s.heap H locs → lv_has ls 18 [(0, .ref a_o), (2, .ref a_p2), (3, .int s3), (4, .int s4), (5, .int s5), (6, .int w11.1), (7, .int w11.2.1), (8, .int w11.2.2.1), (9, .int w11.2.2.2), (10, .int w13), (11, .int s11)] → W p l e rm_L_areRows s m args below meth c H locs 0 0 Q (F0 m 455 ls [])) hf (fun w13 hf H locs ws ls hX hP hD hS hl => ?_) (fun kk14 hkk14 hf => ?_)
        · refine lv_iinc (v := (s11 + 1)) (lv' := [(11, .int (s11 + 1)), (0, .ref a_o), (2, .ref a_p2), (3, .int s3), (4, .int s4), (5, .int s5), (6, .int w11.1), (7, .int w11.2.1), (8, .int w11.2.2.1), (9, .int w11.2.2.2), (10, .int w13)]) hx hb dL_areRows_455 hl (k := 10) rfl rfl (by decide) rfl (fun ls hl => ?_)
          refine lv_goto (tgt := 97) hx hb dL_areRows_458 (by decide) ?_
          exact ih _ _ _ _ _ _ _ _ _ _ _ _ _ _ hf hX hP hD hS (lv_sub hl [1, 2, 3, 4, 5, 6, 7, 8, 9, 10, 0] rfl) hk
        refine lv_icmp_eq (tgt := 236) hx hb dL_areRows_226 (by decide) (fun c15 => ?_) (fun c15 => ?_)
        · have hf := ite_t c15 hf
          refine lv_iconst (v := 0) hx hb dL_areRows_236 (by decide) ?_
          refine lv_istore (lv' := [(14, .int 0), (0, .ref a_o), (2, .ref a_p2), (3, .int s3), (4, .int s4), (5, .int s5), (6, .int w11.1), (7, .int w11.2.1), (8, .int w11.2.2.1), (9, .int w11.2.2.2), (10, .int s10), (11, .int s11), (12, .long q9)]) hx hb dL_areRows_237 hl (by decide) rfl (fun ls hl => ?_)
          refine lv_iconst (v := 0) hx hb dL_areRows_239 (by decide) ?_
          refine lv_istore (lv' := [(15, .int 0), (14, .int 0), (0, .ref a_o), (2, .ref a_p2), (3, .int s3), (4, .int s4), (5, .int s5), (6, .int w11.1), (7, .int w11.2.1), (8, .int w11.2.2.1), (9, .int w11.2.2.2), (10, .int s10), (11, .int s11), (12, .long q9)]) hx hb dL_areRows_240 hl (by decide) rfl (fun ls hl => ?_)
          refine lv_iconst (v := 0) hx hb dL_areRows_242 (by decide) ?_
          refine lv_istore (lv' := [(16, .int 0), (15, .int 0), (14, .int 0), (0, .ref a_o), (2, .ref a_p2), (3, .int s3), (4, .int s4), (5, .int s5), (6, .int w11.1), (7, .int w11.2.1), (8, .int w11.2.2.1), (9, .int w11.2.2.2), (10, .int s10), (11, .int s11), (12, .long q9)]) hx hb dL_areRows_243 hl (by decide) rfl (fun ls hl => ?_)
          refine L245 _ _ _ _ _ _ _ _ _ _ _ _ _ _ _ _ _ _ _ hf hX hP hD hS (lv_sub hl [3, 4, 5, 6, 7, 8, 9, 10, 11, 12, 13, 14, 2, 1, 0] rfl) ?_
          intro y32 y33 y34 y35 H locs ws ls hf hX hP hD hS hl
          refine lv_iload hx hb dL_areRows_365 (lv_at hl 9 rfl) ?_
          refine jj_W (P := fun (w36 : Int32) => ∀ (H : Heap) (locs : List Loc) (ws : va_W) (ls : Array Slot), OX Y a_o v_o_a v_o_p ws → va_P D vwCl ([(a_p1, .inl (Y.1, 3, .inl f_p1)), (a_p2, .inl (Y.2.2.2, 64, .inr (.inl f_p2)))] ++ ws) H → va_D A ([(a_p1, .inl (Y.1, 3, .inl f_p1)), (a_p2, .inl (Y.2.2.2, 64, .inr (.inl f_p2)))] ++ ws) → va_S A s.heap H locs → lv_has ls 18 [(0, .ref a_o), (2, .ref a_p2), (3, .int s3), (4, .int s4), (5, .int s5), (6, .int w11.1), (7, .int w11.2.1), (8, .int w11.2.2.1), (9, .int w11.2.2.2), (11, .int s11)] → W p l e rm_L_areRows s m args below meth c H locs 0 0 Q (F0 m 453 ls [.int w36])) hf (fun w36 hf H locs ws ls hX hP hD hS hl => ?_) (fun kk37 hkk37 hf => ?_)
          · refine lv_istore (lv' := [(10, .int w36), (0, .ref a_o), (2, .ref a_p2), (3, .int s3), (4, .int s4), (5, .int s5), (6, .int w11.1), (7, .int w11.2.1), (8, .int w11.2.2.1), (9, .int w11.2.2.2), (11, .int s11)]) hx hb dL_areRows_453 hl (by decide) rfl (fun ls hl => ?_)
            exact hkk14 _ hf _ _ _ _ hX hP hD hS (lv_sub hl [1, 2, 3, 4, 5, 6, 7, 8, 9, 0, 10] rfl)
          refine lv_if_eq (tgt := 452) hx hb dL_areRows_367 (by decide) (fun c38 => ?_) (fun c38 => ?_)
          · have hf := ite_t c38 hf
            refine lv_iconst (v := 0) hx hb dL_areRows_452 (by decide) ?_
            exact hkk37 _ hf _ _ _ _ hX hP hD hS (lv_sub hl [0, 1, 2, 3, 4, 5, 6, 7, 8, 10] rfl)
          have hf := ite_f c38 hf
          refine lv_aload_n hx hb dL_areRows_370 rfl (lv_at hl 0 rfl) ?_
          refine lv_iload hx hb dL_areRows_371 (lv_at hl 10 rfl) ?_
          refine lv_iconst (v := 0) hx hb dL_areRows_373 (by decide) ?_
          obtain ⟨q39, h40, hf⟩ := bd_s hf
          refine ak_i (run_V (As := [.int s11, .int 0]) (rest := []) E (k_row l D Y hX s11 0 H.size q39 h40) qw447 qw448 qw449 qw19 qw450 rfl rfl hd_X10_row ⟨Nat.le_of_ble_eq_true rfl, Nat.le_of_ble_eq_true rfl⟩ (pre_xV hP hD hE (ci := 7) rfl hX.head) rfl hl.1 rfl (Nat.le_of_ble_eq_true rfl) dL_areRows_374 ⟨Nat.le_of_ble_eq_true rfl, Nat.le_of_ble_eq_true rfl⟩) hP hD hS hA (fun ws H locs hX hP hD hS => ?_)
          refine lv_iload hx hb dL_areRows_377 (lv_at hl 12 rfl) ?_
          refine lv_icmp_ne (tgt := 452) hx hb dL_areRows_379 (by decide) (fun c41 => ?_) (fun c41 => ?_)
          · have hf := ite_f c41 hf
            refine lv_iconst (v := 0) hx hb dL_areRows_452 (by decide) ?_
            exact hkk37 _ hf _ _ _ _ hX hP hD hS (lv_sub hl [0, 1, 2, 3, 4, 5, 6, 7, 8, 10] rfl)
          have hf := ite_t c41 hf
          refine lv_aload_n hx hb dL_areRows_382 rfl (lv_at hl 0 rfl) ?_
          refine lv_iload hx hb dL_areRows_383 (lv_at hl 10 rfl) ?_
          refine lv_iconst (v := 1) hx hb dL_areRows_385 (by decide) ?_
          obtain ⟨q42, h43, hf⟩ := bd_s hf
          refine ak_i (run_V (As := [.int s11, .int 1]) (rest := []) E (k_row l D Y hX s11 1 H.size q42 h43) qw447 qw448 qw449 qw19 qw450 rfl rfl hd_X10_row ⟨Nat.le_of_ble_eq_true rfl, Nat.le_of_ble_eq_true rfl⟩ (pre_xV hP hD hE (ci := 7) rfl hX.head) rfl hl.1 rfl (Nat.le_of_ble_eq_true rfl) dL_areRows_386 ⟨Nat.le_of_ble_eq_true rfl, Nat.le_of_ble_eq_true rfl⟩) hP hD hS hA (fun ws H locs hX hP hD hS => ?_)
          refine lv_iload hx hb dL_areRows_389 (lv_at hl 12 rfl) ?_
          refine lv_icmp_ne (tgt := 452) hx hb dL_areRows_391 (by decide) (fun c44 => ?_) (fun c44 => ?_)
          · have hf := ite_f c44 hf
            refine lv_iconst (v := 0) hx hb dL_areRows_452 (by decide) ?_
            exact hkk37 _ hf _ _ _ _ hX hP hD hS (lv_sub hl [0, 1, 2, 3, 4, 5, 6, 7, 8, 10] rfl)
          have hf := ite_t c44 hf
          refine lv_aload_n hx hb dL_areRows_394 rfl (lv_at hl 0 rfl) ?_
          refine lv_iload hx hb dL_areRows_395 (lv_at hl 10 rfl) ?_
          refine lv_iconst (v := 2) hx hb dL_areRows_397 (by decide) ?_
          obtain ⟨q45, h46, hf⟩ := bd_s hf
          refine ak_i (run_V (As := [.int s11, .int 2]) (rest := []) E (k_row l D Y hX s11 2 H.size q45 h46) qw447 qw448 qw449 qw19 qw450 rfl rfl hd_X10_row ⟨Nat.le_of_ble_eq_true rfl, Nat.le_of_ble_eq_true rfl⟩ (pre_xV hP hD hE (ci := 7) rfl hX.head) rfl hl.1 rfl (Nat.le_of_ble_eq_true rfl) dL_areRows_398 ⟨Nat.le_of_ble_eq_true rfl, Nat.le_of_ble_eq_true rfl⟩) hP hD hS hA (fun ws H locs hX hP hD hS => ?_)
          refine lv_iload hx hb dL_areRows_401 (lv_at hl 3 rfl) ?_
          refine lv_lload hx hb dL_areRows_403 (lv_at hl 11 rfl) ?_
          refine af_oz (run_S (As := [.int s4, .long q9]) (rest := [.int q45]) E (c_L_sounds l D Y s4 q9 (f_L_sounds s4 q9) rfl) qw513 qw514 qw18 qw515 rfl rfl hd_L_sounds ⟨Nat.le_of_ble_eq_true rfl, Nat.le_of_ble_eq_true rfl⟩ (pre_roS hP hE [] rfl) rfl hl.1 rfl (Nat.le_of_ble_eq_true rfl) dL_areRows_405 ⟨Nat.le_of_ble_eq_true rfl, Nat.le_of_ble_eq_true rfl⟩) (fun z47 => ?_)
          refine mg (P := fun (w48 : Int32) => ∀ (ls : Array Slot), lv_has ls 18 [(0, .ref a_o), (2, .ref a_p2), (3, .int s3), (4, .int s4), (5, .int s5), (6, .int w11.1), (7, .int w11.2.1), (8, .int w11.2.2.1), (9, .int w11.2.2.2), (11, .int s11), (15, .int y34)] → W p l e rm_L_areRows s m args below meth c H locs 0 0 Q (F0 m 416 ls [.int w48, .int q45])) hf (fun w48 hf ls hl => ?_) (fun hJ => ?_)
          · refine lv_icmp_ne (tgt := 452) hx hb dL_areRows_416 (by decide) (fun c49 => ?_) (fun c49 => ?_)
            · have hf := ite_f c49 hf
              refine lv_iconst (v := 0) hx hb dL_areRows_452 (by decide) ?_
              exact hkk37 _ hf _ _ _ _ hX hP hD hS (lv_sub hl [0, 1, 2, 3, 4, 5, 6, 7, 8, 9] rfl)
            have hf := ite_t c49 hf
            refine lv_aload_n hx hb dL_areRows_419 rfl (lv_at hl 0 rfl) ?_
            refine lv_iload hx hb dL_areRows_420 (lv_at hl 9 rfl) ?_
            refine lv_iconst (v := 3) hx hb dL_areRows_422 (by decide) ?_
            obtain ⟨q50, h51, hf⟩ := bd_s hf
            refine ak_i (run_V (As := [.int s11, .int 3]) (rest := []) E (k_row l D Y hX s11 3 H.size q50 h51) qw447 qw448 qw449 qw19 qw450 rfl rfl hd_X10_row ⟨Nat.le_of_ble_eq_true rfl, Nat.le_of_ble_eq_true rfl⟩ (pre_xV hP hD hE (ci := 7) rfl hX.head) rfl hl.1 rfl (Nat.le_of_ble_eq_true rfl) dL_areRows_423 ⟨Nat.le_of_ble_eq_true rfl, Nat.le_of_ble_eq_true rfl⟩) hP hD hS hA (fun ws H locs hX hP hD hS => ?_)
            refine lv_iload hx hb dL_areRows_426 (lv_at hl 10 rfl) ?_
            refine lv_icmp_ne (tgt := 452) hx hb dL_areRows_428 (by decide) (fun c52 => ?_) (fun c52 => ?_)
            · have hf := ite_f c52 hf
              refine lv_iconst (v := 0) hx hb dL_areRows_452 (by decide) ?_
              exact hkk37 _ hf _ _ _ _ hX hP hD hS (lv_sub hl [0, 1, 2, 3, 4, 5, 6, 7, 8, 9] rfl)
            have hf := ite_t c52 hf
            refine lv_aload_n hx hb dL_areRows_431 rfl (lv_at hl 0 rfl) ?_
            refine lv_iload hx hb dL_areRows_432 (lv_at hl 9 rfl) ?_
            refine lv_iconst (v := 4) hx hb dL_areRows_434 (by decide) ?_
            obtain ⟨q53, h54, hf⟩ := bd_s hf
            refine ak_i (run_V (As := [.int s11, .int 4]) (rest := []) E (k_row l D Y hX s11 4 H.size q53 h54) qw447 qw448 qw449 qw19 qw450 rfl rfl hd_X10_row ⟨Nat.le_of_ble_eq_true rfl, Nat.le_of_ble_eq_true rfl⟩ (pre_xV hP hD hE (ci := 7) rfl hX.head) rfl hl.1 rfl (Nat.le_of_ble_eq_true rfl) dL_areRows_435 ⟨Nat.le_of_ble_eq_true rfl, Nat.le_of_ble_eq_true rfl⟩) hP hD hS hA (fun ws H locs hX hP hD hS => ?_)
            refine lv_aload_n hx hb dL_areRows_438 rfl (lv_at hl 1 rfl) ?_
            refine lv_iload hx hb dL_areRows_439 (lv_at hl 9 rfl) ?_
            refine lv_iconst (v := 0) hx hb dL_areRows_441 (by decide) ?_
            obtain ⟨q55, h56, hf⟩ := bd_s hf
            refine af_oi (run_S (As := [.ref a_p2, .int s11, .int 0]) (rest := [.int q53]) E (c_L_first l D Y a_p2 f_p2 s11 0 q55 h56) qw510 qw511 qw18 qw512 rfl rfl hd_L_first ⟨Nat.le_of_ble_eq_true rfl, Nat.le_of_ble_eq_true rfl⟩ (pre_roS hP hE [1] rfl) rfl hl.1 rfl (Nat.le_of_ble_eq_true rfl) dL_areRows_442 ⟨Nat.le_of_ble_eq_true rfl, Nat.le_of_ble_eq_true rfl⟩) ?_
            refine lv_icmp_ne (tgt := 452) hx hb dL_areRows_445 (by decide) (fun c57 => ?_) (fun c57 => ?_)
            · have hf := ite_f c57 hf
              refine lv_iconst (v := 0) hx hb dL_areRows_452 (by decide) ?_
              exact hkk37 _ hf _ _ _ _ hX hP hD hS (lv_sub hl [0, 1, 2, 3, 4, 5, 6, 7, 8, 9] rfl)
            have hf := ite_t c57 hf
            refine lv_iconst (v := 1) hx hb dL_areRows_448 (by decide) ?_
            refine lv_goto (tgt := 453) hx hb dL_areRows_449 (by decide) ?_
            exact hkk37 _ hf _ _ _ _ hX hP hD hS (lv_sub hl [0, 1, 2, 3, 4, 5, 6, 7, 8, 9] rfl)
          refine lv_if_eq (tgt := 415) hx hb dL_areRows_408 (by decide) (fun c58 => ?_) (fun c58 => ?_)
          · have hf := nmi_t c58 hf
            refine lv_iconst (v := 0) hx hb dL_areRows_415 (by decide) ?_
            exact hJ _ (nm_b hf) _ (lv_sub hl [0, 1, 2, 3, 4, 5, 6, 7, 8, 10, 13] rfl)
          have hf := nmi_f c58 hf
          refine lv_iconst (v := 1) hx hb dL_areRows_411 (by decide) ?_
          refine lv_goto (tgt := 416) hx hb dL_areRows_412 (by decide) ?_
          exact hJ _ (nm_b hf) _ (lv_sub hl [0, 1, 2, 3, 4, 5, 6, 7, 8, 10, 13] rfl)
        have hf := ite_f c15 hf
        refine lv_iload hx hb dL_areRows_229 (lv_at hl 10 rfl) ?_
        refine lv_iload hx hb dL_areRows_231 (lv_at hl 4 rfl) ?_
        refine lv_icmp_ne (tgt := 455) hx hb dL_areRows_233 (by decide) (fun c59 => ?_) (fun c59 => ?_)
        · have hf := ite_f c59 hf
          exact hkk14 _ hf _ _ _ _ hX hP hD hS (lv_sub hl [0, 1, 2, 3, 4, 5, 6, 7, 8, 9, 10] rfl)
        have hf := ite_t c59 hf
        refine lv_iconst (v := 0) hx hb dL_areRows_236 (by decide) ?_
        refine lv_istore (lv' := [(14, .int 0), (0, .ref a_o), (2, .ref a_p2), (3, .int s3), (4, .int s4), (5, .int s5), (6, .int w11.1), (7, .int w11.2.1), (8, .int w11.2.2.1), (9, .int w11.2.2.2), (10, .int s10), (11, .int s11), (12, .long q9)]) hx hb dL_areRows_237 hl (by decide) rfl (fun ls hl => ?_)
        refine lv_iconst (v := 0) hx hb dL_areRows_239 (by decide) ?_
        refine lv_istore (lv' := [(15, .int 0), (14, .int 0), (0, .ref a_o), (2, .ref a_p2), (3, .int s3), (4, .int s4), (5, .int s5), (6, .int w11.1), (7, .int w11.2.1), (8, .int w11.2.2.1), (9, .int w11.2.2.2), (10, .int s10), (11, .int s11), (12, .long q9)]) hx hb dL_areRows_240 hl (by decide) rfl (fun ls hl => ?_)
        refine lv_iconst (v := 0) hx hb dL_areRows_242 (by decide) ?_
        refine lv_istore (lv' := [(16, .int 0), (15, .int 0), (14, .int 0), (0, .ref a_o), (2, .ref a_p2), (3, .int s3), (4, .int s4), (5, .int s5), (6, .int w11.1), (7, .int w11.2.1), (8, .int w11.2.2.1), (9, .int w11.2.2.2), (10, .int s10), (11, .int s11), (12, .long q9)]) hx hb dL_areRows_243 hl (by decide) rfl (fun ls hl => ?_)
        refine L245 _ _ _ _ _ _ _ _ _ _ _ _ _ _ _ _ _ _ _ hf hX hP hD hS (lv_sub hl [3, 4, 5, 6, 7, 8, 9, 10, 11, 12, 13, 14, 2, 1, 0] rfl) ?_
        intro y60 y61 y62 y63 H locs ws ls hf hX hP hD hS hl
        refine lv_iload hx hb dL_areRows_365 (lv_at hl 9 rfl) ?_
        refine jj_W (P := fun (w64 : Int32) => ∀ (H : Heap) (locs : List Loc) (ws : va_W) (ls : Array Slot), OX Y a_o v_o_a v_o_p ws → va_P D vwCl ([(a_p1, .inl (Y.1, 3, .inl f_p1)), (a_p2, .inl (Y.2.2.2, 64, .inr (.inl f_p2)))] ++ ws) H → va_D A ([(a_p1, .inl (Y.1, 3, .inl f_p1)), (a_p2, .inl (Y.2.2.2, 64, .inr (.inl f_p2)))] ++ ws) → va_S A s.heap H locs → lv_has ls 18 [(0, .ref a_o), (2, .ref a_p2), (3, .int s3), (4, .int s4), (5, .int s5), (6, .int w11.1), (7, .int w11.2.1), (8, .int w11.2.2.1), (9, .int w11.2.2.2), (11, .int s11)] → W p l e rm_L_areRows s m args below meth c H locs 0 0 Q (F0 m 453 ls [.int w64])) hf (fun w64 hf H locs ws ls hX hP hD hS hl => ?_) (fun kk65 hkk65 hf => ?_)
        · refine lv_istore (lv' := [(10, .int w64), (0, .ref a_o), (2, .ref a_p2), (3, .int s3), (4, .int s4), (5, .int s5), (6, .int w11.1), (7, .int w11.2.1), (8, .int w11.2.2.1), (9, .int w11.2.2.2), (11, .int s11)]) hx hb dL_areRows_453 hl (by decide) rfl (fun ls hl => ?_)
          exact hkk14 _ hf _ _ _ _ hX hP hD hS (lv_sub hl [1, 2, 3, 4, 5, 6, 7, 8, 9, 0, 10] rfl)
        refine lv_if_eq (tgt := 452) hx hb dL_areRows_367 (by decide) (fun c66 => ?_) (fun c66 => ?_)
        · have hf := ite_t c66 hf
          refine lv_iconst (v := 0) hx hb dL_areRows_452 (by decide) ?_
          exact hkk65 _ hf _ _ _ _ hX hP hD hS (lv_sub hl [0, 1, 2, 3, 4, 5, 6, 7, 8, 10] rfl)
        have hf := ite_f c66 hf
        refine lv_aload_n hx hb dL_areRows_370 rfl (lv_at hl 0 rfl) ?_
        refine lv_iload hx hb dL_areRows_371 (lv_at hl 10 rfl) ?_
        refine lv_iconst (v := 0) hx hb dL_areRows_373 (by decide) ?_
        obtain ⟨q67, h68, hf⟩ := bd_s hf
        refine ak_i (run_V (As := [.int s11, .int 0]) (rest := []) E (k_row l D Y hX s11 0 H.size q67 h68) qw447 qw448 qw449 qw19 qw450 rfl rfl hd_X10_row ⟨Nat.le_of_ble_eq_true rfl, Nat.le_of_ble_eq_true rfl⟩ (pre_xV hP hD hE (ci := 7) rfl hX.head) rfl hl.1 rfl (Nat.le_of_ble_eq_true rfl) dL_areRows_374 ⟨Nat.le_of_ble_eq_true rfl, Nat.le_of_ble_eq_true rfl⟩) hP hD hS hA (fun ws H locs hX hP hD hS => ?_)
        refine lv_iload hx hb dL_areRows_377 (lv_at hl 12 rfl) ?_
        refine lv_icmp_ne (tgt := 452) hx hb dL_areRows_379 (by decide) (fun c69 => ?_) (fun c69 => ?_)
        · have hf := ite_f c69 hf
          refine lv_iconst (v := 0) hx hb dL_areRows_452 (by decide) ?_
          exact hkk65 _ hf _ _ _ _ hX hP hD hS (lv_sub hl [0, 1, 2, 3, 4, 5, 6, 7, 8, 10] rfl)
        have hf := ite_t c69 hf
        refine lv_aload_n hx hb dL_areRows_382 rfl (lv_at hl 0 rfl) ?_
        refine lv_iload hx hb dL_areRows_383 (lv_at hl 10 rfl) ?_
        refine lv_iconst (v := 1) hx hb dL_areRows_385 (by decide) ?_
        obtain ⟨q70, h71, hf⟩ := bd_s hf
        refine ak_i (run_V (As := [.int s11, .int 1]) (rest := []) E (k_row l D Y hX s11 1 H.size q70 h71) qw447 qw448 qw449 qw19 qw450 rfl rfl hd_X10_row ⟨Nat.le_of_ble_eq_true rfl, Nat.le_of_ble_eq_true rfl⟩ (pre_xV hP hD hE (ci := 7) rfl hX.head) rfl hl.1 rfl (Nat.le_of_ble_eq_true rfl) dL_areRows_386 ⟨Nat.le_of_ble_eq_true rfl, Nat.le_of_ble_eq_true rfl⟩) hP hD hS hA (fun ws H locs hX hP hD hS => ?_)
        refine lv_iload hx hb dL_areRows_389 (lv_at hl 12 rfl) ?_
        refine lv_icmp_ne (tgt := 452) hx hb dL_areRows_391 (by decide) (fun c72 => ?_) (fun c72 => ?_)
        · have hf := ite_f c72 hf
          refine lv_iconst (v := 0) hx hb dL_areRows_452 (by decide) ?_
          exact hkk65 _ hf _ _ _ _ hX hP hD hS (lv_sub hl [0, 1, 2, 3, 4, 5, 6, 7, 8, 10] rfl)
        have hf := ite_t c72 hf
        refine lv_aload_n hx hb dL_areRows_394 rfl (lv_at hl 0 rfl) ?_
        refine lv_iload hx hb dL_areRows_395 (lv_at hl 10 rfl) ?_
        refine lv_iconst (v := 2) hx hb dL_areRows_397 (by decide) ?_
        obtain ⟨q73, h74, hf⟩ := bd_s hf
        refine ak_i (run_V (As := [.int s11, .int 2]) (rest := []) E (k_row l D Y hX s11 2 H.size q73 h74) qw447 qw448 qw449 qw19 qw450 rfl rfl hd_X10_row ⟨Nat.le_of_ble_eq_true rfl, Nat.le_of_ble_eq_true rfl⟩ (pre_xV hP hD hE (ci := 7) rfl hX.head) rfl hl.1 rfl (Nat.le_of_ble_eq_true rfl) dL_areRows_398 ⟨Nat.le_of_ble_eq_true rfl, Nat.le_of_ble_eq_true rfl⟩) hP hD hS hA (fun ws H locs hX hP hD hS => ?_)
        refine lv_iload hx hb dL_areRows_401 (lv_at hl 3 rfl) ?_
        refine lv_lload hx hb dL_areRows_403 (lv_at hl 11 rfl) ?_
        refine af_oz (run_S (As := [.int s4, .long q9]) (rest := [.int q73]) E (c_L_sounds l D Y s4 q9 (f_L_sounds s4 q9) rfl) qw513 qw514 qw18 qw515 rfl rfl hd_L_sounds ⟨Nat.le_of_ble_eq_true rfl, Nat.le_of_ble_eq_true rfl⟩ (pre_roS hP hE [] rfl) rfl hl.1 rfl (Nat.le_of_ble_eq_true rfl) dL_areRows_405 ⟨Nat.le_of_ble_eq_true rfl, Nat.le_of_ble_eq_true rfl⟩) (fun z75 => ?_)
        refine mg (P := fun (w76 : Int32) => ∀ (ls : Array Slot), lv_has ls 18 [(0, .ref a_o), (2, .ref a_p2), (3, .int s3), (4, .int s4), (5, .int s5), (6, .int w11.1), (7, .int w11.2.1), (8, .int w11.2.2.1), (9, .int w11.2.2.2), (11, .int s11), (15, .int y62)] → W p l e rm_L_areRows s m args below meth c H locs 0 0 Q (F0 m 416 ls [.int w76, .int q73])) hf (fun w76 hf ls hl => ?_) (fun hJ => ?_)
        · refine lv_icmp_ne (tgt := 452) hx hb dL_areRows_416 (by decide) (fun c77 => ?_) (fun c77 => ?_)
          · have hf := ite_f c77 hf
            refine lv_iconst (v := 0) hx hb dL_areRows_452 (by decide) ?_
            exact hkk65 _ hf _ _ _ _ hX hP hD hS (lv_sub hl [0, 1, 2, 3, 4, 5, 6, 7, 8, 9] rfl)
          have hf := ite_t c77 hf
          refine lv_aload_n hx hb dL_areRows_419 rfl (lv_at hl 0 rfl) ?_
          refine lv_iload hx hb dL_areRows_420 (lv_at hl 9 rfl) ?_
          refine lv_iconst (v := 3) hx hb dL_areRows_422 (by decide) ?_
          obtain ⟨q78, h79, hf⟩ := bd_s hf
          refine ak_i (run_V (As := [.int s11, .int 3]) (rest := []) E (k_row l D Y hX s11 3 H.size q78 h79) qw447 qw448 qw449 qw19 qw450 rfl rfl hd_X10_row ⟨Nat.le_of_ble_eq_true rfl, Nat.le_of_ble_eq_true rfl⟩ (pre_xV hP hD hE (ci := 7) rfl hX.head) rfl hl.1 rfl (Nat.le_of_ble_eq_true rfl) dL_areRows_423 ⟨Nat.le_of_ble_eq_true rfl, Nat.le_of_ble_eq_true rfl⟩) hP hD hS hA (fun ws H locs hX hP hD hS => ?_)
          refine lv_iload hx hb dL_areRows_426 (lv_at hl 10 rfl) ?_
          refine lv_icmp_ne (tgt := 452) hx hb dL_areRows_428 (by decide) (fun c80 => ?_) (fun c80 => ?_)
          · have hf := ite_f c80 hf
            refine lv_iconst (v := 0) hx hb dL_areRows_452 (by decide) ?_
            exact hkk65 _ hf _ _ _ _ hX hP hD hS (lv_sub hl [0, 1, 2, 3, 4, 5, 6, 7, 8, 9] rfl)
          have hf := ite_t c80 hf
          refine lv_aload_n hx hb dL_areRows_431 rfl (lv_at hl 0 rfl) ?_
          refine lv_iload hx hb dL_areRows_432 (lv_at hl 9 rfl) ?_
          refine lv_iconst (v := 4) hx hb dL_areRows_434 (by decide) ?_
          obtain ⟨q81, h82, hf⟩ := bd_s hf
          refine ak_i (run_V (As := [.int s11, .int 4]) (rest := []) E (k_row l D Y hX s11 4 H.size q81 h82) qw447 qw448 qw449 qw19 qw450 rfl rfl hd_X10_row ⟨Nat.le_of_ble_eq_true rfl, Nat.le_of_ble_eq_true rfl⟩ (pre_xV hP hD hE (ci := 7) rfl hX.head) rfl hl.1 rfl (Nat.le_of_ble_eq_true rfl) dL_areRows_435 ⟨Nat.le_of_ble_eq_true rfl, Nat.le_of_ble_eq_true rfl⟩) hP hD hS hA (fun ws H locs hX hP hD hS => ?_)
          refine lv_aload_n hx hb dL_areRows_438 rfl (lv_at hl 1 rfl) ?_
          refine lv_iload hx hb dL_areRows_439 (lv_at hl 9 rfl) ?_
          refine lv_iconst (v := 0) hx hb dL_areRows_441 (by decide) ?_
          obtain ⟨q83, h84, hf⟩ := bd_s hf
          refine af_oi (run_S (As := [.ref a_p2, .int s11, .int 0]) (rest := [.int q81]) E (c_L_first l D Y a_p2 f_p2 s11 0 q83 h84) qw510 qw511 qw18 qw512 rfl rfl hd_L_first ⟨Nat.le_of_ble_eq_true rfl, Nat.le_of_ble_eq_true rfl⟩ (pre_roS hP hE [1] rfl) rfl hl.1 rfl (Nat.le_of_ble_eq_true rfl) dL_areRows_442 ⟨Nat.le_of_ble_eq_true rfl, Nat.le_of_ble_eq_true rfl⟩) ?_
          refine lv_icmp_ne (tgt := 452) hx hb dL_areRows_445 (by decide) (fun c85 => ?_) (fun c85 => ?_)
          · have hf := ite_f c85 hf
            refine lv_iconst (v := 0) hx hb dL_areRows_452 (by decide) ?_
            exact hkk65 _ hf _ _ _ _ hX hP hD hS (lv_sub hl [0, 1, 2, 3, 4, 5, 6, 7, 8, 9] rfl)
          have hf := ite_t c85 hf
          refine lv_iconst (v := 1) hx hb dL_areRows_448 (by decide) ?_
          refine lv_goto (tgt := 453) hx hb dL_areRows_449 (by decide) ?_
          exact hkk65 _ hf _ _ _ _ hX hP hD hS (lv_sub hl [0, 1, 2, 3, 4, 5, 6, 7, 8, 9] rfl)
        refine lv_if_eq (tgt := 415) hx hb dL_areRows_408 (by decide) (fun c86 => ?_) (fun c86 => ?_)
        · have hf := nmi_t c86 hf
          refine lv_iconst (v := 0) hx hb dL_areRows_415 (by decide) ?_
          exact hJ _ (nm_b hf) _ (lv_sub hl [0, 1, 2, 3, 4, 5, 6, 7, 8, 10, 13] rfl)
        have hf := nmi_f c86 hf
        refine lv_iconst (v := 1) hx hb dL_areRows_411 (by decide) ?_
        refine lv_goto (tgt := 416) hx hb dL_areRows_412 (by decide) ?_
        exact hJ _ (nm_b hf) _ (lv_sub hl [0, 1, 2, 3, 4, 5, 6, 7, 8, 10, 13] rfl)
      refine lv_if_le (tgt := 220) hx hb dL_areRows_119 (by decide) (fun c87 => ?_) (fun c87 => ?_)
      · have hf := ite_t c87 hf
        exact hkk12 _ hf _ _ _ _ hX hP hD hS (lv_sub hl [1, 2, 3, 4, 5, 6, 7, 8, 9, 10, 11, 0] rfl)
      have hf := ite_f c87 hf
      refine lv_iload hx hb dL_areRows_122 (lv_at hl 6 rfl) ?_
      refine jj_W (P := fun (w88 : Int32) => ∀ (H : Heap) (locs : List Loc) (ws : va_W) (ls : Array Slot), OX Y a_o v_o_a v_o_p ws → va_P D vwCl ([(a_p1, .inl (Y.1, 3, .inl f_p1)), (a_p2, .inl (Y.2.2.2, 64, .inr (.inl f_p2)))] ++ ws) H → va_D A ([(a_p1, .inl (Y.1, 3, .inl f_p1)), (a_p2, .inl (Y.2.2.2, 64, .inr (.inl f_p2)))] ++ ws) → va_S A s.heap H locs → lv_has ls 18 [(0, .ref a_o), (2, .ref a_p2), (3, .int s3), (4, .int s4), (5, .int s5), (7, .int s7), (8, .int s8), (9, .int s9), (10, .int s10), (11, .int s11), (12, .long q9)] → W p l e rm_L_areRows s m args below meth c H locs 0 0 Q (F0 m 145 ls [.int w88])) hf (fun w88 hf H locs ws ls hX hP hD hS hl => ?_) (fun kk89 hkk89 hf => ?_)
      · refine lv_istore (lv' := [(6, .int w88), (0, .ref a_o), (2, .ref a_p2), (3, .int s3), (4, .int s4), (5, .int s5), (7, .int s7), (8, .int s8), (9, .int s9), (10, .int s10), (11, .int s11), (12, .long q9)]) hx hb dL_areRows_145 hl (by decide) rfl (fun ls hl => ?_)
        refine lv_aload_n hx hb dL_areRows_147 rfl (lv_at hl 2 rfl) ?_
        refine lv_iload hx hb dL_areRows_148 (lv_at hl 10 rfl) ?_
        refine lv_iconst (v := 1) hx hb dL_areRows_150 (by decide) ?_
        obtain ⟨q90, h91, hf⟩ := bd_s hf
        refine af_oi (run_S (As := [.ref a_p2, .int s11, .int 1]) (rest := []) E (c_L_first l D Y a_p2 f_p2 s11 1 q90 h91) qw510 qw511 qw18 qw512 rfl rfl hd_L_first ⟨Nat.le_of_ble_eq_true rfl, Nat.le_of_ble_eq_true rfl⟩ (pre_roS hP hE [1] rfl) rfl hl.1 rfl (Nat.le_of_ble_eq_true rfl) dL_areRows_151 ⟨Nat.le_of_ble_eq_true rfl, Nat.le_of_ble_eq_true rfl⟩) ?_
        refine lv_iload hx hb dL_areRows_154 (lv_at hl 10 rfl) ?_
        refine mg (P := fun (w92 : Int32) => ∀ (ls : Array Slot), lv_has ls 18 [(0, .ref a_o), (2, .ref a_p2), (3, .int s3), (4, .int s4), (5, .int s5), (6, .int w88), (7, .int s7), (8, .int s8), (9, .int s9), (10, .int s10), (11, .int s11), (12, .long q9)] → W p l e rm_L_areRows s m args below meth c H locs 0 0 Q (F0 m 164 ls [.int w92])) hf (fun w92 hf ls hl => ?_) (fun hJ => ?_)
        · refine lv_istore (lv' := [(14, .int w92), (0, .ref a_o), (2, .ref a_p2), (3, .int s3), (4, .int s4), (5, .int s5), (6, .int w88), (7, .int s7), (8, .int s8), (9, .int s9), (10, .int s10), (11, .int s11), (12, .long q9)]) hx hb dL_areRows_164 hl (by decide) rfl (fun ls hl => ?_)
          refine lv_iload hx hb dL_areRows_166 (lv_at hl 7 rfl) ?_
          refine mg (P := fun (w93 : Int32) => ∀ (ls : Array Slot), lv_has ls 18 [(0, .ref a_o), (2, .ref a_p2), (3, .int s3), (4, .int s4), (5, .int s5), (6, .int w88), (8, .int s8), (9, .int s9), (10, .int s10), (11, .int s11), (12, .long q9), (14, .int w92)] → W p l e rm_L_areRows s m args below meth c H locs 0 0 Q (F0 m 183 ls [.int w93])) hf (fun w93 hf ls hl => ?_) (fun hJ => ?_)
          · refine lv_istore (lv' := [(7, .int w93), (0, .ref a_o), (2, .ref a_p2), (3, .int s3), (4, .int s4), (5, .int s5), (6, .int w88), (8, .int s8), (9, .int s9), (10, .int s10), (11, .int s11), (12, .long q9), (14, .int w92)]) hx hb dL_areRows_183 hl (by decide) rfl (fun ls hl => ?_)
            refine lv_iload hx hb dL_areRows_185 (lv_at hl 7 rfl) ?_
            refine lv_iload hx hb dL_areRows_187 (lv_at hl 12 rfl) ?_
            refine mg (P := fun (w94 : Int32) => ∀ (ls : Array Slot), lv_has ls 18 [(0, .ref a_o), (2, .ref a_p2), (3, .int s3), (4, .int s4), (5, .int s5), (6, .int w88), (7, .int w93), (9, .int s9), (10, .int s10), (11, .int s11), (12, .long q9)] → W p l e rm_L_areRows s m args below meth c H locs 0 0 Q (F0 m 197 ls [.int w94, .int s8])) hf (fun w94 hf ls hl => ?_) (fun hJ => ?_)
            · refine lv_iadd hx hb dL_areRows_197 ?_
              refine nm_W hf (fun x95 hf => ?_)
              refine lv_istore (lv' := [(8, .int x95), (0, .ref a_o), (2, .ref a_p2), (3, .int s3), (4, .int s4), (5, .int s5), (6, .int w88), (7, .int w93), (9, .int s9), (10, .int s10), (11, .int s11), (12, .long q9)]) hx hb dL_areRows_198 hl (by decide) rfl (fun ls hl => ?_)
              refine lv_iload hx hb dL_areRows_200 (lv_at hl 8 rfl) ?_
              refine lv_iload hx hb dL_areRows_202 (lv_at hl 4 rfl) ?_
              refine lv_lload hx hb dL_areRows_204 (lv_at hl 11 rfl) ?_
              refine af_oz (run_S (As := [.int s4, .long q9]) (rest := [.int s9]) E (c_L_sounds l D Y s4 q9 (f_L_sounds s4 q9) rfl) qw513 qw514 qw18 qw515 rfl rfl hd_L_sounds ⟨Nat.le_of_ble_eq_true rfl, Nat.le_of_ble_eq_true rfl⟩ (pre_roS hP hE [] rfl) rfl hl.1 rfl (Nat.le_of_ble_eq_true rfl) dL_areRows_206 ⟨Nat.le_of_ble_eq_true rfl, Nat.le_of_ble_eq_true rfl⟩) (fun z96 => ?_)
              refine mg (P := fun (w97 : Int32) => ∀ (ls : Array Slot), lv_has ls 18 [(0, .ref a_o), (2, .ref a_p2), (3, .int s3), (4, .int s4), (5, .int s5), (6, .int w88), (7, .int w93), (8, .int x95), (10, .int s10), (11, .int s11), (12, .long q9)] → W p l e rm_L_areRows s m args below meth c H locs 0 0 Q (F0 m 217 ls [.int w97, .int s9])) hf (fun w97 hf ls hl => ?_) (fun hJ => ?_)
              · refine lv_iadd hx hb dL_areRows_217 ?_
                refine nm_W hf (fun x98 hf => ?_)
                refine lv_istore (lv' := [(9, .int x98), (0, .ref a_o), (2, .ref a_p2), (3, .int s3), (4, .int s4), (5, .int s5), (6, .int w88), (7, .int w93), (8, .int x95), (10, .int s10), (11, .int s11), (12, .long q9)]) hx hb dL_areRows_218 hl (by decide) rfl (fun ls hl => ?_)
                exact hkk12 _ hf _ _ _ _ hX hP hD hS (lv_sub hl [1, 2, 3, 4, 5, 6, 7, 8, 0, 9, 10, 11] rfl)
              refine lv_if_eq (tgt := 216) hx hb dL_areRows_209 (by decide) (fun c99 => ?_) (fun c99 => ?_)
              · have hf := nmi_t c99 hf
                refine lv_iconst (v := 0) hx hb dL_areRows_216 (by decide) ?_
                exact hJ _ (nm_b hf) _ (lv_sub hl [1, 2, 3, 4, 5, 6, 7, 0, 9, 10, 11] rfl)
              have hf := nmi_f c99 hf
              refine lv_iconst (v := 1) hx hb dL_areRows_212 (by decide) ?_
              refine lv_goto (tgt := 217) hx hb dL_areRows_213 (by decide) ?_
              exact hJ _ (nm_b hf) _ (lv_sub hl [1, 2, 3, 4, 5, 6, 7, 0, 9, 10, 11] rfl)
            refine lv_if_eq (tgt := 196) hx hb dL_areRows_189 (by decide) (fun c100 => ?_) (fun c100 => ?_)
            · have hf := nmi_t c100 hf
              refine lv_iconst (v := 1) hx hb dL_areRows_196 (by decide) ?_
              exact hJ _ (nm_b hf) _ (lv_sub hl [1, 2, 3, 4, 5, 6, 0, 8, 9, 10, 11] rfl)
            have hf := nmi_f c100 hf
            refine lv_iconst (v := 0) hx hb dL_areRows_192 (by decide) ?_
            refine lv_goto (tgt := 197) hx hb dL_areRows_193 (by decide) ?_
            exact hJ _ (nm_b hf) _ (lv_sub hl [1, 2, 3, 4, 5, 6, 0, 8, 9, 10, 11] rfl)
          refine lv_if_ge (tgt := 181) hx hb dL_areRows_168 (by decide) (fun c101 => ?_) (fun c101 => ?_)
          · have hf := nmi_t c101 hf
            refine lv_iload hx hb dL_areRows_181 (lv_at hl 7 rfl) ?_
            exact hJ _ (nm_b hf) _ (lv_sub hl [1, 2, 3, 4, 5, 6, 8, 9, 10, 11, 12, 0] rfl)
          have hf := nmi_f c101 hf
          refine lv_iload hx hb dL_areRows_171 (lv_at hl 0 rfl) ?_
          refine lv_if_eq (tgt := 181) hx hb dL_areRows_173 (by decide) (fun c102 => ?_) (fun c102 => ?_)
          · have hf := nmi_t c102 hf
            refine lv_iload hx hb dL_areRows_181 (lv_at hl 7 rfl) ?_
            exact hJ _ (nm_b hf) _ (lv_sub hl [1, 2, 3, 4, 5, 6, 8, 9, 10, 11, 12, 0] rfl)
          have hf := nmi_f c102 hf
          refine lv_iload hx hb dL_areRows_176 (lv_at hl 11 rfl) ?_
          refine lv_goto (tgt := 183) hx hb dL_areRows_178 (by decide) ?_
          exact hJ _ (nm_b hf) _ (lv_sub hl [1, 2, 3, 4, 5, 6, 8, 9, 10, 11, 12, 0] rfl)
        refine lv_icmp_ge (tgt := 163) hx hb dL_areRows_156 (by decide) (fun c103 => ?_) (fun c103 => ?_)
        · have hf := nmi_t c103 hf
          refine lv_iconst (v := 0) hx hb dL_areRows_163 (by decide) ?_
          exact hJ _ (nm_b hf) _ (lv_sub hl [1, 2, 3, 4, 5, 0, 6, 7, 8, 9, 10, 11] rfl)
        have hf := nmi_f c103 hf
        refine lv_iconst (v := 1) hx hb dL_areRows_159 (by decide) ?_
        refine lv_goto (tgt := 164) hx hb dL_areRows_160 (by decide) ?_
        exact hJ _ (nm_b hf) _ (lv_sub hl [1, 2, 3, 4, 5, 0, 6, 7, 8, 9, 10, 11] rfl)
      refine lv_if_ge (tgt := 143) hx hb dL_areRows_124 (by decide) (fun c104 => ?_) (fun c104 => ?_)
      · have hf := ite_t c104 hf
        refine lv_iload hx hb dL_areRows_143 (lv_at hl 6 rfl) ?_
        exact hkk89 _ hf _ _ _ _ hX hP hD hS (lv_sub hl [1, 2, 3, 4, 5, 7, 8, 9, 10, 11, 0] rfl)
      have hf := ite_f c104 hf
      refine lv_lload hx hb dL_areRows_127 (lv_at hl 0 rfl) ?_
      refine lv_aload_n hx hb dL_areRows_129 rfl (lv_at hl 2 rfl) ?_
      refine lv_iconst (v := 0) hx hb dL_areRows_130 (by decide) ?_
      obtain ⟨q105, h106, hf⟩ := bd_s hf
      refine af_ol (run_S (As := [.ref a_p2, .int 0]) (rest := [.long q9]) E (c_L_rowAt l D Y a_p2 f_p2 0 q105 h106) qw506 qw507 qw18 qw508 rfl rfl hd_L_rowAt ⟨Nat.le_of_ble_eq_true rfl, Nat.le_of_ble_eq_true rfl⟩ (pre_roS hP hE [1] rfl) rfl hl.1 rfl (Nat.le_of_ble_eq_true rfl) dL_areRows_131 ⟨Nat.le_of_ble_eq_true rfl, Nat.le_of_ble_eq_true rfl⟩) ?_
      refine W.lcmp hx hb dL_areRows_134 ?_
      refine lv_if_ne (tgt := 143) hx hb dL_areRows_135 (by decide) (fun c107 => ?_) (fun c107 => ?_)
      · have hf := ite_f c107 hf
        refine lv_iload hx hb dL_areRows_143 (lv_at hl 6 rfl) ?_
        exact hkk89 _ hf _ _ _ _ hX hP hD hS (lv_sub hl [1, 2, 3, 4, 5, 7, 8, 9, 10, 11, 0] rfl)
      have hf := ite_t c107 hf
      refine lv_iload hx hb dL_areRows_138 (lv_at hl 11 rfl) ?_
      refine lv_goto (tgt := 145) hx hb dL_areRows_140 (by decide) ?_
      exact hkk89 _ hf _ _ _ _ hX hP hD hS (lv_sub hl [1, 2, 3, 4, 5, 7, 8, 9, 10, 11, 0] rfl)
  refine lv_aload_n hx hb dL_areRows_0 rfl (lv_at hl 1 rfl) ?_
  refine lv_iconst (v := 0) hx hb dL_areRows_1 (by decide) ?_
  refine va_iald hx hb hE.1 hP 0 0 rfl rfl (inb_in (by decide)) dL_areRows_2 ?_
  refine nm_W hf (fun x1 hf => ?_)
  refine lv_istore (lv' := [(4, .int x1), (0, .ref a_o), (1, .ref a_p1), (2, .ref a_p2), (3, .int s3)]) hx hb dL_areRows_3 hl (by decide) rfl (fun ls hl => ?_)
  refine lv_aload_n hx hb dL_areRows_5 rfl (lv_at hl 2 rfl) ?_
  refine lv_iconst (v := 1) hx hb dL_areRows_6 (by decide) ?_
  refine va_iald hx hb hE.1 hP 0 0 rfl rfl (inb_in (by decide)) dL_areRows_7 ?_
  refine lv_aload_n hx hb dL_areRows_8 rfl (lv_at hl 2 rfl) ?_
  refine lv_iconst (v := 2) hx hb dL_areRows_9 (by decide) ?_
  refine va_iald hx hb hE.1 hP 0 0 rfl rfl (inb_in (by decide)) dL_areRows_10 ?_
  refine lv_imul hx hb dL_areRows_11 ?_
  refine nm_W hf (fun x2 hf => ?_)
  refine lv_istore (lv' := [(5, .int x2), (4, .int x1), (0, .ref a_o), (1, .ref a_p1), (2, .ref a_p2), (3, .int s3)]) hx hb dL_areRows_12 hl (by decide) rfl (fun ls hl => ?_)
  refine lv_bipush (v := (-4)) hx hb dL_areRows_14 (by decide) ?_
  refine lv_istore (lv' := [(6, .int (-4)), (5, .int x2), (4, .int x1), (0, .ref a_o), (1, .ref a_p1), (2, .ref a_p2), (3, .int s3)]) hx hb dL_areRows_16 hl (by decide) rfl (fun ls hl => ?_)
  refine lv_bipush (v := (-4)) hx hb dL_areRows_18 (by decide) ?_
  refine lv_istore (lv' := [(7, .int (-4)), (6, .int (-4)), (5, .int x2), (4, .int x1), (0, .ref a_o), (1, .ref a_p1), (2, .ref a_p2), (3, .int s3)]) hx hb dL_areRows_20 hl (by decide) rfl (fun ls hl => ?_)
  refine lv_iconst (v := 0) hx hb dL_areRows_22 (by decide) ?_
  refine lv_istore (lv' := [(8, .int 0), (7, .int (-4)), (6, .int (-4)), (5, .int x2), (4, .int x1), (0, .ref a_o), (1, .ref a_p1), (2, .ref a_p2), (3, .int s3)]) hx hb dL_areRows_23 hl (by decide) rfl (fun ls hl => ?_)
  refine lv_iconst (v := 0) hx hb dL_areRows_25 (by decide) ?_
  refine lv_istore (lv' := [(9, .int 0), (8, .int 0), (7, .int (-4)), (6, .int (-4)), (5, .int x2), (4, .int x1), (0, .ref a_o), (1, .ref a_p1), (2, .ref a_p2), (3, .int s3)]) hx hb dL_areRows_26 hl (by decide) rfl (fun ls hl => ?_)
  refine lv_aload_n hx hb dL_areRows_28 rfl (lv_at hl 6 rfl) ?_
  refine lv_iload hx hb dL_areRows_29 (lv_at hl 4 rfl) ?_
  refine lv_iconst (v := 1) hx hb dL_areRows_31 (by decide) ?_
  refine lv_iadd hx hb dL_areRows_32 ?_
  refine lv_iconst (v := 1) hx hb dL_areRows_33 (by decide) ?_
  obtain ⟨q3, h4, hf⟩ := bd_s hf
  refine ak_i (run_V (As := [.int (x2 + 1), .int 1]) (rest := []) E (k_bell l D Y hX (x2 + 1) 1 s.heap.size q3 h4) qw376 qw377 qw378 qw19 qw379 rfl rfl hd_X10_bell ⟨Nat.le_of_ble_eq_true rfl, Nat.le_of_ble_eq_true rfl⟩ (pre_xV hP hD hE (ci := 7) rfl hX.head) rfl hl.1 rfl (Nat.le_of_ble_eq_true rfl) dL_areRows_34 ⟨Nat.le_of_ble_eq_true rfl, Nat.le_of_ble_eq_true rfl⟩) hP hD hS hA (fun ws H locs hX hP hD hS => ?_)
  refine lv_iconst (v := (-1)) hx hb dL_areRows_37 (by decide) ?_
  refine jj_W (P := fun (w5 : Int32) => ∀ (H : Heap) (locs : List Loc) (ws : va_W) (ls : Array Slot), OX Y a_o v_o_a v_o_p ws → va_P D vwCl ([(a_p1, .inl (Y.1, 3, .inl f_p1)), (a_p2, .inl (Y.2.2.2, 64, .inr (.inl f_p2)))] ++ ws) H → va_D A ([(a_p1, .inl (Y.1, 3, .inl f_p1)), (a_p2, .inl (Y.2.2.2, 64, .inr (.inl f_p2)))] ++ ws) → va_S A s.heap H locs → lv_has ls 18 [(0, .ref a_o), (2, .ref a_p2), (3, .int s3), (4, .int x1), (5, .int x2), (6, .int (-4)), (7, .int (-4)), (8, .int 0), (9, .int 0)] → W p l e rm_L_areRows s m args below meth c H locs 0 0 Q (F0 m 92 ls [.int w5])) hf (fun w5 hf H locs ws ls hX hP hD hS hl => ?_) (fun kk6 hkk6 hf => ?_)
  · refine lv_istore (lv' := [(10, .int w5), (0, .ref a_o), (2, .ref a_p2), (3, .int s3), (4, .int x1), (5, .int x2), (6, .int (-4)), (7, .int (-4)), (8, .int 0), (9, .int 0)]) hx hb dL_areRows_92 hl (by decide) rfl (fun ls hl => ?_)
    refine lv_iconst (v := 0) hx hb dL_areRows_94 (by decide) ?_
    refine lv_istore (lv' := [(11, .int 0), (10, .int w5), (0, .ref a_o), (2, .ref a_p2), (3, .int s3), (4, .int x1), (5, .int x2), (6, .int (-4)), (7, .int (-4)), (8, .int 0), (9, .int 0)]) hx hb dL_areRows_95 hl (by decide) rfl (fun ls hl => ?_)
    refine L97 _ _ _ _ _ _ _ _ _ _ _ _ _ _ _ hf hX hP hD hS (lv_sub hl [2, 3, 4, 5, 6, 7, 8, 9, 10, 1, 0] rfl) ?_
    intro y108 y109 y110 y111 y112 y113 H locs ws ls hf hX hP hD hS hl
    refine lv_iload hx hb dL_areRows_461 (lv_at hl 6 rfl) ?_
    refine lv_if_eq (tgt := 565) hx hb dL_areRows_463 (by decide) (fun c114 => ?_) (fun c114 => ?_)
    · have hf := ite_t c114 hf
      refine lv_iconst (v := 0) hx hb dL_areRows_565 (by decide) ?_
      rw [← hQ, ← Option.some.inj hf]
      exact en_xz (wu := fun ws => ([(a_p1, .inl (Y.1, 3, .inl f_p1)), (a_p2, .inl (Y.2.2.2, 64, .inr (.inl f_p2)))] ++ ws)) (u := ws) hx hb hr hlocks hX hP hD hS rfl (Or.inl rfl) dL_areRows_566
    have hf := ite_f c114 hf
    refine lv_aload_n hx hb dL_areRows_466 rfl (lv_at hl 0 rfl) ?_
    refine lv_iconst (v := 3) hx hb dL_areRows_467 (by decide) ?_
    obtain ⟨q115, h116, hf⟩ := bd_s hf
    refine ak_i (run_V (As := [.int 3]) (rest := []) E (k_count l D Y hX 3 H.size q115 h116) qw520 qw521 qw522 qw19 qw523 rfl rfl hd_X10_count ⟨Nat.le_of_ble_eq_true rfl, Nat.le_of_ble_eq_true rfl⟩ (pre_xV hP hD hE (ci := 7) rfl hX.head) rfl hl.1 rfl (Nat.le_of_ble_eq_true rfl) dL_areRows_468 ⟨Nat.le_of_ble_eq_true rfl, Nat.le_of_ble_eq_true rfl⟩) hP hD hS hA (fun ws H locs hX hP hD hS => ?_)
    refine lv_iload hx hb dL_areRows_471 (lv_at hl 1 rfl) ?_
    refine lv_icmp_ne (tgt := 565) hx hb dL_areRows_473 (by decide) (fun c117 => ?_) (fun c117 => ?_)
    · have hf := ite_f c117 hf
      refine lv_iconst (v := 0) hx hb dL_areRows_565 (by decide) ?_
      rw [← hQ, ← Option.some.inj hf]
      exact en_xz (wu := fun ws => ([(a_p1, .inl (Y.1, 3, .inl f_p1)), (a_p2, .inl (Y.2.2.2, 64, .inr (.inl f_p2)))] ++ ws)) (u := ws) hx hb hr hlocks hX hP hD hS rfl (Or.inl rfl) dL_areRows_566
    have hf := ite_t c117 hf
    refine lv_aload_n hx hb dL_areRows_476 rfl (lv_at hl 0 rfl) ?_
    refine lv_iconst (v := 4) hx hb dL_areRows_477 (by decide) ?_
    obtain ⟨q118, h119, hf⟩ := bd_s hf
    refine ak_i (run_V (As := [.int 4]) (rest := []) E (k_count l D Y hX 4 H.size q118 h119) qw520 qw521 qw522 qw19 qw523 rfl rfl hd_X10_count ⟨Nat.le_of_ble_eq_true rfl, Nat.le_of_ble_eq_true rfl⟩ (pre_xV hP hD hE (ci := 7) rfl hX.head) rfl hl.1 rfl (Nat.le_of_ble_eq_true rfl) dL_areRows_478 ⟨Nat.le_of_ble_eq_true rfl, Nat.le_of_ble_eq_true rfl⟩) hP hD hS hA (fun ws H locs hX hP hD hS => ?_)
    refine lv_iload hx hb dL_areRows_481 (lv_at hl 2 rfl) ?_
    refine lv_icmp_ne (tgt := 565) hx hb dL_areRows_483 (by decide) (fun c120 => ?_) (fun c120 => ?_)
    · have hf := ite_f c120 hf
      refine lv_iconst (v := 0) hx hb dL_areRows_565 (by decide) ?_
      rw [← hQ, ← Option.some.inj hf]
      exact en_xz (wu := fun ws => ([(a_p1, .inl (Y.1, 3, .inl f_p1)), (a_p2, .inl (Y.2.2.2, 64, .inr (.inl f_p2)))] ++ ws)) (u := ws) hx hb hr hlocks hX hP hD hS rfl (Or.inl rfl) dL_areRows_566
    have hf := ite_t c120 hf
    refine lv_aload_n hx hb dL_areRows_486 rfl (lv_at hl 0 rfl) ?_
    refine lv_iconst (v := 5) hx hb dL_areRows_487 (by decide) ?_
    obtain ⟨q121, h122, hf⟩ := bd_s hf
    refine ak_i (run_V (As := [.int 5]) (rest := []) E (k_count l D Y hX 5 H.size q121 h122) qw520 qw521 qw522 qw19 qw523 rfl rfl hd_X10_count ⟨Nat.le_of_ble_eq_true rfl, Nat.le_of_ble_eq_true rfl⟩ (pre_xV hP hD hE (ci := 7) rfl hX.head) rfl hl.1 rfl (Nat.le_of_ble_eq_true rfl) dL_areRows_488 ⟨Nat.le_of_ble_eq_true rfl, Nat.le_of_ble_eq_true rfl⟩) hP hD hS hA (fun ws H locs hX hP hD hS => ?_)
    refine lv_iload hx hb dL_areRows_491 (lv_at hl 3 rfl) ?_
    refine mg (P := fun (w123 : Int32) => ∀ (ls : Array Slot), lv_has ls 18 [(0, .ref a_o), (5, .int x2), (7, .int y109), (8, .int y110), (9, .int y111)] → W p l e rm_L_areRows s m args below meth c H locs 0 0 Q (F0 m 501 ls [.int w123, .int q121])) hf (fun w123 hf ls hl => ?_) (fun hJ => ?_)
    · refine lv_icmp_ne (tgt := 565) hx hb dL_areRows_501 (by decide) (fun c124 => ?_) (fun c124 => ?_)
      · have hf := ite_f c124 hf
        refine lv_iconst (v := 0) hx hb dL_areRows_565 (by decide) ?_
        rw [← hQ, ← Option.some.inj hf]
        exact en_xz (wu := fun ws => ([(a_p1, .inl (Y.1, 3, .inl f_p1)), (a_p2, .inl (Y.2.2.2, 64, .inr (.inl f_p2)))] ++ ws)) (u := ws) hx hb hr hlocks hX hP hD hS rfl (Or.inl rfl) dL_areRows_566
      have hf := ite_t c124 hf
      refine lv_aload_n hx hb dL_areRows_504 rfl (lv_at hl 0 rfl) ?_
      refine lv_bipush (v := 6) hx hb dL_areRows_505 (by decide) ?_
      obtain ⟨q125, h126, hf⟩ := bd_s hf
      refine ak_i (run_V (As := [.int 6]) (rest := []) E (k_count l D Y hX 6 H.size q125 h126) qw520 qw521 qw522 qw19 qw523 rfl rfl hd_X10_count ⟨Nat.le_of_ble_eq_true rfl, Nat.le_of_ble_eq_true rfl⟩ (pre_xV hP hD hE (ci := 7) rfl hX.head) rfl hl.1 rfl (Nat.le_of_ble_eq_true rfl) dL_areRows_507 ⟨Nat.le_of_ble_eq_true rfl, Nat.le_of_ble_eq_true rfl⟩) hP hD hS hA (fun ws H locs hX hP hD hS => ?_)
      refine lv_iload hx hb dL_areRows_510 (lv_at hl 2 rfl) ?_
      refine lv_icmp_ne (tgt := 565) hx hb dL_areRows_512 (by decide) (fun c127 => ?_) (fun c127 => ?_)
      · have hf := ite_f c127 hf
        refine lv_iconst (v := 0) hx hb dL_areRows_565 (by decide) ?_
        rw [← hQ, ← Option.some.inj hf]
        exact en_xz (wu := fun ws => ([(a_p1, .inl (Y.1, 3, .inl f_p1)), (a_p2, .inl (Y.2.2.2, 64, .inr (.inl f_p2)))] ++ ws)) (u := ws) hx hb hr hlocks hX hP hD hS rfl (Or.inl rfl) dL_areRows_566
      have hf := ite_t c127 hf
      refine lv_aload_n hx hb dL_areRows_515 rfl (lv_at hl 0 rfl) ?_
      refine lv_bipush (v := 7) hx hb dL_areRows_516 (by decide) ?_
      obtain ⟨q128, h129, hf⟩ := bd_s hf
      refine ak_i (run_V (As := [.int 7]) (rest := []) E (k_count l D Y hX 7 H.size q128 h129) qw520 qw521 qw522 qw19 qw523 rfl rfl hd_X10_count ⟨Nat.le_of_ble_eq_true rfl, Nat.le_of_ble_eq_true rfl⟩ (pre_xV hP hD hE (ci := 7) rfl hX.head) rfl hl.1 rfl (Nat.le_of_ble_eq_true rfl) dL_areRows_518 ⟨Nat.le_of_ble_eq_true rfl, Nat.le_of_ble_eq_true rfl⟩) hP hD hS hA (fun ws H locs hX hP hD hS => ?_)
      refine lv_iload hx hb dL_areRows_521 (lv_at hl 3 rfl) ?_
      refine lv_icmp_ne (tgt := 565) hx hb dL_areRows_523 (by decide) (fun c130 => ?_) (fun c130 => ?_)
      · have hf := ite_f c130 hf
        refine lv_iconst (v := 0) hx hb dL_areRows_565 (by decide) ?_
        rw [← hQ, ← Option.some.inj hf]
        exact en_xz (wu := fun ws => ([(a_p1, .inl (Y.1, 3, .inl f_p1)), (a_p2, .inl (Y.2.2.2, 64, .inr (.inl f_p2)))] ++ ws)) (u := ws) hx hb hr hlocks hX hP hD hS rfl (Or.inl rfl) dL_areRows_566
      have hf := ite_t c130 hf
      refine lv_aload_n hx hb dL_areRows_526 rfl (lv_at hl 0 rfl) ?_
      refine lv_bipush (v := 9) hx hb dL_areRows_527 (by decide) ?_
      obtain ⟨q131, h132, hf⟩ := bd_s hf
      refine ak_i (run_V (As := [.int 9]) (rest := []) E (k_count l D Y hX 9 H.size q131 h132) qw520 qw521 qw522 qw19 qw523 rfl rfl hd_X10_count ⟨Nat.le_of_ble_eq_true rfl, Nat.le_of_ble_eq_true rfl⟩ (pre_xV hP hD hE (ci := 7) rfl hX.head) rfl hl.1 rfl (Nat.le_of_ble_eq_true rfl) dL_areRows_529 ⟨Nat.le_of_ble_eq_true rfl, Nat.le_of_ble_eq_true rfl⟩) hP hD hS hA (fun ws H locs hX hP hD hS => ?_)
      refine lv_iload hx hb dL_areRows_532 (lv_at hl 4 rfl) ?_
      refine lv_icmp_ne (tgt := 565) hx hb dL_areRows_534 (by decide) (fun c133 => ?_) (fun c133 => ?_)
      · have hf := ite_f c133 hf
        refine lv_iconst (v := 0) hx hb dL_areRows_565 (by decide) ?_
        rw [← hQ, ← Option.some.inj hf]
        exact en_xz (wu := fun ws => ([(a_p1, .inl (Y.1, 3, .inl f_p1)), (a_p2, .inl (Y.2.2.2, 64, .inr (.inl f_p2)))] ++ ws)) (u := ws) hx hb hr hlocks hX hP hD hS rfl (Or.inl rfl) dL_areRows_566
      have hf := ite_t c133 hf
      refine lv_aload_n hx hb dL_areRows_537 rfl (lv_at hl 0 rfl) ?_
      obtain ⟨q134, h135, hf⟩ := bd_s hf
      refine ak_d (run_V (As := []) (rest := []) E (k_music l D Y hX H.size q134 h135) qw573 qw574 qw575 qw19 qw576 rfl rfl hd_X10_music ⟨Nat.le_of_ble_eq_true rfl, Nat.le_of_ble_eq_true rfl⟩ (pre_xV hP hD hE (ci := 7) rfl hX.head) rfl hl.1 rfl (Nat.le_of_ble_eq_true rfl) dL_areRows_538 ⟨Nat.le_of_ble_eq_true rfl, Nat.le_of_ble_eq_true rfl⟩) hP hD hS hA (fun ws H locs hX hP hD hS => ?_)
      refine lv_iload hx hb dL_areRows_541 (lv_at hl 1 rfl) ?_
      refine jj_W (P := fun (w136 : UInt64) => ∀ (H : Heap) (locs : List Loc) (ws : va_W) (ls : Array Slot), OX Y a_o v_o_a v_o_p ws → va_P D vwCl ([(a_p1, .inl (Y.1, 3, .inl f_p1)), (a_p2, .inl (Y.2.2.2, 64, .inr (.inl f_p2)))] ++ ws) H → va_D A ([(a_p1, .inl (Y.1, 3, .inl f_p1)), (a_p2, .inl (Y.2.2.2, 64, .inr (.inl f_p2)))] ++ ws) → va_S A s.heap H locs → lv_has ls 18 [] → W p l e rm_L_areRows s m args below meth c H locs 0 0 Q (F0 m 557 ls [.double w136, .double q134])) hf (fun w136 hf H locs ws ls hX hP hD hS hl => ?_) (fun kk137 hkk137 hf => ?_)
      · refine lv_dcmp hx hb dL_areRows_557 ?_
        refine lv_if_ne (tgt := 565) hx hb dL_areRows_558 (by decide) (fun c138 => ?_) (fun c138 => ?_)
        · have hf := ite_f c138 hf
          refine lv_iconst (v := 0) hx hb dL_areRows_565 (by decide) ?_
          rw [← hQ, ← Option.some.inj hf]
          exact en_xz (wu := fun ws => ([(a_p1, .inl (Y.1, 3, .inl f_p1)), (a_p2, .inl (Y.2.2.2, 64, .inr (.inl f_p2)))] ++ ws)) (u := ws) hx hb hr hlocks hX hP hD hS rfl (Or.inl rfl) dL_areRows_566
        have hf := ite_t c138 hf
        refine lv_iconst (v := 1) hx hb dL_areRows_561 (by decide) ?_
        refine lv_goto (tgt := 566) hx hb dL_areRows_562 (by decide) ?_
        rw [← hQ, ← Option.some.inj hf]
        exact en_xz (wu := fun ws => ([(a_p1, .inl (Y.1, 3, .inl f_p1)), (a_p2, .inl (Y.2.2.2, 64, .inr (.inl f_p2)))] ++ ws)) (u := ws) hx hb hr hlocks hX hP hD hS rfl (Or.inr rfl) dL_areRows_566
      refine lv_if_ne (tgt := 550) hx hb dL_areRows_543 (by decide) (fun c139 => ?_) (fun c139 => ?_)
      · have hf := ite_f c139 hf
        refine lv_iload hx hb dL_areRows_550 (lv_at hl 4 rfl) ?_
        refine lv_i2d hx hb dL_areRows_552 ?_
        refine lv_iload hx hb dL_areRows_553 (lv_at hl 1 rfl) ?_
        refine lv_i2d hx hb dL_areRows_555 ?_
        obtain ⟨g140, hf⟩ := gd_s hf
        refine lv_ddiv hx hb dL_areRows_556 (nnb_n g140) ?_
        exact hkk137 _ hf _ _ _ _ hX hP hD hS (lv_sub hl [] rfl)
      have hf := ite_t c139 hf
      refine lv_dconst0 hx hb dL_areRows_546 ?_
      refine lv_goto (tgt := 557) hx hb dL_areRows_547 (by decide) ?_
      exact hkk137 _ hf _ _ _ _ hX hP hD hS (lv_sub hl [] rfl)
    refine lv_if_ge (tgt := 500) hx hb dL_areRows_493 (by decide) (fun c141 => ?_) (fun c141 => ?_)
    · have hf := nmi_t c141 hf
      refine lv_iconst (v := 0) hx hb dL_areRows_500 (by decide) ?_
      exact hJ _ (nm_b hf) _ (lv_sub hl [0, 1, 3, 4, 5] rfl)
    have hf := nmi_f c141 hf
    refine lv_iconst (v := 1) hx hb dL_areRows_496 (by decide) ?_
    refine lv_goto (tgt := 501) hx hb dL_areRows_497 (by decide) ?_
    exact hJ _ (nm_b hf) _ (lv_sub hl [0, 1, 3, 4, 5] rfl)
  refine lv_icmp_ne (tgt := 91) hx hb dL_areRows_38 (by decide) (fun c142 => ?_) (fun c142 => ?_)
  · have hf := ite_f c142 hf
    refine lv_iconst (v := 0) hx hb dL_areRows_91 (by decide) ?_
    exact hkk6 _ hf _ _ _ _ hX hP hD hS (lv_sub hl [6, 8, 9, 5, 4, 3, 2, 1, 0] rfl)
  have hf := ite_t c142 hf
  refine lv_aload_n hx hb dL_areRows_41 rfl (lv_at hl 6 rfl) ?_
  refine lv_iconst (v := (-1)) hx hb dL_areRows_42 (by decide) ?_
  refine lv_iconst (v := 1) hx hb dL_areRows_43 (by decide) ?_
  obtain ⟨q143, h144, hf⟩ := bd_s hf
  refine ak_i (run_V (As := [.int (-1), .int 1]) (rest := []) E (k_bell l D Y hX (-1) 1 H.size q143 h144) qw376 qw377 qw378 qw19 qw379 rfl rfl hd_X10_bell ⟨Nat.le_of_ble_eq_true rfl, Nat.le_of_ble_eq_true rfl⟩ (pre_xV hP hD hE (ci := 7) rfl hX.head) rfl hl.1 rfl (Nat.le_of_ble_eq_true rfl) dL_areRows_44 ⟨Nat.le_of_ble_eq_true rfl, Nat.le_of_ble_eq_true rfl⟩) hP hD hS hA (fun ws H locs hX hP hD hS => ?_)
  refine lv_iconst (v := (-1)) hx hb dL_areRows_47 (by decide) ?_
  refine lv_icmp_ne (tgt := 91) hx hb dL_areRows_48 (by decide) (fun c145 => ?_) (fun c145 => ?_)
  · have hf := ite_f c145 hf
    refine lv_iconst (v := 0) hx hb dL_areRows_91 (by decide) ?_
    exact hkk6 _ hf _ _ _ _ hX hP hD hS (lv_sub hl [6, 8, 9, 5, 4, 3, 2, 1, 0] rfl)
  have hf := ite_t c145 hf
  refine lv_aload_n hx hb dL_areRows_51 rfl (lv_at hl 6 rfl) ?_
  refine lv_iconst (v := 0) hx hb dL_areRows_52 (by decide) ?_
  refine lv_iload hx hb dL_areRows_53 (lv_at hl 5 rfl) ?_
  refine lv_iconst (v := 1) hx hb dL_areRows_55 (by decide) ?_
  refine lv_iadd hx hb dL_areRows_56 ?_
  obtain ⟨q146, h147, hf⟩ := bd_s hf
  refine ak_i (run_V (As := [.int 0, .int (x1 + 1)]) (rest := []) E (k_bell l D Y hX 0 (x1 + 1) H.size q146 h147) qw376 qw377 qw378 qw19 qw379 rfl rfl hd_X10_bell ⟨Nat.le_of_ble_eq_true rfl, Nat.le_of_ble_eq_true rfl⟩ (pre_xV hP hD hE (ci := 7) rfl hX.head) rfl hl.1 rfl (Nat.le_of_ble_eq_true rfl) dL_areRows_57 ⟨Nat.le_of_ble_eq_true rfl, Nat.le_of_ble_eq_true rfl⟩) hP hD hS hA (fun ws H locs hX hP hD hS => ?_)
  refine lv_iconst (v := (-1)) hx hb dL_areRows_60 (by decide) ?_
  refine lv_icmp_ne (tgt := 91) hx hb dL_areRows_61 (by decide) (fun c148 => ?_) (fun c148 => ?_)
  · have hf := ite_f c148 hf
    refine lv_iconst (v := 0) hx hb dL_areRows_91 (by decide) ?_
    exact hkk6 _ hf _ _ _ _ hX hP hD hS (lv_sub hl [6, 8, 9, 5, 4, 3, 2, 1, 0] rfl)
  have hf := ite_t c148 hf
  refine lv_aload_n hx hb dL_areRows_64 rfl (lv_at hl 6 rfl) ?_
  refine lv_iconst (v := 0) hx hb dL_areRows_65 (by decide) ?_
  refine lv_iconst (v := 0) hx hb dL_areRows_66 (by decide) ?_
  obtain ⟨q149, h150, hf⟩ := bd_s hf
  refine ak_i (run_V (As := [.int 0, .int 0]) (rest := []) E (k_bell l D Y hX 0 0 H.size q149 h150) qw376 qw377 qw378 qw19 qw379 rfl rfl hd_X10_bell ⟨Nat.le_of_ble_eq_true rfl, Nat.le_of_ble_eq_true rfl⟩ (pre_xV hP hD hE (ci := 7) rfl hX.head) rfl hl.1 rfl (Nat.le_of_ble_eq_true rfl) dL_areRows_67 ⟨Nat.le_of_ble_eq_true rfl, Nat.le_of_ble_eq_true rfl⟩) hP hD hS hA (fun ws H locs hX hP hD hS => ?_)
  refine lv_iconst (v := (-1)) hx hb dL_areRows_70 (by decide) ?_
  refine lv_icmp_ne (tgt := 91) hx hb dL_areRows_71 (by decide) (fun c151 => ?_) (fun c151 => ?_)
  · have hf := ite_f c151 hf
    refine lv_iconst (v := 0) hx hb dL_areRows_91 (by decide) ?_
    exact hkk6 _ hf _ _ _ _ hX hP hD hS (lv_sub hl [6, 8, 9, 5, 4, 3, 2, 1, 0] rfl)
  have hf := ite_t c151 hf
  refine lv_aload_n hx hb dL_areRows_74 rfl (lv_at hl 6 rfl) ?_
  refine lv_iload hx hb dL_areRows_75 (lv_at hl 4 rfl) ?_
  refine lv_iconst (v := 1) hx hb dL_areRows_77 (by decide) ?_
  refine lv_iadd hx hb dL_areRows_78 ?_
  refine lv_iconst (v := 0) hx hb dL_areRows_79 (by decide) ?_
  obtain ⟨q152, h153, hf⟩ := bd_s hf
  refine ak_i (run_V (As := [.int (x2 + 1), .int 0]) (rest := []) E (k_row l D Y hX (x2 + 1) 0 H.size q152 h153) qw447 qw448 qw449 qw19 qw450 rfl rfl hd_X10_row ⟨Nat.le_of_ble_eq_true rfl, Nat.le_of_ble_eq_true rfl⟩ (pre_xV hP hD hE (ci := 7) rfl hX.head) rfl hl.1 rfl (Nat.le_of_ble_eq_true rfl) dL_areRows_80 ⟨Nat.le_of_ble_eq_true rfl, Nat.le_of_ble_eq_true rfl⟩) hP hD hS hA (fun ws H locs hX hP hD hS => ?_)
  refine lv_iconst (v := (-1)) hx hb dL_areRows_83 (by decide) ?_
  refine lv_icmp_ne (tgt := 91) hx hb dL_areRows_84 (by decide) (fun c154 => ?_) (fun c154 => ?_)
  · have hf := ite_f c154 hf
    refine lv_iconst (v := 0) hx hb dL_areRows_91 (by decide) ?_
    exact hkk6 _ hf _ _ _ _ hX hP hD hS (lv_sub hl [6, 8, 9, 5, 4, 3, 2, 1, 0] rfl)
  have hf := ite_t c154 hf
  refine lv_iconst (v := 1) hx hb dL_areRows_87 (by decide) ?_
  refine lv_goto (tgt := 92) hx hb dL_areRows_88 (by decide) ?_
  exact hkk6 _ hf _ _ _ _ hX hP hD hS (lv_sub hl [6, 8, 9, 5, 4, 3, 2, 1, 0] rfl)
