def f_L_isPath_L57 (k : Int32 → Option (Int32)) (s3 : Int32) (s4 : Int32) (s5 : Int32) (s7 : Int32) (s8 : Int32) (s9 : Int32) (s10 : Int32) (s11 : Int32) (s12 : Int32) (s14 : Int32) (f_p1 : Nat → Int32) (f_p2 : Nat → Int64) (v_o_a : AT) (v_o_p : List Nat) (f_nb : Nat → Int32) : Nat → Int32 → Option (Int32)
  | 0, _ => none
  | n + 1, s13 => bd (f_L_rowAt s14 f_p2) (fun q4 => (if (f_L_digit s4 q4 s13) = s3 then (k s13) else (f_L_isPath_L57 k s3 s4 s5 s7 s8 s9 s10 s11 s12 s14 f_p1 f_p2 v_o_a v_o_p f_nb n (s13 + 1))))
def f_L_isPath_L47 (k : Int32 → Int32 → Int32 → Int32 → Int32 → Int32 → Int32 → Int32 → (Nat → Int32) → Option (Int32)) (s3 : Int32) (s4 : Int32) (s5 : Int32) (f_p1 : Nat → Int32) (f_p2 : Nat → Int64) (v_o_a : AT) (v_o_p : List Nat) : Nat → Int32 → Int32 → Int32 → Int32 → Int32 → Int32 → Int32 → Int32 → (Nat → Int32) → Option (Int32)
  | 0, _, _, _, _, _, _, _, _, _ => none
  | n + 1, s7, s8, s9, s10, s11, s12, s13, s14, f_nb => (if s5 < s14 then (k s7 s8 s9 s10 s11 s12 s13 s14 f_nb) else (f_L_isPath_L57 (fun (y7 : Int32) => gd (inb y7 7) (nm (if s14 ≤ 0 then (0 : Int32) else (1 : Int32)) (fun (w9 : Int32) => nm (if s14 ≤ 0 then (0 : Int32) else (if y7 = s12 then (1 : Int32) else (0 : Int32))) (fun (w10 : Int32) => nm (s9 + w10) (fun (x11 : Int32) => nm (if s14 ≤ 2 then (0 : Int32) else (if y7 = s11 then (if s12 = s10 then (if s10 = s11 then (0 : Int32) else (1 : Int32)) else (0 : Int32)) else (0 : Int32))) (fun (w12 : Int32) => nm (if (0 : Int32) ≤ s8 then s8 else (if w12 = 0 then s8 else (s14 - 3))) (fun (w13 : Int32) => nm (if w12 = 0 then (0 : Int32) else (1 : Int32)) (fun (w14 : Int32) => nm (s7 + w14) (fun (x15 : Int32) => (f_L_isPath_L47 k s3 s4 s5 f_p1 f_p2 v_o_a v_o_p n x15 w13 x11 s11 s12 y7 y7 (s14 + 1) (upd f_nb y7.toNatClampNeg ((f_nb y7.toNatClampNeg) + w9)))))))))))) s3 s4 s5 s7 s8 s9 s10 s11 s12 s14 f_p1 f_p2 v_o_a v_o_p f_nb fu 0))
def f_L_isPath_L300 (s3 : Int32) (s4 : Int32) (f_p1 : Nat → Int32) (f_p2 : Nat → Int64) (v_o_a : AT) (v_o_p : List Nat) (f_nb : Nat → Int32) : Nat → Int32 → Int32 → Option (Int32)
  | 0, _, _ => none
  | n + 1, s14, s15 => (if s4 ≤ s15 then gd (zob s14) (some s14) else jj (fun (kk42 : (Int32) → Option (Int32)) => (if s14 = 0 then kk42 0 else bd (A_blows v_o_a s3 (s15 + 1)) (fun q44 => gd (inb s15 7) ((if q44 = (f_nb s15.toNatClampNeg) then kk42 1 else kk42 0))))) (fun (w41 : Int32) => (f_L_isPath_L300 s3 s4 f_p1 f_p2 v_o_a v_o_p f_nb n w41 (s15 + 1))))
def f_L_isPath (s3 : Int32) (f_p1 : Nat → Int32) (f_p2 : Nat → Int64) (v_o_a : AT) (v_o_p : List Nat) : Option (Int32) :=
  nm (f_p1 (0 : Int32).toNatClampNeg) (fun (x1 : Int32) => nm ((f_p1 (1 : Int32).toNatClampNeg) * (f_p1 (2 : Int32).toNatClampNeg)) (fun (x2 : Int32) => (f_L_isPath_L47 (fun (y26 : Int32) (y27 : Int32) (y28 : Int32) (y29 : Int32) (y30 : Int32) (y31 : Int32) (y32 : Int32) (y33 : Int32) (y34 : Nat → Int32) => bd (A_path v_o_a s3 0) (fun q35 => jj (fun (kk38 : (Int32) → Option (Int32)) => (if q35 = y26 then bd (A_path v_o_a s3 1) (fun q49 => (if q49 = y27 then bd (A_path v_o_a s3 2) (fun q52 => (if q52 = (y34 (0 : Int32).toNatClampNeg) then bd (A_path v_o_a s3 3) (fun q55 => (if q55 = y28 then bd (A_path v_o_a s3 4) (fun q58 => (if q58 = (y32 + 1) then bd (A_path v_o_a s3 5) (fun q61 => (if q61 = (-1) then bd (A_path v_o_a (x1 + 1) 0) (fun q64 => (if q64 = (-1) then kk38 1 else kk38 0)) else kk38 0)) else kk38 0)) else kk38 0)) else kk38 0)) else kk38 0)) else kk38 0)) (fun (w37 : Int32) => (f_L_isPath_L300 s3 x1 f_p1 f_p2 v_o_a v_o_p y34 fu w37 0)))) s3 x1 x2 f_p1 f_p2 v_o_a v_o_p fu 0 (-4) 0 (-1) (-2) (-3) 0 0 (fun _ => 0))))
abbrev rm_L_isPath : Room := { frames := 7, cells := 1, slots := 7, locals := 159 }
set_option maxHeartbeats 4000000 in
set_option maxRecDepth 100000 in
theorem c_L_isPath (l : Launch) (D : va_G) (Y : ClassId × ClassId × ClassId × ClassId) (a_p1 a_p2 a_o : Nat) (f_p1 : Nat → Int32) (f_p2 : Nat → Int64) (v_o_a : AT) (v_o_p : List Nat) (f_nb : Nat → Int32) (s3 : Int32) (ws : va_W) (hX : OX Y a_o v_o_a v_o_p ws) (sz : Nat) (R : Int32) (hf : f_L_isPath s3 f_p1 f_p2 v_o_a v_o_p = some R) : Met l yL_isPath (ws_ yL_isPath cL_isPath 16 (some .boolean)) rm_L_isPath (va_Pc [.ref a_o, .ref a_p1, .ref a_p2, .int s3] (RW D Y sz ([(a_p1, .inl (Y.1, 3, .inl f_p1)), (a_p2, .inl (Y.2.2.2, 64, .inr (.inl f_p2)))] ++ ws))) (QXz D R (fun ws => OX Y a_o v_o_a v_o_p ws) (fun ws => ([(a_p1, .inl (Y.1, 3, .inl f_p1)), (a_p2, .inl (Y.2.2.2, 64, .inr (.inl f_p2)))] ++ ws)) (va_A ([(a_p1, .inl (Y.1, 3, .inl f_p1)), (a_p2, .inl (Y.2.2.2, 64, .inr (.inl f_p2)))] ++ ws) sz)) 1 7 (va_A ([(a_p1, .inl (Y.1, 3, .inl f_p1)), (a_p2, .inl (Y.2.2.2, 64, .inr (.inl f_p2)))] ++ ws) sz) := by
  refine rw_start (l := l) (y := yL_isPath) (cc := cL_isPath) (maxL := 16) (ret := (some .boolean)) (rm := rm_L_isPath) (args := [.ref a_o, .ref a_p1, .ref a_p2, .int s3]) (D := D) (Y := Y) (sz := sz) (ws := ([(a_p1, .inl (Y.1, 3, .inl f_p1)), (a_p2, .inl (Y.2.2.2, 64, .inr (.inl f_p2)))] ++ ws)) (mc := 1) (ms := 7) (Qc := (fun A => QXz D R (fun ws => OX Y a_o v_o_a v_o_p ws) (fun ws => ([(a_p1, .inl (Y.1, 3, .inl f_p1)), (a_p2, .inl (Y.2.2.2, 64, .inr (.inl f_p2)))] ++ ws)) A)) (by decide) (Nat.le_of_ble_eq_true rfl) ?_
  intro p e s m below meth c ls A hx hb hml hr hlocks hown hts hnm hA hP hD hS hE hl
  generalize hargs : List.toArray _ = args at hts ⊢
  have hown : s.vm.findClass RL = some m.cls := hown
  have E : EN p m c cL_isPath 16 s args RL := ⟨hx, hb, hml, hown, hts⟩
  have hl : lv_has ls 16 [(0, .ref a_o), (1, .ref a_p1), (2, .ref a_p2), (3, .int s3)] := hl
  generalize hQ : MQ below _ args s 1 7 _ = Q
  unfold f_L_isPath at hf
  refine lv_aload_n hx hb dL_isPath_0 rfl (lv_at hl 1 rfl) ?_
  refine lv_iconst (v := 0) hx hb dL_isPath_1 (by decide) ?_
  refine va_iald hx hb hE.1 hP 0 0 rfl rfl (inb_in (by decide)) dL_isPath_2 ?_
  refine nm_W hf (fun x1 hf => ?_)
  refine lv_istore (lv' := [(4, .int x1), (0, .ref a_o), (1, .ref a_p1), (2, .ref a_p2), (3, .int s3)]) hx hb dL_isPath_3 hl (by decide) rfl (fun ls hl => ?_)
  refine lv_aload_n hx hb dL_isPath_5 rfl (lv_at hl 2 rfl) ?_
  refine lv_iconst (v := 1) hx hb dL_isPath_6 (by decide) ?_
  refine va_iald hx hb hE.1 hP 0 0 rfl rfl (inb_in (by decide)) dL_isPath_7 ?_
  refine lv_aload_n hx hb dL_isPath_8 rfl (lv_at hl 2 rfl) ?_
  refine lv_iconst (v := 2) hx hb dL_isPath_9 (by decide) ?_
  refine va_iald hx hb hE.1 hP 0 0 rfl rfl (inb_in (by decide)) dL_isPath_10 ?_
  refine lv_imul hx hb dL_isPath_11 ?_
  refine nm_W hf (fun x2 hf => ?_)
  refine lv_istore (lv' := [(5, .int x2), (4, .int x1), (0, .ref a_o), (1, .ref a_p1), (2, .ref a_p2), (3, .int s3)]) hx hb dL_isPath_12 hl (by decide) rfl (fun ls hl => ?_)
  refine lv_bipush (v := 7) hx hb dL_isPath_14 (by decide) ?_
  refine n_newi_x (N := 7) hx hb (hts _ qw82) hE hP hD hS hA (by decide) (by decide) (Nat.le_of_ble_eq_true rfl) (Nat.le_of_ble_eq_true rfl) (Nat.le_of_ble_eq_true rfl) dL_isPath_16 (fun a_nb H hP hD hS => ?_)
  have hP : va_P D vwCl ([(a_nb, .inl (Y.1, 7, .inl (fun _ => 0))), (a_p1, .inl (Y.1, 3, .inl f_p1)), (a_p2, .inl (Y.2.2.2, 64, .inr (.inl f_p2)))] ++ ws) H := hP
  have hD : va_D A ([(a_nb, .inl (Y.1, 7, .inl (fun _ => 0))), (a_p1, .inl (Y.1, 3, .inl f_p1)), (a_p2, .inl (Y.2.2.2, 64, .inr (.inl f_p2)))] ++ ws) := hD
  refine lv_astore (lv' := [(6, .ref a_nb), (5, .int x2), (4, .int x1), (0, .ref a_o), (1, .ref a_p1), (2, .ref a_p2), (3, .int s3)]) hx hb dL_isPath_18 hl (by decide) rfl (fun ls hl => ?_)
  have L57 : ∀ (n : Nat) (k : Int32 → Option (Int32)) (s3 : Int32) (s4 : Int32) (s5 : Int32) (s7 : Int32) (s8 : Int32) (s9 : Int32) (s10 : Int32) (s11 : Int32) (s12 : Int32) (s14 : Int32) (f_nb : Nat → Int32) (s13 : Int32) (H : Heap) (locs : List Loc) (ws : va_W) (ls : Array Slot), f_L_isPath_L57 k s3 s4 s5 s7 s8 s9 s10 s11 s12 s14 f_p1 f_p2 v_o_a v_o_p f_nb n s13 = some R → OX Y a_o v_o_a v_o_p ws → va_P D vwCl ([(a_nb, .inl (Y.1, 7, .inl f_nb)), (a_p1, .inl (Y.1, 3, .inl f_p1)), (a_p2, .inl (Y.2.2.2, 64, .inr (.inl f_p2)))] ++ ws) H → va_D A ([(a_nb, .inl (Y.1, 7, .inl f_nb)), (a_p1, .inl (Y.1, 3, .inl f_p1)), (a_p2, .inl (Y.2.2.2, 64, .inr (.inl f_p2)))] ++ ws) → va_S A s.heap H locs → lv_has ls 16 [(0, .ref a_o), (2, .ref a_p2), (3, .int s3), (4, .int s4), (5, .int s5), (6, .ref a_nb), (7, .int s7), (8, .int s8), (9, .int s9), (10, .int s10), (11, .int s11), (12, .int s12), (13, .int s13), (14, .int s14)] → (∀ (y_s13 : Int32) (H : Heap) (locs : List Loc) (ws : va_W) (ls : Array Slot), k y_s13 = some R → OX Y a_o v_o_a v_o_p ws → va_P D vwCl ([(a_nb, .inl (Y.1, 7, .inl f_nb)), (a_p1, .inl (Y.1, 3, .inl f_p1)), (a_p2, .inl (Y.2.2.2, 64, .inr (.inl f_p2)))] ++ ws) H → va_D A ([(a_nb, .inl (Y.1, 7, .inl f_nb)), (a_p1, .inl (Y.1, 3, .inl f_p1)), (a_p2, .inl (Y.2.2.2, 64, .inr (.inl f_p2)))] ++ ws) → va_S A s.heap H locs → lv_has ls 16 [(0, .ref a_o), (2, .ref a_p2), (3, .int s3), (4, .int s4), (5, .int s5), (6, .ref a_nb), (7, .int s7), (8, .int s8), (9, .int s9), (10, .int s10), (11, .int s11), (12, .int s12), (13, .int y_s13), (14, .int s14)] → W p l e rm_L_isPath s m args below meth c H locs 1 7 Q (F0 m 80 ls [])) → W p l e rm_L_isPath s m args below meth c H locs 1 7 Q (F0 m 57 ls []) := by
    intro n
    induction n with
    | zero =>
      intro k s3 s4 s5 s7 s8 s9 s10 s11 s12 s14 f_nb s13 H locs ws ls hf
      cases hf
    | succ n ih =>
      intro k s3 s4 s5 s7 s8 s9 s10 s11 s12 s14 f_nb s13 H locs ws ls hf hX hP hD hS hl hk
      unfold f_L_isPath_L57 at hf
      refine lv_iload hx hb dL_isPath_57 (lv_at hl 3 rfl) ?_
      refine lv_aload_n hx hb dL_isPath_59 rfl (lv_at hl 1 rfl) ?_
      refine lv_iload hx hb dL_isPath_60 (lv_at hl 13 rfl) ?_
      obtain ⟨q4, h5, hf⟩ := bd_s hf
      refine af_ol (run_S (As := [.ref a_p2, .int s14]) (rest := [.int s4]) E (c_L_rowAt l D Y a_p2 f_p2 s14 q4 h5) qw506 qw507 qw18 qw508 rfl rfl hd_L_rowAt ⟨Nat.le_of_ble_eq_true rfl, Nat.le_of_ble_eq_true rfl⟩ (pre_roS hP hE [2] rfl) rfl hl.1 rfl (Nat.le_of_ble_eq_true rfl) dL_isPath_62 ⟨Nat.le_of_ble_eq_true rfl, Nat.le_of_ble_eq_true rfl⟩) ?_
      refine lv_iload hx hb dL_isPath_65 (lv_at hl 12 rfl) ?_
      refine af_oi (run_S (As := [.int s4, .long q4, .int s13]) (rest := []) E (c_L_digit l D Y s4 q4 s13 (f_L_digit s4 q4 s13) rfl) qw516 qw517 qw18 qw518 rfl rfl hd_L_digit ⟨Nat.le_of_ble_eq_true rfl, Nat.le_of_ble_eq_true rfl⟩ (pre_roS hP hE [] rfl) rfl hl.1 rfl (Nat.le_of_ble_eq_true rfl) dL_isPath_67 ⟨Nat.le_of_ble_eq_true rfl, Nat.le_of_ble_eq_true rfl⟩) ?_
      refine lv_iload_n hx hb dL_isPath_70 rfl (lv_at hl 2 rfl) ?_
      refine lv_icmp_eq (tgt := 80) hx hb dL_isPath_71 (by decide) (fun c6 => ?_) (fun c6 => ?_)
      · have hf := ite_t c6 hf
        exact hk _ _ _ _ _ hf hX hP hD hS (lv_sub hl [0, 1, 2, 3, 4, 5, 6, 7, 8, 9, 10, 11, 12, 13] rfl)
      have hf := ite_f c6 hf
      refine lv_iinc (v := (s13 + 1)) (lv' := [(13, .int (s13 + 1)), (0, .ref a_o), (2, .ref a_p2), (3, .int s3), (4, .int s4), (5, .int s5), (6, .ref a_nb), (7, .int s7), (8, .int s8), (9, .int s9), (10, .int s10), (11, .int s11), (12, .int s12), (14, .int s14)]) hx hb dL_isPath_74 hl (k := 12) rfl rfl (by decide) rfl (fun ls hl => ?_)
      refine lv_goto (tgt := 57) hx hb dL_isPath_77 (by decide) ?_
      exact ih _ _ _ _ _ _ _ _ _ _ _ _ _ _ _ _ _ hf hX hP hD hS (lv_sub hl [1, 2, 3, 4, 5, 6, 7, 8, 9, 10, 11, 12, 0, 13] rfl) hk
  have L47 : ∀ (n : Nat) (k : Int32 → Int32 → Int32 → Int32 → Int32 → Int32 → Int32 → Int32 → (Nat → Int32) → Option (Int32)) (s3 : Int32) (s4 : Int32) (s5 : Int32) (s7 : Int32) (s8 : Int32) (s9 : Int32) (s10 : Int32) (s11 : Int32) (s12 : Int32) (s13 : Int32) (s14 : Int32) (f_nb : Nat → Int32) (H : Heap) (locs : List Loc) (ws : va_W) (ls : Array Slot), f_L_isPath_L47 k s3 s4 s5 f_p1 f_p2 v_o_a v_o_p n s7 s8 s9 s10 s11 s12 s13 s14 f_nb = some R → OX Y a_o v_o_a v_o_p ws → va_P D vwCl ([(a_nb, .inl (Y.1, 7, .inl f_nb)), (a_p1, .inl (Y.1, 3, .inl f_p1)), (a_p2, .inl (Y.2.2.2, 64, .inr (.inl f_p2)))] ++ ws) H → va_D A ([(a_nb, .inl (Y.1, 7, .inl f_nb)), (a_p1, .inl (Y.1, 3, .inl f_p1)), (a_p2, .inl (Y.2.2.2, 64, .inr (.inl f_p2)))] ++ ws) → va_S A s.heap H locs → lv_has ls 16 [(0, .ref a_o), (2, .ref a_p2), (3, .int s3), (4, .int s4), (5, .int s5), (6, .ref a_nb), (7, .int s7), (8, .int s8), (9, .int s9), (10, .int s10), (11, .int s11), (12, .int s12), (13, .int s13), (14, .int s14)] → (∀ (y_s7 : Int32) (y_s8 : Int32) (y_s9 : Int32) (y_s10 : Int32) (y_s11 : Int32) (y_s12 : Int32) (y_s13 : Int32) (y_s14 : Int32) (y_f_nb : Nat → Int32) (H : Heap) (locs : List Loc) (ws : va_W) (ls : Array Slot), k y_s7 y_s8 y_s9 y_s10 y_s11 y_s12 y_s13 y_s14 y_f_nb = some R → OX Y a_o v_o_a v_o_p ws → va_P D vwCl ([(a_nb, .inl (Y.1, 7, .inl y_f_nb)), (a_p1, .inl (Y.1, 3, .inl f_p1)), (a_p2, .inl (Y.2.2.2, 64, .inr (.inl f_p2)))] ++ ws) H → va_D A ([(a_nb, .inl (Y.1, 7, .inl y_f_nb)), (a_p1, .inl (Y.1, 3, .inl f_p1)), (a_p2, .inl (Y.2.2.2, 64, .inr (.inl f_p2)))] ++ ws) → va_S A s.heap H locs → lv_has ls 16 [(0, .ref a_o), (3, .int s3), (4, .int s4), (6, .ref a_nb), (7, .int y_s7), (8, .int y_s8), (9, .int y_s9), (13, .int y_s13)] → W p l e rm_L_isPath s m args below meth c H locs 1 7 Q (F0 m 208 ls [])) → W p l e rm_L_isPath s m args below meth c H locs 1 7 Q (F0 m 47 ls []) := by
    intro n
    induction n with
    | zero =>
      intro k s3 s4 s5 s7 s8 s9 s10 s11 s12 s13 s14 f_nb H locs ws ls hf
      cases hf
    | succ n ih =>
      intro k s3 s4 s5 s7 s8 s9 s10 s11 s12 s13 s14 f_nb H locs ws ls hf hX hP hD hS hl hk
      unfold f_L_isPath_L47 at hf
      refine lv_iload hx hb dL_isPath_47 (lv_at hl 13 rfl) ?_
      refine lv_iload hx hb dL_isPath_49 (lv_at hl 4 rfl) ?_
      refine lv_icmp_gt (tgt := 208) hx hb dL_isPath_51 (by decide) (fun c3 => ?_) (fun c3 => ?_)
      · have hf := ite_t c3 hf
        exact hk _ _ _ _ _ _ _ _ _ _ _ _ _ hf hX hP hD hS (lv_sub hl [0, 2, 3, 5, 6, 7, 8, 12] rfl)
      have hf := ite_f c3 hf
      refine lv_iconst (v := 0) hx hb dL_isPath_54 (by decide) ?_
      refine lv_istore (lv' := [(13, .int 0), (0, .ref a_o), (2, .ref a_p2), (3, .int s3), (4, .int s4), (5, .int s5), (6, .ref a_nb), (7, .int s7), (8, .int s8), (9, .int s9), (10, .int s10), (11, .int s11), (12, .int s12), (14, .int s14)]) hx hb dL_isPath_55 hl (by decide) rfl (fun ls hl => ?_)
      refine L57 _ _ _ _ _ _ _ _ _ _ _ _ _ _ _ _ _ _ hf hX hP hD hS (lv_sub hl [1, 2, 3, 4, 5, 6, 7, 8, 9, 10, 11, 12, 0, 13] rfl) ?_
      intro y7 H locs ws ls hf hX hP hD hS hl
      refine lv_aload hx hb dL_isPath_80 (lv_at hl 5 rfl) ?_
      refine lv_iload hx hb dL_isPath_82 (lv_at hl 12 rfl) ?_
      refine lv_dup2_11 hx hb dL_isPath_84 rfl rfl ?_
      obtain ⟨g8, hf⟩ := gd_s hf
      refine va_iald hx hb hE.1 hP 0 0 rfl rfl (inb_in g8) dL_isPath_85 ?_
      refine lv_iload hx hb dL_isPath_86 (lv_at hl 13 rfl) ?_
      refine mg (P := fun (w9 : Int32) => ∀ (ls : Array Slot), lv_has ls 16 [(0, .ref a_o), (2, .ref a_p2), (3, .int s3), (4, .int s4), (5, .int s5), (6, .ref a_nb), (7, .int s7), (8, .int s8), (9, .int s9), (10, .int s10), (11, .int s11), (12, .int s12), (13, .int y7), (14, .int s14)] → W p l e rm_L_isPath s m args below meth c H locs 1 7 Q (F0 m 96 ls [.int w9, .int (f_nb y7.toNatClampNeg), .int y7, .ref a_nb])) hf (fun w9 hf ls hl => ?_) (fun hJ => ?_)
      · refine lv_iadd hx hb dL_isPath_96 ?_
        refine va_iast hx hb hE.1 hP hD hS 0 0 rfl rfl (inb_in g8) dL_isPath_97 (fun H locs hP hD hS => ?_)
        have hP : va_P D vwCl ([(a_nb, .inl (Y.1, 7, .inl (upd f_nb y7.toNatClampNeg ((f_nb y7.toNatClampNeg) + w9)))), (a_p1, .inl (Y.1, 3, .inl f_p1)), (a_p2, .inl (Y.2.2.2, 64, .inr (.inl f_p2)))] ++ ws) H := hP
        have hD : va_D A ([(a_nb, .inl (Y.1, 7, .inl (upd f_nb y7.toNatClampNeg ((f_nb y7.toNatClampNeg) + w9)))), (a_p1, .inl (Y.1, 3, .inl f_p1)), (a_p2, .inl (Y.2.2.2, 64, .inr (.inl f_p2)))] ++ ws) := hD
        refine lv_iload hx hb dL_isPath_98 (lv_at hl 8 rfl) ?_
        refine lv_iload hx hb dL_isPath_100 (lv_at hl 13 rfl) ?_
        refine mg (P := fun (w10 : Int32) => ∀ (ls : Array Slot), lv_has ls 16 [(0, .ref a_o), (2, .ref a_p2), (3, .int s3), (4, .int s4), (5, .int s5), (6, .ref a_nb), (7, .int s7), (8, .int s8), (10, .int s10), (11, .int s11), (12, .int s12), (13, .int y7), (14, .int s14)] → W p l e rm_L_isPath s m args below meth c H locs 1 7 Q (F0 m 117 ls [.int w10, .int s9])) hf (fun w10 hf ls hl => ?_) (fun hJ => ?_)
        · refine lv_iadd hx hb dL_isPath_117 ?_
          refine nm_W hf (fun x11 hf => ?_)
          refine lv_istore (lv' := [(9, .int x11), (0, .ref a_o), (2, .ref a_p2), (3, .int s3), (4, .int s4), (5, .int s5), (6, .ref a_nb), (7, .int s7), (8, .int s8), (10, .int s10), (11, .int s11), (12, .int s12), (13, .int y7), (14, .int s14)]) hx hb dL_isPath_118 hl (by decide) rfl (fun ls hl => ?_)
          refine lv_iload hx hb dL_isPath_120 (lv_at hl 13 rfl) ?_
          refine lv_iconst (v := 2) hx hb dL_isPath_122 (by decide) ?_
          refine mg (P := fun (w12 : Int32) => ∀ (ls : Array Slot), lv_has ls 16 [(0, .ref a_o), (2, .ref a_p2), (3, .int s3), (4, .int s4), (5, .int s5), (6, .ref a_nb), (7, .int s7), (8, .int s8), (9, .int x11), (11, .int s11), (12, .int s12), (13, .int y7), (14, .int s14)] → W p l e rm_L_isPath s m args below meth c H locs 1 7 Q (F0 m 152 ls [.int w12])) hf (fun w12 hf ls hl => ?_) (fun hJ => ?_)
          · refine lv_istore (lv' := [(15, .int w12), (0, .ref a_o), (2, .ref a_p2), (3, .int s3), (4, .int s4), (5, .int s5), (6, .ref a_nb), (7, .int s7), (8, .int s8), (9, .int x11), (11, .int s11), (12, .int s12), (13, .int y7), (14, .int s14)]) hx hb dL_isPath_152 hl (by decide) rfl (fun ls hl => ?_)
            refine lv_iload hx hb dL_isPath_154 (lv_at hl 8 rfl) ?_
            refine mg (P := fun (w13 : Int32) => ∀ (ls : Array Slot), lv_has ls 16 [(0, .ref a_o), (2, .ref a_p2), (3, .int s3), (4, .int s4), (5, .int s5), (6, .ref a_nb), (7, .int s7), (9, .int x11), (11, .int s11), (12, .int s12), (13, .int y7), (14, .int s14), (15, .int w12)] → W p l e rm_L_isPath s m args below meth c H locs 1 7 Q (F0 m 173 ls [.int w13])) hf (fun w13 hf ls hl => ?_) (fun hJ => ?_)
            · refine lv_istore (lv' := [(8, .int w13), (0, .ref a_o), (2, .ref a_p2), (3, .int s3), (4, .int s4), (5, .int s5), (6, .ref a_nb), (7, .int s7), (9, .int x11), (11, .int s11), (12, .int s12), (13, .int y7), (14, .int s14), (15, .int w12)]) hx hb dL_isPath_173 hl (by decide) rfl (fun ls hl => ?_)
              refine lv_iload hx hb dL_isPath_175 (lv_at hl 7 rfl) ?_
              refine lv_iload hx hb dL_isPath_177 (lv_at hl 13 rfl) ?_
              refine mg (P := fun (w14 : Int32) => ∀ (ls : Array Slot), lv_has ls 16 [(0, .ref a_o), (2, .ref a_p2), (3, .int s3), (4, .int s4), (5, .int s5), (6, .ref a_nb), (8, .int w13), (9, .int x11), (11, .int s11), (12, .int s12), (13, .int y7), (14, .int s14)] → W p l e rm_L_isPath s m args below meth c H locs 1 7 Q (F0 m 187 ls [.int w14, .int s7])) hf (fun w14 hf ls hl => ?_) (fun hJ => ?_)
              · refine lv_iadd hx hb dL_isPath_187 ?_
                refine nm_W hf (fun x15 hf => ?_)
                refine lv_istore (lv' := [(7, .int x15), (0, .ref a_o), (2, .ref a_p2), (3, .int s3), (4, .int s4), (5, .int s5), (6, .ref a_nb), (8, .int w13), (9, .int x11), (11, .int s11), (12, .int s12), (13, .int y7), (14, .int s14)]) hx hb dL_isPath_188 hl (by decide) rfl (fun ls hl => ?_)
                refine lv_iload hx hb dL_isPath_190 (lv_at hl 9 rfl) ?_
                refine lv_istore (lv' := [(10, .int s11), (7, .int x15), (0, .ref a_o), (2, .ref a_p2), (3, .int s3), (4, .int s4), (5, .int s5), (6, .ref a_nb), (8, .int w13), (9, .int x11), (11, .int s11), (12, .int s12), (13, .int y7), (14, .int s14)]) hx hb dL_isPath_192 hl (by decide) rfl (fun ls hl => ?_)
                refine lv_iload hx hb dL_isPath_194 (lv_at hl 11 rfl) ?_
                refine lv_istore (lv' := [(11, .int s12), (10, .int s11), (7, .int x15), (0, .ref a_o), (2, .ref a_p2), (3, .int s3), (4, .int s4), (5, .int s5), (6, .ref a_nb), (8, .int w13), (9, .int x11), (12, .int s12), (13, .int y7), (14, .int s14)]) hx hb dL_isPath_196 hl (by decide) rfl (fun ls hl => ?_)
                refine lv_iload hx hb dL_isPath_198 (lv_at hl 12 rfl) ?_
                refine lv_istore (lv' := [(12, .int y7), (11, .int s12), (10, .int s11), (7, .int x15), (0, .ref a_o), (2, .ref a_p2), (3, .int s3), (4, .int s4), (5, .int s5), (6, .ref a_nb), (8, .int w13), (9, .int x11), (13, .int y7), (14, .int s14)]) hx hb dL_isPath_200 hl (by decide) rfl (fun ls hl => ?_)
                refine lv_iinc (v := (s14 + 1)) (lv' := [(14, .int (s14 + 1)), (12, .int y7), (11, .int s12), (10, .int s11), (7, .int x15), (0, .ref a_o), (2, .ref a_p2), (3, .int s3), (4, .int s4), (5, .int s5), (6, .ref a_nb), (8, .int w13), (9, .int x11), (13, .int y7)]) hx hb dL_isPath_202 hl (k := 13) rfl rfl (by decide) rfl (fun ls hl => ?_)
                refine lv_goto (tgt := 47) hx hb dL_isPath_205 (by decide) ?_
                exact ih _ _ _ _ _ _ _ _ _ _ _ _ _ _ _ _ _ hf hX hP hD hS (lv_sub hl [5, 6, 7, 8, 9, 10, 4, 11, 12, 3, 2, 1, 13, 0] rfl) hk
              refine lv_if_eq (tgt := 186) hx hb dL_isPath_179 (by decide) (fun c16 => ?_) (fun c16 => ?_)
              · have hf := nmi_t c16 hf
                refine lv_iconst (v := 0) hx hb dL_isPath_186 (by decide) ?_
                exact hJ _ (nm_b hf) _ (lv_sub hl [1, 2, 3, 4, 5, 6, 0, 8, 9, 10, 11, 12] rfl)
              have hf := nmi_f c16 hf
              refine lv_iconst (v := 1) hx hb dL_isPath_182 (by decide) ?_
              refine lv_goto (tgt := 187) hx hb dL_isPath_183 (by decide) ?_
              exact hJ _ (nm_b hf) _ (lv_sub hl [1, 2, 3, 4, 5, 6, 0, 8, 9, 10, 11, 12] rfl)
            refine lv_if_ge (tgt := 171) hx hb dL_isPath_156 (by decide) (fun c17 => ?_) (fun c17 => ?_)
            · have hf := nmi_t c17 hf
              refine lv_iload hx hb dL_isPath_171 (lv_at hl 8 rfl) ?_
              exact hJ _ (nm_b hf) _ (lv_sub hl [1, 2, 3, 4, 5, 6, 7, 9, 10, 11, 12, 13, 0] rfl)
            have hf := nmi_f c17 hf
            refine lv_iload hx hb dL_isPath_159 (lv_at hl 0 rfl) ?_
            refine lv_if_eq (tgt := 171) hx hb dL_isPath_161 (by decide) (fun c18 => ?_) (fun c18 => ?_)
            · have hf := nmi_t c18 hf
              refine lv_iload hx hb dL_isPath_171 (lv_at hl 8 rfl) ?_
              exact hJ _ (nm_b hf) _ (lv_sub hl [1, 2, 3, 4, 5, 6, 7, 9, 10, 11, 12, 13, 0] rfl)
            have hf := nmi_f c18 hf
            refine lv_iload hx hb dL_isPath_164 (lv_at hl 13 rfl) ?_
            refine lv_iconst (v := 3) hx hb dL_isPath_166 (by decide) ?_
            refine lv_isub hx hb dL_isPath_167 ?_
            refine lv_goto (tgt := 173) hx hb dL_isPath_168 (by decide) ?_
            exact hJ _ (nm_b hf) _ (lv_sub hl [1, 2, 3, 4, 5, 6, 7, 9, 10, 11, 12, 13, 0] rfl)
          refine lv_icmp_le (tgt := 151) hx hb dL_isPath_123 (by decide) (fun c19 => ?_) (fun c19 => ?_)
          · have hf := nmi_t c19 hf
            refine lv_iconst (v := 0) hx hb dL_isPath_151 (by decide) ?_
            exact hJ _ (nm_b hf) _ (lv_sub hl [1, 2, 3, 4, 5, 6, 7, 8, 0, 10, 11, 12, 13] rfl)
          have hf := nmi_f c19 hf
          refine lv_iload hx hb dL_isPath_126 (lv_at hl 12 rfl) ?_
          refine lv_iload hx hb dL_isPath_128 (lv_at hl 10 rfl) ?_
          refine lv_icmp_ne (tgt := 151) hx hb dL_isPath_130 (by decide) (fun c20 => ?_) (fun c20 => ?_)
          · have hf := nmi_f c20 hf
            refine lv_iconst (v := 0) hx hb dL_isPath_151 (by decide) ?_
            exact hJ _ (nm_b hf) _ (lv_sub hl [1, 2, 3, 4, 5, 6, 7, 8, 0, 10, 11, 12, 13] rfl)
          have hf := nmi_t c20 hf
          refine lv_iload hx hb dL_isPath_133 (lv_at hl 11 rfl) ?_
          refine lv_iload hx hb dL_isPath_135 (lv_at hl 9 rfl) ?_
          refine lv_icmp_ne (tgt := 151) hx hb dL_isPath_137 (by decide) (fun c21 => ?_) (fun c21 => ?_)
          · have hf := nmi_f c21 hf
            refine lv_iconst (v := 0) hx hb dL_isPath_151 (by decide) ?_
            exact hJ _ (nm_b hf) _ (lv_sub hl [1, 2, 3, 4, 5, 6, 7, 8, 0, 10, 11, 12, 13] rfl)
          have hf := nmi_t c21 hf
          refine lv_iload hx hb dL_isPath_140 (lv_at hl 9 rfl) ?_
          refine lv_iload hx hb dL_isPath_142 (lv_at hl 10 rfl) ?_
          refine lv_icmp_eq (tgt := 151) hx hb dL_isPath_144 (by decide) (fun c22 => ?_) (fun c22 => ?_)
          · have hf := nmi_t c22 hf
            refine lv_iconst (v := 0) hx hb dL_isPath_151 (by decide) ?_
            exact hJ _ (nm_b hf) _ (lv_sub hl [1, 2, 3, 4, 5, 6, 7, 8, 0, 10, 11, 12, 13] rfl)
          have hf := nmi_f c22 hf
          refine lv_iconst (v := 1) hx hb dL_isPath_147 (by decide) ?_
          refine lv_goto (tgt := 152) hx hb dL_isPath_148 (by decide) ?_
          exact hJ _ (nm_b hf) _ (lv_sub hl [1, 2, 3, 4, 5, 6, 7, 8, 0, 10, 11, 12, 13] rfl)
        refine lv_if_le (tgt := 116) hx hb dL_isPath_102 (by decide) (fun c23 => ?_) (fun c23 => ?_)
        · have hf := nmi_t c23 hf
          refine lv_iconst (v := 0) hx hb dL_isPath_116 (by decide) ?_
          exact hJ _ (nm_b hf) _ (lv_sub hl [0, 1, 2, 3, 4, 5, 6, 7, 9, 10, 11, 12, 13] rfl)
        have hf := nmi_f c23 hf
        refine lv_iload hx hb dL_isPath_105 (lv_at hl 12 rfl) ?_
        refine lv_iload hx hb dL_isPath_107 (lv_at hl 11 rfl) ?_
        refine lv_icmp_ne (tgt := 116) hx hb dL_isPath_109 (by decide) (fun c24 => ?_) (fun c24 => ?_)
        · have hf := nmi_f c24 hf
          refine lv_iconst (v := 0) hx hb dL_isPath_116 (by decide) ?_
          exact hJ _ (nm_b hf) _ (lv_sub hl [0, 1, 2, 3, 4, 5, 6, 7, 9, 10, 11, 12, 13] rfl)
        have hf := nmi_t c24 hf
        refine lv_iconst (v := 1) hx hb dL_isPath_112 (by decide) ?_
        refine lv_goto (tgt := 117) hx hb dL_isPath_113 (by decide) ?_
        exact hJ _ (nm_b hf) _ (lv_sub hl [0, 1, 2, 3, 4, 5, 6, 7, 9, 10, 11, 12, 13] rfl)
      refine lv_if_le (tgt := 95) hx hb dL_isPath_88 (by decide) (fun c25 => ?_) (fun c25 => ?_)
      · have hf := nmi_t c25 hf
        refine lv_iconst (v := 0) hx hb dL_isPath_95 (by decide) ?_
        exact hJ _ (nm_b hf) _ (lv_sub hl [0, 1, 2, 3, 4, 5, 6, 7, 8, 9, 10, 11, 12, 13] rfl)
      have hf := nmi_f c25 hf
      refine lv_iconst (v := 1) hx hb dL_isPath_91 (by decide) ?_
      refine lv_goto (tgt := 96) hx hb dL_isPath_92 (by decide) ?_
      exact hJ _ (nm_b hf) _ (lv_sub hl [0, 1, 2, 3, 4, 5, 6, 7, 8, 9, 10, 11, 12, 13] rfl)
  have L300 : ∀ (n : Nat) (s3 : Int32) (s4 : Int32) (f_nb : Nat → Int32) (s14 : Int32) (s15 : Int32) (H : Heap) (locs : List Loc) (ws : va_W) (ls : Array Slot), f_L_isPath_L300 s3 s4 f_p1 f_p2 v_o_a v_o_p f_nb n s14 s15 = some R → OX Y a_o v_o_a v_o_p ws → va_P D vwCl ([(a_nb, .inl (Y.1, 7, .inl f_nb)), (a_p1, .inl (Y.1, 3, .inl f_p1)), (a_p2, .inl (Y.2.2.2, 64, .inr (.inl f_p2)))] ++ ws) H → va_D A ([(a_nb, .inl (Y.1, 7, .inl f_nb)), (a_p1, .inl (Y.1, 3, .inl f_p1)), (a_p2, .inl (Y.2.2.2, 64, .inr (.inl f_p2)))] ++ ws) → va_S A s.heap H locs → lv_has ls 16 [(0, .ref a_o), (3, .int s3), (4, .int s4), (6, .ref a_nb), (14, .int s14), (15, .int s15)] → W p l e rm_L_isPath s m args below meth c H locs 1 7 Q (F0 m 300 ls []) := by
    intro n
    induction n with
    | zero =>
      intro s3 s4 f_nb s14 s15 H locs ws ls hf
      cases hf
    | succ n ih =>
      intro s3 s4 f_nb s14 s15 H locs ws ls hf hX hP hD hS hl
      unfold f_L_isPath_L300 at hf
      refine lv_iload hx hb dL_isPath_300 (lv_at hl 5 rfl) ?_
      refine lv_iload hx hb dL_isPath_302 (lv_at hl 2 rfl) ?_
      refine lv_icmp_ge (tgt := 342) hx hb dL_isPath_304 (by decide) (fun c39 => ?_) (fun c39 => ?_)
      · have hf := ite_t c39 hf
        refine lv_iload hx hb dL_isPath_342 (lv_at hl 4 rfl) ?_
        obtain ⟨g40, hf⟩ := gd_s hf
        rw [← hQ, ← Option.some.inj hf]
        have hP := va_P.part (cx := [(a_p1, .inl (Y.1, 3, .inl f_p1)), (a_p2, .inl (Y.2.2.2, 64, .inr (.inl f_p2)))]) hP [1, 2] rfl
        have hD := va_D.part (cx := [(a_p1, .inl (Y.1, 3, .inl f_p1)), (a_p2, .inl (Y.2.2.2, 64, .inr (.inl f_p2)))]) hD [1, 2] rfl rfl
        exact en_xz (wu := fun ws => ([(a_p1, .inl (Y.1, 3, .inl f_p1)), (a_p2, .inl (Y.2.2.2, 64, .inr (.inl f_p2)))] ++ ws)) (u := ws) hx hb hr hlocks hX hP hD hS rfl (zob_s g40) dL_isPath_344
      have hf := ite_f c39 hf
      refine lv_iload hx hb dL_isPath_307 (lv_at hl 4 rfl) ?_
      refine jj_W (P := fun (w41 : Int32) => ∀ (H : Heap) (locs : List Loc) (ws : va_W) (ls : Array Slot), OX Y a_o v_o_a v_o_p ws → va_P D vwCl ([(a_nb, .inl (Y.1, 7, .inl f_nb)), (a_p1, .inl (Y.1, 3, .inl f_p1)), (a_p2, .inl (Y.2.2.2, 64, .inr (.inl f_p2)))] ++ ws) H → va_D A ([(a_nb, .inl (Y.1, 7, .inl f_nb)), (a_p1, .inl (Y.1, 3, .inl f_p1)), (a_p2, .inl (Y.2.2.2, 64, .inr (.inl f_p2)))] ++ ws) → va_S A s.heap H locs → lv_has ls 16 [(0, .ref a_o), (3, .int s3), (4, .int s4), (6, .ref a_nb), (15, .int s15)] → W p l e rm_L_isPath s m args below meth c H locs 1 7 Q (F0 m 334 ls [.int w41])) hf (fun w41 hf H locs ws ls hX hP hD hS hl => ?_) (fun kk42 hkk42 hf => ?_)
      · refine lv_istore (lv' := [(14, .int w41), (0, .ref a_o), (3, .int s3), (4, .int s4), (6, .ref a_nb), (15, .int s15)]) hx hb dL_isPath_334 hl (by decide) rfl (fun ls hl => ?_)
        refine lv_iinc (v := (s15 + 1)) (lv' := [(15, .int (s15 + 1)), (14, .int w41), (0, .ref a_o), (3, .int s3), (4, .int s4), (6, .ref a_nb)]) hx hb dL_isPath_336 hl (k := 5) rfl rfl (by decide) rfl (fun ls hl => ?_)
        refine lv_goto (tgt := 300) hx hb dL_isPath_339 (by decide) ?_
        exact ih _ _ _ _ _ _ _ _ _ hf hX hP hD hS (lv_sub hl [2, 3, 4, 5, 1, 0] rfl)
      refine lv_if_eq (tgt := 333) hx hb dL_isPath_309 (by decide) (fun c43 => ?_) (fun c43 => ?_)
      · have hf := ite_t c43 hf
        refine lv_iconst (v := 0) hx hb dL_isPath_333 (by decide) ?_
        exact hkk42 _ hf _ _ _ _ hX hP hD hS (lv_sub hl [0, 1, 2, 3, 5] rfl)
      have hf := ite_f c43 hf
      refine lv_aload_n hx hb dL_isPath_312 rfl (lv_at hl 0 rfl) ?_
      refine lv_iload_n hx hb dL_isPath_313 rfl (lv_at hl 1 rfl) ?_
      refine lv_iload hx hb dL_isPath_314 (lv_at hl 5 rfl) ?_
      refine lv_iconst (v := 1) hx hb dL_isPath_316 (by decide) ?_
      refine lv_iadd hx hb dL_isPath_317 ?_
      obtain ⟨q44, h45, hf⟩ := bd_s hf
      refine ak_i (run_V (As := [.int s3, .int (s15 + 1)]) (rest := []) E (k_blows l D Y hX s3 (s15 + 1) H.size q44 h45) qw622 qw623 qw624 qw19 qw625 rfl rfl hd_X10_blows ⟨Nat.le_of_ble_eq_true rfl, Nat.le_of_ble_eq_true rfl⟩ (pre_xV hP hD hE (ci := 7) rfl hX.head) rfl hl.1 rfl (Nat.le_of_ble_eq_true rfl) dL_isPath_318 ⟨Nat.le_of_ble_eq_true rfl, Nat.le_of_ble_eq_true rfl⟩) hP hD hS hA (fun ws H locs hX hP hD hS => ?_)
      refine lv_aload hx hb dL_isPath_321 (lv_at hl 3 rfl) ?_
      refine lv_iload hx hb dL_isPath_323 (lv_at hl 5 rfl) ?_
      obtain ⟨g46, hf⟩ := gd_s hf
      refine va_iald hx hb hE.1 hP 0 0 rfl rfl (inb_in g46) dL_isPath_325 ?_
      refine lv_icmp_ne (tgt := 333) hx hb dL_isPath_326 (by decide) (fun c47 => ?_) (fun c47 => ?_)
      · have hf := ite_f c47 hf
        refine lv_iconst (v := 0) hx hb dL_isPath_333 (by decide) ?_
        exact hkk42 _ hf _ _ _ _ hX hP hD hS (lv_sub hl [0, 1, 2, 3, 5] rfl)
      have hf := ite_t c47 hf
      refine lv_iconst (v := 1) hx hb dL_isPath_329 (by decide) ?_
      refine lv_goto (tgt := 334) hx hb dL_isPath_330 (by decide) ?_
      exact hkk42 _ hf _ _ _ _ hX hP hD hS (lv_sub hl [0, 1, 2, 3, 5] rfl)
  refine lv_iconst (v := 0) hx hb dL_isPath_20 (by decide) ?_
  refine lv_istore (lv' := [(7, .int 0), (6, .ref a_nb), (5, .int x2), (4, .int x1), (0, .ref a_o), (1, .ref a_p1), (2, .ref a_p2), (3, .int s3)]) hx hb dL_isPath_21 hl (by decide) rfl (fun ls hl => ?_)
  refine lv_bipush (v := (-4)) hx hb dL_isPath_23 (by decide) ?_
  refine lv_istore (lv' := [(8, .int (-4)), (7, .int 0), (6, .ref a_nb), (5, .int x2), (4, .int x1), (0, .ref a_o), (1, .ref a_p1), (2, .ref a_p2), (3, .int s3)]) hx hb dL_isPath_25 hl (by decide) rfl (fun ls hl => ?_)
  refine lv_iconst (v := 0) hx hb dL_isPath_27 (by decide) ?_
  refine lv_istore (lv' := [(9, .int 0), (8, .int (-4)), (7, .int 0), (6, .ref a_nb), (5, .int x2), (4, .int x1), (0, .ref a_o), (1, .ref a_p1), (2, .ref a_p2), (3, .int s3)]) hx hb dL_isPath_28 hl (by decide) rfl (fun ls hl => ?_)
  refine lv_iconst (v := (-1)) hx hb dL_isPath_30 (by decide) ?_
  refine lv_istore (lv' := [(10, .int (-1)), (9, .int 0), (8, .int (-4)), (7, .int 0), (6, .ref a_nb), (5, .int x2), (4, .int x1), (0, .ref a_o), (1, .ref a_p1), (2, .ref a_p2), (3, .int s3)]) hx hb dL_isPath_31 hl (by decide) rfl (fun ls hl => ?_)
  refine lv_bipush (v := (-2)) hx hb dL_isPath_33 (by decide) ?_
  refine lv_istore (lv' := [(11, .int (-2)), (10, .int (-1)), (9, .int 0), (8, .int (-4)), (7, .int 0), (6, .ref a_nb), (5, .int x2), (4, .int x1), (0, .ref a_o), (1, .ref a_p1), (2, .ref a_p2), (3, .int s3)]) hx hb dL_isPath_35 hl (by decide) rfl (fun ls hl => ?_)
  refine lv_bipush (v := (-3)) hx hb dL_isPath_37 (by decide) ?_
  refine lv_istore (lv' := [(12, .int (-3)), (11, .int (-2)), (10, .int (-1)), (9, .int 0), (8, .int (-4)), (7, .int 0), (6, .ref a_nb), (5, .int x2), (4, .int x1), (0, .ref a_o), (1, .ref a_p1), (2, .ref a_p2), (3, .int s3)]) hx hb dL_isPath_39 hl (by decide) rfl (fun ls hl => ?_)
  refine lv_iconst (v := 0) hx hb dL_isPath_41 (by decide) ?_
  refine lv_istore (lv' := [(13, .int 0), (12, .int (-3)), (11, .int (-2)), (10, .int (-1)), (9, .int 0), (8, .int (-4)), (7, .int 0), (6, .ref a_nb), (5, .int x2), (4, .int x1), (0, .ref a_o), (1, .ref a_p1), (2, .ref a_p2), (3, .int s3)]) hx hb dL_isPath_42 hl (by decide) rfl (fun ls hl => ?_)
  refine lv_iconst (v := 0) hx hb dL_isPath_44 (by decide) ?_
  refine lv_istore (lv' := [(14, .int 0), (13, .int 0), (12, .int (-3)), (11, .int (-2)), (10, .int (-1)), (9, .int 0), (8, .int (-4)), (7, .int 0), (6, .ref a_nb), (5, .int x2), (4, .int x1), (0, .ref a_o), (1, .ref a_p1), (2, .ref a_p2), (3, .int s3)]) hx hb dL_isPath_45 hl (by decide) rfl (fun ls hl => ?_)
  refine L47 _ _ _ _ _ _ _ _ _ _ _ _ _ _ _ _ _ _ hf hX hP hD hS (lv_sub hl [11, 13, 14, 10, 9, 8, 7, 6, 5, 4, 3, 2, 1, 0] rfl) ?_
  intro y26 y27 y28 y29 y30 y31 y32 y33 y34 H locs ws ls hf hX hP hD hS hl
  refine lv_aload_n hx hb dL_isPath_208 rfl (lv_at hl 0 rfl) ?_
  refine lv_iload_n hx hb dL_isPath_209 rfl (lv_at hl 1 rfl) ?_
  refine lv_iconst (v := 0) hx hb dL_isPath_210 (by decide) ?_
  obtain ⟨q35, h36, hf⟩ := bd_s hf
  refine ak_i (run_V (As := [.int s3, .int 0]) (rest := []) E (k_path l D Y hX s3 0 H.size q35 h36) qw589 qw590 qw591 qw19 qw592 rfl rfl hd_X10_path ⟨Nat.le_of_ble_eq_true rfl, Nat.le_of_ble_eq_true rfl⟩ (pre_xV hP hD hE (ci := 7) rfl hX.head) rfl hl.1 rfl (Nat.le_of_ble_eq_true rfl) dL_isPath_211 ⟨Nat.le_of_ble_eq_true rfl, Nat.le_of_ble_eq_true rfl⟩) hP hD hS hA (fun ws H locs hX hP hD hS => ?_)
  refine lv_iload hx hb dL_isPath_214 (lv_at hl 4 rfl) ?_
  refine jj_W (P := fun (w37 : Int32) => ∀ (H : Heap) (locs : List Loc) (ws : va_W) (ls : Array Slot), OX Y a_o v_o_a v_o_p ws → va_P D vwCl ([(a_nb, .inl (Y.1, 7, .inl y34)), (a_p1, .inl (Y.1, 3, .inl f_p1)), (a_p2, .inl (Y.2.2.2, 64, .inr (.inl f_p2)))] ++ ws) H → va_D A ([(a_nb, .inl (Y.1, 7, .inl y34)), (a_p1, .inl (Y.1, 3, .inl f_p1)), (a_p2, .inl (Y.2.2.2, 64, .inr (.inl f_p2)))] ++ ws) → va_S A s.heap H locs → lv_has ls 16 [(0, .ref a_o), (3, .int s3), (4, .int x1), (6, .ref a_nb)] → W p l e rm_L_isPath s m args below meth c H locs 1 7 Q (F0 m 295 ls [.int w37])) hf (fun w37 hf H locs ws ls hX hP hD hS hl => ?_) (fun kk38 hkk38 hf => ?_)
  · refine lv_istore (lv' := [(14, .int w37), (0, .ref a_o), (3, .int s3), (4, .int x1), (6, .ref a_nb)]) hx hb dL_isPath_295 hl (by decide) rfl (fun ls hl => ?_)
    refine lv_iconst (v := 0) hx hb dL_isPath_297 (by decide) ?_
    refine lv_istore (lv' := [(15, .int 0), (14, .int w37), (0, .ref a_o), (3, .int s3), (4, .int x1), (6, .ref a_nb)]) hx hb dL_isPath_298 hl (by decide) rfl (fun ls hl => ?_)
    exact L300 _ _ _ _ _ _ _ _ _ _ hf hX hP hD hS (lv_sub hl [2, 3, 4, 5, 1, 0] rfl)
  refine lv_icmp_ne (tgt := 294) hx hb dL_isPath_216 (by decide) (fun c48 => ?_) (fun c48 => ?_)
  · have hf := ite_f c48 hf
    refine lv_iconst (v := 0) hx hb dL_isPath_294 (by decide) ?_
    exact hkk38 _ hf _ _ _ _ hX hP hD hS (lv_sub hl [0, 1, 2, 3] rfl)
  have hf := ite_t c48 hf
  refine lv_aload_n hx hb dL_isPath_219 rfl (lv_at hl 0 rfl) ?_
  refine lv_iload_n hx hb dL_isPath_220 rfl (lv_at hl 1 rfl) ?_
  refine lv_iconst (v := 1) hx hb dL_isPath_221 (by decide) ?_
  obtain ⟨q49, h50, hf⟩ := bd_s hf
  refine ak_i (run_V (As := [.int s3, .int 1]) (rest := []) E (k_path l D Y hX s3 1 H.size q49 h50) qw589 qw590 qw591 qw19 qw592 rfl rfl hd_X10_path ⟨Nat.le_of_ble_eq_true rfl, Nat.le_of_ble_eq_true rfl⟩ (pre_xV hP hD hE (ci := 7) rfl hX.head) rfl hl.1 rfl (Nat.le_of_ble_eq_true rfl) dL_isPath_222 ⟨Nat.le_of_ble_eq_true rfl, Nat.le_of_ble_eq_true rfl⟩) hP hD hS hA (fun ws H locs hX hP hD hS => ?_)
  refine lv_iload hx hb dL_isPath_225 (lv_at hl 5 rfl) ?_
  refine lv_icmp_ne (tgt := 294) hx hb dL_isPath_227 (by decide) (fun c51 => ?_) (fun c51 => ?_)
  · have hf := ite_f c51 hf
    refine lv_iconst (v := 0) hx hb dL_isPath_294 (by decide) ?_
    exact hkk38 _ hf _ _ _ _ hX hP hD hS (lv_sub hl [0, 1, 2, 3] rfl)
  have hf := ite_t c51 hf
  refine lv_aload_n hx hb dL_isPath_230 rfl (lv_at hl 0 rfl) ?_
  refine lv_iload_n hx hb dL_isPath_231 rfl (lv_at hl 1 rfl) ?_
  refine lv_iconst (v := 2) hx hb dL_isPath_232 (by decide) ?_
  obtain ⟨q52, h53, hf⟩ := bd_s hf
  refine ak_i (run_V (As := [.int s3, .int 2]) (rest := []) E (k_path l D Y hX s3 2 H.size q52 h53) qw589 qw590 qw591 qw19 qw592 rfl rfl hd_X10_path ⟨Nat.le_of_ble_eq_true rfl, Nat.le_of_ble_eq_true rfl⟩ (pre_xV hP hD hE (ci := 7) rfl hX.head) rfl hl.1 rfl (Nat.le_of_ble_eq_true rfl) dL_isPath_233 ⟨Nat.le_of_ble_eq_true rfl, Nat.le_of_ble_eq_true rfl⟩) hP hD hS hA (fun ws H locs hX hP hD hS => ?_)
  refine lv_aload hx hb dL_isPath_236 (lv_at hl 3 rfl) ?_
  refine lv_iconst (v := 0) hx hb dL_isPath_238 (by decide) ?_
  refine va_iald hx hb hE.1 hP 0 0 rfl rfl (inb_in (by decide)) dL_isPath_239 ?_
  refine lv_icmp_ne (tgt := 294) hx hb dL_isPath_240 (by decide) (fun c54 => ?_) (fun c54 => ?_)
  · have hf := ite_f c54 hf
    refine lv_iconst (v := 0) hx hb dL_isPath_294 (by decide) ?_
    exact hkk38 _ hf _ _ _ _ hX hP hD hS (lv_sub hl [0, 1, 2, 3] rfl)
  have hf := ite_t c54 hf
  refine lv_aload_n hx hb dL_isPath_243 rfl (lv_at hl 0 rfl) ?_
  refine lv_iload_n hx hb dL_isPath_244 rfl (lv_at hl 1 rfl) ?_
  refine lv_iconst (v := 3) hx hb dL_isPath_245 (by decide) ?_
  obtain ⟨q55, h56, hf⟩ := bd_s hf
  refine ak_i (run_V (As := [.int s3, .int 3]) (rest := []) E (k_path l D Y hX s3 3 H.size q55 h56) qw589 qw590 qw591 qw19 qw592 rfl rfl hd_X10_path ⟨Nat.le_of_ble_eq_true rfl, Nat.le_of_ble_eq_true rfl⟩ (pre_xV hP hD hE (ci := 7) rfl hX.head) rfl hl.1 rfl (Nat.le_of_ble_eq_true rfl) dL_isPath_246 ⟨Nat.le_of_ble_eq_true rfl, Nat.le_of_ble_eq_true rfl⟩) hP hD hS hA (fun ws H locs hX hP hD hS => ?_)
  refine lv_iload hx hb dL_isPath_249 (lv_at hl 6 rfl) ?_
  refine lv_icmp_ne (tgt := 294) hx hb dL_isPath_251 (by decide) (fun c57 => ?_) (fun c57 => ?_)
  · have hf := ite_f c57 hf
    refine lv_iconst (v := 0) hx hb dL_isPath_294 (by decide) ?_
    exact hkk38 _ hf _ _ _ _ hX hP hD hS (lv_sub hl [0, 1, 2, 3] rfl)
  have hf := ite_t c57 hf
  refine lv_aload_n hx hb dL_isPath_254 rfl (lv_at hl 0 rfl) ?_
  refine lv_iload_n hx hb dL_isPath_255 rfl (lv_at hl 1 rfl) ?_
  refine lv_iconst (v := 4) hx hb dL_isPath_256 (by decide) ?_
  obtain ⟨q58, h59, hf⟩ := bd_s hf
  refine ak_i (run_V (As := [.int s3, .int 4]) (rest := []) E (k_path l D Y hX s3 4 H.size q58 h59) qw589 qw590 qw591 qw19 qw592 rfl rfl hd_X10_path ⟨Nat.le_of_ble_eq_true rfl, Nat.le_of_ble_eq_true rfl⟩ (pre_xV hP hD hE (ci := 7) rfl hX.head) rfl hl.1 rfl (Nat.le_of_ble_eq_true rfl) dL_isPath_257 ⟨Nat.le_of_ble_eq_true rfl, Nat.le_of_ble_eq_true rfl⟩) hP hD hS hA (fun ws H locs hX hP hD hS => ?_)
  refine lv_iload hx hb dL_isPath_260 (lv_at hl 7 rfl) ?_
  refine lv_iconst (v := 1) hx hb dL_isPath_262 (by decide) ?_
  refine lv_iadd hx hb dL_isPath_263 ?_
  refine lv_icmp_ne (tgt := 294) hx hb dL_isPath_264 (by decide) (fun c60 => ?_) (fun c60 => ?_)
  · have hf := ite_f c60 hf
    refine lv_iconst (v := 0) hx hb dL_isPath_294 (by decide) ?_
    exact hkk38 _ hf _ _ _ _ hX hP hD hS (lv_sub hl [0, 1, 2, 3] rfl)
  have hf := ite_t c60 hf
  refine lv_aload_n hx hb dL_isPath_267 rfl (lv_at hl 0 rfl) ?_
  refine lv_iload_n hx hb dL_isPath_268 rfl (lv_at hl 1 rfl) ?_
  refine lv_iconst (v := 5) hx hb dL_isPath_269 (by decide) ?_
  obtain ⟨q61, h62, hf⟩ := bd_s hf
  refine ak_i (run_V (As := [.int s3, .int 5]) (rest := []) E (k_path l D Y hX s3 5 H.size q61 h62) qw589 qw590 qw591 qw19 qw592 rfl rfl hd_X10_path ⟨Nat.le_of_ble_eq_true rfl, Nat.le_of_ble_eq_true rfl⟩ (pre_xV hP hD hE (ci := 7) rfl hX.head) rfl hl.1 rfl (Nat.le_of_ble_eq_true rfl) dL_isPath_270 ⟨Nat.le_of_ble_eq_true rfl, Nat.le_of_ble_eq_true rfl⟩) hP hD hS hA (fun ws H locs hX hP hD hS => ?_)
  refine lv_iconst (v := (-1)) hx hb dL_isPath_273 (by decide) ?_
  refine lv_icmp_ne (tgt := 294) hx hb dL_isPath_274 (by decide) (fun c63 => ?_) (fun c63 => ?_)
  · have hf := ite_f c63 hf
    refine lv_iconst (v := 0) hx hb dL_isPath_294 (by decide) ?_
    exact hkk38 _ hf _ _ _ _ hX hP hD hS (lv_sub hl [0, 1, 2, 3] rfl)
  have hf := ite_t c63 hf
  refine lv_aload_n hx hb dL_isPath_277 rfl (lv_at hl 0 rfl) ?_
  refine lv_iload hx hb dL_isPath_278 (lv_at hl 2 rfl) ?_
  refine lv_iconst (v := 1) hx hb dL_isPath_280 (by decide) ?_
  refine lv_iadd hx hb dL_isPath_281 ?_
  refine lv_iconst (v := 0) hx hb dL_isPath_282 (by decide) ?_
  obtain ⟨q64, h65, hf⟩ := bd_s hf
  refine ak_i (run_V (As := [.int (x1 + 1), .int 0]) (rest := []) E (k_path l D Y hX (x1 + 1) 0 H.size q64 h65) qw589 qw590 qw591 qw19 qw592 rfl rfl hd_X10_path ⟨Nat.le_of_ble_eq_true rfl, Nat.le_of_ble_eq_true rfl⟩ (pre_xV hP hD hE (ci := 7) rfl hX.head) rfl hl.1 rfl (Nat.le_of_ble_eq_true rfl) dL_isPath_283 ⟨Nat.le_of_ble_eq_true rfl, Nat.le_of_ble_eq_true rfl⟩) hP hD hS hA (fun ws H locs hX hP hD hS => ?_)
  refine lv_iconst (v := (-1)) hx hb dL_isPath_286 (by decide) ?_
  refine lv_icmp_ne (tgt := 294) hx hb dL_isPath_287 (by decide) (fun c66 => ?_) (fun c66 => ?_)
  · have hf := ite_f c66 hf
    refine lv_iconst (v := 0) hx hb dL_isPath_294 (by decide) ?_
    exact hkk38 _ hf _ _ _ _ hX hP hD hS (lv_sub hl [0, 1, 2, 3] rfl)
  have hf := ite_t c66 hf
  refine lv_iconst (v := 1) hx hb dL_isPath_290 (by decide) ?_
  refine lv_goto (tgt := 295) hx hb dL_isPath_291 (by decide) ?_
  exact hkk38 _ hf _ _ _ _ hX hP hD hS (lv_sub hl [0, 1, 2, 3] rfl)
