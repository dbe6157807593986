def f_L_typed_L68 (k : Int32 → Int32 → List Nat → Option (Int32 × List Nat)) (s2 : Int32) (s3 : Int32) (s5 : Int32) (f_p1 : Nat → Int32) (v_o_a : AT) : Nat → Int32 → Int32 → List Nat → Option (Int32 × List Nat)
  | 0, _, _, _ => none
  | n + 1, s4, s6, v_o_p => (if s3 ≤ s6 then (k s4 s6 v_o_p) else jj (fun (kk10 : (Int32 × List Nat) → Option (Int32 × List Nat)) => (if s4 = 0 then kk10 (0, v_o_p) else gd (inb s5 20) ((if (((f_p1 s5.toNatClampNeg) >>> (s6 &&& 31)) &&& 1) = 0 then kk10 (1, v_o_p) else bd (A_append v_o_p ((49 : Int32) + s6)) (fun q14 => (if q14.1 ≤ 0 then kk10 (0, q14.2) else kk10 (1, q14.2))))))) (fun (w9 : Int32 × List Nat) => (f_L_typed_L68 k s2 s3 s5 f_p1 v_o_a n w9.1 (s6 + 1) w9.2)))
def f_L_typed_L17 (s2 : Int32) (s3 : Int32) (f_p1 : Nat → Int32) (v_o_a : AT) : Nat → Int32 → Int32 → List Nat → Option (Int32 × List Nat)
  | 0, _, _, _ => none
  | n + 1, s4, s5, v_o_p => (if s2 ≤ s5 then gd (zob s4) (some (s4, v_o_p)) else jj (fun (kk7 : (Int32 × List Nat) → Option (Int32 × List Nat)) => (if s4 = 0 then kk7 (0, v_o_p) else (if s5 = 0 then gd (inb s5 20) ((if (0 : Int32) < (f_p1 s5.toNatClampNeg) then kk7 (1, v_o_p) else bd (A_append v_o_p 120) (fun q24 => (if q24.1 ≤ 0 then kk7 (0, q24.2) else kk7 (1, q24.2))))) else bd (A_append v_o_p 46) (fun q27 => (if q27.1 ≤ 0 then kk7 (0, q27.2) else gd (inb s5 20) ((if (0 : Int32) < (f_p1 s5.toNatClampNeg) then kk7 (1, q27.2) else bd (A_append q27.2 120) (fun q32 => (if q32.1 ≤ 0 then kk7 (0, q32.2) else kk7 (1, q32.2)))))))))) (fun (w6 : Int32 × List Nat) => (f_L_typed_L68 (fun (y17 : Int32) (y18 : Int32) (y19 : List Nat) => (f_L_typed_L17 s2 s3 f_p1 v_o_a n y17 (s5 + 1) y19)) s2 s3 s5 f_p1 v_o_a fu w6.1 0 w6.2)))
def f_L_typed (s2 : Int32) (s3 : Int32) (f_p1 : Nat → Int32) (v_o_a : AT) (v_o_p : List Nat) : Option (Int32 × List Nat) :=
  bd (A_clear v_o_p) (fun q1 => nm (if q1.1 < 0 then (0 : Int32) else (1 : Int32)) (fun (w3 : Int32) => (f_L_typed_L17 s2 s3 f_p1 v_o_a fu w3 0 q1.2)))
abbrev rm_L_typed : Room := { frames := 3, cells := 0, slots := 0, locals := 67 }
set_option maxHeartbeats 4000000 in
set_option maxRecDepth 100000 in
theorem c_L_typed (l : Launch) (D : va_G) (Y : ClassId × ClassId × ClassId × ClassId) (a_p1 a_o : Nat) (f_p1 : Nat → Int32) (v_o_a : AT) (v_o_p : List Nat) (s2 : Int32) (s3 : Int32) (ws : va_W) (hX : OX Y a_o v_o_a v_o_p ws) (sz : Nat) (R : Int32 × List Nat) (hf : f_L_typed s2 s3 f_p1 v_o_a v_o_p = some R) : Met l yL_typed (ws_ yL_typed cL_typed 7 (some .boolean)) rm_L_typed (va_Pc [.ref a_o, .ref a_p1, .int s2, .int s3] (RW D Y sz ([(a_p1, .inl (Y.1, 20, .inl f_p1))] ++ ws))) (QXz D R.1 (fun ws => OX Y a_o v_o_a R.2 ws) (fun ws => ([(a_p1, .inl (Y.1, 20, .inl f_p1))] ++ ws)) (va_A ([(a_p1, .inl (Y.1, 20, .inl f_p1))] ++ ws) sz)) 0 0 (va_A ([(a_p1, .inl (Y.1, 20, .inl f_p1))] ++ ws) sz) := by
  refine rw_start (l := l) (y := yL_typed) (cc := cL_typed) (maxL := 7) (ret := (some .boolean)) (rm := rm_L_typed) (args := [.ref a_o, .ref a_p1, .int s2, .int s3]) (D := D) (Y := Y) (sz := sz) (ws := ([(a_p1, .inl (Y.1, 20, .inl f_p1))] ++ ws)) (mc := 0) (ms := 0) (Qc := (fun A => QXz D R.1 (fun ws => OX Y a_o v_o_a R.2 ws) (fun ws => ([(a_p1, .inl (Y.1, 20, .inl f_p1))] ++ ws)) A)) (by decide) (Nat.le_of_ble_eq_true rfl) ?_
  intro p e s m below meth c ls A hx hb hml hr hlocks hown hts hnm hA hP hD hS hE hl
  generalize hargs : List.toArray _ = args at hts ⊢
  have hown : s.vm.findClass RL = some m.cls := hown
  have E : EN p m c cL_typed 7 s args RL := ⟨hx, hb, hml, hown, hts⟩
  have hl : lv_has ls 7 [(0, .ref a_o), (1, .ref a_p1), (2, .int s2), (3, .int s3)] := hl
  generalize hQ : MQ below _ args s 0 0 _ = Q
  unfold f_L_typed at hf
  have L68 : ∀ (n : Nat) (k : Int32 → Int32 → List Nat → Option (Int32 × List Nat)) (s2 : Int32) (s3 : Int32) (s5 : Int32) (s4 : Int32) (s6 : Int32) (v_o_p : List Nat) (H : Heap) (locs : List Loc) (ws : va_W) (ls : Array Slot), f_L_typed_L68 k s2 s3 s5 f_p1 v_o_a n s4 s6 v_o_p = some R → OX Y a_o v_o_a v_o_p ws → va_P D vwCl ([(a_p1, .inl (Y.1, 20, .inl f_p1))] ++ ws) H → va_D A ([(a_p1, .inl (Y.1, 20, .inl f_p1))] ++ ws) → va_S A s.heap H locs → lv_has ls 7 [(0, .ref a_o), (1, .ref a_p1), (2, .int s2), (3, .int s3), (4, .int s4), (5, .int s5), (6, .int s6)] → (∀ (y_s4 : Int32) (y_s6 : Int32) (y_v_o_p : List Nat) (H : Heap) (locs : List Loc) (ws : va_W) (ls : Array Slot), k y_s4 y_s6 y_v_o_p = some R → OX Y a_o v_o_a y_v_o_p ws → va_P D vwCl ([(a_p1, .inl (Y.1, 20, .inl f_p1))] ++ ws) H → va_D A ([(a_p1, .inl (Y.1, 20, .inl f_p1))] ++ ws) → va_S A s.heap H locs → lv_has ls 7 [(0, .ref a_o), (1, .ref a_p1), (2, .int s2), (3, .int s3), (4, .int y_s4), (5, .int s5)] → W p l e rm_L_typed s m args below meth c H locs 0 0 Q (F0 m 116 ls [])) → W p l e rm_L_typed s m args below meth c H locs 0 0 Q (F0 m 68 ls []) := by
    intro n
    induction n with
    | zero =>
      intro k s2 s3 s5 s4 s6 v_o_p H locs ws ls hf
      cases hf
    | succ n ih =>
      intro k s2 s3 s5 s4 s6 v_o_p H locs ws ls hf hX hP hD hS hl hk
      unfold f_L_typed_L68 at hf
      refine lv_iload hx hb dL_typed_68 (lv_at hl 6 rfl) ?_
      refine lv_iload_n hx hb dL_typed_70 rfl (lv_at hl 3 rfl) ?_
      refine lv_icmp_ge (tgt := 116) hx hb dL_typed_71 (by decide) (fun c8 => ?_) (fun c8 => ?_)
      · have hf := ite_t c8 hf
        exact hk _ _ _ _ _ _ _ hf hX hP hD hS (lv_sub hl [0, 1, 2, 3, 4, 5] rfl)
      have hf := ite_f c8 hf
      refine lv_iload hx hb dL_typed_74 (lv_at hl 4 rfl) ?_
      refine jj_W (P := fun (w9 : Int32 × List Nat) => ∀ (H : Heap) (locs : List Loc) (ws : va_W) (ls : Array Slot), OX Y a_o v_o_a w9.2 ws → va_P D vwCl ([(a_p1, .inl (Y.1, 20, .inl f_p1))] ++ ws) H → va_D A ([(a_p1, .inl (Y.1, 20, .inl f_p1))] ++ ws) → va_S A s.heap H locs → lv_has ls 7 [(0, .ref a_o), (1, .ref a_p1), (2, .int s2), (3, .int s3), (5, .int s5), (6, .int s6)] → W p l e rm_L_typed s m args below meth c H locs 0 0 Q (F0 m 108 ls [.int w9.1])) hf (fun w9 hf H locs ws ls hX hP hD hS hl => ?_) (fun kk10 hkk10 hf => ?_)
      · refine lv_istore (lv' := [(4, .int w9.1), (0, .ref a_o), (1, .ref a_p1), (2, .int s2), (3, .int s3), (5, .int s5), (6, .int s6)]) hx hb dL_typed_108 hl (by decide) rfl (fun ls hl => ?_)
        refine lv_iinc (v := (s6 + 1)) (lv' := [(6, .int (s6 + 1)), (4, .int w9.1), (0, .ref a_o), (1, .ref a_p1), (2, .int s2), (3, .int s3), (5, .int s5)]) hx hb dL_typed_110 hl (k := 6) rfl rfl (by decide) rfl (fun ls hl => ?_)
        refine lv_goto (tgt := 68) hx hb dL_typed_113 (by decide) ?_
        exact ih _ _ _ _ _ _ _ _ _ _ _ hf hX hP hD hS (lv_sub hl [2, 3, 4, 5, 1, 6, 0] rfl) hk
      refine lv_if_eq (tgt := 107) hx hb dL_typed_76 (by decide) (fun c11 => ?_) (fun c11 => ?_)
      · have hf := ite_t c11 hf
        refine lv_iconst (v := 0) hx hb dL_typed_107 (by decide) ?_
        exact hkk10 _ hf _ _ _ _ hX hP hD hS (lv_sub hl [0, 1, 2, 3, 5, 6] rfl)
      have hf := ite_f c11 hf
      refine lv_aload_n hx hb dL_typed_79 rfl (lv_at hl 1 rfl) ?_
      refine lv_iload hx hb dL_typed_80 (lv_at hl 5 rfl) ?_
      obtain ⟨g12, hf⟩ := gd_s hf
      refine va_iald hx hb hE.1 hP 0 0 rfl rfl (inb_in g12) dL_typed_82 ?_
      refine lv_iload hx hb dL_typed_83 (lv_at hl 6 rfl) ?_
      refine lv_ishr hx hb dL_typed_85 ?_
      refine lv_iconst (v := 1) hx hb dL_typed_86 (by decide) ?_
      refine lv_iand hx hb dL_typed_87 ?_
      refine lv_if_eq (tgt := 103) hx hb dL_typed_88 (by decide) (fun c13 => ?_) (fun c13 => ?_)
      · have hf := ite_t c13 hf
        refine lv_iconst (v := 1) hx hb dL_typed_103 (by decide) ?_
        refine lv_goto (tgt := 108) hx hb dL_typed_104 (by decide) ?_
        exact hkk10 _ hf _ _ _ _ hX hP hD hS (lv_sub hl [0, 1, 2, 3, 5, 6] rfl)
      have hf := ite_f c13 hf
      refine lv_aload_n hx hb dL_typed_91 rfl (lv_at hl 0 rfl) ?_
      refine lv_bipush (v := 49) hx hb dL_typed_92 (by decide) ?_
      refine lv_iload hx hb dL_typed_94 (lv_at hl 6 rfl) ?_
      refine lv_iadd hx hb dL_typed_96 ?_
      obtain ⟨q14, h15, hf⟩ := bd_s hf
      refine ak_i (run_V (As := [.int ((49 : Int32) + s6)]) (rest := []) E (k_append l D Y hX ((49 : Int32) + s6) H.size q14 h15) qw675 qw676 qw677 qw19 qw678 rfl rfl hd_X10_append ⟨Nat.le_of_ble_eq_true rfl, Nat.le_of_ble_eq_true rfl⟩ (pre_xV hP hD hE (ci := 7) rfl hX.head) rfl hl.1 rfl (Nat.le_of_ble_eq_true rfl) dL_typed_97 ⟨Nat.le_of_ble_eq_true rfl, Nat.le_of_ble_eq_true rfl⟩) hP hD hS hA (fun ws H locs hX hP hD hS => ?_)
      refine lv_if_le (tgt := 107) hx hb dL_typed_100 (by decide) (fun c16 => ?_) (fun c16 => ?_)
      · have hf := ite_t c16 hf
        refine lv_iconst (v := 0) hx hb dL_typed_107 (by decide) ?_
        exact hkk10 _ hf _ _ _ _ hX hP hD hS (lv_sub hl [0, 1, 2, 3, 5, 6] rfl)
      have hf := ite_f c16 hf
      refine lv_iconst (v := 1) hx hb dL_typed_103 (by decide) ?_
      refine lv_goto (tgt := 108) hx hb dL_typed_104 (by decide) ?_
      exact hkk10 _ hf _ _ _ _ hX hP hD hS (lv_sub hl [0, 1, 2, 3, 5, 6] rfl)
  have L17 : ∀ (n : Nat) (s2 : Int32) (s3 : Int32) (s4 : Int32) (s5 : Int32) (v_o_p : List Nat) (H : Heap) (locs : List Loc) (ws : va_W) (ls : Array Slot), f_L_typed_L17 s2 s3 f_p1 v_o_a n s4 s5 v_o_p = some R → OX Y a_o v_o_a v_o_p ws → va_P D vwCl ([(a_p1, .inl (Y.1, 20, .inl f_p1))] ++ ws) H → va_D A ([(a_p1, .inl (Y.1, 20, .inl f_p1))] ++ ws) → va_S A s.heap H locs → lv_has ls 7 [(0, .ref a_o), (1, .ref a_p1), (2, .int s2), (3, .int s3), (4, .int s4), (5, .int s5)] → W p l e rm_L_typed s m args below meth c H locs 0 0 Q (F0 m 17 ls []) := by
    intro n
    induction n with
    | zero =>
      intro s2 s3 s4 s5 v_o_p H locs ws ls hf
      cases hf
    | succ n ih =>
      intro s2 s3 s4 s5 v_o_p H locs ws ls hf hX hP hD hS hl
      unfold f_L_typed_L17 at hf
      refine lv_iload hx hb dL_typed_17 (lv_at hl 5 rfl) ?_
      refine lv_iload_n hx hb dL_typed_19 rfl (lv_at hl 2 rfl) ?_
      refine lv_icmp_ge (tgt := 122) hx hb dL_typed_20 (by decide) (fun c4 => ?_) (fun c4 => ?_)
      · have hf := ite_t c4 hf
        refine lv_iload hx hb dL_typed_122 (lv_at hl 4 rfl) ?_
        obtain ⟨g5, hf⟩ := gd_s hf
        rw [← hQ, ← Option.some.inj hf]
        exact en_xz (wu := fun ws => ([(a_p1, .inl (Y.1, 20, .inl f_p1))] ++ ws)) (u := ws) hx hb hr hlocks hX hP hD hS rfl (zob_s g5) dL_typed_124
      have hf := ite_f c4 hf
      refine lv_iload hx hb dL_typed_23 (lv_at hl 4 rfl) ?_
      refine jj_W (P := fun (w6 : Int32 × List Nat) => ∀ (H : Heap) (locs : List Loc) (ws : va_W) (ls : Array Slot), OX Y a_o v_o_a w6.2 ws → va_P D vwCl ([(a_p1, .inl (Y.1, 20, .inl f_p1))] ++ ws) H → va_D A ([(a_p1, .inl (Y.1, 20, .inl f_p1))] ++ ws) → va_S A s.heap H locs → lv_has ls 7 [(0, .ref a_o), (1, .ref a_p1), (2, .int s2), (3, .int s3), (5, .int s5)] → W p l e rm_L_typed s m args below meth c H locs 0 0 Q (F0 m 63 ls [.int w6.1])) hf (fun w6 hf H locs ws ls hX hP hD hS hl => ?_) (fun kk7 hkk7 hf => ?_)
      · refine lv_istore (lv' := [(4, .int w6.1), (0, .ref a_o), (1, .ref a_p1), (2, .int s2), (3, .int s3), (5, .int s5)]) hx hb dL_typed_63 hl (by decide) rfl (fun ls hl => ?_)
        refine lv_iconst (v := 0) hx hb dL_typed_65 (by decide) ?_
        refine lv_istore (lv' := [(6, .int 0), (4, .int w6.1), (0, .ref a_o), (1, .ref a_p1), (2, .int s2), (3, .int s3), (5, .int s5)]) hx hb dL_typed_66 hl (by decide) rfl (fun ls hl => ?_)
        refine L68 _ _ _ _ _ _ _ _ _ _ _ _ hf hX hP hD hS (lv_sub hl [2, 3, 4, 5, 1, 6, 0] rfl) ?_
        intro y17 y18 y19 H locs ws ls hf hX hP hD hS hl
        refine lv_iinc (v := (s5 + 1)) (lv' := [(5, .int (s5 + 1)), (0, .ref a_o), (1, .ref a_p1), (2, .int s2), (3, .int s3), (4, .int y17)]) hx hb dL_typed_116 hl (k := 5) rfl rfl (by decide) rfl (fun ls hl => ?_)
        refine lv_goto (tgt := 17) hx hb dL_typed_119 (by decide) ?_
        exact ih _ _ _ _ _ _ _ _ _ hf hX hP hD hS (lv_sub hl [1, 2, 3, 4, 5, 0] rfl)
      refine lv_if_eq (tgt := 62) hx hb dL_typed_25 (by decide) (fun c20 => ?_) (fun c20 => ?_)
      · have hf := ite_t c20 hf
        refine lv_iconst (v := 0) hx hb dL_typed_62 (by decide) ?_
        exact hkk7 _ hf _ _ _ _ hX hP hD hS (lv_sub hl [0, 1, 2, 3, 5] rfl)
      have hf := ite_f c20 hf
      refine lv_iload hx hb dL_typed_28 (lv_at hl 5 rfl) ?_
      refine lv_if_eq (tgt := 42) hx hb dL_typed_30 (by decide) (fun c21 => ?_) (fun c21 => ?_)
      · have hf := ite_t c21 hf
        refine lv_aload_n hx hb dL_typed_42 rfl (lv_at hl 1 rfl) ?_
        refine lv_iload hx hb dL_typed_43 (lv_at hl 5 rfl) ?_
        obtain ⟨g22, hf⟩ := gd_s hf
        refine va_iald hx hb hE.1 hP 0 0 rfl rfl (inb_in g22) dL_typed_45 ?_
        refine lv_if_gt (tgt := 58) hx hb dL_typed_46 (by decide) (fun c23 => ?_) (fun c23 => ?_)
        · have hf := ite_t c23 hf
          refine lv_iconst (v := 1) hx hb dL_typed_58 (by decide) ?_
          refine lv_goto (tgt := 63) hx hb dL_typed_59 (by decide) ?_
          exact hkk7 _ hf _ _ _ _ hX hP hD hS (lv_sub hl [0, 1, 2, 3, 5] rfl)
        have hf := ite_f c23 hf
        refine lv_aload_n hx hb dL_typed_49 rfl (lv_at hl 0 rfl) ?_
        refine lv_bipush (v := 120) hx hb dL_typed_50 (by decide) ?_
        obtain ⟨q24, h25, hf⟩ := bd_s hf
        refine ak_i (run_V (As := [.int 120]) (rest := []) E (k_append l D Y hX 120 H.size q24 h25) qw675 qw676 qw677 qw19 qw678 rfl rfl hd_X10_append ⟨Nat.le_of_ble_eq_true rfl, Nat.le_of_ble_eq_true rfl⟩ (pre_xV hP hD hE (ci := 7) rfl hX.head) rfl hl.1 rfl (Nat.le_of_ble_eq_true rfl) dL_typed_52 ⟨Nat.le_of_ble_eq_true rfl, Nat.le_of_ble_eq_true rfl⟩) hP hD hS hA (fun ws H locs hX hP hD hS => ?_)
        refine lv_if_le (tgt := 62) hx hb dL_typed_55 (by decide) (fun c26 => ?_) (fun c26 => ?_)
        · have hf := ite_t c26 hf
          refine lv_iconst (v := 0) hx hb dL_typed_62 (by decide) ?_
          exact hkk7 _ hf _ _ _ _ hX hP hD hS (lv_sub hl [0, 1, 2, 3, 5] rfl)
        have hf := ite_f c26 hf
        refine lv_iconst (v := 1) hx hb dL_typed_58 (by decide) ?_
        refine lv_goto (tgt := 63) hx hb dL_typed_59 (by decide) ?_
        exact hkk7 _ hf _ _ _ _ hX hP hD hS (lv_sub hl [0, 1, 2, 3, 5] rfl)
      have hf := ite_f c21 hf
      refine lv_aload_n hx hb dL_typed_33 rfl (lv_at hl 0 rfl) ?_
      refine lv_bipush (v := 46) hx hb dL_typed_34 (by decide) ?_
      obtain ⟨q27, h28, hf⟩ := bd_s hf
      refine ak_i (run_V (As := [.int 46]) (rest := []) E (k_append l D Y hX 46 H.size q27 h28) qw675 qw676 qw677 qw19 qw678 rfl rfl hd_X10_append ⟨Nat.le_of_ble_eq_true rfl, Nat.le_of_ble_eq_true rfl⟩ (pre_xV hP hD hE (ci := 7) rfl hX.head) rfl hl.1 rfl (Nat.le_of_ble_eq_true rfl) dL_typed_36 ⟨Nat.le_of_ble_eq_true rfl, Nat.le_of_ble_eq_true rfl⟩) hP hD hS hA (fun ws H locs hX hP hD hS => ?_)
      refine lv_if_le (tgt := 62) hx hb dL_typed_39 (by decide) (fun c29 => ?_) (fun c29 => ?_)
      · have hf := ite_t c29 hf
        refine lv_iconst (v := 0) hx hb dL_typed_62 (by decide) ?_
        exact hkk7 _ hf _ _ _ _ hX hP hD hS (lv_sub hl [0, 1, 2, 3, 5] rfl)
      have hf := ite_f c29 hf
      refine lv_aload_n hx hb dL_typed_42 rfl (lv_at hl 1 rfl) ?_
      refine lv_iload hx hb dL_typed_43 (lv_at hl 5 rfl) ?_
      obtain ⟨g30, hf⟩ := gd_s hf
      refine va_iald hx hb hE.1 hP 0 0 rfl rfl (inb_in g30) dL_typed_45 ?_
      refine lv_if_gt (tgt := 58) hx hb dL_typed_46 (by decide) (fun c31 => ?_) (fun c31 => ?_)
      · have hf := ite_t c31 hf
        refine lv_iconst (v := 1) hx hb dL_typed_58 (by decide) ?_
        refine lv_goto (tgt := 63) hx hb dL_typed_59 (by decide) ?_
        exact hkk7 _ hf _ _ _ _ hX hP hD hS (lv_sub hl [0, 1, 2, 3, 5] rfl)
      have hf := ite_f c31 hf
      refine lv_aload_n hx hb dL_typed_49 rfl (lv_at hl 0 rfl) ?_
      refine lv_bipush (v := 120) hx hb dL_typed_50 (by decide) ?_
      obtain ⟨q32, h33, hf⟩ := bd_s hf
      refine ak_i (run_V (As := [.int 120]) (rest := []) E (k_append l D Y hX 120 H.size q32 h33) qw675 qw676 qw677 qw19 qw678 rfl rfl hd_X10_append ⟨Nat.le_of_ble_eq_true rfl, Nat.le_of_ble_eq_true rfl⟩ (pre_xV hP hD hE (ci := 7) rfl hX.head) rfl hl.1 rfl (Nat.le_of_ble_eq_true rfl) dL_typed_52 ⟨Nat.le_of_ble_eq_true rfl, Nat.le_of_ble_eq_true rfl⟩) hP hD hS hA (fun ws H locs hX hP hD hS => ?_)
      refine lv_if_le (tgt := 62) hx hb dL_typed_55 (by decide) (fun c34 => ?_) (fun c34 => ?_)
      · have hf := ite_t c34 hf
        refine lv_iconst (v := 0) hx hb dL_typed_62 (by decide) ?_
        exact hkk7 _ hf _ _ _ _ hX hP hD hS (lv_sub hl [0, 1, 2, 3, 5] rfl)
      have hf := ite_f c34 hf
      refine lv_iconst (v := 1) hx hb dL_typed_58 (by decide) ?_
      refine lv_goto (tgt := 63) hx hb dL_typed_59 (by decide) ?_
      exact hkk7 _ hf _ _ _ _ hX hP hD hS (lv_sub hl [0, 1, 2, 3, 5] rfl)
  refine lv_aload_n hx hb dL_typed_0 rfl (lv_at hl 0 rfl) ?_
  obtain ⟨q1, h2, hf⟩ := bd_s hf
  refine ak_i (run_V (As := []) (rest := []) E (k_clear l D Y hX s.heap.size q1 h2) qw671 qw672 qw673 qw19 qw674 rfl rfl hd_X10_clear ⟨Nat.le_of_ble_eq_true rfl, Nat.le_of_ble_eq_true rfl⟩ (pre_xV hP hD hE (ci := 7) rfl hX.head) rfl hl.1 rfl (Nat.le_of_ble_eq_true rfl) dL_typed_1 ⟨Nat.le_of_ble_eq_true rfl, Nat.le_of_ble_eq_true rfl⟩) hP hD hS hA (fun ws H locs hX hP hD hS => ?_)
  refine mg (P := fun (w3 : Int32) => ∀ (ls : Array Slot), lv_has ls 7 [(0, .ref a_o), (1, .ref a_p1), (2, .int s2), (3, .int s3)] → W p l e rm_L_typed s m args below meth c H locs 0 0 Q (F0 m 12 ls [.int w3])) hf (fun w3 hf ls hl => ?_) (fun hJ => ?_)
  · refine lv_istore (lv' := [(4, .int w3), (0, .ref a_o), (1, .ref a_p1), (2, .int s2), (3, .int s3)]) hx hb dL_typed_12 hl (by decide) rfl (fun ls hl => ?_)
    refine lv_iconst (v := 0) hx hb dL_typed_14 (by decide) ?_
    refine lv_istore (lv' := [(5, .int 0), (4, .int w3), (0, .ref a_o), (1, .ref a_p1), (2, .int s2), (3, .int s3)]) hx hb dL_typed_15 hl (by decide) rfl (fun ls hl => ?_)
    exact L17 _ _ _ _ _ _ _ _ _ _ hf hX hP hD hS (lv_sub hl [2, 3, 4, 5, 1, 0] rfl)
  refine lv_if_lt (tgt := 11) hx hb dL_typed_4 (by decide) (fun c35 => ?_) (fun c35 => ?_)
  · have hf := nmi_t c35 hf
    refine lv_iconst (v := 0) hx hb dL_typed_11 (by decide) ?_
    exact hJ _ (nm_b hf) _ (lv_sub hl [0, 1, 2, 3] rfl)
  have hf := nmi_f c35 hf
  refine lv_iconst (v := 1) hx hb dL_typed_7 (by decide) ?_
  refine lv_goto (tgt := 12) hx hb dL_typed_8 (by decide) ?_
  exact hJ _ (nm_b hf) _ (lv_sub hl [0, 1, 2, 3] rfl)

def f_L_isActed_L328 (k : Int32 → Option (Int32 × (Nat → Int32) × (Nat → Int32) × (Nat → Int32) × (Nat → Int32) × AT × List Nat)) (s7 : Int32) (s8 : Int32) (s9 : Int32) (f_p1 : Nat → Int32) (f_p2 : Nat → Int32) (f_p3 : Nat → Int32) (f_p4 : Nat → Int32) (v_o_a : AT) (v_o_p : List Nat) : Nat → Int32 → Option (Int32 × (Nat → Int32) × (Nat → Int32) × (Nat → Int32) × (Nat → Int32) × AT × List Nat)
  | 0, _ => none
  | n + 1, s10 => bd (f_L_isRight (f_p1 (0 : Int32).toNatClampNeg) s10) (fun q10 => (if q10 = 0 then gd (nzb ((1 : Int32) <<< ((f_p1 (0 : Int32).toNatClampNeg) &&& 31))) (nm ((s10 + 1) - (s10 + 1) / ((1 : Int32) <<< ((f_p1 (0 : Int32).toNatClampNeg) &&& 31)) * ((1 : Int32) <<< ((f_p1 (0 : Int32).toNatClampNeg) &&& 31))) (fun (x15 : Int32) => (f_L_isActed_L328 k s7 s8 s9 f_p1 f_p2 f_p3 f_p4 v_o_a v_o_p n x15))) else (k s10)))
def f_L_isActed_L311 (k : Int32 → Int32 → (Nat → Int32) → Option (Int32 × (Nat → Int32) × (Nat → Int32) × (Nat → Int32) × (Nat → Int32) × AT × List Nat)) (s7 : Int32) (f_p1 : Nat → Int32) (f_p3 : Nat → Int32) (f_p4 : Nat → Int32) (v_o_a : AT) (v_o_p : List Nat) : Nat → Int32 → Int32 → (Nat → Int32) → Option (Int32 × (Nat → Int32) × (Nat → Int32) × (Nat → Int32) × (Nat → Int32) × AT × List Nat)
  | 0, _, _, _ => none
  | n + 1, s8, s9, f_p2 => (if s7 ≤ s9 then (k s8 s9 f_p2) else gd (nzb ((1 : Int32) <<< ((f_p1 (0 : Int32).toNatClampNeg) &&& 31))) (nm (s8 - s8 / ((1 : Int32) <<< ((f_p1 (0 : Int32).toNatClampNeg) &&& 31)) * ((1 : Int32) <<< ((f_p1 (0 : Int32).toNatClampNeg) &&& 31))) (fun (x9 : Int32) => (f_L_isActed_L328 (fun (y16 : Int32) => gd (inb s9 20) (nm ((s8 / 5) + ((3 : Int32) * s9)) (fun (x18 : Int32) => (f_L_isActed_L311 k s7 f_p1 f_p3 f_p4 v_o_a v_o_p n x18 (s9 + 1) (upd f_p2 s9.toNatClampNeg y16))))) s7 s8 s9 f_p1 f_p2 f_p3 f_p4 v_o_a v_o_p fu x9))))
def f_L_isActed (s5 : Int32) (s6 : Int32) (f_p1 : Nat → Int32) (f_p2 : Nat → Int32) (f_p3 : Nat → Int32) (f_p4 : Nat → Int32) (v_o_a : AT) (v_o_p : List Nat) : Option (Int32 × (Nat → Int32) × (Nat → Int32) × (Nat → Int32) × (Nat → Int32) × AT × List Nat) :=
  (if (9 : Int32) ≤ s5 then (if s5 = 9 then nm (f_p1 (2 : Int32).toNatClampNeg) (fun (x65 : Int32) => gd (nzb (x65 + 1)) (bd (A_cut v_o_a (s6 - s6 / (x65 + 1) * (x65 + 1))) (fun q67 => (if q67.1 = x65 then some (1, (upd f_p1 (2 : Int32).toNatClampNeg (s6 - s6 / (x65 + 1) * (x65 + 1))), f_p2, f_p3, f_p4, q67.2, v_o_p) else some (0, (upd f_p1 (2 : Int32).toNatClampNeg (s6 - s6 / (x65 + 1) * (x65 + 1))), f_p2, f_p3, f_p4, q67.2, v_o_p))))) else (if (12 : Int32) ≤ s5 then (if s5 = 12 then nm (f_p1 (0 : Int32).toNatClampNeg) (fun (x42 : Int32) => bd (f_L_beginning ((4 : Int32) + (s6 - s6 / 4 * 4)) f_p1 f_p2 f_p3) (fun q43 => bd (A_bells v_o_a ((4 : Int32) + (s6 - s6 / 4 * 4))) (fun q45 => (if q45.1 = x42 then some (1, q43.1, q43.2.1, q43.2.2, f_p4, q45.2, v_o_p) else some (0, q43.1, q43.2.1, q43.2.2, f_p4, q45.2, v_o_p))))) else nm ((1 : Int32) + (s6 - s6 / 7 * 7)) (fun (x5 : Int32) => nm (s6 / 7) (fun (x6 : Int32) => (f_L_isActed_L311 (fun (y19 : Int32) (y20 : Int32) (y21 : Nat → Int32) => jj (fun (kk23 : (Int32) → Option (Int32 × (Nat → Int32) × (Nat → Int32) × (Nat → Int32) × (Nat → Int32) × AT × List Nat)) => (if (181 : Int32) ≤ ((f_p1 (2 : Int32).toNatClampNeg) * x5) then gd (nzb x5) (kk23 (180 / x5)) else kk23 (f_p1 (2 : Int32).toNatClampNeg))) (fun (w22 : Int32) => bd (A_cut v_o_a ((upd (upd f_p1 (2 : Int32).toNatClampNeg w22) (1 : Int32).toNatClampNeg x5) (2 : Int32).toNatClampNeg)) (fun q24 => (if q24.1 < 0 then some (0, (upd (upd f_p1 (2 : Int32).toNatClampNeg w22) (1 : Int32).toNatClampNeg x5), y21, f_p3, f_p4, q24.2, v_o_p) else bd (f_L_typed x5 ((upd (upd f_p1 (2 : Int32).toNatClampNeg w22) (1 : Int32).toNatClampNeg x5) (0 : Int32).toNatClampNeg) y21 q24.2 v_o_p) (fun q27 => (if q27.1 = 0 then some (0, (upd (upd f_p1 (2 : Int32).toNatClampNeg w22) (1 : Int32).toNatClampNeg x5), y21, f_p3, f_p4, q24.2, q27.2) else bd (A_fault q24.2 q27.2 0) (fun q31 => (if q31 = (-4) then bd (A_method q24.2 q27.2) (fun q34 => (if q34.1 = x5 then bd (A_count q34.2.1 q34.2.2 14) (fun q37 => (if q37 = 0 then some (1, (upd (upd f_p1 (2 : Int32).toNatClampNeg w22) (1 : Int32).toNatClampNeg x5), y21, f_p3, f_p4, q34.2.1, q34.2.2) else some (0, (upd (upd f_p1 (2 : Int32).toNatClampNeg w22) (1 : Int32).toNatClampNeg x5), y21, f_p3, f_p4, q34.2.1, q34.2.2))) else some (0, (upd (upd f_p1 (2 : Int32).toNatClampNeg w22) (1 : Int32).toNatClampNeg x5), y21, f_p3, f_p4, q34.2.1, q34.2.2))) else some (0, (upd (upd f_p1 (2 : Int32).toNatClampNeg w22) (1 : Int32).toNatClampNeg x5), y21, f_p3, f_p4, q24.2, q27.2))))))))) x5 f_p1 f_p3 f_p4 v_o_a v_o_p fu x6 0 f_p2)))) else nm ((1 : Int32) + (s6 - s6 / 2 * 2)) (fun (x48 : Int32) => nm ((s6 / 2) - (s6 / 2) / 140 * 140) (fun (x49 : Int32) => bd (f_L_isRight (f_p1 (0 : Int32).toNatClampNeg) x49) (fun q50 => jj (fun (kk54 : (Int32) → Option (Int32 × (Nat → Int32) × (Nat → Int32) × (Nat → Int32) × (Nat → Int32) × AT × List Nat)) => (if q50 = 0 then kk54 (-1) else gd (inb x48 3) (kk54 (f_p3 x48.toNatClampNeg)))) (fun (w53 : Int32) => jj (fun (kk56 : (Int32) → Option (Int32 × (Nat → Int32) × (Nat → Int32) × (Nat → Int32) × (Nat → Int32) × AT × List Nat)) => (if q50 = 0 then gd (inb x48 3) (kk56 (f_p3 x48.toNatClampNeg)) else kk56 x49)) (fun (w55 : Int32) => gd (inb x48 3) (bd (A_call v_o_a x48 x49) (fun q58 => (if q58.1 = w53 then some (1, f_p1, f_p2, (upd f_p3 x48.toNatClampNeg w55), f_p4, q58.2, v_o_p) else some (0, f_p1, f_p2, (upd f_p3 x48.toNatClampNeg w55), f_p4, q58.2, v_o_p))))))))))) else jj (fun (kk71 : (Int32) → Option (Int32 × (Nat → Int32) × (Nat → Int32) × (Nat → Int32) × (Nat → Int32) × AT × List Nat)) => (if (181 : Int32) ≤ ((f_p1 (1 : Int32).toNatClampNeg) * ((f_p1 (2 : Int32).toNatClampNeg) + 1)) then kk71 0 else (if (16 : Int32) ≤ (f_p1 (2 : Int32).toNatClampNeg) then kk71 0 else kk71 1))) (fun (w70 : Int32) => (if w70 = 0 then nm (f_p1 (2 : Int32).toNatClampNeg) (fun (x73 : Int32) => gd (nzb (x73 + 1)) (bd (A_cut v_o_a (s6 - s6 / (x73 + 1) * (x73 + 1))) (fun q75 => (if q75.1 = x73 then some (1, (upd f_p1 (2 : Int32).toNatClampNeg (s6 - s6 / (x73 + 1) * (x73 + 1))), f_p2, f_p3, f_p4, q75.2, v_o_p) else some (0, (upd f_p1 (2 : Int32).toNatClampNeg (s6 - s6 / (x73 + 1) * (x73 + 1))), f_p2, f_p3, f_p4, q75.2, v_o_p))))) else gd (inb (f_p1 (2 : Int32).toNatClampNeg) 16) (bd (A_add v_o_a (s6 - s6 / 3 * 3)) (fun q79 => (if q79.1 = ((upd f_p1 (2 : Int32).toNatClampNeg ((f_p1 (2 : Int32).toNatClampNeg) + 1)) (2 : Int32).toNatClampNeg) then some (1, (upd f_p1 (2 : Int32).toNatClampNeg ((f_p1 (2 : Int32).toNatClampNeg) + 1)), f_p2, f_p3, (upd f_p4 (f_p1 (2 : Int32).toNatClampNeg).toNatClampNeg (s6 - s6 / 3 * 3)), q79.2, v_o_p) else some (0, (upd f_p1 (2 : Int32).toNatClampNeg ((f_p1 (2 : Int32).toNatClampNeg) + 1)), f_p2, f_p3, (upd f_p4 (f_p1 (2 : Int32).toNatClampNeg).toNatClampNeg (s6 - s6 / 3 * 3)), q79.2, v_o_p)))))))
abbrev rm_L_isActed : Room := { frames := 8, cells := 3, slots := 90, locals := 177 }
set_option maxHeartbeats 4000000 in
set_option maxRecDepth 100000 in
theorem c_L_isActed (l : Launch) (D : va_G) (Y : ClassId × ClassId × ClassId × ClassId) (adK adV : Nat → Nat) (a_p1 a_p2 a_p3 a_p4 a_o : Nat) (f_p1 : Nat → Int32) (f_p2 : Nat → Int32) (f_p3 : Nat → Int32) (f_p4 : Nat → Int32) (v_o_a : AT) (v_o_p : List Nat) (s5 : Int32) (s6 : Int32) (ws : va_W) (hX : OX Y a_o v_o_a v_o_p ws) (sz : Nat) (R : Int32 × (Nat → Int32) × (Nat → Int32) × (Nat → Int32) × (Nat → Int32) × AT × List Nat) (hf : f_L_isActed s5 s6 f_p1 f_p2 f_p3 f_p4 v_o_a v_o_p = some R) : Met l yL_isActed (ws_ yL_isActed cL_isActed 11 (some .boolean)) rm_L_isActed (va_Pc [.ref a_o, .ref a_p1, .ref a_p2, .ref a_p3, .ref a_p4, .int s5, .int s6] (SW D Y adK adV sz ([(a_p1, .inl (Y.1, 3, .inl f_p1)), (a_p2, .inl (Y.1, 20, .inl f_p2)), (a_p3, .inl (Y.1, 3, .inl f_p3)), (a_p4, .inl (Y.1, 16, .inl f_p4))] ++ ws))) (QXz D R.1 (fun ws => OX Y a_o R.2.2.2.2.2.1 R.2.2.2.2.2.2 ws) (fun ws => ([(a_p1, .inl (Y.1, 3, .inl R.2.1)), (a_p2, .inl (Y.1, 20, .inl R.2.2.1)), (a_p3, .inl (Y.1, 3, .inl R.2.2.2.1)), (a_p4, .inl (Y.1, 16, .inl R.2.2.2.2.1))] ++ ws)) (va_A ([(a_p1, .inl (Y.1, 3, .inl f_p1)), (a_p2, .inl (Y.1, 20, .inl f_p2)), (a_p3, .inl (Y.1, 3, .inl f_p3)), (a_p4, .inl (Y.1, 16, .inl f_p4))] ++ ws) sz)) 3 90 (va_A ([(a_p1, .inl (Y.1, 3, .inl f_p1)), (a_p2, .inl (Y.1, 20, .inl f_p2)), (a_p3, .inl (Y.1, 3, .inl f_p3)), (a_p4, .inl (Y.1, 16, .inl f_p4))] ++ ws) sz) := by
  refine sw_start (l := l) (y := yL_isActed) (cc := cL_isActed) (maxL := 11) (ret := (some .boolean)) (rm := rm_L_isActed) (args := [.ref a_o, .ref a_p1, .ref a_p2, .ref a_p3, .ref a_p4, .int s5, .int s6]) (D := D) (Y := Y) (sz := sz) (ws := ([(a_p1, .inl (Y.1, 3, .inl f_p1)), (a_p2, .inl (Y.1, 20, .inl f_p2)), (a_p3, .inl (Y.1, 3, .inl f_p3)), (a_p4, .inl (Y.1, 16, .inl f_p4))] ++ ws)) (mc := 3) (ms := 90) (Qc := (fun A => QXz D R.1 (fun ws => OX Y a_o R.2.2.2.2.2.1 R.2.2.2.2.2.2 ws) (fun ws => ([(a_p1, .inl (Y.1, 3, .inl R.2.1)), (a_p2, .inl (Y.1, 20, .inl R.2.2.1)), (a_p3, .inl (Y.1, 3, .inl R.2.2.2.1)), (a_p4, .inl (Y.1, 16, .inl R.2.2.2.2.1))] ++ ws)) A)) (by decide) (Nat.le_of_ble_eq_true rfl) ?_
  intro p e s m below meth c ls A hx hb hml hr hlocks hown hts hnm hA hP hD hS hE hK9 hl
  generalize hargs : List.toArray _ = args at hts ⊢
  have hown : s.vm.findClass RL = some m.cls := hown
  have E : EN p m c cL_isActed 11 s args RL := ⟨hx, hb, hml, hown, hts⟩
  have hl : lv_has ls 11 [(0, .ref a_o), (1, .ref a_p1), (2, .ref a_p2), (3, .ref a_p3), (4, .ref a_p4), (5, .int s5), (6, .int s6)] := hl
  generalize hQ : MQ below _ args s 3 90 _ = Q
  unfold f_L_isActed at hf
  have L328 : ∀ (n : Nat) (k : Int32 → Option (Int32 × (Nat → Int32) × (Nat → Int32) × (Nat → Int32) × (Nat → Int32) × AT × List Nat)) (s7 : Int32) (s8 : Int32) (s9 : Int32) (f_p1 : Nat → Int32) (f_p2 : Nat → Int32) (f_p3 : Nat → Int32) (f_p4 : Nat → Int32) (v_o_a : AT) (v_o_p : List Nat) (s10 : Int32) (H : Heap) (locs : List Loc) (ws : va_W) (ls : Array Slot), f_L_isActed_L328 k s7 s8 s9 f_p1 f_p2 f_p3 f_p4 v_o_a v_o_p n s10 = some R → OX Y a_o v_o_a v_o_p ws → va_P D vwCl ([(a_p1, .inl (Y.1, 3, .inl f_p1)), (a_p2, .inl (Y.1, 20, .inl f_p2)), (a_p3, .inl (Y.1, 3, .inl f_p3)), (a_p4, .inl (Y.1, 16, .inl f_p4))] ++ ws) H → va_D A ([(a_p1, .inl (Y.1, 3, .inl f_p1)), (a_p2, .inl (Y.1, 20, .inl f_p2)), (a_p3, .inl (Y.1, 3, .inl f_p3)), (a_p4, .inl (Y.1, 16, .inl f_p4))] ++ ws) → va_S A s.heap H locs → lv_has ls 11 [(0, .ref a_o), (1, .ref a_p1), (2, .ref a_p2), (7, .int s7), (8, .int s8), (9, .int s9), (10, .int s10)] → (∀ (y_s10 : Int32) (H : Heap) (locs : List Loc) (ws : va_W) (ls : Array Slot), k y_s10 = some R → OX Y a_o v_o_a v_o_p ws → va_P D vwCl ([(a_p1, .inl (Y.1, 3, .inl f_p1)), (a_p2, .inl (Y.1, 20, .inl f_p2)), (a_p3, .inl (Y.1, 3, .inl f_p3)), (a_p4, .inl (Y.1, 16, .inl f_p4))] ++ ws) H → va_D A ([(a_p1, .inl (Y.1, 3, .inl f_p1)), (a_p2, .inl (Y.1, 20, .inl f_p2)), (a_p3, .inl (Y.1, 3, .inl f_p3)), (a_p4, .inl (Y.1, 16, .inl f_p4))] ++ ws) → va_S A s.heap H locs → lv_has ls 11 [(0, .ref a_o), (1, .ref a_p1), (2, .ref a_p2), (7, .int s7), (8, .int s8), (9, .int s9), (10, .int y_s10)] → W p l e rm_L_isActed s m args below meth c H locs 0 0 Q (F0 m 354 ls [])) → W p l e rm_L_isActed s m args below meth c H locs 0 0 Q (F0 m 328 ls []) := by
    intro n
    induction n with
    | zero =>
      intro k s7 s8 s9 f_p1 f_p2 f_p3 f_p4 v_o_a v_o_p s10 H locs ws ls hf
      cases hf
    | succ n ih =>
      intro k s7 s8 s9 f_p1 f_p2 f_p3 f_p4 v_o_a v_o_p s10 H locs ws ls hf hX hP hD hS hl hk
      unfold f_L_isActed_L328 at hf
      refine lv_aload_n hx hb dL_isActed_328 rfl (lv_at hl 1 rfl) ?_
      refine lv_iconst (v := 0) hx hb dL_isActed_329 (by decide) ?_
      refine va_iald hx hb hE.1 hP 0 0 rfl rfl (inb_in (by decide)) dL_isActed_330 ?_
      refine lv_iload hx hb dL_isActed_331 (lv_at hl 6 rfl) ?_
      obtain ⟨q10, h11, hf⟩ := bd_s hf
      refine af_oz (run_S (As := [.int (f_p1 (0 : Int32).toNatClampNeg), .int s10]) (rest := []) E (c_L_isRight l D Y (f_p1 (0 : Int32).toNatClampNeg) s10 q10 h11) qw653 qw654 qw18 qw655 rfl rfl hd_L_isRight ⟨Nat.le_of_ble_eq_true rfl, Nat.le_of_ble_eq_true rfl⟩ (pre_roS hP hE [] rfl) rfl hl.1 rfl (Nat.le_of_ble_eq_true rfl) dL_isActed_333 ⟨Nat.le_of_ble_eq_true rfl, Nat.le_of_ble_eq_true rfl⟩) (fun z12 => ?_)
      refine lv_if_ne (tgt := 354) hx hb dL_isActed_336 (by decide) (fun c13 => ?_) (fun c13 => ?_)
      · have hf := ite_f c13 hf
        exact hk _ _ _ _ _ hf hX hP hD hS (lv_sub hl [0, 1, 2, 3, 4, 5, 6] rfl)
      have hf := ite_t c13 hf
      refine lv_iload hx hb dL_isActed_339 (lv_at hl 6 rfl) ?_
      refine lv_iconst (v := 1) hx hb dL_isActed_341 (by decide) ?_
      refine lv_iadd hx hb dL_isActed_342 ?_
      refine lv_iconst (v := 1) hx hb dL_isActed_343 (by decide) ?_
      refine lv_aload_n hx hb dL_isActed_344 rfl (lv_at hl 1 rfl) ?_
      refine lv_iconst (v := 0) hx hb dL_isActed_345 (by decide) ?_
      refine va_iald hx hb hE.1 hP 0 0 rfl rfl (inb_in (by decide)) dL_isActed_346 ?_
      refine lv_ishl hx hb dL_isActed_347 ?_
      obtain ⟨g14, hf⟩ := gd_s hf
      refine lv_irem hx hb dL_isActed_348 (nzb_ne g14) ?_
      refine nm_W hf (fun x15 hf => ?_)
      refine lv_istore (lv' := [(10, .int x15), (0, .ref a_o), (1, .ref a_p1), (2, .ref a_p2), (7, .int s7), (8, .int s8), (9, .int s9)]) hx hb dL_isActed_349 hl (by decide) rfl (fun ls hl => ?_)
      refine lv_goto (tgt := 328) hx hb dL_isActed_351 (by decide) ?_
      exact ih _ _ _ _ _ _ _ _ _ _ _ _ _ _ _ hf hX hP hD hS (lv_sub hl [1, 2, 3, 4, 5, 6, 0] rfl) hk
  have L311 : ∀ (n : Nat) (k : Int32 → Int32 → (Nat → Int32) → Option (Int32 × (Nat → Int32) × (Nat → Int32) × (Nat → Int32) × (Nat → Int32) × AT × List Nat)) (s7 : Int32) (f_p1 : Nat → Int32) (f_p3 : Nat → Int32) (f_p4 : Nat → Int32) (v_o_a : AT) (v_o_p : List Nat) (s8 : Int32) (s9 : Int32) (f_p2 : Nat → Int32) (H : Heap) (locs : List Loc) (ws : va_W) (ls : Array Slot), f_L_isActed_L311 k s7 f_p1 f_p3 f_p4 v_o_a v_o_p n s8 s9 f_p2 = some R → OX Y a_o v_o_a v_o_p ws → va_P D vwCl ([(a_p1, .inl (Y.1, 3, .inl f_p1)), (a_p2, .inl (Y.1, 20, .inl f_p2)), (a_p3, .inl (Y.1, 3, .inl f_p3)), (a_p4, .inl (Y.1, 16, .inl f_p4))] ++ ws) H → va_D A ([(a_p1, .inl (Y.1, 3, .inl f_p1)), (a_p2, .inl (Y.1, 20, .inl f_p2)), (a_p3, .inl (Y.1, 3, .inl f_p3)), (a_p4, .inl (Y.1, 16, .inl f_p4))] ++ ws) → va_S A s.heap H locs → lv_has ls 11 [(0, .ref a_o), (1, .ref a_p1), (2, .ref a_p2), (7, .int s7), (8, .int s8), (9, .int s9)] → (∀ (y_s8 : Int32) (y_s9 : Int32) (y_f_p2 : Nat → Int32) (H : Heap) (locs : List Loc) (ws : va_W) (ls : Array Slot), k y_s8 y_s9 y_f_p2 = some R → OX Y a_o v_o_a v_o_p ws → va_P D vwCl ([(a_p1, .inl (Y.1, 3, .inl f_p1)), (a_p2, .inl (Y.1, 20, .inl y_f_p2)), (a_p3, .inl (Y.1, 3, .inl f_p3)), (a_p4, .inl (Y.1, 16, .inl f_p4))] ++ ws) H → va_D A ([(a_p1, .inl (Y.1, 3, .inl f_p1)), (a_p2, .inl (Y.1, 20, .inl y_f_p2)), (a_p3, .inl (Y.1, 3, .inl f_p3)), (a_p4, .inl (Y.1, 16, .inl f_p4))] ++ ws) → va_S A s.heap H locs → lv_has ls 11 [(0, .ref a_o), (1, .ref a_p1), (2, .ref a_p2), (7, .int s7)] → W p l e rm_L_isActed s m args below meth c H locs 0 0 Q (F0 m 377 ls [])) → W p l e rm_L_isActed s m args below meth c H locs 0 0 Q (F0 m 311 ls []) := by
    intro n
    induction n with
    | zero =>
      intro k s7 f_p1 f_p3 f_p4 v_o_a v_o_p s8 s9 f_p2 H locs ws ls hf
      cases hf
    | succ n ih =>
      intro k s7 f_p1 f_p3 f_p4 v_o_a v_o_p s8 s9 f_p2 H locs ws ls hf hX hP hD hS hl hk
      unfold f_L_isActed_L311 at hf
      refine lv_iload hx hb dL_isActed_311 (lv_at hl 5 rfl) ?_
      refine lv_iload hx hb dL_isActed_313 (lv_at hl 3 rfl) ?_
      refine lv_icmp_ge (tgt := 377) hx hb dL_isActed_315 (by decide) (fun c7 => ?_) (fun c7 => ?_)
      · have hf := ite_t c7 hf
        exact hk _ _ _ _ _ _ _ hf hX hP hD hS (lv_sub hl [0, 1, 2, 3] rfl)
      have hf := ite_f c7 hf
      refine lv_iload hx hb dL_isActed_318 (lv_at hl 4 rfl) ?_
      refine lv_iconst (v := 1) hx hb dL_isActed_320 (by decide) ?_
      refine lv_aload_n hx hb dL_isActed_321 rfl (lv_at hl 1 rfl) ?_
      refine lv_iconst (v := 0) hx hb dL_isActed_322 (by decide) ?_
      refine va_iald hx hb hE.1 hP 0 0 rfl rfl (inb_in (by decide)) dL_isActed_323 ?_
      refine lv_ishl hx hb dL_isActed_324 ?_
      obtain ⟨g8, hf⟩ := gd_s hf
      refine lv_irem hx hb dL_isActed_325 (nzb_ne g8) ?_
      refine nm_W hf (fun x9 hf => ?_)
      refine lv_istore (lv' := [(10, .int x9), (0, .ref a_o), (1, .ref a_p1), (2, .ref a_p2), (7, .int s7), (8, .int s8), (9, .int s9)]) hx hb dL_isActed_326 hl (by decide) rfl (fun ls hl => ?_)
      refine L328 _ _ _ _ _ _ _ _ _ _ _ _ _ _ _ _ hf hX hP hD hS (lv_sub hl [1, 2, 3, 4, 5, 6, 0] rfl) ?_
      intro y16 H locs ws ls hf hX hP hD hS hl
      refine lv_aload_n hx hb dL_isActed_354 rfl (lv_at hl 2 rfl) ?_
      refine lv_iload hx hb dL_isActed_355 (lv_at hl 5 rfl) ?_
      refine lv_iload hx hb dL_isActed_357 (lv_at hl 6 rfl) ?_
      obtain ⟨g17, hf⟩ := gd_s hf
      refine va_iast hx hb hE.1 hP hD hS 1 0 rfl rfl (inb_in g17) dL_isActed_359 (fun H locs hP hD hS => ?_)
      have hP : va_P D vwCl ([(a_p1, .inl (Y.1, 3, .inl f_p1)), (a_p2, .inl (Y.1, 20, .inl (upd f_p2 s9.toNatClampNeg y16))), (a_p3, .inl (Y.1, 3, .inl f_p3)), (a_p4, .inl (Y.1, 16, .inl f_p4))] ++ ws) H := hP
      have hD : va_D A ([(a_p1, .inl (Y.1, 3, .inl f_p1)), (a_p2, .inl (Y.1, 20, .inl (upd f_p2 s9.toNatClampNeg y16))), (a_p3, .inl (Y.1, 3, .inl f_p3)), (a_p4, .inl (Y.1, 16, .inl f_p4))] ++ ws) := hD
      refine lv_iload hx hb dL_isActed_360 (lv_at hl 4 rfl) ?_
      refine lv_iconst (v := 5) hx hb dL_isActed_362 (by decide) ?_
      refine lv_idiv hx hb dL_isActed_363 (by decide) ?_
      refine lv_iconst (v := 3) hx hb dL_isActed_364 (by decide) ?_
      refine lv_iload hx hb dL_isActed_365 (lv_at hl 5 rfl) ?_
      refine lv_imul hx hb dL_isActed_367 ?_
      refine lv_iadd hx hb dL_isActed_368 ?_
      refine nm_W hf (fun x18 hf => ?_)
      refine lv_istore (lv' := [(8, .int x18), (0, .ref a_o), (1, .ref a_p1), (2, .ref a_p2), (7, .int s7), (9, .int s9), (10, .int y16)]) hx hb dL_isActed_369 hl (by decide) rfl (fun ls hl => ?_)
      refine lv_iinc (v := (s9 + 1)) (lv' := [(9, .int (s9 + 1)), (8, .int x18), (0, .ref a_o), (1, .ref a_p1), (2, .ref a_p2), (7, .int s7), (10, .int y16)]) hx hb dL_isActed_371 hl (k := 5) rfl rfl (by decide) rfl (fun ls hl => ?_)
      refine lv_goto (tgt := 311) hx hb dL_isActed_374 (by decide) ?_
      exact ih _ _ _ _ _ _ _ _ _ _ _ _ _ _ hf hX hP hD hS (lv_sub hl [2, 3, 4, 5, 1, 0] rfl) hk
  refine lv_iload hx hb dL_isActed_0 (lv_at hl 5 rfl) ?_
  refine lv_bipush (v := 9) hx hb dL_isActed_2 (by decide) ?_
  refine lv_icmp_ge (tgt := 116) hx hb dL_isActed_4 (by decide) (fun c1 => ?_) (fun c1 => ?_)
  · have hf := ite_t c1 hf
    refine lv_iload hx hb dL_isActed_116 (lv_at hl 5 rfl) ?_
    refine lv_bipush (v := 9) hx hb dL_isActed_118 (by decide) ?_
    refine lv_icmp_ne (tgt := 160) hx hb dL_isActed_120 (by decide) (fun c2 => ?_) (fun c2 => ?_)
    · have hf := ite_f c2 hf
      refine lv_iload hx hb dL_isActed_160 (lv_at hl 5 rfl) ?_
      refine lv_bipush (v := 12) hx hb dL_isActed_162 (by decide) ?_
      refine lv_icmp_ge (tgt := 247) hx hb dL_isActed_164 (by decide) (fun c3 => ?_) (fun c3 => ?_)
      · have hf := ite_t c3 hf
        refine lv_iload hx hb dL_isActed_247 (lv_at hl 5 rfl) ?_
        refine lv_bipush (v := 12) hx hb dL_isActed_249 (by decide) ?_
        refine lv_icmp_ne (tgt := 292) hx hb dL_isActed_251 (by decide) (fun c4 => ?_) (fun c4 => ?_)
        · have hf := ite_f c4 hf
          refine lv_iconst (v := 1) hx hb dL_isActed_292 (by decide) ?_
          refine lv_iload hx hb dL_isActed_293 (lv_at hl 6 rfl) ?_
          refine lv_bipush (v := 7) hx hb dL_isActed_295 (by decide) ?_
          refine lv_irem hx hb dL_isActed_297 (by decide) ?_
          refine lv_iadd hx hb dL_isActed_298 ?_
          refine nm_W hf (fun x5 hf => ?_)
          refine lv_istore (lv' := [(7, .int x5), (0, .ref a_o), (1, .ref a_p1), (2, .ref a_p2), (3, .ref a_p3), (4, .ref a_p4), (5, .int s5), (6, .int s6)]) hx hb dL_isActed_299 hl (by decide) rfl (fun ls hl => ?_)
          refine lv_iload hx hb dL_isActed_301 (lv_at hl 7 rfl) ?_
          refine lv_bipush (v := 7) hx hb dL_isActed_303 (by decide) ?_
          refine lv_idiv hx hb dL_isActed_305 (by decide) ?_
          refine nm_W hf (fun x6 hf => ?_)
          refine lv_istore (lv' := [(8, .int x6), (7, .int x5), (0, .ref a_o), (1, .ref a_p1), (2, .ref a_p2), (3, .ref a_p3), (4, .ref a_p4), (5, .int s5), (6, .int s6)]) hx hb dL_isActed_306 hl (by decide) rfl (fun ls hl => ?_)
          refine lv_iconst (v := 0) hx hb dL_isActed_308 (by decide) ?_
          refine lv_istore (lv' := [(9, .int 0), (8, .int x6), (7, .int x5), (0, .ref a_o), (1, .ref a_p1), (2, .ref a_p2), (3, .ref a_p3), (4, .ref a_p4), (5, .int s5), (6, .int s6)]) hx hb dL_isActed_309 hl (by decide) rfl (fun ls hl => ?_)
          refine L311 _ _ _ _ _ _ _ _ _ _ _ _ _ _ _ hf hX hP hD hS (lv_sub hl [3, 4, 5, 2, 1, 0] rfl) ?_
          intro y19 y20 y21 H locs ws ls hf hX hP hD hS hl
          refine lv_aload_n hx hb dL_isActed_377 rfl (lv_at hl 1 rfl) ?_
          refine lv_iconst (v := 2) hx hb dL_isActed_378 (by decide) ?_
          refine lv_aload_n hx hb dL_isActed_379 rfl (lv_at hl 1 rfl) ?_
          refine lv_iconst (v := 2) hx hb dL_isActed_380 (by decide) ?_
          refine va_iald hx hb hE.1 hP 0 0 rfl rfl (inb_in (by decide)) dL_isActed_381 ?_
          refine lv_iload hx hb dL_isActed_382 (lv_at hl 3 rfl) ?_
          refine lv_imul hx hb dL_isActed_384 ?_
          refine lv_sipush (v := 181) hx hb dL_isActed_385 (by decide) ?_
          refine jj_W (P := fun (w22 : Int32) => ∀ (H : Heap) (locs : List Loc) (ws : va_W) (ls : Array Slot), OX Y a_o v_o_a v_o_p ws → va_P D vwCl ([(a_p1, .inl (Y.1, 3, .inl f_p1)), (a_p2, .inl (Y.1, 20, .inl y21)), (a_p3, .inl (Y.1, 3, .inl f_p3)), (a_p4, .inl (Y.1, 16, .inl f_p4))] ++ ws) H → va_D A ([(a_p1, .inl (Y.1, 3, .inl f_p1)), (a_p2, .inl (Y.1, 20, .inl y21)), (a_p3, .inl (Y.1, 3, .inl f_p3)), (a_p4, .inl (Y.1, 16, .inl f_p4))] ++ ws) → va_S A s.heap H locs → lv_has ls 11 [(0, .ref a_o), (1, .ref a_p1), (2, .ref a_p2), (7, .int x5)] → W p l e rm_L_isActed s m args below meth c H locs 0 0 Q (F0 m 403 ls [.int w22, .int 2, .ref a_p1])) hf (fun w22 hf H locs ws ls hX hP hD hS hl => ?_) (fun kk23 hkk23 hf => ?_)
          · refine va_iast hx hb hE.1 hP hD hS 0 0 rfl rfl (inb_in (by decide)) dL_isActed_403 (fun H locs hP hD hS => ?_)
            have hP : va_P D vwCl ([(a_p1, .inl (Y.1, 3, .inl (upd f_p1 (2 : Int32).toNatClampNeg w22))), (a_p2, .inl (Y.1, 20, .inl y21)), (a_p3, .inl (Y.1, 3, .inl f_p3)), (a_p4, .inl (Y.1, 16, .inl f_p4))] ++ ws) H := hP
            have hD : va_D A ([(a_p1, .inl (Y.1, 3, .inl (upd f_p1 (2 : Int32).toNatClampNeg w22))), (a_p2, .inl (Y.1, 20, .inl y21)), (a_p3, .inl (Y.1, 3, .inl f_p3)), (a_p4, .inl (Y.1, 16, .inl f_p4))] ++ ws) := hD
            refine lv_aload_n hx hb dL_isActed_404 rfl (lv_at hl 1 rfl) ?_
            refine lv_iconst (v := 1) hx hb dL_isActed_405 (by decide) ?_
            refine lv_iload hx hb dL_isActed_406 (lv_at hl 3 rfl) ?_
            refine va_iast hx hb hE.1 hP hD hS 0 0 rfl rfl (inb_in (by decide)) dL_isActed_408 (fun H locs hP hD hS => ?_)
            have hP : va_P D vwCl ([(a_p1, .inl (Y.1, 3, .inl (upd (upd f_p1 (2 : Int32).toNatClampNeg w22) (1 : Int32).toNatClampNeg x5))), (a_p2, .inl (Y.1, 20, .inl y21)), (a_p3, .inl (Y.1, 3, .inl f_p3)), (a_p4, .inl (Y.1, 16, .inl f_p4))] ++ ws) H := hP
            have hD : va_D A ([(a_p1, .inl (Y.1, 3, .inl (upd (upd f_p1 (2 : Int32).toNatClampNeg w22) (1 : Int32).toNatClampNeg x5))), (a_p2, .inl (Y.1, 20, .inl y21)), (a_p3, .inl (Y.1, 3, .inl f_p3)), (a_p4, .inl (Y.1, 16, .inl f_p4))] ++ ws) := hD
            refine lv_aload_n hx hb dL_isActed_409 rfl (lv_at hl 0 rfl) ?_
            refine lv_aload_n hx hb dL_isActed_410 rfl (lv_at hl 1 rfl) ?_
            refine lv_iconst (v := 2) hx hb dL_isActed_411 (by decide) ?_
            refine va_iald hx hb hE.1 hP 0 0 rfl rfl (inb_in (by decide)) dL_isActed_412 ?_
            obtain ⟨q24, h25, hf⟩ := bd_s hf
            refine ak_i (run_V (As := [.int ((upd (upd f_p1 (2 : Int32).toNatClampNeg w22) (1 : Int32).toNatClampNeg x5) (2 : Int32).toNatClampNeg)]) (rest := []) E (k_cut l D Y hX ((upd (upd f_p1 (2 : Int32).toNatClampNeg w22) (1 : Int32).toNatClampNeg x5) (2 : Int32).toNatClampNeg) H.size q24 h25) qw649 qw650 qw651 qw19 qw652 rfl rfl hd_X10_cut ⟨Nat.le_of_ble_eq_true rfl, Nat.le_of_ble_eq_true rfl⟩ (pre_xV hP hD hE (ci := 7) rfl hX.head) rfl hl.1 rfl (Nat.le_of_ble_eq_true rfl) dL_isActed_413 ⟨Nat.le_of_ble_eq_true rfl, Nat.le_of_ble_eq_true rfl⟩) hP hD hS hA (fun ws H locs hX hP hD hS => ?_)
            refine lv_if_lt (tgt := 464) hx hb dL_isActed_416 (by decide) (fun c26 => ?_) (fun c26 => ?_)
            · have hf := ite_t c26 hf
              refine lv_iconst (v := 0) hx hb dL_isActed_464 (by decide) ?_
              rw [← hQ, ← Option.some.inj hf]
              refine W.widen (k := 3) (n := 90) (Nat.le_of_ble_eq_true rfl) (Nat.le_of_ble_eq_true rfl) ?_
              exact en_xz (wu := fun ws => ([(a_p1, .inl (Y.1, 3, .inl (upd (upd f_p1 (2 : Int32).toNatClampNeg w22) (1 : Int32).toNatClampNeg x5))), (a_p2, .inl (Y.1, 20, .inl y21)), (a_p3, .inl (Y.1, 3, .inl f_p3)), (a_p4, .inl (Y.1, 16, .inl f_p4))] ++ ws)) (u := ws) hx hb hr hlocks hX hP hD hS rfl (Or.inl rfl) dL_isActed_465
            have hf := ite_f c26 hf
            refine lv_aload_n hx hb dL_isActed_419 rfl (lv_at hl 0 rfl) ?_
            refine lv_aload_n hx hb dL_isActed_420 rfl (lv_at hl 2 rfl) ?_
            refine lv_iload hx hb dL_isActed_421 (lv_at hl 3 rfl) ?_
            refine lv_aload_n hx hb dL_isActed_423 rfl (lv_at hl 1 rfl) ?_
            refine lv_iconst (v := 0) hx hb dL_isActed_424 (by decide) ?_
            refine va_iald hx hb hE.1 hP 0 0 rfl rfl (inb_in (by decide)) dL_isActed_425 ?_
            obtain ⟨q27, h28, hf⟩ := bd_s hf
            refine ax_z (L := [(a_p1, .inl (Y.1, 3, .inl (upd (upd f_p1 (2 : Int32).toNatClampNeg w22) (1 : Int32).toNatClampNeg x5))), (a_p2, .inl (Y.1, 20, .inl y21)), (a_p3, .inl (Y.1, 3, .inl f_p3)), (a_p4, .inl (Y.1, 16, .inl f_p4))]) (Lc := [(a_p2, .inl (Y.1, 20, .inl y21))]) (Lr := [(a_p1, .inl (Y.1, 3, .inl (upd (upd f_p1 (2 : Int32).toNatClampNeg w22) (1 : Int32).toNatClampNeg x5))), (a_p3, .inl (Y.1, 3, .inl f_p3)), (a_p4, .inl (Y.1, 16, .inl f_p4))]) (L1 := [(a_p2, .inl (Y.1, 20, .inl y21))]) (Ln := [(a_p1, .inl (Y.1, 3, .inl (upd (upd f_p1 (2 : Int32).toNatClampNeg w22) (1 : Int32).toNatClampNeg x5))), (a_p2, .inl (Y.1, 20, .inl y21)), (a_p3, .inl (Y.1, 3, .inl f_p3)), (a_p4, .inl (Y.1, 16, .inl f_p4))]) (run_S (As := [.ref a_o, .ref a_p2, .int x5, .int ((upd (upd f_p1 (2 : Int32).toNatClampNeg w22) (1 : Int32).toNatClampNeg x5) (0 : Int32).toNatClampNeg)]) (rest := []) E (c_L_typed l D Y a_p2 a_o y21 q24.2 v_o_p x5 ((upd (upd f_p1 (2 : Int32).toNatClampNeg w22) (1 : Int32).toNatClampNeg x5) (0 : Int32).toNatClampNeg) _ hX H.size q27 h28) qw668 qw669 qw18 qw670 rfl rfl hd_L_typed ⟨Nat.le_of_ble_eq_true rfl, Nat.le_of_ble_eq_true rfl⟩ (pre_rx (Lc := [(a_p2, .inl (Y.1, 20, .inl y21))]) hP hD hE [1] rfl rfl) rfl hl.1 rfl (Nat.le_of_ble_eq_true rfl) dL_isActed_426 ⟨Nat.le_of_ble_eq_true rfl, Nat.le_of_ble_eq_true rfl⟩) hP hD hS hA [1] [0, 2, 3] [0, 3, 1, 2] rfl rfl rfl (by decide) rfl rfl (fun ws H locs z29 hX hP hD hS => ?_)
            refine lv_if_eq (tgt := 464) hx hb dL_isActed_429 (by decide) (fun c30 => ?_) (fun c30 => ?_)
            · have hf := ite_t c30 hf
              refine lv_iconst (v := 0) hx hb dL_isActed_464 (by decide) ?_
              rw [← hQ, ← Option.some.inj hf]
              refine W.widen (k := 3) (n := 90) (Nat.le_of_ble_eq_true rfl) (Nat.le_of_ble_eq_true rfl) ?_
              exact en_xz (wu := fun ws => ([(a_p1, .inl (Y.1, 3, .inl (upd (upd f_p1 (2 : Int32).toNatClampNeg w22) (1 : Int32).toNatClampNeg x5))), (a_p2, .inl (Y.1, 20, .inl y21)), (a_p3, .inl (Y.1, 3, .inl f_p3)), (a_p4, .inl (Y.1, 16, .inl f_p4))] ++ ws)) (u := ws) hx hb hr hlocks hX hP hD hS rfl (Or.inl rfl) dL_isActed_465
            have hf := ite_f c30 hf
            refine lv_aload_n hx hb dL_isActed_432 rfl (lv_at hl 0 rfl) ?_
            refine lv_iconst (v := 0) hx hb dL_isActed_433 (by decide) ?_
            obtain ⟨q31, h32, hf⟩ := bd_s hf
            refine ak_i (run_V (As := [.int 0]) (rest := []) E (k_fault l D Y hX 0 H.size q31 h32) qw683 qw684 qw685 qw19 qw686 rfl rfl hd_X10_fault ⟨Nat.le_of_ble_eq_true rfl, Nat.le_of_ble_eq_true rfl⟩ (pre_xV hP hD hE (ci := 7) rfl hX.head) rfl hl.1 rfl (Nat.le_of_ble_eq_true rfl) dL_isActed_434 ⟨Nat.le_of_ble_eq_true rfl, Nat.le_of_ble_eq_true rfl⟩) hP hD hS hA (fun ws H locs hX hP hD hS => ?_)
            refine lv_bipush (v := (-4)) hx hb dL_isActed_437 (by decide) ?_
            refine lv_icmp_ne (tgt := 464) hx hb dL_isActed_439 (by decide) (fun c33 => ?_) (fun c33 => ?_)
            · have hf := ite_f c33 hf
              refine lv_iconst (v := 0) hx hb dL_isActed_464 (by decide) ?_
              rw [← hQ, ← Option.some.inj hf]
              refine W.widen (k := 3) (n := 90) (Nat.le_of_ble_eq_true rfl) (Nat.le_of_ble_eq_true rfl) ?_
              exact en_xz (wu := fun ws => ([(a_p1, .inl (Y.1, 3, .inl (upd (upd f_p1 (2 : Int32).toNatClampNeg w22) (1 : Int32).toNatClampNeg x5))), (a_p2, .inl (Y.1, 20, .inl y21)), (a_p3, .inl (Y.1, 3, .inl f_p3)), (a_p4, .inl (Y.1, 16, .inl f_p4))] ++ ws)) (u := ws) hx hb hr hlocks hX hP hD hS rfl (Or.inl rfl) dL_isActed_465
            have hf := ite_t c33 hf
            refine lv_aload_n hx hb dL_isActed_442 rfl (lv_at hl 0 rfl) ?_
            obtain ⟨q34, h35, hf⟩ := bd_s hf
            refine ak_i (run_V (As := []) (rest := []) E (k_method l D Y hX H.size q34 h35) qw694 qw695 qw696 qw19 qw697 rfl rfl hd_X10_method ⟨Nat.le_of_ble_eq_true rfl, Nat.le_of_ble_eq_true rfl⟩ (pre_xV hP hD hE (ci := 7) rfl hX.head) rfl hl.1 rfl (Nat.le_of_ble_eq_true rfl) dL_isActed_443 ⟨Nat.le_of_ble_eq_true rfl, Nat.le_of_ble_eq_true rfl⟩) hP hD hS hA (fun ws H locs hX hP hD hS => ?_)
            refine lv_iload hx hb dL_isActed_446 (lv_at hl 3 rfl) ?_
            refine lv_icmp_ne (tgt := 464) hx hb dL_isActed_448 (by decide) (fun c36 => ?_) (fun c36 => ?_)
            · have hf := ite_f c36 hf
              refine lv_iconst (v := 0) hx hb dL_isActed_464 (by decide) ?_
              rw [← hQ, ← Option.some.inj hf]
              refine W.widen (k := 3) (n := 90) (Nat.le_of_ble_eq_true rfl) (Nat.le_of_ble_eq_true rfl) ?_
              exact en_xz (wu := fun ws => ([(a_p1, .inl (Y.1, 3, .inl (upd (upd f_p1 (2 : Int32).toNatClampNeg w22) (1 : Int32).toNatClampNeg x5))), (a_p2, .inl (Y.1, 20, .inl y21)), (a_p3, .inl (Y.1, 3, .inl f_p3)), (a_p4, .inl (Y.1, 16, .inl f_p4))] ++ ws)) (u := ws) hx hb hr hlocks hX hP hD hS rfl (Or.inl rfl) dL_isActed_465
            have hf := ite_t c36 hf
            refine lv_aload_n hx hb dL_isActed_451 rfl (lv_at hl 0 rfl) ?_
            refine lv_bipush (v := 14) hx hb dL_isActed_452 (by decide) ?_
            obtain ⟨q37, h38, hf⟩ := bd_s hf
            refine ak_i (run_V (As := [.int 14]) (rest := []) E (k_count l D Y hX 14 H.size q37 h38) qw520 qw521 qw522 qw19 qw523 rfl rfl hd_X10_count ⟨Nat.le_of_ble_eq_true rfl, Nat.le_of_ble_eq_true rfl⟩ (pre_xV hP hD hE (ci := 7) rfl hX.head) rfl hl.1 rfl (Nat.le_of_ble_eq_true rfl) dL_isActed_454 ⟨Nat.le_of_ble_eq_true rfl, Nat.le_of_ble_eq_true rfl⟩) hP hD hS hA (fun ws H locs hX hP hD hS => ?_)
            refine lv_if_ne (tgt := 464) hx hb dL_isActed_457 (by decide) (fun c39 => ?_) (fun c39 => ?_)
            · have hf := ite_f c39 hf
              refine lv_iconst (v := 0) hx hb dL_isActed_464 (by decide) ?_
              rw [← hQ, ← Option.some.inj hf]
              refine W.widen (k := 3) (n := 90) (Nat.le_of_ble_eq_true rfl) (Nat.le_of_ble_eq_true rfl) ?_
              exact en_xz (wu := fun ws => ([(a_p1, .inl (Y.1, 3, .inl (upd (upd f_p1 (2 : Int32).toNatClampNeg w22) (1 : Int32).toNatClampNeg x5))), (a_p2, .inl (Y.1, 20, .inl y21)), (a_p3, .inl (Y.1, 3, .inl f_p3)), (a_p4, .inl (Y.1, 16, .inl f_p4))] ++ ws)) (u := ws) hx hb hr hlocks hX hP hD hS rfl (Or.inl rfl) dL_isActed_465
            have hf := ite_t c39 hf
            refine lv_iconst (v := 1) hx hb dL_isActed_460 (by decide) ?_
            refine lv_goto (tgt := 465) hx hb dL_isActed_461 (by decide) ?_
            rw [← hQ, ← Option.some.inj hf]
            refine W.widen (k := 3) (n := 90) (Nat.le_of_ble_eq_true rfl) (Nat.le_of_ble_eq_true rfl) ?_
            exact en_xz (wu := fun ws => ([(a_p1, .inl (Y.1, 3, .inl (upd (upd f_p1 (2 : Int32).toNatClampNeg w22) (1 : Int32).toNatClampNeg x5))), (a_p2, .inl (Y.1, 20, .inl y21)), (a_p3, .inl (Y.1, 3, .inl f_p3)), (a_p4, .inl (Y.1, 16, .inl f_p4))] ++ ws)) (u := ws) hx hb hr hlocks hX hP hD hS rfl (Or.inr rfl) dL_isActed_465
          refine lv_icmp_ge (tgt := 397) hx hb dL_isActed_388 (by decide) (fun c40 => ?_) (fun c40 => ?_)
          · have hf := ite_t c40 hf
            refine lv_sipush (v := 180) hx hb dL_isActed_397 (by decide) ?_
            refine lv_iload hx hb dL_isActed_400 (lv_at hl 3 rfl) ?_
            obtain ⟨g41, hf⟩ := gd_s hf
            refine lv_idiv hx hb dL_isActed_402 (nzb_ne g41) ?_
            exact hkk23 _ hf _ _ _ _ hX hP hD hS (lv_sub hl [0, 1, 2, 3] rfl)
          have hf := ite_f c40 hf
          refine lv_aload_n hx hb dL_isActed_391 rfl (lv_at hl 1 rfl) ?_
          refine lv_iconst (v := 2) hx hb dL_isActed_392 (by decide) ?_
          refine va_iald hx hb hE.1 hP 0 0 rfl rfl (inb_in (by decide)) dL_isActed_393 ?_
          refine lv_goto (tgt := 403) hx hb dL_isActed_394 (by decide) ?_
          exact hkk23 _ hf _ _ _ _ hX hP hD hS (lv_sub hl [0, 1, 2, 3] rfl)
        have hf := ite_t c4 hf
        refine lv_aload_n hx hb dL_isActed_254 rfl (lv_at hl 1 rfl) ?_
        refine lv_iconst (v := 0) hx hb dL_isActed_255 (by decide) ?_
        refine va_iald hx hb hE.1 hP 0 0 rfl rfl (inb_in (by decide)) dL_isActed_256 ?_
        refine nm_W hf (fun x42 hf => ?_)
        refine lv_istore (lv' := [(7, .int x42), (0, .ref a_o), (1, .ref a_p1), (2, .ref a_p2), (3, .ref a_p3), (4, .ref a_p4), (5, .int s5), (6, .int s6)]) hx hb dL_isActed_257 hl (by decide) rfl (fun ls hl => ?_)
        refine lv_aload_n hx hb dL_isActed_259 rfl (lv_at hl 2 rfl) ?_
        refine lv_aload_n hx hb dL_isActed_260 rfl (lv_at hl 3 rfl) ?_
        refine lv_aload_n hx hb dL_isActed_261 rfl (lv_at hl 4 rfl) ?_
        refine lv_iconst (v := 4) hx hb dL_isActed_262 (by decide) ?_
        refine lv_iload hx hb dL_isActed_263 (lv_at hl 7 rfl) ?_
        refine lv_iconst (v := 4) hx hb dL_isActed_265 (by decide) ?_
        refine lv_irem hx hb dL_isActed_266 (by decide) ?_
        refine lv_iadd hx hb dL_isActed_267 ?_
        obtain ⟨q43, h44, hf⟩ := bd_s hf
        refine at_v (L := [(a_p1, .inl (Y.1, 3, .inl f_p1)), (a_p2, .inl (Y.1, 20, .inl f_p2)), (a_p3, .inl (Y.1, 3, .inl f_p3)), (a_p4, .inl (Y.1, 16, .inl f_p4))]) (Lc := [(a_p1, .inl (Y.1, 3, .inl f_p1)), (a_p2, .inl (Y.1, 20, .inl f_p2)), (a_p3, .inl (Y.1, 3, .inl f_p3))]) (Lr := [(a_p4, .inl (Y.1, 16, .inl f_p4))]) (L1 := [(a_p1, .inl (Y.1, 3, .inl q43.1)), (a_p2, .inl (Y.1, 20, .inl q43.2.1)), (a_p3, .inl (Y.1, 3, .inl q43.2.2))]) (Ln := [(a_p1, .inl (Y.1, 3, .inl q43.1)), (a_p2, .inl (Y.1, 20, .inl q43.2.1)), (a_p3, .inl (Y.1, 3, .inl q43.2.2)), (a_p4, .inl (Y.1, 16, .inl f_p4))]) (run_S (As := [.ref a_p1, .ref a_p2, .ref a_p3, .int ((4 : Int32) + (s6 - s6 / 4 * 4))]) (rest := []) E (c_L_beginning l D Y a_p1 a_p2 a_p3 f_p1 f_p2 f_p3 ((4 : Int32) + (s6 - s6 / 4 * 4)) s.heap.size q43 h44) qw354 qw355 qw18 qw356 rfl rfl hd_L_beginning ⟨Nat.le_of_ble_eq_true rfl, Nat.le_of_ble_eq_true rfl⟩ (pre_rt (Lc := [(a_p1, .inl (Y.1, 3, .inl f_p1)), (a_p2, .inl (Y.1, 20, .inl f_p2)), (a_p3, .inl (Y.1, 3, .inl f_p3))]) hP hD hE [0, 1, 2] rfl rfl) rfl hl.1 rfl (Nat.le_of_ble_eq_true rfl) dL_isActed_268 ⟨Nat.le_of_ble_eq_true rfl, Nat.le_of_ble_eq_true rfl⟩) hP hD hS hA [0, 1, 2] [3] [1, 2, 3, 0] rfl rfl rfl (by decide) rfl rfl (fun H locs hP hD hS => ?_)
        refine lv_aload_n hx hb dL_isActed_271 rfl (lv_at hl 1 rfl) ?_
        refine lv_iconst (v := 4) hx hb dL_isActed_272 (by decide) ?_
        refine lv_iload hx hb dL_isActed_273 (lv_at hl 7 rfl) ?_
        refine lv_iconst (v := 4) hx hb dL_isActed_275 (by decide) ?_
        refine lv_irem hx hb dL_isActed_276 (by decide) ?_
        refine lv_iadd hx hb dL_isActed_277 ?_
        obtain ⟨q45, h46, hf⟩ := bd_s hf
        refine ak_i (run_V (As := [.int ((4 : Int32) + (s6 - s6 / 4 * 4))]) (rest := []) E (k_bells l D Y adK adV hX ((4 : Int32) + (s6 - s6 / 4 * 4)) H.size q45 h46) qw664 qw665 qw666 qw19 qw667 rfl rfl hd_X10_bells ⟨Nat.le_of_ble_eq_true rfl, Nat.le_of_ble_eq_true rfl⟩ (pre_xsV hP hD hE hK9 hS hA (ci := 7) rfl hX.head) rfl hl.1 rfl (Nat.le_of_ble_eq_true rfl) dL_isActed_278 ⟨Nat.le_of_ble_eq_true rfl, Nat.le_of_ble_eq_true rfl⟩) hP hD hS hA (fun ws H locs hX hP hD hS => ?_)
        refine lv_iload hx hb dL_isActed_281 (lv_at hl 0 rfl) ?_
        refine lv_icmp_ne (tgt := 290) hx hb dL_isActed_283 (by decide) (fun c47 => ?_) (fun c47 => ?_)
        · have hf := ite_f c47 hf
          refine lv_iconst (v := 0) hx hb dL_isActed_290 (by decide) ?_
          rw [← hQ, ← Option.some.inj hf]
          exact en_xz (wu := fun ws => ([(a_p1, .inl (Y.1, 3, .inl q43.1)), (a_p2, .inl (Y.1, 20, .inl q43.2.1)), (a_p3, .inl (Y.1, 3, .inl q43.2.2)), (a_p4, .inl (Y.1, 16, .inl f_p4))] ++ ws)) (u := ws) hx hb hr hlocks hX hP hD hS rfl (Or.inl rfl) dL_isActed_291
        have hf := ite_t c47 hf
        refine lv_iconst (v := 1) hx hb dL_isActed_286 (by decide) ?_
        refine lv_goto (tgt := 291) hx hb dL_isActed_287 (by decide) ?_
        rw [← hQ, ← Option.some.inj hf]
        exact en_xz (wu := fun ws => ([(a_p1, .inl (Y.1, 3, .inl q43.1)), (a_p2, .inl (Y.1, 20, .inl q43.2.1)), (a_p3, .inl (Y.1, 3, .inl q43.2.2)), (a_p4, .inl (Y.1, 16, .inl f_p4))] ++ ws)) (u := ws) hx hb hr hlocks hX hP hD hS rfl (Or.inr rfl) dL_isActed_291
      have hf := ite_f c3 hf
      refine lv_iconst (v := 1) hx hb dL_isActed_167 (by decide) ?_
      refine lv_iload hx hb dL_isActed_168 (lv_at hl 6 rfl) ?_
      refine lv_iconst (v := 2) hx hb dL_isActed_170 (by decide) ?_
      refine lv_irem hx hb dL_isActed_171 (by decide) ?_
      refine lv_iadd hx hb dL_isActed_172 ?_
      refine nm_W hf (fun x48 hf => ?_)
      refine lv_istore (lv' := [(7, .int x48), (0, .ref a_o), (1, .ref a_p1), (2, .ref a_p2), (3, .ref a_p3), (4, .ref a_p4), (5, .int s5), (6, .int s6)]) hx hb dL_isActed_173 hl (by decide) rfl (fun ls hl => ?_)
      refine lv_iload hx hb dL_isActed_175 (lv_at hl 7 rfl) ?_
      refine lv_iconst (v := 2) hx hb dL_isActed_177 (by decide) ?_
      refine lv_idiv hx hb dL_isActed_178 (by decide) ?_
      refine lv_sipush (v := 140) hx hb dL_isActed_179 (by decide) ?_
      refine lv_irem hx hb dL_isActed_182 (by decide) ?_
      refine nm_W hf (fun x49 hf => ?_)
      refine lv_istore (lv' := [(8, .int x49), (7, .int x48), (0, .ref a_o), (1, .ref a_p1), (2, .ref a_p2), (3, .ref a_p3), (4, .ref a_p4), (5, .int s5), (6, .int s6)]) hx hb dL_isActed_183 hl (by decide) rfl (fun ls hl => ?_)
      refine lv_aload_n hx hb dL_isActed_185 rfl (lv_at hl 3 rfl) ?_
      refine lv_iconst (v := 0) hx hb dL_isActed_186 (by decide) ?_
      refine va_iald hx hb hE.1 hP 0 0 rfl rfl (inb_in (by decide)) dL_isActed_187 ?_
      refine lv_iload hx hb dL_isActed_188 (lv_at hl 0 rfl) ?_
      obtain ⟨q50, h51, hf⟩ := bd_s hf
      refine af_oz (run_S (As := [.int (f_p1 (0 : Int32).toNatClampNeg), .int x49]) (rest := []) E (c_L_isRight l D Y (f_p1 (0 : Int32).toNatClampNeg) x49 q50 h51) qw653 qw654 qw18 qw655 rfl rfl hd_L_isRight ⟨Nat.le_of_ble_eq_true rfl, Nat.le_of_ble_eq_true rfl⟩ (pre_roS hP hE [] rfl) rfl hl.1 rfl (Nat.le_of_ble_eq_true rfl) dL_isActed_190 ⟨Nat.le_of_ble_eq_true rfl, Nat.le_of_ble_eq_true rfl⟩) (fun z52 => ?_)
      refine lv_istore (lv' := [(9, .int q50), (8, .int x49), (7, .int x48), (0, .ref a_o), (1, .ref a_p1), (2, .ref a_p2), (3, .ref a_p3), (4, .ref a_p4), (5, .int s5), (6, .int s6)]) hx hb dL_isActed_193 hl (by decide) rfl (fun ls hl => ?_)
      refine lv_iload hx hb dL_isActed_195 (lv_at hl 0 rfl) ?_
      refine jj_W (P := fun (w53 : Int32) => ∀ (H : Heap) (locs : List Loc) (ws : va_W) (ls : Array Slot), OX Y a_o v_o_a v_o_p ws → va_P D vwCl ([(a_p1, .inl (Y.1, 3, .inl f_p1)), (a_p2, .inl (Y.1, 20, .inl f_p2)), (a_p3, .inl (Y.1, 3, .inl f_p3)), (a_p4, .inl (Y.1, 16, .inl f_p4))] ++ ws) H → va_D A ([(a_p1, .inl (Y.1, 3, .inl f_p1)), (a_p2, .inl (Y.1, 20, .inl f_p2)), (a_p3, .inl (Y.1, 3, .inl f_p3)), (a_p4, .inl (Y.1, 16, .inl f_p4))] ++ ws) → va_S A s.heap H locs → lv_has ls 11 [(0, .ref a_o), (3, .ref a_p3), (7, .int x48), (8, .int x49), (9, .int q50)] → W p l e rm_L_isActed s m args below meth c H locs 0 0 Q (F0 m 208 ls [.int w53])) hf (fun w53 hf H locs ws ls hX hP hD hS hl => ?_) (fun kk54 hkk54 hf => ?_)
      · refine lv_istore (lv' := [(10, .int w53), (0, .ref a_o), (3, .ref a_p3), (7, .int x48), (8, .int x49), (9, .int q50)]) hx hb dL_isActed_208 hl (by decide) rfl (fun ls hl => ?_)
        refine lv_aload_n hx hb dL_isActed_210 rfl (lv_at hl 2 rfl) ?_
        refine lv_iload hx hb dL_isActed_211 (lv_at hl 3 rfl) ?_
        refine lv_iload hx hb dL_isActed_213 (lv_at hl 5 rfl) ?_
        refine jj_W (P := fun (w55 : Int32) => ∀ (H : Heap) (locs : List Loc) (ws : va_W) (ls : Array Slot), OX Y a_o v_o_a v_o_p ws → va_P D vwCl ([(a_p1, .inl (Y.1, 3, .inl f_p1)), (a_p2, .inl (Y.1, 20, .inl f_p2)), (a_p3, .inl (Y.1, 3, .inl f_p3)), (a_p4, .inl (Y.1, 16, .inl f_p4))] ++ ws) H → va_D A ([(a_p1, .inl (Y.1, 3, .inl f_p1)), (a_p2, .inl (Y.1, 20, .inl f_p2)), (a_p3, .inl (Y.1, 3, .inl f_p3)), (a_p4, .inl (Y.1, 16, .inl f_p4))] ++ ws) → va_S A s.heap H locs → lv_has ls 11 [(0, .ref a_o), (7, .int x48), (8, .int x49), (10, .int w53)] → W p l e rm_L_isActed s m args below meth c H locs 0 0 Q (F0 m 227 ls [.int w55, .int x48, .ref a_p3])) hf (fun w55 hf H locs ws ls hX hP hD hS hl => ?_) (fun kk56 hkk56 hf => ?_)
        · obtain ⟨g57, hf⟩ := gd_s hf
          refine va_iast hx hb hE.1 hP hD hS 2 0 rfl rfl (inb_in g57) dL_isActed_227 (fun H locs hP hD hS => ?_)
          have hP : va_P D vwCl ([(a_p1, .inl (Y.1, 3, .inl f_p1)), (a_p2, .inl (Y.1, 20, .inl f_p2)), (a_p3, .inl (Y.1, 3, .inl (upd f_p3 x48.toNatClampNeg w55))), (a_p4, .inl (Y.1, 16, .inl f_p4))] ++ ws) H := hP
          have hD : va_D A ([(a_p1, .inl (Y.1, 3, .inl f_p1)), (a_p2, .inl (Y.1, 20, .inl f_p2)), (a_p3, .inl (Y.1, 3, .inl (upd f_p3 x48.toNatClampNeg w55))), (a_p4, .inl (Y.1, 16, .inl f_p4))] ++ ws) := hD
          refine lv_aload_n hx hb dL_isActed_228 rfl (lv_at hl 0 rfl) ?_
          refine lv_iload hx hb dL_isActed_229 (lv_at hl 1 rfl) ?_
          refine lv_iload hx hb dL_isActed_231 (lv_at hl 2 rfl) ?_
          obtain ⟨q58, h59, hf⟩ := bd_s hf
          refine ak_i (run_V (As := [.int x48, .int x49]) (rest := []) E (k_call l D Y hX x48 x49 H.size q58 h59) qw656 qw657 qw658 qw19 qw659 rfl rfl hd_X10_call ⟨Nat.le_of_ble_eq_true rfl, Nat.le_of_ble_eq_true rfl⟩ (pre_xV hP hD hE (ci := 7) rfl hX.head) rfl hl.1 rfl (Nat.le_of_ble_eq_true rfl) dL_isActed_233 ⟨Nat.le_of_ble_eq_true rfl, Nat.le_of_ble_eq_true rfl⟩) hP hD hS hA (fun ws H locs hX hP hD hS => ?_)
          refine lv_iload hx hb dL_isActed_236 (lv_at hl 3 rfl) ?_
          refine lv_icmp_ne (tgt := 245) hx hb dL_isActed_238 (by decide) (fun c60 => ?_) (fun c60 => ?_)
          · have hf := ite_f c60 hf
            refine lv_iconst (v := 0) hx hb dL_isActed_245 (by decide) ?_
            rw [← hQ, ← Option.some.inj hf]
            refine W.widen (k := 3) (n := 90) (Nat.le_of_ble_eq_true rfl) (Nat.le_of_ble_eq_true rfl) ?_
            exact en_xz (wu := fun ws => ([(a_p1, .inl (Y.1, 3, .inl f_p1)), (a_p2, .inl (Y.1, 20, .inl f_p2)), (a_p3, .inl (Y.1, 3, .inl (upd f_p3 x48.toNatClampNeg w55))), (a_p4, .inl (Y.1, 16, .inl f_p4))] ++ ws)) (u := ws) hx hb hr hlocks hX hP hD hS rfl (Or.inl rfl) dL_isActed_246
          have hf := ite_t c60 hf
          refine lv_iconst (v := 1) hx hb dL_isActed_241 (by decide) ?_
          refine lv_goto (tgt := 246) hx hb dL_isActed_242 (by decide) ?_
          rw [← hQ, ← Option.some.inj hf]
          refine W.widen (k := 3) (n := 90) (Nat.le_of_ble_eq_true rfl) (Nat.le_of_ble_eq_true rfl) ?_
          exact en_xz (wu := fun ws => ([(a_p1, .inl (Y.1, 3, .inl f_p1)), (a_p2, .inl (Y.1, 20, .inl f_p2)), (a_p3, .inl (Y.1, 3, .inl (upd f_p3 x48.toNatClampNeg w55))), (a_p4, .inl (Y.1, 16, .inl f_p4))] ++ ws)) (u := ws) hx hb hr hlocks hX hP hD hS rfl (Or.inr rfl) dL_isActed_246
        refine lv_if_eq (tgt := 223) hx hb dL_isActed_215 (by decide) (fun c61 => ?_) (fun c61 => ?_)
        · have hf := ite_t c61 hf
          refine lv_aload_n hx hb dL_isActed_223 rfl (lv_at hl 2 rfl) ?_
          refine lv_iload hx hb dL_isActed_224 (lv_at hl 3 rfl) ?_
          obtain ⟨g62, hf⟩ := gd_s hf
          refine va_iald hx hb hE.1 hP 2 0 rfl rfl (inb_in g62) dL_isActed_226 ?_
          exact hkk56 _ hf _ _ _ _ hX hP hD hS (lv_sub hl [1, 3, 4, 0] rfl)
        have hf := ite_f c61 hf
        refine lv_iload hx hb dL_isActed_218 (lv_at hl 4 rfl) ?_
        refine lv_goto (tgt := 227) hx hb dL_isActed_220 (by decide) ?_
        exact hkk56 _ hf _ _ _ _ hX hP hD hS (lv_sub hl [1, 3, 4, 0] rfl)
      refine lv_if_eq (tgt := 207) hx hb dL_isActed_197 (by decide) (fun c63 => ?_) (fun c63 => ?_)
      · have hf := ite_t c63 hf
        refine lv_iconst (v := (-1)) hx hb dL_isActed_207 (by decide) ?_
        exact hkk54 _ hf _ _ _ _ hX hP hD hS (lv_sub hl [3, 6, 2, 1, 0] rfl)
      have hf := ite_f c63 hf
      refine lv_aload_n hx hb dL_isActed_200 rfl (lv_at hl 6 rfl) ?_
      refine lv_iload hx hb dL_isActed_201 (lv_at hl 2 rfl) ?_
      obtain ⟨g64, hf⟩ := gd_s hf
      refine va_iald hx hb hE.1 hP 2 0 rfl rfl (inb_in g64) dL_isActed_203 ?_
      refine lv_goto (tgt := 208) hx hb dL_isActed_204 (by decide) ?_
      exact hkk54 _ hf _ _ _ _ hX hP hD hS (lv_sub hl [3, 6, 2, 1, 0] rfl)
    have hf := ite_t c2 hf
    refine lv_aload_n hx hb dL_isActed_123 rfl (lv_at hl 1 rfl) ?_
    refine lv_iconst (v := 2) hx hb dL_isActed_124 (by decide) ?_
    refine va_iald hx hb hE.1 hP 0 0 rfl rfl (inb_in (by decide)) dL_isActed_125 ?_
    refine nm_W hf (fun x65 hf => ?_)
    refine lv_istore (lv' := [(7, .int x65), (0, .ref a_o), (1, .ref a_p1), (2, .ref a_p2), (3, .ref a_p3), (4, .ref a_p4), (5, .int s5), (6, .int s6)]) hx hb dL_isActed_126 hl (by decide) rfl (fun ls hl => ?_)
    refine lv_aload_n hx hb dL_isActed_128 rfl (lv_at hl 2 rfl) ?_
    refine lv_iconst (v := 2) hx hb dL_isActed_129 (by decide) ?_
    refine lv_iload hx hb dL_isActed_130 (lv_at hl 7 rfl) ?_
    refine lv_iload hx hb dL_isActed_132 (lv_at hl 0 rfl) ?_
    refine lv_iconst (v := 1) hx hb dL_isActed_134 (by decide) ?_
    refine lv_iadd hx hb dL_isActed_135 ?_
    obtain ⟨g66, hf⟩ := gd_s hf
    refine lv_irem hx hb dL_isActed_136 (nzb_ne g66) ?_
    refine va_iast hx hb hE.1 hP hD hS 0 0 rfl rfl (inb_in (by decide)) dL_isActed_137 (fun H locs hP hD hS => ?_)
    have hP : va_P D vwCl ([(a_p1, .inl (Y.1, 3, .inl (upd f_p1 (2 : Int32).toNatClampNeg (s6 - s6 / (x65 + 1) * (x65 + 1))))), (a_p2, .inl (Y.1, 20, .inl f_p2)), (a_p3, .inl (Y.1, 3, .inl f_p3)), (a_p4, .inl (Y.1, 16, .inl f_p4))] ++ ws) H := hP
    have hD : va_D A ([(a_p1, .inl (Y.1, 3, .inl (upd f_p1 (2 : Int32).toNatClampNeg (s6 - s6 / (x65 + 1) * (x65 + 1))))), (a_p2, .inl (Y.1, 20, .inl f_p2)), (a_p3, .inl (Y.1, 3, .inl f_p3)), (a_p4, .inl (Y.1, 16, .inl f_p4))] ++ ws) := hD
    refine lv_aload_n hx hb dL_isActed_138 rfl (lv_at hl 1 rfl) ?_
    refine lv_iload hx hb dL_isActed_139 (lv_at hl 7 rfl) ?_
    refine lv_iload hx hb dL_isActed_141 (lv_at hl 0 rfl) ?_
    refine lv_iconst (v := 1) hx hb dL_isActed_143 (by decide) ?_
    refine lv_iadd hx hb dL_isActed_144 ?_
    refine lv_irem hx hb dL_isActed_145 (nzb_ne g66) ?_
    obtain ⟨q67, h68, hf⟩ := bd_s hf
    refine ak_i (run_V (As := [.int (s6 - s6 / (x65 + 1) * (x65 + 1))]) (rest := []) E (k_cut l D Y hX (s6 - s6 / (x65 + 1) * (x65 + 1)) H.size q67 h68) qw649 qw650 qw651 qw19 qw652 rfl rfl hd_X10_cut ⟨Nat.le_of_ble_eq_true rfl, Nat.le_of_ble_eq_true rfl⟩ (pre_xV hP hD hE (ci := 7) rfl hX.head) rfl hl.1 rfl (Nat.le_of_ble_eq_true rfl) dL_isActed_146 ⟨Nat.le_of_ble_eq_true rfl, Nat.le_of_ble_eq_true rfl⟩) hP hD hS hA (fun ws H locs hX hP hD hS => ?_)
    refine lv_iload hx hb dL_isActed_149 (lv_at hl 0 rfl) ?_
    refine lv_icmp_ne (tgt := 158) hx hb dL_isActed_151 (by decide) (fun c69 => ?_) (fun c69 => ?_)
    · have hf := ite_f c69 hf
      refine lv_iconst (v := 0) hx hb dL_isActed_158 (by decide) ?_
      rw [← hQ, ← Option.some.inj hf]
      refine W.widen (k := 3) (n := 90) (Nat.le_of_ble_eq_true rfl) (Nat.le_of_ble_eq_true rfl) ?_
      exact en_xz (wu := fun ws => ([(a_p1, .inl (Y.1, 3, .inl (upd f_p1 (2 : Int32).toNatClampNeg (s6 - s6 / (x65 + 1) * (x65 + 1))))), (a_p2, .inl (Y.1, 20, .inl f_p2)), (a_p3, .inl (Y.1, 3, .inl f_p3)), (a_p4, .inl (Y.1, 16, .inl f_p4))] ++ ws)) (u := ws) hx hb hr hlocks hX hP hD hS rfl (Or.inl rfl) dL_isActed_159
    have hf := ite_t c69 hf
    refine lv_iconst (v := 1) hx hb dL_isActed_154 (by decide) ?_
    refine lv_goto (tgt := 159) hx hb dL_isActed_155 (by decide) ?_
    rw [← hQ, ← Option.some.inj hf]
    refine W.widen (k := 3) (n := 90) (Nat.le_of_ble_eq_true rfl) (Nat.le_of_ble_eq_true rfl) ?_
    exact en_xz (wu := fun ws => ([(a_p1, .inl (Y.1, 3, .inl (upd f_p1 (2 : Int32).toNatClampNeg (s6 - s6 / (x65 + 1) * (x65 + 1))))), (a_p2, .inl (Y.1, 20, .inl f_p2)), (a_p3, .inl (Y.1, 3, .inl f_p3)), (a_p4, .inl (Y.1, 16, .inl f_p4))] ++ ws)) (u := ws) hx hb hr hlocks hX hP hD hS rfl (Or.inr rfl) dL_isActed_159
  have hf := ite_f c1 hf
  refine lv_aload_n hx hb dL_isActed_7 rfl (lv_at hl 1 rfl) ?_
  refine lv_iconst (v := 1) hx hb dL_isActed_8 (by decide) ?_
  refine va_iald hx hb hE.1 hP 0 0 rfl rfl (inb_in (by decide)) dL_isActed_9 ?_
  refine lv_aload_n hx hb dL_isActed_10 rfl (lv_at hl 1 rfl) ?_
  refine lv_iconst (v := 2) hx hb dL_isActed_11 (by decide) ?_
  refine va_iald hx hb hE.1 hP 0 0 rfl rfl (inb_in (by decide)) dL_isActed_12 ?_
  refine lv_iconst (v := 1) hx hb dL_isActed_13 (by decide) ?_
  refine lv_iadd hx hb dL_isActed_14 ?_
  refine lv_imul hx hb dL_isActed_15 ?_
  refine lv_sipush (v := 181) hx hb dL_isActed_16 (by decide) ?_
  refine jj_W (P := fun (w70 : Int32) => ∀ (H : Heap) (locs : List Loc) (ws : va_W) (ls : Array Slot), OX Y a_o v_o_a v_o_p ws → va_P D vwCl ([(a_p1, .inl (Y.1, 3, .inl f_p1)), (a_p2, .inl (Y.1, 20, .inl f_p2)), (a_p3, .inl (Y.1, 3, .inl f_p3)), (a_p4, .inl (Y.1, 16, .inl f_p4))] ++ ws) H → va_D A ([(a_p1, .inl (Y.1, 3, .inl f_p1)), (a_p2, .inl (Y.1, 20, .inl f_p2)), (a_p3, .inl (Y.1, 3, .inl f_p3)), (a_p4, .inl (Y.1, 16, .inl f_p4))] ++ ws) → va_S A s.heap H locs → lv_has ls 11 [(0, .ref a_o), (1, .ref a_p1), (4, .ref a_p4), (6, .int s6)] → W p l e rm_L_isActed s m args below meth c H locs 0 0 Q (F0 m 35 ls [.int w70])) hf (fun w70 hf H locs ws ls hX hP hD hS hl => ?_) (fun kk71 hkk71 hf => ?_)
  · refine lv_istore (lv' := [(7, .int w70), (0, .ref a_o), (1, .ref a_p1), (4, .ref a_p4), (6, .int s6)]) hx hb dL_isActed_35 hl (by decide) rfl (fun ls hl => ?_)
    refine lv_iload hx hb dL_isActed_37 (lv_at hl 0 rfl) ?_
    refine lv_if_eq (tgt := 79) hx hb dL_isActed_39 (by decide) (fun c72 => ?_) (fun c72 => ?_)
    · have hf := ite_t c72 hf
      refine lv_aload_n hx hb dL_isActed_79 rfl (lv_at hl 2 rfl) ?_
      refine lv_iconst (v := 2) hx hb dL_isActed_80 (by decide) ?_
      refine va_iald hx hb hE.1 hP 0 0 rfl rfl (inb_in (by decide)) dL_isActed_81 ?_
      refine nm_W hf (fun x73 hf => ?_)
      refine lv_istore (lv' := [(8, .int x73), (7, .int w70), (0, .ref a_o), (1, .ref a_p1), (4, .ref a_p4), (6, .int s6)]) hx hb dL_isActed_82 hl (by decide) rfl (fun ls hl => ?_)
      refine lv_aload_n hx hb dL_isActed_84 rfl (lv_at hl 3 rfl) ?_
      refine lv_iconst (v := 2) hx hb dL_isActed_85 (by decide) ?_
      refine lv_iload hx hb dL_isActed_86 (lv_at hl 5 rfl) ?_
      refine lv_iload hx hb dL_isActed_88 (lv_at hl 0 rfl) ?_
      refine lv_iconst (v := 1) hx hb dL_isActed_90 (by decide) ?_
      refine lv_iadd hx hb dL_isActed_91 ?_
      obtain ⟨g74, hf⟩ := gd_s hf
      refine lv_irem hx hb dL_isActed_92 (nzb_ne g74) ?_
      refine va_iast hx hb hE.1 hP hD hS 0 0 rfl rfl (inb_in (by decide)) dL_isActed_93 (fun H locs hP hD hS => ?_)
      have hP : va_P D vwCl ([(a_p1, .inl (Y.1, 3, .inl (upd f_p1 (2 : Int32).toNatClampNeg (s6 - s6 / (x73 + 1) * (x73 + 1))))), (a_p2, .inl (Y.1, 20, .inl f_p2)), (a_p3, .inl (Y.1, 3, .inl f_p3)), (a_p4, .inl (Y.1, 16, .inl f_p4))] ++ ws) H := hP
      have hD : va_D A ([(a_p1, .inl (Y.1, 3, .inl (upd f_p1 (2 : Int32).toNatClampNeg (s6 - s6 / (x73 + 1) * (x73 + 1))))), (a_p2, .inl (Y.1, 20, .inl f_p2)), (a_p3, .inl (Y.1, 3, .inl f_p3)), (a_p4, .inl (Y.1, 16, .inl f_p4))] ++ ws) := hD
      refine lv_aload_n hx hb dL_isActed_94 rfl (lv_at hl 2 rfl) ?_
      refine lv_iload hx hb dL_isActed_95 (lv_at hl 5 rfl) ?_
      refine lv_iload hx hb dL_isActed_97 (lv_at hl 0 rfl) ?_
      refine lv_iconst (v := 1) hx hb dL_isActed_99 (by decide) ?_
      refine lv_iadd hx hb dL_isActed_100 ?_
      refine lv_irem hx hb dL_isActed_101 (nzb_ne g74) ?_
      obtain ⟨q75, h76, hf⟩ := bd_s hf
      refine ak_i (run_V (As := [.int (s6 - s6 / (x73 + 1) * (x73 + 1))]) (rest := []) E (k_cut l D Y hX (s6 - s6 / (x73 + 1) * (x73 + 1)) H.size q75 h76) qw649 qw650 qw651 qw19 qw652 rfl rfl hd_X10_cut ⟨Nat.le_of_ble_eq_true rfl, Nat.le_of_ble_eq_true rfl⟩ (pre_xV hP hD hE (ci := 7) rfl hX.head) rfl hl.1 rfl (Nat.le_of_ble_eq_true rfl) dL_isActed_102 ⟨Nat.le_of_ble_eq_true rfl, Nat.le_of_ble_eq_true rfl⟩) hP hD hS hA (fun ws H locs hX hP hD hS => ?_)
      refine lv_iload hx hb dL_isActed_105 (lv_at hl 0 rfl) ?_
      refine lv_icmp_ne (tgt := 114) hx hb dL_isActed_107 (by decide) (fun c77 => ?_) (fun c77 => ?_)
      · have hf := ite_f c77 hf
        refine lv_iconst (v := 0) hx hb dL_isActed_114 (by decide) ?_
        rw [← hQ, ← Option.some.inj hf]
        refine W.widen (k := 3) (n := 90) (Nat.le_of_ble_eq_true rfl) (Nat.le_of_ble_eq_true rfl) ?_
        exact en_xz (wu := fun ws => ([(a_p1, .inl (Y.1, 3, .inl (upd f_p1 (2 : Int32).toNatClampNeg (s6 - s6 / (x73 + 1) * (x73 + 1))))), (a_p2, .inl (Y.1, 20, .inl f_p2)), (a_p3, .inl (Y.1, 3, .inl f_p3)), (a_p4, .inl (Y.1, 16, .inl f_p4))] ++ ws)) (u := ws) hx hb hr hlocks hX hP hD hS rfl (Or.inl rfl) dL_isActed_115
      have hf := ite_t c77 hf
      refine lv_iconst (v := 1) hx hb dL_isActed_110 (by decide) ?_
      refine lv_goto (tgt := 115) hx hb dL_isActed_111 (by decide) ?_
      rw [← hQ, ← Option.some.inj hf]
      refine W.widen (k := 3) (n := 90) (Nat.le_of_ble_eq_true rfl) (Nat.le_of_ble_eq_true rfl) ?_
      exact en_xz (wu := fun ws => ([(a_p1, .inl (Y.1, 3, .inl (upd f_p1 (2 : Int32).toNatClampNeg (s6 - s6 / (x73 + 1) * (x73 + 1))))), (a_p2, .inl (Y.1, 20, .inl f_p2)), (a_p3, .inl (Y.1, 3, .inl f_p3)), (a_p4, .inl (Y.1, 16, .inl f_p4))] ++ ws)) (u := ws) hx hb hr hlocks hX hP hD hS rfl (Or.inr rfl) dL_isActed_115
    have hf := ite_f c72 hf
    refine lv_aload hx hb dL_isActed_42 (lv_at hl 3 rfl) ?_
    refine lv_aload_n hx hb dL_isActed_44 rfl (lv_at hl 2 rfl) ?_
    refine lv_iconst (v := 2) hx hb dL_isActed_45 (by decide) ?_
    refine va_iald hx hb hE.1 hP 0 0 rfl rfl (inb_in (by decide)) dL_isActed_46 ?_
    refine lv_iload hx hb dL_isActed_47 (lv_at hl 4 rfl) ?_
    refine lv_iconst (v := 3) hx hb dL_isActed_49 (by decide) ?_
    refine lv_irem hx hb dL_isActed_50 (by decide) ?_
    obtain ⟨g78, hf⟩ := gd_s hf
    refine va_iast hx hb hE.1 hP hD hS 3 0 rfl rfl (inb_in g78) dL_isActed_51 (fun H locs hP hD hS => ?_)
    have hP : va_P D vwCl ([(a_p1, .inl (Y.1, 3, .inl f_p1)), (a_p2, .inl (Y.1, 20, .inl f_p2)), (a_p3, .inl (Y.1, 3, .inl f_p3)), (a_p4, .inl (Y.1, 16, .inl (upd f_p4 (f_p1 (2 : Int32).toNatClampNeg).toNatClampNeg (s6 - s6 / 3 * 3))))] ++ ws) H := hP
    have hD : va_D A ([(a_p1, .inl (Y.1, 3, .inl f_p1)), (a_p2, .inl (Y.1, 20, .inl f_p2)), (a_p3, .inl (Y.1, 3, .inl f_p3)), (a_p4, .inl (Y.1, 16, .inl (upd f_p4 (f_p1 (2 : Int32).toNatClampNeg).toNatClampNeg (s6 - s6 / 3 * 3))))] ++ ws) := hD
    refine lv_aload_n hx hb dL_isActed_52 rfl (lv_at hl 2 rfl) ?_
    refine lv_iconst (v := 2) hx hb dL_isActed_53 (by decide) ?_
    refine lv_dup2_11 hx hb dL_isActed_54 rfl rfl ?_
    refine va_iald hx hb hE.1 hP 0 0 rfl rfl (inb_in (by decide)) dL_isActed_55 ?_
    refine lv_iconst (v := 1) hx hb dL_isActed_56 (by decide) ?_
    refine lv_iadd hx hb dL_isActed_57 ?_
    refine va_iast hx hb hE.1 hP hD hS 0 0 rfl rfl (inb_in (by decide)) dL_isActed_58 (fun H locs hP hD hS => ?_)
    have hP : va_P D vwCl ([(a_p1, .inl (Y.1, 3, .inl (upd f_p1 (2 : Int32).toNatClampNeg ((f_p1 (2 : Int32).toNatClampNeg) + 1)))), (a_p2, .inl (Y.1, 20, .inl f_p2)), (a_p3, .inl (Y.1, 3, .inl f_p3)), (a_p4, .inl (Y.1, 16, .inl (upd f_p4 (f_p1 (2 : Int32).toNatClampNeg).toNatClampNeg (s6 - s6 / 3 * 3))))] ++ ws) H := hP
    have hD : va_D A ([(a_p1, .inl (Y.1, 3, .inl (upd f_p1 (2 : Int32).toNatClampNeg ((f_p1 (2 : Int32).toNatClampNeg) + 1)))), (a_p2, .inl (Y.1, 20, .inl f_p2)), (a_p3, .inl (Y.1, 3, .inl f_p3)), (a_p4, .inl (Y.1, 16, .inl (upd f_p4 (f_p1 (2 : Int32).toNatClampNeg).toNatClampNeg (s6 - s6 / 3 * 3))))] ++ ws) := hD
    refine lv_aload_n hx hb dL_isActed_59 rfl (lv_at hl 1 rfl) ?_
    refine lv_iload hx hb dL_isActed_60 (lv_at hl 4 rfl) ?_
    refine lv_iconst (v := 3) hx hb dL_isActed_62 (by decide) ?_
    refine lv_irem hx hb dL_isActed_63 (by decide) ?_
    obtain ⟨q79, h80, hf⟩ := bd_s hf
    refine ak_i (run_V (As := [.int (s6 - s6 / 3 * 3)]) (rest := []) E (k_add l D Y hX (s6 - s6 / 3 * 3) H.size q79 h80) qw629 qw630 qw631 qw19 qw632 rfl rfl hd_X10_add ⟨Nat.le_of_ble_eq_true rfl, Nat.le_of_ble_eq_true rfl⟩ (pre_xV hP hD hE (ci := 7) rfl hX.head) rfl hl.1 rfl (Nat.le_of_ble_eq_true rfl) dL_isActed_64 ⟨Nat.le_of_ble_eq_true rfl, Nat.le_of_ble_eq_true rfl⟩) hP hD hS hA (fun ws H locs hX hP hD hS => ?_)
    refine lv_aload_n hx hb dL_isActed_67 rfl (lv_at hl 2 rfl) ?_
    refine lv_iconst (v := 2) hx hb dL_isActed_68 (by decide) ?_
    refine va_iald hx hb hE.1 hP 0 0 rfl rfl (inb_in (by decide)) dL_isActed_69 ?_
    refine lv_icmp_ne (tgt := 77) hx hb dL_isActed_70 (by decide) (fun c81 => ?_) (fun c81 => ?_)
    · have hf := ite_f c81 hf
      refine lv_iconst (v := 0) hx hb dL_isActed_77 (by decide) ?_
      rw [← hQ, ← Option.some.inj hf]
      refine W.widen (k := 3) (n := 90) (Nat.le_of_ble_eq_true rfl) (Nat.le_of_ble_eq_true rfl) ?_
      exact en_xz (wu := fun ws => ([(a_p1, .inl (Y.1, 3, .inl (upd f_p1 (2 : Int32).toNatClampNeg ((f_p1 (2 : Int32).toNatClampNeg) + 1)))), (a_p2, .inl (Y.1, 20, .inl f_p2)), (a_p3, .inl (Y.1, 3, .inl f_p3)), (a_p4, .inl (Y.1, 16, .inl (upd f_p4 (f_p1 (2 : Int32).toNatClampNeg).toNatClampNeg (s6 - s6 / 3 * 3))))] ++ ws)) (u := ws) hx hb hr hlocks hX hP hD hS rfl (Or.inl rfl) dL_isActed_78
    have hf := ite_t c81 hf
    refine lv_iconst (v := 1) hx hb dL_isActed_73 (by decide) ?_
    refine lv_goto (tgt := 78) hx hb dL_isActed_74 (by decide) ?_
    rw [← hQ, ← Option.some.inj hf]
    refine W.widen (k := 3) (n := 90) (Nat.le_of_ble_eq_true rfl) (Nat.le_of_ble_eq_true rfl) ?_
    exact en_xz (wu := fun ws => ([(a_p1, .inl (Y.1, 3, .inl (upd f_p1 (2 : Int32).toNatClampNeg ((f_p1 (2 : Int32).toNatClampNeg) + 1)))), (a_p2, .inl (Y.1, 20, .inl f_p2)), (a_p3, .inl (Y.1, 3, .inl f_p3)), (a_p4, .inl (Y.1, 16, .inl (upd f_p4 (f_p1 (2 : Int32).toNatClampNeg).toNatClampNeg (s6 - s6 / 3 * 3))))] ++ ws)) (u := ws) hx hb hr hlocks hX hP hD hS rfl (Or.inr rfl) dL_isActed_78
  refine lv_icmp_ge (tgt := 34) hx hb dL_isActed_19 (by decide) (fun c82 => ?_) (fun c82 => ?_)
  · have hf := ite_t c82 hf
    refine lv_iconst (v := 0) hx hb dL_isActed_34 (by decide) ?_
    exact hkk71 _ hf _ _ _ _ hX hP hD hS (lv_sub hl [0, 1, 4, 6] rfl)
  have hf := ite_f c82 hf
  refine lv_aload_n hx hb dL_isActed_22 rfl (lv_at hl 1 rfl) ?_
  refine lv_iconst (v := 2) hx hb dL_isActed_23 (by decide) ?_
  refine va_iald hx hb hE.1 hP 0 0 rfl rfl (inb_in (by decide)) dL_isActed_24 ?_
  refine lv_bipush (v := 16) hx hb dL_isActed_25 (by decide) ?_
  refine lv_icmp_ge (tgt := 34) hx hb dL_isActed_27 (by decide) (fun c83 => ?_) (fun c83 => ?_)
  · have hf := ite_t c83 hf
    refine lv_iconst (v := 0) hx hb dL_isActed_34 (by decide) ?_
    exact hkk71 _ hf _ _ _ _ hX hP hD hS (lv_sub hl [0, 1, 4, 6] rfl)
  have hf := ite_f c83 hf
  refine lv_iconst (v := 1) hx hb dL_isActed_30 (by decide) ?_
  refine lv_goto (tgt := 35) hx hb dL_isActed_31 (by decide) ?_
  exact hkk71 _ hf _ _ _ _ hX hP hD hS (lv_sub hl [0, 1, 4, 6] rfl)
