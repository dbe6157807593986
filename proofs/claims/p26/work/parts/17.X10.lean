def f_X10_isWithin (s0 : Int32) (s1 : Int32) (s2 : Int32) : Int32 :=
  (if s0 < s1 then 0 else (if s2 < s0 then 0 else 1))
abbrev rm_X10_isWithin : Room := { frames := 1, cells := 0, slots := 0, locals := 24 }
set_option maxHeartbeats 4000000 in
set_option maxRecDepth 100000 in
theorem c_X10_isWithin (l : Launch) (D : va_G) (Y : ClassId × ClassId × ClassId × ClassId) (s0 : Int32) (s1 : Int32) (s2 : Int32) (R : Int32) (hf : f_X10_isWithin s0 s1 s2 = R) : Met l yX10_isWithin (ws_ yX10_isWithin cX10_isWithin 3 (some .boolean)) rm_X10_isWithin (va_Pc [.int s0, .int s1, .int s2] (RO D Y [])) (OZ R) 0 0 (fun _ => False) := by
  refine ro_start (by decide) (Nat.le_of_ble_eq_true rfl) ?_
  intro p e s m below meth c ls hx hb hml hr hlocks hown hts hP hE hl
  generalize hargs : List.toArray _ = args at hts ⊢
  have hown : s.vm.findClass RX10 = some m.cls := hown
  have E : EN p m c cX10_isWithin 3 s args RX10 := ⟨hx, hb, hml, hown, hts⟩
  have hl : lv_has ls 3 [(0, .int s0), (1, .int s1), (2, .int s2)] := hl
  generalize hQ : MQ below _ args s 0 0 _ = Q
  unfold f_X10_isWithin at hf
  refine lv_iload_n hx hb dX10_isWithin_0 rfl (lv_at hl 0 rfl) ?_
  refine lv_iload_n hx hb dX10_isWithin_1 rfl (lv_at hl 1 rfl) ?_
  refine lv_icmp_lt (tgt := 14) hx hb dX10_isWithin_2 (by decide) (fun c1 => ?_) (fun c1 => ?_)
  · have hf := ite_t c1 hf
    refine lv_iconst (v := 0) hx hb dX10_isWithin_14 (by decide) ?_
    subst hf
    subst hQ
    exact en_oz hx hb hr hlocks rfl (Or.inl rfl) dX10_isWithin_15
  have hf := ite_f c1 hf
  refine lv_iload_n hx hb dX10_isWithin_5 rfl (lv_at hl 0 rfl) ?_
  refine lv_iload_n hx hb dX10_isWithin_6 rfl (lv_at hl 2 rfl) ?_
  refine lv_icmp_gt (tgt := 14) hx hb dX10_isWithin_7 (by decide) (fun c2 => ?_) (fun c2 => ?_)
  · have hf := ite_t c2 hf
    refine lv_iconst (v := 0) hx hb dX10_isWithin_14 (by decide) ?_
    subst hf
    subst hQ
    exact en_oz hx hb hr hlocks rfl (Or.inl rfl) dX10_isWithin_15
  have hf := ite_f c2 hf
  refine lv_iconst (v := 1) hx hb dX10_isWithin_10 (by decide) ?_
  refine lv_goto (tgt := 15) hx hb dX10_isWithin_11 (by decide) ?_
  subst hf
  subst hQ
  exact en_oz hx hb hr hlocks rfl (Or.inr rfl) dX10_isWithin_15

def f_X10_append (s1 : Int32) (v_t_pad_length : Int32) (f_t_pad_signs : Nat → Int32) : Option (Int32 × Int32 × (Nat → Int32)) :=
  (if (f_X10_isWithin s1 33 126) = 0 then some ((-1), v_t_pad_length, f_t_pad_signs) else (if v_t_pad_length < 80 then bd (f_X3_put ((s1.toUInt32 % 65536).toInt32) v_t_pad_length f_t_pad_signs) (fun q4 => some (q4.1, q4.1, q4.2)) else some ((-3), v_t_pad_length, f_t_pad_signs)))
abbrev rm_X10_append : Room := { frames := 2, cells := 0, slots := 0, locals := 46 }
set_option maxHeartbeats 4000000 in
set_option maxRecDepth 100000 in
theorem c_X10_append (l : Launch) (D : va_G) (Y : ClassId × ClassId × ClassId × ClassId) (a_t a_t_now a_t_trial a_t_snapshot a_t_history a_t_pad a_t_reader a_t_ringing a_t_homeward a_t_pad_signs : Nat) (v_t_hasSnapshot : Int32) (v_t_pad_length : Int32) (f_t_pad_signs : Nat → Int32) (s1 : Int32) (sz : Nat) (R : Int32 × Int32 × (Nat → Int32)) (hf : f_X10_append s1 v_t_pad_length f_t_pad_signs = some R) : Met l yX10_append (ws_ yX10_append cX10_append 2 (some .int)) rm_X10_append (va_Pc [.ref a_t, .int s1] (RW D Y sz [(a_t, .inr (7, [.ref a_t_now, .ref a_t_trial, .ref a_t_snapshot, .int v_t_hasSnapshot, .ref a_t_history, .ref a_t_pad, .ref a_t_reader, .ref a_t_ringing, .ref a_t_homeward])), (a_t_pad, .inr (3, [.ref a_t_pad_signs, .int v_t_pad_length])), (a_t_pad_signs, .inl (Y.2.1, 80, .inl f_t_pad_signs))])) (QI D R.1 [(a_t, .inr (7, [.ref a_t_now, .ref a_t_trial, .ref a_t_snapshot, .int v_t_hasSnapshot, .ref a_t_history, .ref a_t_pad, .ref a_t_reader, .ref a_t_ringing, .ref a_t_homeward])), (a_t_pad, .inr (3, [.ref a_t_pad_signs, .int R.2.1])), (a_t_pad_signs, .inl (Y.2.1, 80, .inl R.2.2))] (va_A [(a_t, .inr (7, [.ref a_t_now, .ref a_t_trial, .ref a_t_snapshot, .int v_t_hasSnapshot, .ref a_t_history, .ref a_t_pad, .ref a_t_reader, .ref a_t_ringing, .ref a_t_homeward])), (a_t_pad, .inr (3, [.ref a_t_pad_signs, .int v_t_pad_length])), (a_t_pad_signs, .inl (Y.2.1, 80, .inl f_t_pad_signs))] sz)) 0 0 (va_A [(a_t, .inr (7, [.ref a_t_now, .ref a_t_trial, .ref a_t_snapshot, .int v_t_hasSnapshot, .ref a_t_history, .ref a_t_pad, .ref a_t_reader, .ref a_t_ringing, .ref a_t_homeward])), (a_t_pad, .inr (3, [.ref a_t_pad_signs, .int v_t_pad_length])), (a_t_pad_signs, .inl (Y.2.1, 80, .inl f_t_pad_signs))] sz) := by
  refine rw_start (Qc := fun A => QI D R.1 [(a_t, .inr (7, [.ref a_t_now, .ref a_t_trial, .ref a_t_snapshot, .int v_t_hasSnapshot, .ref a_t_history, .ref a_t_pad, .ref a_t_reader, .ref a_t_ringing, .ref a_t_homeward])), (a_t_pad, .inr (3, [.ref a_t_pad_signs, .int R.2.1])), (a_t_pad_signs, .inl (Y.2.1, 80, .inl R.2.2))] A) (by decide) (Nat.le_of_ble_eq_true rfl) ?_
  intro p e s m below meth c ls A hx hb hml hr hlocks hown hts hnm hA hP hD hS hE hl
  generalize hargs : List.toArray _ = args at hts ⊢
  have hown : s.vm.findClass RX10 = some m.cls := hown
  have E : EN p m c cX10_append 2 s args RX10 := ⟨hx, hb, hml, hown, hts⟩
  have hl : lv_has ls 2 [(0, .ref a_t), (1, .int s1)] := hl
  generalize hQ : MQ below _ args s 0 0 _ = Q
  unfold f_X10_append at hf
  refine lv_iload_n hx hb dX10_append_0 rfl (lv_at hl 1 rfl) ?_
  refine lv_bipush (v := 33) hx hb dX10_append_1 (by decide) ?_
  refine lv_bipush (v := 126) hx hb dX10_append_3 (by decide) ?_
  refine af_oz (run_S (As := [.int s1, .int 33, .int 126]) (rest := []) E (c_X10_isWithin l D Y s1 33 126 (f_X10_isWithin s1 33 126) rfl) qw384 qw385 qw19 qw386 rfl rfl hd_X10_isWithin ⟨Nat.le_of_ble_eq_true rfl, Nat.le_of_ble_eq_true rfl⟩ (pre_roS hP hE [] rfl) rfl hl.1 rfl (Nat.le_of_ble_eq_true rfl) dX10_append_5 ⟨Nat.zero_le _, Nat.zero_le _⟩) (fun z1 => ?_)
  refine lv_if_ne (tgt := 13) hx hb dX10_append_8 (by decide) (fun c2 => ?_) (fun c2 => ?_)
  · have hf := ite_f c2 hf
    refine lv_aload_n hx hb dX10_append_13 rfl (lv_at hl 0 rfl) ?_
    refine va_get (D := D) (ci := 7) (v := .ref a_t_pad) (C := RX10) (T := TX10) (N := 9) hx hb hts inX10 hown hE.1 hP 0 rfl rfl 5 (by decide) (hts _ qw326) (fun _ h9 => h9) rfl dX10_append_14 ?_
    refine va_getN (D := D) (ci := 3) (v := .int v_t_pad_length) (C := RX3) (T := TX3) (N := 2) hx hb hts inX3 hown hE.1 hP 1 rfl rfl 1 (by decide) (va_Nw.use rfl (hE.2.1 _ qw109)) (fun _ h9 => h9) rfl dX10_append_17 ?_
    refine lv_aload_n hx hb dX10_append_20 rfl (lv_at hl 0 rfl) ?_
    refine va_get (D := D) (ci := 7) (v := .ref a_t_pad) (C := RX10) (T := TX10) (N := 9) hx hb hts inX10 hown hE.1 hP 0 rfl rfl 5 (by decide) (hts _ qw326) (fun _ h9 => h9) rfl dX10_append_21 ?_
    refine va_getN (D := D) (ci := 3) (v := .ref a_t_pad_signs) (C := RX3) (T := TX3) (N := 2) hx hb hts inX3 hown hE.1 hP 1 rfl rfl 0 (by decide) (va_Nw.use rfl (hE.2.1 _ qw107)) (fun _ h9 => h9) rfl dX10_append_24 ?_
    refine va_alen (v := 80) hx hb hE.1 hP 2 1 rfl rfl rfl dX10_append_27 ?_
    refine lv_icmp_lt (tgt := 34) hx hb dX10_append_28 (by decide) (fun c3 => ?_) (fun c3 => ?_)
    · have hf := ite_t c3 hf
      refine lv_aload_n hx hb dX10_append_34 rfl (lv_at hl 0 rfl) ?_
      refine va_get (D := D) (ci := 7) (v := .ref a_t_pad) (C := RX10) (T := TX10) (N := 9) hx hb hts inX10 hown hE.1 hP 0 rfl rfl 5 (by decide) (hts _ qw326) (fun _ h9 => h9) rfl dX10_append_35 ?_
      refine lv_iload_n hx hb dX10_append_38 rfl (lv_at hl 1 rfl) ?_
      refine lv_i2c hx hb dX10_append_39 rfl ?_
      obtain ⟨q4, h5, hf⟩ := bd_s hf
      refine af_v0 (wc := [(a_t_pad, .inr (3, [.ref a_t_pad_signs, .int v_t_pad_length])), (a_t_pad_signs, .inl (Y.2.1, 80, .inl f_t_pad_signs))]) (wr := [(a_t, .inr (7, [.ref a_t_now, .ref a_t_trial, .ref a_t_snapshot, .int v_t_hasSnapshot, .ref a_t_history, .ref a_t_pad, .ref a_t_reader, .ref a_t_ringing, .ref a_t_homeward]))]) (wn := [(a_t, .inr (7, [.ref a_t_now, .ref a_t_trial, .ref a_t_snapshot, .int v_t_hasSnapshot, .ref a_t_history, .ref a_t_pad, .ref a_t_reader, .ref a_t_ringing, .ref a_t_homeward])), (a_t_pad, .inr (3, [.ref a_t_pad_signs, .int q4.1])), (a_t_pad_signs, .inl (Y.2.1, 80, .inl q4.2))]) (run_V (As := [.int ((s1.toUInt32 % 65536).toInt32)]) (rest := []) E (c_X3_put l D Y a_t_pad a_t_pad_signs v_t_pad_length f_t_pad_signs ((s1.toUInt32 % 65536).toInt32) s.heap.size q4 h5) qw679 qw680 qw681 qw22 qw682 rfl rfl hd_X3_put ⟨Nat.le_of_ble_eq_true rfl, Nat.le_of_ble_eq_true rfl⟩ (pre_rwV hP hD hE [1, 2] rfl (by decide) rfl (ci := 3) (q0 := 1) rfl rfl) rfl hl.1 rfl (Nat.le_of_ble_eq_true rfl) dX10_append_40 ⟨Nat.zero_le _, Nat.zero_le _⟩) hP hD hS hA [1, 2] [0] [0, 1, 2] rfl rfl (by decide) (by decide) rfl rfl (by decide) (fun H locs  hP hD hS => ?_)
      refine lv_aload_n hx hb dX10_append_43 rfl (lv_at hl 0 rfl) ?_
      refine va_get (D := D) (ci := 7) (v := .ref a_t_pad) (C := RX10) (T := TX10) (N := 9) hx hb hts inX10 hown hE.1 hP 0 rfl rfl 5 (by decide) (hts _ qw326) (fun _ h9 => h9) rfl dX10_append_44 ?_
      refine va_getN (D := D) (ci := 3) (v := .int q4.1) (C := RX3) (T := TX3) (N := 2) hx hb hts inX3 hown hE.1 hP 1 rfl rfl 1 (by decide) (va_Nw.use rfl (hE.2.1 _ qw109)) (fun _ h9 => h9) rfl dX10_append_47 ?_
      obtain rfl := Option.some.inj hf
      subst hQ
      exact en_i hx hb hr hlocks hP hD hS rfl dX10_append_50
    have hf := ite_f c3 hf
    refine lv_bipush (v := (-3)) hx hb dX10_append_31 (by decide) ?_
    obtain rfl := Option.some.inj hf
    subst hQ
    exact en_i hx hb hr hlocks hP hD hS rfl dX10_append_33
  have hf := ite_t c2 hf
  refine lv_iconst (v := (-1)) hx hb dX10_append_11 (by decide) ?_
  obtain rfl := Option.some.inj hf
  subst hQ
  exact en_i hx hb hr hlocks hP hD hS rfl dX10_append_12

def f_X10_clear (v_t_pad_length : Int32) : Int32 × Int32 :=
  (v_t_pad_length, 0)
abbrev rm_X10_clear : Room := { frames := 1, cells := 0, slots := 0, locals := 24 }
set_option maxHeartbeats 4000000 in
set_option maxRecDepth 100000 in
theorem c_X10_clear (l : Launch) (D : va_G) (Y : ClassId × ClassId × ClassId × ClassId) (a_t a_t_now a_t_trial a_t_snapshot a_t_history a_t_pad a_t_reader a_t_ringing a_t_homeward a_t_pad_signs : Nat) (v_t_hasSnapshot : Int32) (v_t_pad_length : Int32) (sz : Nat) (R : Int32 × Int32) (hf : f_X10_clear v_t_pad_length = R) : Met l yX10_clear (ws_ yX10_clear cX10_clear 2 (some .int)) rm_X10_clear (va_Pc [.ref a_t] (RW D Y sz [(a_t, .inr (7, [.ref a_t_now, .ref a_t_trial, .ref a_t_snapshot, .int v_t_hasSnapshot, .ref a_t_history, .ref a_t_pad, .ref a_t_reader, .ref a_t_ringing, .ref a_t_homeward])), (a_t_pad, .inr (3, [.ref a_t_pad_signs, .int v_t_pad_length]))])) (QI D R.1 [(a_t, .inr (7, [.ref a_t_now, .ref a_t_trial, .ref a_t_snapshot, .int v_t_hasSnapshot, .ref a_t_history, .ref a_t_pad, .ref a_t_reader, .ref a_t_ringing, .ref a_t_homeward])), (a_t_pad, .inr (3, [.ref a_t_pad_signs, .int R.2]))] (va_A [(a_t, .inr (7, [.ref a_t_now, .ref a_t_trial, .ref a_t_snapshot, .int v_t_hasSnapshot, .ref a_t_history, .ref a_t_pad, .ref a_t_reader, .ref a_t_ringing, .ref a_t_homeward])), (a_t_pad, .inr (3, [.ref a_t_pad_signs, .int v_t_pad_length]))] sz)) 0 0 (va_A [(a_t, .inr (7, [.ref a_t_now, .ref a_t_trial, .ref a_t_snapshot, .int v_t_hasSnapshot, .ref a_t_history, .ref a_t_pad, .ref a_t_reader, .ref a_t_ringing, .ref a_t_homeward])), (a_t_pad, .inr (3, [.ref a_t_pad_signs, .int v_t_pad_length]))] sz) := by
  refine rw_start (Qc := fun A => QI D R.1 [(a_t, .inr (7, [.ref a_t_now, .ref a_t_trial, .ref a_t_snapshot, .int v_t_hasSnapshot, .ref a_t_history, .ref a_t_pad, .ref a_t_reader, .ref a_t_ringing, .ref a_t_homeward])), (a_t_pad, .inr (3, [.ref a_t_pad_signs, .int R.2]))] A) (by decide) (Nat.le_of_ble_eq_true rfl) ?_
  intro p e s m below meth c ls A hx hb hml hr hlocks hown hts hnm hA hP hD hS hE hl
  generalize hargs : List.toArray _ = args at hts ⊢
  have hown : s.vm.findClass RX10 = some m.cls := hown
  have E : EN p m c cX10_clear 2 s args RX10 := ⟨hx, hb, hml, hown, hts⟩
  have hl : lv_has ls 2 [(0, .ref a_t)] := hl
  generalize hQ : MQ below _ args s 0 0 _ = Q
  unfold f_X10_clear at hf
  refine lv_aload_n hx hb dX10_clear_0 rfl (lv_at hl 0 rfl) ?_
  refine va_get (D := D) (ci := 7) (v := .ref a_t_pad) (C := RX10) (T := TX10) (N := 9) hx hb hts inX10 hown hE.1 hP 0 rfl rfl 5 (by decide) (hts _ qw326) (fun _ h9 => h9) rfl dX10_clear_1 ?_
  refine va_getN (D := D) (ci := 3) (v := .int v_t_pad_length) (C := RX3) (T := TX3) (N := 2) hx hb hts inX3 hown hE.1 hP 1 rfl rfl 1 (by decide) (va_Nw.use rfl (hE.2.1 _ qw109)) (fun _ h9 => h9) rfl dX10_clear_4 ?_
  refine lv_istore_n (lv' := [(1, .int v_t_pad_length), (0, .ref a_t)]) hx hb dX10_clear_7 rfl hl (by decide) rfl (fun ls hl => ?_)
  refine lv_aload_n hx hb dX10_clear_8 rfl (lv_at hl 1 rfl) ?_
  refine va_get (D := D) (ci := 7) (v := .ref a_t_pad) (C := RX10) (T := TX10) (N := 9) hx hb hts inX10 hown hE.1 hP 0 rfl rfl 5 (by decide) (hts _ qw326) (fun _ h9 => h9) rfl dX10_clear_9 ?_
  refine lv_iconst (v := 0) hx hb dX10_clear_12 (by decide) ?_
  refine va_putN (D := D) (ci := 3) (v := .int 0) (ty := .int) (C := RX3) (T := TX3) (N := 2) hx hb hts inX3 tyX3 tyX3_ok nmX3 hown hE.1 hP hD hS 1 rfl rfl 1 (by decide) (va_Nw.use rfl (hE.2.1 _ qw109)) (fun _ h9 => h9) rfl (tyX3_ok 1 (by decide)) rfl rfl (Nat.le_of_ble_eq_true rfl) dX10_clear_13 (fun H locs hP hD hS => ?_)
  have hP : va_P D vwCl [(a_t, .inr (7, [.ref a_t_now, .ref a_t_trial, .ref a_t_snapshot, .int v_t_hasSnapshot, .ref a_t_history, .ref a_t_pad, .ref a_t_reader, .ref a_t_ringing, .ref a_t_homeward])), (a_t_pad, .inr (3, [.ref a_t_pad_signs, .int 0]))] H := hP
  have hD : va_D A [(a_t, .inr (7, [.ref a_t_now, .ref a_t_trial, .ref a_t_snapshot, .int v_t_hasSnapshot, .ref a_t_history, .ref a_t_pad, .ref a_t_reader, .ref a_t_ringing, .ref a_t_homeward])), (a_t_pad, .inr (3, [.ref a_t_pad_signs, .int 0]))] := hD
  refine lv_iload_n hx hb dX10_clear_16 rfl (lv_at hl 0 rfl) ?_
  subst hf
  subst hQ
  exact en_i hx hb hr hlocks hP hD hS rfl dX10_clear_17

def f_X10_fault (s1 : Int32) (v_t_now_bells : Int32) (v_t_pad_length : Int32) (f_t_pad_signs : Nat → Int32) (v_t_reader_changes : Int32) (v_t_reader_made : Int32) (v_t_reader_lastPlace : Int32) (v_t_reader_crossed : Int32) (f_t_reader_places : Nat → Int32) : Option (Int32 × Int32 × Int32 × Int32 × Int32 × (Nat → Int32)) :=
  (if s1 = 0 then bd (f_X2_read v_t_pad_length v_t_now_bells 80 v_t_reader_changes v_t_reader_made v_t_reader_lastPlace v_t_reader_crossed f_t_reader_places f_t_pad_signs) (fun q5 => some (q5.1, q5.2.1, q5.2.2.1, q5.2.2.2.1, q5.2.2.2.2.1, q5.2.2.2.2.2)) else (if s1 = 1 then bd (f_X3_faultAsTouch v_t_pad_length f_t_pad_signs) (fun q3 => some (q3, v_t_reader_changes, v_t_reader_made, v_t_reader_lastPlace, v_t_reader_crossed, f_t_reader_places)) else some ((-1), v_t_reader_changes, v_t_reader_made, v_t_reader_lastPlace, v_t_reader_crossed, f_t_reader_places)))
abbrev rm_X10_fault : Room := { frames := 6, cells := 0, slots := 0, locals := 131 }
set_option maxHeartbeats 4000000 in
set_option maxRecDepth 100000 in
theorem c_X10_fault (l : Launch) (D : va_G) (Y : ClassId × ClassId × ClassId × ClassId) (a_t a_t_now a_t_trial a_t_snapshot a_t_history a_t_pad a_t_reader a_t_ringing a_t_homeward a_t_now_places a_t_now_kinds a_t_pad_signs a_t_reader_places : Nat) (v_t_hasSnapshot : Int32) (v_t_now_bells : Int32) (v_t_now_changes : Int32) (v_t_now_bob : Int32) (v_t_now_single : Int32) (v_t_now_leads : Int32) (v_t_pad_length : Int32) (f_t_pad_signs : Nat → Int32) (v_t_reader_changes : Int32) (v_t_reader_made : Int32) (v_t_reader_lastPlace : Int32) (v_t_reader_crossed : Int32) (f_t_reader_places : Nat → Int32) (s1 : Int32) (sz : Nat) (R : Int32 × Int32 × Int32 × Int32 × Int32 × (Nat → Int32)) (hf : f_X10_fault s1 v_t_now_bells v_t_pad_length f_t_pad_signs v_t_reader_changes v_t_reader_made v_t_reader_lastPlace v_t_reader_crossed f_t_reader_places = some R) : Met l yX10_fault (ws_ yX10_fault cX10_fault 2 (some .int)) rm_X10_fault (va_Pc [.ref a_t, .int s1] (RW D Y sz [(a_t, .inr (7, [.ref a_t_now, .ref a_t_trial, .ref a_t_snapshot, .int v_t_hasSnapshot, .ref a_t_history, .ref a_t_pad, .ref a_t_reader, .ref a_t_ringing, .ref a_t_homeward])), (a_t_now, .inr (6, [.int v_t_now_bells, .int v_t_now_changes, .int v_t_now_bob, .int v_t_now_single, .int v_t_now_leads, .ref a_t_now_places, .ref a_t_now_kinds])), (a_t_pad, .inr (3, [.ref a_t_pad_signs, .int v_t_pad_length])), (a_t_pad_signs, .inl (Y.2.1, 80, .inl f_t_pad_signs)), (a_t_reader, .inr (2, [.ref a_t_reader_places, .int v_t_reader_changes, .int v_t_reader_made, .int v_t_reader_lastPlace, .int v_t_reader_crossed])), (a_t_reader_places, .inl (Y.1, 20, .inl f_t_reader_places))])) (QI D R.1 [(a_t, .inr (7, [.ref a_t_now, .ref a_t_trial, .ref a_t_snapshot, .int v_t_hasSnapshot, .ref a_t_history, .ref a_t_pad, .ref a_t_reader, .ref a_t_ringing, .ref a_t_homeward])), (a_t_now, .inr (6, [.int v_t_now_bells, .int v_t_now_changes, .int v_t_now_bob, .int v_t_now_single, .int v_t_now_leads, .ref a_t_now_places, .ref a_t_now_kinds])), (a_t_pad, .inr (3, [.ref a_t_pad_signs, .int v_t_pad_length])), (a_t_pad_signs, .inl (Y.2.1, 80, .inl f_t_pad_signs)), (a_t_reader, .inr (2, [.ref a_t_reader_places, .int R.2.1, .int R.2.2.1, .int R.2.2.2.1, .int R.2.2.2.2.1])), (a_t_reader_places, .inl (Y.1, 20, .inl R.2.2.2.2.2))] (va_A [(a_t, .inr (7, [.ref a_t_now, .ref a_t_trial, .ref a_t_snapshot, .int v_t_hasSnapshot, .ref a_t_history, .ref a_t_pad, .ref a_t_reader, .ref a_t_ringing, .ref a_t_homeward])), (a_t_now, .inr (6, [.int v_t_now_bells, .int v_t_now_changes, .int v_t_now_bob, .int v_t_now_single, .int v_t_now_leads, .ref a_t_now_places, .ref a_t_now_kinds])), (a_t_pad, .inr (3, [.ref a_t_pad_signs, .int v_t_pad_length])), (a_t_pad_signs, .inl (Y.2.1, 80, .inl f_t_pad_signs)), (a_t_reader, .inr (2, [.ref a_t_reader_places, .int v_t_reader_changes, .int v_t_reader_made, .int v_t_reader_lastPlace, .int v_t_reader_crossed])), (a_t_reader_places, .inl (Y.1, 20, .inl f_t_reader_places))] sz)) 0 0 (va_A [(a_t, .inr (7, [.ref a_t_now, .ref a_t_trial, .ref a_t_snapshot, .int v_t_hasSnapshot, .ref a_t_history, .ref a_t_pad, .ref a_t_reader, .ref a_t_ringing, .ref a_t_homeward])), (a_t_now, .inr (6, [.int v_t_now_bells, .int v_t_now_changes, .int v_t_now_bob, .int v_t_now_single, .int v_t_now_leads, .ref a_t_now_places, .ref a_t_now_kinds])), (a_t_pad, .inr (3, [.ref a_t_pad_signs, .int v_t_pad_length])), (a_t_pad_signs, .inl (Y.2.1, 80, .inl f_t_pad_signs)), (a_t_reader, .inr (2, [.ref a_t_reader_places, .int v_t_reader_changes, .int v_t_reader_made, .int v_t_reader_lastPlace, .int v_t_reader_crossed])), (a_t_reader_places, .inl (Y.1, 20, .inl f_t_reader_places))] sz) := by
  refine rw_start (Qc := fun A => QI D R.1 [(a_t, .inr (7, [.ref a_t_now, .ref a_t_trial, .ref a_t_snapshot, .int v_t_hasSnapshot, .ref a_t_history, .ref a_t_pad, .ref a_t_reader, .ref a_t_ringing, .ref a_t_homeward])), (a_t_now, .inr (6, [.int v_t_now_bells, .int v_t_now_changes, .int v_t_now_bob, .int v_t_now_single, .int v_t_now_leads, .ref a_t_now_places, .ref a_t_now_kinds])), (a_t_pad, .inr (3, [.ref a_t_pad_signs, .int v_t_pad_length])), (a_t_pad_signs, .inl (Y.2.1, 80, .inl f_t_pad_signs)), (a_t_reader, .inr (2, [.ref a_t_reader_places, .int R.2.1, .int R.2.2.1, .int R.2.2.2.1, .int R.2.2.2.2.1])), (a_t_reader_places, .inl (Y.1, 20, .inl R.2.2.2.2.2))] A) (by decide) (Nat.le_of_ble_eq_true rfl) ?_
  intro p e s m below meth c ls A hx hb hml hr hlocks hown hts hnm hA hP hD hS hE hl
  generalize hargs : List.toArray _ = args at hts ⊢
  have hown : s.vm.findClass RX10 = some m.cls := hown
  have E : EN p m c cX10_fault 2 s args RX10 := ⟨hx, hb, hml, hown, hts⟩
  have hl : lv_has ls 2 [(0, .ref a_t), (1, .int s1)] := hl
  generalize hQ : MQ below _ args s 0 0 _ = Q
  unfold f_X10_fault at hf
  refine lv_iload_n hx hb dX10_fault_0 rfl (lv_at hl 1 rfl) ?_
  refine lv_if_ne (tgt := 33) hx hb dX10_fault_1 (by decide) (fun c1 => ?_) (fun c1 => ?_)
  · have hf := ite_f c1 hf
    refine lv_iload_n hx hb dX10_fault_33 rfl (lv_at hl 1 rfl) ?_
    refine lv_iconst (v := 1) hx hb dX10_fault_34 (by decide) ?_
    refine lv_icmp_ne (tgt := 46) hx hb dX10_fault_35 (by decide) (fun c2 => ?_) (fun c2 => ?_)
    · have hf := ite_f c2 hf
      refine lv_iconst (v := (-1)) hx hb dX10_fault_46 (by decide) ?_
      obtain rfl := Option.some.inj hf
      subst hQ
      exact en_i hx hb hr hlocks hP hD hS rfl dX10_fault_47
    have hf := ite_t c2 hf
    refine lv_aload_n hx hb dX10_fault_38 rfl (lv_at hl 0 rfl) ?_
    refine va_get (D := D) (ci := 7) (v := .ref a_t_pad) (C := RX10) (T := TX10) (N := 9) hx hb hts inX10 hown hE.1 hP 0 rfl rfl 5 (by decide) (hts _ qw326) (fun _ h9 => h9) rfl dX10_fault_39 ?_
    obtain ⟨q3, h4, hf⟩ := bd_s hf
    refine af_oi (run_V (As := []) (rest := []) E (c_X3_faultAsTouch l D Y a_t_pad a_t_pad_signs v_t_pad_length f_t_pad_signs q3 h4) qw687 qw688 qw689 qw22 qw690 rfl rfl hd_X3_faultAsTouch ⟨Nat.le_of_ble_eq_true rfl, Nat.le_of_ble_eq_true rfl⟩ (pre_roV hP hE [2, 3] rfl (ci := 3) (q0 := 2) rfl rfl) rfl hl.1 rfl (Nat.le_of_ble_eq_true rfl) dX10_fault_42 ⟨Nat.zero_le _, Nat.zero_le _⟩) ?_
    obtain rfl := Option.some.inj hf
    subst hQ
    exact en_i hx hb hr hlocks hP hD hS rfl dX10_fault_45
  have hf := ite_t c1 hf
  refine lv_aload_n hx hb dX10_fault_4 rfl (lv_at hl 0 rfl) ?_
  refine va_get (D := D) (ci := 7) (v := .ref a_t_reader) (C := RX10) (T := TX10) (N := 9) hx hb hts inX10 hown hE.1 hP 0 rfl rfl 6 (by decide) (hts _ qw327) (fun _ h9 => h9) rfl dX10_fault_5 ?_
  refine lv_aload_n hx hb dX10_fault_8 rfl (lv_at hl 0 rfl) ?_
  refine va_get (D := D) (ci := 7) (v := .ref a_t_pad) (C := RX10) (T := TX10) (N := 9) hx hb hts inX10 hown hE.1 hP 0 rfl rfl 5 (by decide) (hts _ qw326) (fun _ h9 => h9) rfl dX10_fault_9 ?_
  refine va_getN (D := D) (ci := 3) (v := .ref a_t_pad_signs) (C := RX3) (T := TX3) (N := 2) hx hb hts inX3 hown hE.1 hP 2 rfl rfl 0 (by decide) (va_Nw.use rfl (hE.2.1 _ qw107)) (fun _ h9 => h9) rfl dX10_fault_12 ?_
  refine lv_aload_n hx hb dX10_fault_15 rfl (lv_at hl 0 rfl) ?_
  refine va_get (D := D) (ci := 7) (v := .ref a_t_pad) (C := RX10) (T := TX10) (N := 9) hx hb hts inX10 hown hE.1 hP 0 rfl rfl 5 (by decide) (hts _ qw326) (fun _ h9 => h9) rfl dX10_fault_16 ?_
  refine va_getN (D := D) (ci := 3) (v := .int v_t_pad_length) (C := RX3) (T := TX3) (N := 2) hx hb hts inX3 hown hE.1 hP 2 rfl rfl 1 (by decide) (va_Nw.use rfl (hE.2.1 _ qw109)) (fun _ h9 => h9) rfl dX10_fault_19 ?_
  refine lv_aload_n hx hb dX10_fault_22 rfl (lv_at hl 0 rfl) ?_
  refine va_get (D := D) (ci := 7) (v := .ref a_t_now) (C := RX10) (T := TX10) (N := 9) hx hb hts inX10 hown hE.1 hP 0 rfl rfl 0 (by decide) (hts _ qw322) (fun _ h9 => h9) rfl dX10_fault_23 ?_
  refine va_getN (D := D) (ci := 6) (v := .int v_t_now_bells) (C := RX9) (T := TX9) (N := 7) hx hb hts inX9 hown hE.1 hP 1 rfl rfl 0 (by decide) (va_Nw.use rfl (hE.2.1 _ qw54)) (fun _ h9 => h9) rfl dX10_fault_26 ?_
  obtain ⟨q5, h6, hf⟩ := bd_s hf
  refine af_i0 (wc := [(a_t_reader, .inr (2, [.ref a_t_reader_places, .int v_t_reader_changes, .int v_t_reader_made, .int v_t_reader_lastPlace, .int v_t_reader_crossed])), (a_t_reader_places, .inl (Y.1, 20, .inl f_t_reader_places)), (a_t_pad_signs, .inl (Y.2.1, 80, .inl f_t_pad_signs))]) (wr := [(a_t, .inr (7, [.ref a_t_now, .ref a_t_trial, .ref a_t_snapshot, .int v_t_hasSnapshot, .ref a_t_history, .ref a_t_pad, .ref a_t_reader, .ref a_t_ringing, .ref a_t_homeward])), (a_t_now, .inr (6, [.int v_t_now_bells, .int v_t_now_changes, .int v_t_now_bob, .int v_t_now_single, .int v_t_now_leads, .ref a_t_now_places, .ref a_t_now_kinds])), (a_t_pad, .inr (3, [.ref a_t_pad_signs, .int v_t_pad_length]))]) (wn := [(a_t, .inr (7, [.ref a_t_now, .ref a_t_trial, .ref a_t_snapshot, .int v_t_hasSnapshot, .ref a_t_history, .ref a_t_pad, .ref a_t_reader, .ref a_t_ringing, .ref a_t_homeward])), (a_t_now, .inr (6, [.int v_t_now_bells, .int v_t_now_changes, .int v_t_now_bob, .int v_t_now_single, .int v_t_now_leads, .ref a_t_now_places, .ref a_t_now_kinds])), (a_t_pad, .inr (3, [.ref a_t_pad_signs, .int v_t_pad_length])), (a_t_pad_signs, .inl (Y.2.1, 80, .inl f_t_pad_signs)), (a_t_reader, .inr (2, [.ref a_t_reader_places, .int q5.2.1, .int q5.2.2.1, .int q5.2.2.2.1, .int q5.2.2.2.2.1])), (a_t_reader_places, .inl (Y.1, 20, .inl q5.2.2.2.2.2))]) (run_V (As := [.ref a_t_pad_signs, .int v_t_pad_length, .int v_t_now_bells]) (rest := []) E (c_X2_read l D Y a_t_reader a_t_reader_places a_t_pad_signs 80 v_t_reader_changes v_t_reader_made v_t_reader_lastPlace v_t_reader_crossed f_t_reader_places f_t_pad_signs v_t_pad_length v_t_now_bells s.heap.size q5 h6) qw280 qw281 qw282 qw23 qw283 rfl rfl hd_X2_read ⟨Nat.le_of_ble_eq_true rfl, Nat.le_of_ble_eq_true rfl⟩ (pre_rwV hP hD hE [4, 5, 3] rfl (by decide) rfl (ci := 2) (q0 := 4) rfl rfl) rfl hl.1 rfl (Nat.le_of_ble_eq_true rfl) dX10_fault_29 ⟨Nat.zero_le _, Nat.zero_le _⟩) hP hD hS hA [4, 5, 3] [0, 1, 2] [0, 1, 2, 5, 3, 4] rfl rfl (by decide) (by decide) rfl rfl (by decide) (fun H locs  hP hD hS => ?_)
  obtain rfl := Option.some.inj hf
  subst hQ
  exact en_i hx hb hr hlocks hP hD hS rfl dX10_fault_32

def f_X10_isBell (s1 : Int32) (v_t_now_bells : Int32) : Int32 :=
  (f_X10_isWithin s1 1 v_t_now_bells)
abbrev rm_X10_isBell : Room := { frames := 2, cells := 0, slots := 0, locals := 46 }
set_option maxHeartbeats 4000000 in
set_option maxRecDepth 100000 in
theorem c_X10_isBell (l : Launch) (D : va_G) (Y : ClassId × ClassId × ClassId × ClassId) (a_t a_t_now a_t_trial a_t_snapshot a_t_history a_t_pad a_t_reader a_t_ringing a_t_homeward a_t_now_places a_t_now_kinds : Nat) (v_t_hasSnapshot : Int32) (v_t_now_bells : Int32) (v_t_now_changes : Int32) (v_t_now_bob : Int32) (v_t_now_single : Int32) (v_t_now_leads : Int32) (s1 : Int32) (R : Int32) (hf : f_X10_isBell s1 v_t_now_bells = R) : Met l yX10_isBell (ws_ yX10_isBell cX10_isBell 2 (some .boolean)) rm_X10_isBell (va_Pc [.ref a_t, .int s1] (RO D Y [(a_t, .inr (7, [.ref a_t_now, .ref a_t_trial, .ref a_t_snapshot, .int v_t_hasSnapshot, .ref a_t_history, .ref a_t_pad, .ref a_t_reader, .ref a_t_ringing, .ref a_t_homeward])), (a_t_now, .inr (6, [.int v_t_now_bells, .int v_t_now_changes, .int v_t_now_bob, .int v_t_now_single, .int v_t_now_leads, .ref a_t_now_places, .ref a_t_now_kinds]))])) (OZ R) 0 0 (fun _ => False) := by
  refine ro_start (by decide) (Nat.le_of_ble_eq_true rfl) ?_
  intro p e s m below meth c ls hx hb hml hr hlocks hown hts hP hE hl
  generalize hargs : List.toArray _ = args at hts ⊢
  have hown : s.vm.findClass RX10 = some m.cls := hown
  have E : EN p m c cX10_isBell 2 s args RX10 := ⟨hx, hb, hml, hown, hts⟩
  have hl : lv_has ls 2 [(0, .ref a_t), (1, .int s1)] := hl
  generalize hQ : MQ below _ args s 0 0 _ = Q
  unfold f_X10_isBell at hf
  refine lv_iload_n hx hb dX10_isBell_0 rfl (lv_at hl 1 rfl) ?_
  refine lv_iconst (v := 1) hx hb dX10_isBell_1 (by decide) ?_
  refine lv_aload_n hx hb dX10_isBell_2 rfl (lv_at hl 0 rfl) ?_
  refine va_get (D := D) (ci := 7) (v := .ref a_t_now) (C := RX10) (T := TX10) (N := 9) hx hb hts inX10 hown hE.1 hP 0 rfl rfl 0 (by decide) (hts _ qw322) (fun _ h9 => h9) rfl dX10_isBell_3 ?_
  refine va_getN (D := D) (ci := 6) (v := .int v_t_now_bells) (C := RX9) (T := TX9) (N := 7) hx hb hts inX9 hown hE.1 hP 1 rfl rfl 0 (by decide) (va_Nw.use rfl (hE.2.1 _ qw54)) (fun _ h9 => h9) rfl dX10_isBell_6 ?_
  refine af_oz (run_S (As := [.int s1, .int 1, .int v_t_now_bells]) (rest := []) E (c_X10_isWithin l D Y s1 1 v_t_now_bells (f_X10_isWithin s1 1 v_t_now_bells) rfl) qw384 qw385 qw19 qw386 rfl rfl hd_X10_isWithin ⟨Nat.le_of_ble_eq_true rfl, Nat.le_of_ble_eq_true rfl⟩ (pre_roS hP hE [] rfl) rfl hl.1 rfl (Nat.le_of_ble_eq_true rfl) dX10_isBell_9 ⟨Nat.zero_le _, Nat.zero_le _⟩) (fun z1 => ?_)
  subst hf
  subst hQ
  exact en_oz hx hb hr hlocks rfl z1 dX10_isBell_12

def f_X10_bell (s1 : Int32) (s2 : Int32) (v_t_now_bells : Int32) (v_t_now_changes : Int32) (v_t_now_bob : Int32) (v_t_now_single : Int32) (v_t_now_leads : Int32) (f_t_now_places : Nat → Int32) (f_t_now_kinds : Nat → Int32) (v_t_ringing_bells : Int32) (v_t_ringing_changes : Int32) (v_t_ringing_leads : Int32) (v_t_ringing_last : Int32) (f_t_ringing_rows : Nat → Int32) (f_t_ringing_firsts : Nat → Int32) (f_t_ringing_firstOfRank : Nat → Int32) : Option (Int32 × Int32 × Int32 × Int32 × Int32 × (Nat → Int32) × (Nat → Int32) × (Nat → Int32)) :=
  (if (f_X10_isWithin s1 0 (f_X9_lastRow v_t_now_changes v_t_now_leads)) = 0 then some ((-1), v_t_ringing_bells, v_t_ringing_changes, v_t_ringing_leads, v_t_ringing_last, f_t_ringing_rows, f_t_ringing_firsts, f_t_ringing_firstOfRank) else (if (f_X10_isBell s2 v_t_now_bells) = 0 then some ((-1), v_t_ringing_bells, v_t_ringing_changes, v_t_ringing_leads, v_t_ringing_last, f_t_ringing_rows, f_t_ringing_firsts, f_t_ringing_firstOfRank) else bd (f_X5_ring v_t_ringing_bells v_t_ringing_changes v_t_ringing_leads v_t_ringing_last f_t_ringing_rows f_t_ringing_firsts f_t_ringing_firstOfRank v_t_now_bells v_t_now_changes v_t_now_bob v_t_now_single v_t_now_leads f_t_now_places f_t_now_kinds) (fun q5 => bd (f_X5_rowAt s1 q5.2.2.2.2.1) (fun q7 => some ((f_X6_bellAt q7 s2), q5.1, q5.2.1, q5.2.2.1, q5.2.2.2.1, q5.2.2.2.2.1, q5.2.2.2.2.2.1, q5.2.2.2.2.2.2)))))
abbrev rm_X10_bell : Room := { frames := 5, cells := 0, slots := 0, locals := 119 }
set_option maxHeartbeats 4000000 in
set_option maxRecDepth 100000 in
theorem c_X10_bell (l : Launch) (D : va_G) (Y : ClassId × ClassId × ClassId × ClassId) (a_t a_t_now a_t_trial a_t_snapshot a_t_history a_t_pad a_t_reader a_t_ringing a_t_homeward a_t_now_places a_t_now_kinds a_t_ringing_rows a_t_ringing_firsts a_t_ringing_firstOfRank : Nat) (v_t_hasSnapshot : Int32) (v_t_now_bells : Int32) (v_t_now_changes : Int32) (v_t_now_bob : Int32) (v_t_now_single : Int32) (v_t_now_leads : Int32) (f_t_now_places : Nat → Int32) (f_t_now_kinds : Nat → Int32) (v_t_ringing_bells : Int32) (v_t_ringing_changes : Int32) (v_t_ringing_leads : Int32) (v_t_ringing_last : Int32) (f_t_ringing_rows : Nat → Int32) (f_t_ringing_firsts : Nat → Int32) (f_t_ringing_firstOfRank : Nat → Int32) (s1 : Int32) (s2 : Int32) (sz : Nat) (R : Int32 × Int32 × Int32 × Int32 × Int32 × (Nat → Int32) × (Nat → Int32) × (Nat → Int32)) (hf : f_X10_bell s1 s2 v_t_now_bells v_t_now_changes v_t_now_bob v_t_now_single v_t_now_leads f_t_now_places f_t_now_kinds v_t_ringing_bells v_t_ringing_changes v_t_ringing_leads v_t_ringing_last f_t_ringing_rows f_t_ringing_firsts f_t_ringing_firstOfRank = some R) : Met l yX10_bell (ws_ yX10_bell cX10_bell 3 (some .int)) rm_X10_bell (va_Pc [.ref a_t, .int s1, .int s2] (RW D Y sz [(a_t, .inr (7, [.ref a_t_now, .ref a_t_trial, .ref a_t_snapshot, .int v_t_hasSnapshot, .ref a_t_history, .ref a_t_pad, .ref a_t_reader, .ref a_t_ringing, .ref a_t_homeward])), (a_t_now, .inr (6, [.int v_t_now_bells, .int v_t_now_changes, .int v_t_now_bob, .int v_t_now_single, .int v_t_now_leads, .ref a_t_now_places, .ref a_t_now_kinds])), (a_t_now_places, .inl (Y.1, 20, .inl f_t_now_places)), (a_t_now_kinds, .inl (Y.1, 17, .inl f_t_now_kinds)), (a_t_ringing, .inr (4, [.ref a_t_ringing_rows, .ref a_t_ringing_firsts, .ref a_t_ringing_firstOfRank, .int v_t_ringing_bells, .int v_t_ringing_changes, .int v_t_ringing_leads, .int v_t_ringing_last])), (a_t_ringing_rows, .inl (Y.1, 341, .inl f_t_ringing_rows)), (a_t_ringing_firsts, .inl (Y.1, 341, .inl f_t_ringing_firsts)), (a_t_ringing_firstOfRank, .inl (Y.1, 5040, .inl f_t_ringing_firstOfRank))])) (QI D R.1 [(a_t, .inr (7, [.ref a_t_now, .ref a_t_trial, .ref a_t_snapshot, .int v_t_hasSnapshot, .ref a_t_history, .ref a_t_pad, .ref a_t_reader, .ref a_t_ringing, .ref a_t_homeward])), (a_t_now, .inr (6, [.int v_t_now_bells, .int v_t_now_changes, .int v_t_now_bob, .int v_t_now_single, .int v_t_now_leads, .ref a_t_now_places, .ref a_t_now_kinds])), (a_t_now_places, .inl (Y.1, 20, .inl f_t_now_places)), (a_t_now_kinds, .inl (Y.1, 17, .inl f_t_now_kinds)), (a_t_ringing, .inr (4, [.ref a_t_ringing_rows, .ref a_t_ringing_firsts, .ref a_t_ringing_firstOfRank, .int R.2.1, .int R.2.2.1, .int R.2.2.2.1, .int R.2.2.2.2.1])), (a_t_ringing_rows, .inl (Y.1, 341, .inl R.2.2.2.2.2.1)), (a_t_ringing_firsts, .inl (Y.1, 341, .inl R.2.2.2.2.2.2.1)), (a_t_ringing_firstOfRank, .inl (Y.1, 5040, .inl R.2.2.2.2.2.2.2))] (va_A [(a_t, .inr (7, [.ref a_t_now, .ref a_t_trial, .ref a_t_snapshot, .int v_t_hasSnapshot, .ref a_t_history, .ref a_t_pad, .ref a_t_reader, .ref a_t_ringing, .ref a_t_homeward])), (a_t_now, .inr (6, [.int v_t_now_bells, .int v_t_now_changes, .int v_t_now_bob, .int v_t_now_single, .int v_t_now_leads, .ref a_t_now_places, .ref a_t_now_kinds])), (a_t_now_places, .inl (Y.1, 20, .inl f_t_now_places)), (a_t_now_kinds, .inl (Y.1, 17, .inl f_t_now_kinds)), (a_t_ringing, .inr (4, [.ref a_t_ringing_rows, .ref a_t_ringing_firsts, .ref a_t_ringing_firstOfRank, .int v_t_ringing_bells, .int v_t_ringing_changes, .int v_t_ringing_leads, .int v_t_ringing_last])), (a_t_ringing_rows, .inl (Y.1, 341, .inl f_t_ringing_rows)), (a_t_ringing_firsts, .inl (Y.1, 341, .inl f_t_ringing_firsts)), (a_t_ringing_firstOfRank, .inl (Y.1, 5040, .inl f_t_ringing_firstOfRank))] sz)) 0 0 (va_A [(a_t, .inr (7, [.ref a_t_now, .ref a_t_trial, .ref a_t_snapshot, .int v_t_hasSnapshot, .ref a_t_history, .ref a_t_pad, .ref a_t_reader, .ref a_t_ringing, .ref a_t_homeward])), (a_t_now, .inr (6, [.int v_t_now_bells, .int v_t_now_changes, .int v_t_now_bob, .int v_t_now_single, .int v_t_now_leads, .ref a_t_now_places, .ref a_t_now_kinds])), (a_t_now_places, .inl (Y.1, 20, .inl f_t_now_places)), (a_t_now_kinds, .inl (Y.1, 17, .inl f_t_now_kinds)), (a_t_ringing, .inr (4, [.ref a_t_ringing_rows, .ref a_t_ringing_firsts, .ref a_t_ringing_firstOfRank, .int v_t_ringing_bells, .int v_t_ringing_changes, .int v_t_ringing_leads, .int v_t_ringing_last])), (a_t_ringing_rows, .inl (Y.1, 341, .inl f_t_ringing_rows)), (a_t_ringing_firsts, .inl (Y.1, 341, .inl f_t_ringing_firsts)), (a_t_ringing_firstOfRank, .inl (Y.1, 5040, .inl f_t_ringing_firstOfRank))] sz) := by
  refine rw_start (Qc := fun A => QI D R.1 [(a_t, .inr (7, [.ref a_t_now, .ref a_t_trial, .ref a_t_snapshot, .int v_t_hasSnapshot, .ref a_t_history, .ref a_t_pad, .ref a_t_reader, .ref a_t_ringing, .ref a_t_homeward])), (a_t_now, .inr (6, [.int v_t_now_bells, .int v_t_now_changes, .int v_t_now_bob, .int v_t_now_single, .int v_t_now_leads, .ref a_t_now_places, .ref a_t_now_kinds])), (a_t_now_places, .inl (Y.1, 20, .inl f_t_now_places)), (a_t_now_kinds, .inl (Y.1, 17, .inl f_t_now_kinds)), (a_t_ringing, .inr (4, [.ref a_t_ringing_rows, .ref a_t_ringing_firsts, .ref a_t_ringing_firstOfRank, .int R.2.1, .int R.2.2.1, .int R.2.2.2.1, .int R.2.2.2.2.1])), (a_t_ringing_rows, .inl (Y.1, 341, .inl R.2.2.2.2.2.1)), (a_t_ringing_firsts, .inl (Y.1, 341, .inl R.2.2.2.2.2.2.1)), (a_t_ringing_firstOfRank, .inl (Y.1, 5040, .inl R.2.2.2.2.2.2.2))] A) (by decide) (Nat.le_of_ble_eq_true rfl) ?_
  intro p e s m below meth c ls A hx hb hml hr hlocks hown hts hnm hA hP hD hS hE hl
  generalize hargs : List.toArray _ = args at hts ⊢
  have hown : s.vm.findClass RX10 = some m.cls := hown
  have E : EN p m c cX10_bell 3 s args RX10 := ⟨hx, hb, hml, hown, hts⟩
  have hl : lv_has ls 3 [(0, .ref a_t), (1, .int s1), (2, .int s2)] := hl
  generalize hQ : MQ below _ args s 0 0 _ = Q
  unfold f_X10_bell at hf
  refine lv_iload_n hx hb dX10_bell_0 rfl (lv_at hl 1 rfl) ?_
  refine lv_iconst (v := 0) hx hb dX10_bell_1 (by decide) ?_
  refine lv_aload_n hx hb dX10_bell_2 rfl (lv_at hl 0 rfl) ?_
  refine va_get (D := D) (ci := 7) (v := .ref a_t_now) (C := RX10) (T := TX10) (N := 9) hx hb hts inX10 hown hE.1 hP 0 rfl rfl 0 (by decide) (hts _ qw322) (fun _ h9 => h9) rfl dX10_bell_3 ?_
  refine af_oi (run_V (As := []) (rest := [.int 0, .int s1]) E (c_X9_lastRow l D Y a_t_now a_t_now_places a_t_now_kinds v_t_now_bells v_t_now_changes v_t_now_bob v_t_now_single v_t_now_leads (f_X9_lastRow v_t_now_changes v_t_now_leads) rfl) qw380 qw381 qw382 qw20 qw383 rfl rfl hd_X9_lastRow ⟨Nat.le_of_ble_eq_true rfl, Nat.le_of_ble_eq_true rfl⟩ (pre_roV hP hE [1] rfl (ci := 6) (q0 := 1) rfl rfl) rfl hl.1 rfl (Nat.le_of_ble_eq_true rfl) dX10_bell_6 ⟨Nat.zero_le _, Nat.zero_le _⟩) ?_
  refine af_oz (run_S (As := [.int s1, .int 0, .int (f_X9_lastRow v_t_now_changes v_t_now_leads)]) (rest := []) E (c_X10_isWithin l D Y s1 0 (f_X9_lastRow v_t_now_changes v_t_now_leads) (f_X10_isWithin s1 0 (f_X9_lastRow v_t_now_changes v_t_now_leads)) rfl) qw384 qw385 qw19 qw386 rfl rfl hd_X10_isWithin ⟨Nat.le_of_ble_eq_true rfl, Nat.le_of_ble_eq_true rfl⟩ (pre_roS hP hE [] rfl) rfl hl.1 rfl (Nat.le_of_ble_eq_true rfl) dX10_bell_9 ⟨Nat.zero_le _, Nat.zero_le _⟩) (fun z1 => ?_)
  refine lv_if_eq (tgt := 23) hx hb dX10_bell_12 (by decide) (fun c2 => ?_) (fun c2 => ?_)
  · have hf := ite_t c2 hf
    refine lv_iconst (v := (-1)) hx hb dX10_bell_23 (by decide) ?_
    obtain rfl := Option.some.inj hf
    subst hQ
    exact en_i hx hb hr hlocks hP hD hS rfl dX10_bell_24
  have hf := ite_f c2 hf
  refine lv_aload_n hx hb dX10_bell_15 rfl (lv_at hl 0 rfl) ?_
  refine lv_iload_n hx hb dX10_bell_16 rfl (lv_at hl 2 rfl) ?_
  refine af_oz (run_V (As := [.int s2]) (rest := []) E (c_X10_isBell l D Y a_t a_t_now a_t_trial a_t_snapshot a_t_history a_t_pad a_t_reader a_t_ringing a_t_homeward a_t_now_places a_t_now_kinds v_t_hasSnapshot v_t_now_bells v_t_now_changes v_t_now_bob v_t_now_single v_t_now_leads s2 (f_X10_isBell s2 v_t_now_bells) rfl) qw387 qw389 qw8 qw19 qw390 rfl rfl hd_X10_isBell ⟨Nat.le_of_ble_eq_true rfl, Nat.le_of_ble_eq_true rfl⟩ (pre_roV hP hE [0, 1] rfl (ci := 7) (q0 := 0) rfl rfl) rfl hl.1 rfl (Nat.le_of_ble_eq_true rfl) dX10_bell_17 ⟨Nat.zero_le _, Nat.zero_le _⟩) (fun z3 => ?_)
  refine lv_if_ne (tgt := 25) hx hb dX10_bell_20 (by decide) (fun c4 => ?_) (fun c4 => ?_)
  · have hf := ite_f c4 hf
    refine lv_aload_n hx hb dX10_bell_25 rfl (lv_at hl 0 rfl) ?_
    refine va_get (D := D) (ci := 7) (v := .ref a_t_ringing) (C := RX10) (T := TX10) (N := 9) hx hb hts inX10 hown hE.1 hP 0 rfl rfl 7 (by decide) (hts _ qw328) (fun _ h9 => h9) rfl dX10_bell_26 ?_
    refine lv_aload_n hx hb dX10_bell_29 rfl (lv_at hl 0 rfl) ?_
    refine va_get (D := D) (ci := 7) (v := .ref a_t_now) (C := RX10) (T := TX10) (N := 9) hx hb hts inX10 hown hE.1 hP 0 rfl rfl 0 (by decide) (hts _ qw322) (fun _ h9 => h9) rfl dX10_bell_30 ?_
    obtain ⟨q5, h6, hf⟩ := bd_s hf
    refine af_v0 (wc := [(a_t_ringing, .inr (4, [.ref a_t_ringing_rows, .ref a_t_ringing_firsts, .ref a_t_ringing_firstOfRank, .int v_t_ringing_bells, .int v_t_ringing_changes, .int v_t_ringing_leads, .int v_t_ringing_last])), (a_t_ringing_rows, .inl (Y.1, 341, .inl f_t_ringing_rows)), (a_t_ringing_firsts, .inl (Y.1, 341, .inl f_t_ringing_firsts)), (a_t_ringing_firstOfRank, .inl (Y.1, 5040, .inl f_t_ringing_firstOfRank)), (a_t_now, .inr (6, [.int v_t_now_bells, .int v_t_now_changes, .int v_t_now_bob, .int v_t_now_single, .int v_t_now_leads, .ref a_t_now_places, .ref a_t_now_kinds])), (a_t_now_places, .inl (Y.1, 20, .inl f_t_now_places)), (a_t_now_kinds, .inl (Y.1, 17, .inl f_t_now_kinds))]) (wr := [(a_t, .inr (7, [.ref a_t_now, .ref a_t_trial, .ref a_t_snapshot, .int v_t_hasSnapshot, .ref a_t_history, .ref a_t_pad, .ref a_t_reader, .ref a_t_ringing, .ref a_t_homeward]))]) (wn := [(a_t, .inr (7, [.ref a_t_now, .ref a_t_trial, .ref a_t_snapshot, .int v_t_hasSnapshot, .ref a_t_history, .ref a_t_pad, .ref a_t_reader, .ref a_t_ringing, .ref a_t_homeward])), (a_t_now, .inr (6, [.int v_t_now_bells, .int v_t_now_changes, .int v_t_now_bob, .int v_t_now_single, .int v_t_now_leads, .ref a_t_now_places, .ref a_t_now_kinds])), (a_t_now_places, .inl (Y.1, 20, .inl f_t_now_places)), (a_t_now_kinds, .inl (Y.1, 17, .inl f_t_now_kinds)), (a_t_ringing, .inr (4, [.ref a_t_ringing_rows, .ref a_t_ringing_firsts, .ref a_t_ringing_firstOfRank, .int q5.1, .int q5.2.1, .int q5.2.2.1, .int q5.2.2.2.1])), (a_t_ringing_rows, .inl (Y.1, 341, .inl q5.2.2.2.2.1)), (a_t_ringing_firsts, .inl (Y.1, 341, .inl q5.2.2.2.2.2.1)), (a_t_ringing_firstOfRank, .inl (Y.1, 5040, .inl q5.2.2.2.2.2.2))]) (run_V (As := [.ref a_t_now]) (rest := []) E (c_X5_ring l D Y a_t_ringing a_t_ringing_rows a_t_ringing_firsts a_t_ringing_firstOfRank a_t_now a_t_now_places a_t_now_kinds v_t_ringing_bells v_t_ringing_changes v_t_ringing_leads v_t_ringing_last f_t_ringing_rows f_t_ringing_firsts f_t_ringing_firstOfRank v_t_now_bells v_t_now_changes v_t_now_bob v_t_now_single v_t_now_leads f_t_now_places f_t_now_kinds s.heap.size q5 h6) qw391 qw392 qw393 qw24 qw394 rfl rfl hd_X5_ring ⟨Nat.le_of_ble_eq_true rfl, Nat.le_of_ble_eq_true rfl⟩ (pre_rwV hP hD hE [4, 5, 6, 7, 1, 2, 3] rfl (by decide) rfl (ci := 4) (q0 := 4) rfl rfl) rfl hl.1 rfl (Nat.le_of_ble_eq_true rfl) dX10_bell_33 ⟨Nat.zero_le _, Nat.zero_le _⟩) hP hD hS hA [4, 5, 6, 7, 1, 2, 3] [0] [0, 5, 6, 7, 1, 2, 3, 4] rfl rfl (by decide) (by decide) rfl rfl (by decide) (fun H locs  hP hD hS => ?_)
    refine lv_aload_n hx hb dX10_bell_36 rfl (lv_at hl 0 rfl) ?_
    refine va_get (D := D) (ci := 7) (v := .ref a_t_ringing) (C := RX10) (T := TX10) (N := 9) hx hb hts inX10 hown hE.1 hP 0 rfl rfl 7 (by decide) (hts _ qw328) (fun _ h9 => h9) rfl dX10_bell_37 ?_
    refine lv_iload_n hx hb dX10_bell_40 rfl (lv_at hl 1 rfl) ?_
    obtain ⟨q7, h8, hf⟩ := bd_s hf
    refine af_oi (run_V (As := [.int s1]) (rest := []) E (c_X5_rowAt l D Y a_t_ringing a_t_ringing_rows a_t_ringing_firsts a_t_ringing_firstOfRank q5.1 q5.2.1 q5.2.2.1 q5.2.2.2.1 q5.2.2.2.2.1 s1 q7 h8) qw445 qw428 qw429 qw24 qw430 rfl rfl hd_X5_rowAt ⟨Nat.le_of_ble_eq_true rfl, Nat.le_of_ble_eq_true rfl⟩ (pre_roV hP hE [4, 5] rfl (ci := 4) (q0 := 4) rfl rfl) rfl hl.1 rfl (Nat.le_of_ble_eq_true rfl) dX10_bell_41 ⟨Nat.zero_le _, Nat.zero_le _⟩) ?_
    refine lv_iload_n hx hb dX10_bell_44 rfl (lv_at hl 2 rfl) ?_
    refine af_oi (run_S (As := [.int q7, .int s2]) (rest := []) E (c_X6_bellAt l D Y q7 s2 (f_X6_bellAt q7 s2) rfl) qw446 qw417 qw34 qw418 rfl rfl hd_X6_bellAt ⟨Nat.le_of_ble_eq_true rfl, Nat.le_of_ble_eq_true rfl⟩ (pre_roS hP hE [] rfl) rfl hl.1 rfl (Nat.le_of_ble_eq_true rfl) dX10_bell_45 ⟨Nat.zero_le _, Nat.zero_le _⟩) ?_
    obtain rfl := Option.some.inj hf
    subst hQ
    exact en_i hx hb hr hlocks hP hD hS rfl dX10_bell_48
  have hf := ite_t c4 hf
  refine lv_iconst (v := (-1)) hx hb dX10_bell_23 (by decide) ?_
  obtain rfl := Option.some.inj hf
  subst hQ
  exact en_i hx hb hr hlocks hP hD hS rfl dX10_bell_24

def f_X10_change (s1 : Int32) (s2 : Int32) (v_t_now_changes : Int32) (v_t_now_bob : Int32) (v_t_now_single : Int32) (v_t_now_leads : Int32) (f_t_now_places : Nat → Int32) (f_t_now_kinds : Nat → Int32) : Option (Int32) :=
  (if (f_X10_isWithin s1 (-1) (v_t_now_leads - 1)) = 0 then some (-1) else (if (0 : Int32) ≤ s2 then (if s2 < v_t_now_changes then bd (f_X9_kindOfLead s1 f_t_now_kinds) (fun q5 => bd (f_X9_placesMade q5 s2 v_t_now_changes v_t_now_bob v_t_now_single f_t_now_places) (fun q7 => some q7)) else some (-4)) else some (-1)))
abbrev rm_X10_change : Room := { frames := 2, cells := 0, slots := 0, locals := 46 }
set_option maxHeartbeats 4000000 in
set_option maxRecDepth 100000 in
theorem c_X10_change (l : Launch) (D : va_G) (Y : ClassId × ClassId × ClassId × ClassId) (a_t a_t_now a_t_trial a_t_snapshot a_t_history a_t_pad a_t_reader a_t_ringing a_t_homeward a_t_now_places a_t_now_kinds : Nat) (v_t_hasSnapshot : Int32) (v_t_now_bells : Int32) (v_t_now_changes : Int32) (v_t_now_bob : Int32) (v_t_now_single : Int32) (v_t_now_leads : Int32) (f_t_now_places : Nat → Int32) (f_t_now_kinds : Nat → Int32) (s1 : Int32) (s2 : Int32) (R : Int32) (hf : f_X10_change s1 s2 v_t_now_changes v_t_now_bob v_t_now_single v_t_now_leads f_t_now_places f_t_now_kinds = some R) : Met l yX10_change (ws_ yX10_change cX10_change 3 (some .int)) rm_X10_change (va_Pc [.ref a_t, .int s1, .int s2] (RO D Y [(a_t, .inr (7, [.ref a_t_now, .ref a_t_trial, .ref a_t_snapshot, .int v_t_hasSnapshot, .ref a_t_history, .ref a_t_pad, .ref a_t_reader, .ref a_t_ringing, .ref a_t_homeward])), (a_t_now, .inr (6, [.int v_t_now_bells, .int v_t_now_changes, .int v_t_now_bob, .int v_t_now_single, .int v_t_now_leads, .ref a_t_now_places, .ref a_t_now_kinds])), (a_t_now_places, .inl (Y.1, 20, .inl f_t_now_places)), (a_t_now_kinds, .inl (Y.1, 17, .inl f_t_now_kinds))])) (OI R) 0 0 (fun _ => False) := by
  refine ro_start (by decide) (Nat.le_of_ble_eq_true rfl) ?_
  intro p e s m below meth c ls hx hb hml hr hlocks hown hts hP hE hl
  generalize hargs : List.toArray _ = args at hts ⊢
  have hown : s.vm.findClass RX10 = some m.cls := hown
  have E : EN p m c cX10_change 3 s args RX10 := ⟨hx, hb, hml, hown, hts⟩
  have hl : lv_has ls 3 [(0, .ref a_t), (1, .int s1), (2, .int s2)] := hl
  generalize hQ : MQ below _ args s 0 0 _ = Q
  unfold f_X10_change at hf
  refine lv_iload_n hx hb dX10_change_0 rfl (lv_at hl 1 rfl) ?_
  refine lv_iconst (v := (-1)) hx hb dX10_change_1 (by decide) ?_
  refine lv_aload_n hx hb dX10_change_2 rfl (lv_at hl 0 rfl) ?_
  refine va_get (D := D) (ci := 7) (v := .ref a_t_now) (C := RX10) (T := TX10) (N := 9) hx hb hts inX10 hown hE.1 hP 0 rfl rfl 0 (by decide) (hts _ qw322) (fun _ h9 => h9) rfl dX10_change_3 ?_
  refine va_getN (D := D) (ci := 6) (v := .int v_t_now_leads) (C := RX9) (T := TX9) (N := 7) hx hb hts inX9 hown hE.1 hP 1 rfl rfl 4 (by decide) (va_Nw.use rfl (hE.2.1 _ qw64)) (fun _ h9 => h9) rfl dX10_change_6 ?_
  refine lv_iconst (v := 1) hx hb dX10_change_9 (by decide) ?_
  refine lv_isub hx hb dX10_change_10 ?_
  refine af_oz (run_S (As := [.int s1, .int (-1), .int (v_t_now_leads - 1)]) (rest := []) E (c_X10_isWithin l D Y s1 (-1) (v_t_now_leads - 1) (f_X10_isWithin s1 (-1) (v_t_now_leads - 1)) rfl) qw384 qw385 qw19 qw386 rfl rfl hd_X10_isWithin ⟨Nat.le_of_ble_eq_true rfl, Nat.le_of_ble_eq_true rfl⟩ (pre_roS hP hE [] rfl) rfl hl.1 rfl (Nat.le_of_ble_eq_true rfl) dX10_change_11 ⟨Nat.zero_le _, Nat.zero_le _⟩) (fun z1 => ?_)
  refine lv_if_eq (tgt := 21) hx hb dX10_change_14 (by decide) (fun c2 => ?_) (fun c2 => ?_)
  · have hf := ite_t c2 hf
    refine lv_iconst (v := (-1)) hx hb dX10_change_21 (by decide) ?_
    obtain rfl := Option.some.inj hf
    subst hQ
    exact en_oi hx hb hr hlocks rfl dX10_change_22
  have hf := ite_f c2 hf
  refine lv_iload_n hx hb dX10_change_17 rfl (lv_at hl 2 rfl) ?_
  refine lv_if_ge (tgt := 23) hx hb dX10_change_18 (by decide) (fun c3 => ?_) (fun c3 => ?_)
  · have hf := ite_t c3 hf
    refine lv_iload_n hx hb dX10_change_23 rfl (lv_at hl 2 rfl) ?_
    refine lv_aload_n hx hb dX10_change_24 rfl (lv_at hl 0 rfl) ?_
    refine va_get (D := D) (ci := 7) (v := .ref a_t_now) (C := RX10) (T := TX10) (N := 9) hx hb hts inX10 hown hE.1 hP 0 rfl rfl 0 (by decide) (hts _ qw322) (fun _ h9 => h9) rfl dX10_change_25 ?_
    refine va_getN (D := D) (ci := 6) (v := .int v_t_now_changes) (C := RX9) (T := TX9) (N := 7) hx hb hts inX9 hown hE.1 hP 1 rfl rfl 1 (by decide) (va_Nw.use rfl (hE.2.1 _ qw57)) (fun _ h9 => h9) rfl dX10_change_28 ?_
    refine lv_icmp_lt (tgt := 37) hx hb dX10_change_31 (by decide) (fun c4 => ?_) (fun c4 => ?_)
    · have hf := ite_t c4 hf
      refine lv_aload_n hx hb dX10_change_37 rfl (lv_at hl 0 rfl) ?_
      refine va_get (D := D) (ci := 7) (v := .ref a_t_now) (C := RX10) (T := TX10) (N := 9) hx hb hts inX10 hown hE.1 hP 0 rfl rfl 0 (by decide) (hts _ qw322) (fun _ h9 => h9) rfl dX10_change_38 ?_
      refine lv_aload_n hx hb dX10_change_41 rfl (lv_at hl 0 rfl) ?_
      refine va_get (D := D) (ci := 7) (v := .ref a_t_now) (C := RX10) (T := TX10) (N := 9) hx hb hts inX10 hown hE.1 hP 0 rfl rfl 0 (by decide) (hts _ qw322) (fun _ h9 => h9) rfl dX10_change_42 ?_
      refine lv_iload_n hx hb dX10_change_45 rfl (lv_at hl 1 rfl) ?_
      obtain ⟨q5, h6, hf⟩ := bd_s hf
      refine af_oi (run_V (As := [.int s1]) (rest := [.ref a_t_now]) E (c_X9_kindOfLead l D Y a_t_now a_t_now_places a_t_now_kinds v_t_now_bells v_t_now_changes v_t_now_bob v_t_now_single v_t_now_leads f_t_now_kinds s1 q5 h6) qw584 qw402 qw403 qw20 qw404 rfl rfl hd_X9_kindOfLead ⟨Nat.le_of_ble_eq_true rfl, Nat.le_of_ble_eq_true rfl⟩ (pre_roV hP hE [1, 3] rfl (ci := 6) (q0 := 1) rfl rfl) rfl hl.1 rfl (Nat.le_of_ble_eq_true rfl) dX10_change_46 ⟨Nat.zero_le _, Nat.zero_le _⟩) ?_
      refine lv_iload_n hx hb dX10_change_49 rfl (lv_at hl 2 rfl) ?_
      obtain ⟨q7, h8, hf⟩ := bd_s hf
      refine af_oi (run_V (As := [.int q5, .int s2]) (rest := []) E (c_X9_placesMade l D Y a_t_now a_t_now_places a_t_now_kinds v_t_now_bells v_t_now_changes v_t_now_bob v_t_now_single v_t_now_leads f_t_now_places q5 s2 q7 h8) qw585 qw406 qw407 qw20 qw408 rfl rfl hd_X9_placesMade ⟨Nat.le_of_ble_eq_true rfl, Nat.le_of_ble_eq_true rfl⟩ (pre_roV hP hE [1, 2] rfl (ci := 6) (q0 := 1) rfl rfl) rfl hl.1 rfl (Nat.le_of_ble_eq_true rfl) dX10_change_50 ⟨Nat.zero_le _, Nat.zero_le _⟩) ?_
      obtain rfl := Option.some.inj hf
      subst hQ
      exact en_oi hx hb hr hlocks rfl dX10_change_53
    have hf := ite_f c4 hf
    refine lv_bipush (v := (-4)) hx hb dX10_change_34 (by decide) ?_
    obtain rfl := Option.some.inj hf
    subst hQ
    exact en_oi hx hb hr hlocks rfl dX10_change_36
  have hf := ite_f c3 hf
  refine lv_iconst (v := (-1)) hx hb dX10_change_21 (by decide) ?_
  obtain rfl := Option.some.inj hf
  subst hQ
  exact en_oi hx hb hr hlocks rfl dX10_change_22

def f_X10_row (s1 : Int32) (s2 : Int32) (v_t_now_bells : Int32) (v_t_now_changes : Int32) (v_t_now_bob : Int32) (v_t_now_single : Int32) (v_t_now_leads : Int32) (f_t_now_places : Nat → Int32) (f_t_now_kinds : Nat → Int32) (v_t_ringing_bells : Int32) (v_t_ringing_changes : Int32) (v_t_ringing_leads : Int32) (v_t_ringing_last : Int32) (f_t_ringing_rows : Nat → Int32) (f_t_ringing_firsts : Nat → Int32) (f_t_ringing_firstOfRank : Nat → Int32) (v_t_homeward_bells : Int32) (v_t_homeward_fromRounds_bells : Int32) (v_t_homeward_fromRounds_size : Int32) (f_t_homeward_fromRounds_fewest : Nat → Int32) (f_t_homeward_fromRounds_reached : Nat → Int32) (f_t_homeward_leads : Nat → Int32) (f_t_homeward_leadsBack : Nat → Int32) : Option (Int32 × Int32 × Int32 × Int32 × Int32 × (Nat → Int32) × (Nat → Int32) × (Nat → Int32) × Int32 × Int32 × Int32 × (Nat → Int32) × (Nat → Int32) × (Nat → Int32) × (Nat → Int32)) :=
  (if (f_X10_isWithin s1 0 (f_X9_lastRow v_t_now_changes v_t_now_leads)) = 0 then some ((-1), v_t_ringing_bells, v_t_ringing_changes, v_t_ringing_leads, v_t_ringing_last, f_t_ringing_rows, f_t_ringing_firsts, f_t_ringing_firstOfRank, v_t_homeward_bells, v_t_homeward_fromRounds_bells, v_t_homeward_fromRounds_size, f_t_homeward_fromRounds_fewest, f_t_homeward_fromRounds_reached, f_t_homeward_leads, f_t_homeward_leadsBack) else (if (f_X10_isWithin s2 0 5) = 0 then some ((-1), v_t_ringing_bells, v_t_ringing_changes, v_t_ringing_leads, v_t_ringing_last, f_t_ringing_rows, f_t_ringing_firsts, f_t_ringing_firstOfRank, v_t_homeward_bells, v_t_homeward_fromRounds_bells, v_t_homeward_fromRounds_size, f_t_homeward_fromRounds_fewest, f_t_homeward_fromRounds_reached, f_t_homeward_leads, f_t_homeward_leadsBack) else bd (f_X5_ring v_t_ringing_bells v_t_ringing_changes v_t_ringing_leads v_t_ringing_last f_t_ringing_rows f_t_ringing_firsts f_t_ringing_firstOfRank v_t_now_bells v_t_now_changes v_t_now_bob v_t_now_single v_t_now_leads f_t_now_places f_t_now_kinds) (fun q5 => bd (f_X5_rowAt s1 q5.2.2.2.2.1) (fun q7 => (if s2 = 0 then bd (f_X6_signByPairs q7 v_t_now_bells) (fun q10 => some (q10, q5.1, q5.2.1, q5.2.2.1, q5.2.2.2.1, q5.2.2.2.2.1, q5.2.2.2.2.2.1, q5.2.2.2.2.2.2, v_t_homeward_bells, v_t_homeward_fromRounds_bells, v_t_homeward_fromRounds_size, f_t_homeward_fromRounds_fewest, f_t_homeward_fromRounds_reached, f_t_homeward_leads, f_t_homeward_leadsBack)) else (if s2 = 1 then bd (f_X6_signByCycles q7 v_t_now_bells) (fun q13 => some (q13, q5.1, q5.2.1, q5.2.2.1, q5.2.2.2.1, q5.2.2.2.2.1, q5.2.2.2.2.2.1, q5.2.2.2.2.2.2, v_t_homeward_bells, v_t_homeward_fromRounds_bells, v_t_homeward_fromRounds_size, f_t_homeward_fromRounds_fewest, f_t_homeward_fromRounds_reached, f_t_homeward_leads, f_t_homeward_leadsBack)) else (if s2 = 2 then (if (f_X6_soundsWell q7 v_t_now_bells) = 0 then some (0, q5.1, q5.2.1, q5.2.2.1, q5.2.2.2.1, q5.2.2.2.2.1, q5.2.2.2.2.2.1, q5.2.2.2.2.2.2, v_t_homeward_bells, v_t_homeward_fromRounds_bells, v_t_homeward_fromRounds_size, f_t_homeward_fromRounds_fewest, f_t_homeward_fromRounds_reached, f_t_homeward_leads, f_t_homeward_leadsBack) else some (1, q5.1, q5.2.1, q5.2.2.1, q5.2.2.2.1, q5.2.2.2.2.1, q5.2.2.2.2.2.1, q5.2.2.2.2.2.2, v_t_homeward_bells, v_t_homeward_fromRounds_bells, v_t_homeward_fromRounds_size, f_t_homeward_fromRounds_fewest, f_t_homeward_fromRounds_reached, f_t_homeward_leads, f_t_homeward_leadsBack)) else (if s2 = 3 then bd (f_X6_bellsInPlace q7 v_t_now_bells) (fun q19 => some (q19, q5.1, q5.2.1, q5.2.2.1, q5.2.2.2.1, q5.2.2.2.2.1, q5.2.2.2.2.2.1, q5.2.2.2.2.2.2, v_t_homeward_bells, v_t_homeward_fromRounds_bells, v_t_homeward_fromRounds_size, f_t_homeward_fromRounds_fewest, f_t_homeward_fromRounds_reached, f_t_homeward_leads, f_t_homeward_leadsBack)) else (if s2 = 4 then bd (f_X5_firstLike s1 q5.2.2.2.2.1 q5.2.2.2.2.2.1) (fun q22 => some (q22, q5.1, q5.2.1, q5.2.2.1, q5.2.2.2.1, q5.2.2.2.2.1, q5.2.2.2.2.2.1, q5.2.2.2.2.2.2, v_t_homeward_bells, v_t_homeward_fromRounds_bells, v_t_homeward_fromRounds_size, f_t_homeward_fromRounds_fewest, f_t_homeward_fromRounds_reached, f_t_homeward_leads, f_t_homeward_leadsBack)) else bd (f_X1_learn v_t_homeward_bells v_t_homeward_fromRounds_bells v_t_homeward_fromRounds_size f_t_homeward_fromRounds_fewest f_t_homeward_fromRounds_reached f_t_homeward_leads f_t_homeward_leadsBack v_t_now_bells v_t_now_changes v_t_now_bob v_t_now_single f_t_now_places) (fun q24 => bd (f_X1_leadsFrom q7 q24.2.1 q24.2.2.2.1) (fun q26 => some (q26, q5.1, q5.2.1, q5.2.2.1, q5.2.2.2.1, q5.2.2.2.2.1, q5.2.2.2.2.2.1, q5.2.2.2.2.2.2, q24.1, q24.2.1, q24.2.2.1, q24.2.2.2.1, q24.2.2.2.2.1, q24.2.2.2.2.2.1, q24.2.2.2.2.2.2))))))))))))
abbrev rm_X10_row : Room := { frames := 6, cells := 0, slots := 0, locals := 147 }
set_option maxHeartbeats 4000000 in
set_option maxRecDepth 100000 in
theorem c_X10_row (l : Launch) (D : va_G) (Y : ClassId × ClassId × ClassId × ClassId) (a_t a_t_now a_t_trial a_t_snapshot a_t_history a_t_pad a_t_reader a_t_ringing a_t_homeward a_t_now_places a_t_now_kinds a_t_ringing_rows a_t_ringing_firsts a_t_ringing_firstOfRank a_t_homeward_fromRounds a_t_homeward_fromRow a_t_homeward_leads a_t_homeward_leadsBack a_t_homeward_fromRounds_fewest a_t_homeward_fromRounds_reached : Nat) (v_t_hasSnapshot : Int32) (v_t_now_bells : Int32) (v_t_now_changes : Int32) (v_t_now_bob : Int32) (v_t_now_single : Int32) (v_t_now_leads : Int32) (f_t_now_places : Nat → Int32) (f_t_now_kinds : Nat → Int32) (v_t_ringing_bells : Int32) (v_t_ringing_changes : Int32) (v_t_ringing_leads : Int32) (v_t_ringing_last : Int32) (f_t_ringing_rows : Nat → Int32) (f_t_ringing_firsts : Nat → Int32) (f_t_ringing_firstOfRank : Nat → Int32) (v_t_homeward_bells : Int32) (v_t_homeward_fromRounds_bells : Int32) (v_t_homeward_fromRounds_size : Int32) (f_t_homeward_fromRounds_fewest : Nat → Int32) (f_t_homeward_fromRounds_reached : Nat → Int32) (f_t_homeward_leads : Nat → Int32) (f_t_homeward_leadsBack : Nat → Int32) (s1 : Int32) (s2 : Int32) (sz : Nat) (R : Int32 × Int32 × Int32 × Int32 × Int32 × (Nat → Int32) × (Nat → Int32) × (Nat → Int32) × Int32 × Int32 × Int32 × (Nat → Int32) × (Nat → Int32) × (Nat → Int32) × (Nat → Int32)) (hf : f_X10_row s1 s2 v_t_now_bells v_t_now_changes v_t_now_bob v_t_now_single v_t_now_leads f_t_now_places f_t_now_kinds v_t_ringing_bells v_t_ringing_changes v_t_ringing_leads v_t_ringing_last f_t_ringing_rows f_t_ringing_firsts f_t_ringing_firstOfRank v_t_homeward_bells v_t_homeward_fromRounds_bells v_t_homeward_fromRounds_size f_t_homeward_fromRounds_fewest f_t_homeward_fromRounds_reached f_t_homeward_leads f_t_homeward_leadsBack = some R) : Met l yX10_row (ws_ yX10_row cX10_row 4 (some .int)) rm_X10_row (va_Pc [.ref a_t, .int s1, .int s2] (RW D Y sz [(a_t, .inr (7, [.ref a_t_now, .ref a_t_trial, .ref a_t_snapshot, .int v_t_hasSnapshot, .ref a_t_history, .ref a_t_pad, .ref a_t_reader, .ref a_t_ringing, .ref a_t_homeward])), (a_t_now, .inr (6, [.int v_t_now_bells, .int v_t_now_changes, .int v_t_now_bob, .int v_t_now_single, .int v_t_now_leads, .ref a_t_now_places, .ref a_t_now_kinds])), (a_t_now_places, .inl (Y.1, 20, .inl f_t_now_places)), (a_t_now_kinds, .inl (Y.1, 17, .inl f_t_now_kinds)), (a_t_ringing, .inr (4, [.ref a_t_ringing_rows, .ref a_t_ringing_firsts, .ref a_t_ringing_firstOfRank, .int v_t_ringing_bells, .int v_t_ringing_changes, .int v_t_ringing_leads, .int v_t_ringing_last])), (a_t_ringing_rows, .inl (Y.1, 341, .inl f_t_ringing_rows)), (a_t_ringing_firsts, .inl (Y.1, 341, .inl f_t_ringing_firsts)), (a_t_ringing_firstOfRank, .inl (Y.1, 5040, .inl f_t_ringing_firstOfRank)), (a_t_homeward, .inr (1, [.ref a_t_homeward_fromRounds, .ref a_t_homeward_fromRow, .ref a_t_homeward_leads, .ref a_t_homeward_leadsBack, .int v_t_homeward_bells])), (a_t_homeward_fromRounds, .inr (5, [.ref a_t_homeward_fromRounds_fewest, .ref a_t_homeward_fromRounds_reached, .int v_t_homeward_fromRounds_bells, .int v_t_homeward_fromRounds_size])), (a_t_homeward_fromRounds_fewest, .inl (Y.1, 5040, .inl f_t_homeward_fromRounds_fewest)), (a_t_homeward_fromRounds_reached, .inl (Y.1, 5040, .inl f_t_homeward_fromRounds_reached)), (a_t_homeward_leads, .inl (Y.1, 3, .inl f_t_homeward_leads)), (a_t_homeward_leadsBack, .inl (Y.1, 3, .inl f_t_homeward_leadsBack))])) (QI D R.1 [(a_t, .inr (7, [.ref a_t_now, .ref a_t_trial, .ref a_t_snapshot, .int v_t_hasSnapshot, .ref a_t_history, .ref a_t_pad, .ref a_t_reader, .ref a_t_ringing, .ref a_t_homeward])), (a_t_now, .inr (6, [.int v_t_now_bells, .int v_t_now_changes, .int v_t_now_bob, .int v_t_now_single, .int v_t_now_leads, .ref a_t_now_places, .ref a_t_now_kinds])), (a_t_now_places, .inl (Y.1, 20, .inl f_t_now_places)), (a_t_now_kinds, .inl (Y.1, 17, .inl f_t_now_kinds)), (a_t_ringing, .inr (4, [.ref a_t_ringing_rows, .ref a_t_ringing_firsts, .ref a_t_ringing_firstOfRank, .int R.2.1, .int R.2.2.1, .int R.2.2.2.1, .int R.2.2.2.2.1])), (a_t_ringing_rows, .inl (Y.1, 341, .inl R.2.2.2.2.2.1)), (a_t_ringing_firsts, .inl (Y.1, 341, .inl R.2.2.2.2.2.2.1)), (a_t_ringing_firstOfRank, .inl (Y.1, 5040, .inl R.2.2.2.2.2.2.2.1)), (a_t_homeward, .inr (1, [.ref a_t_homeward_fromRounds, .ref a_t_homeward_fromRow, .ref a_t_homeward_leads, .ref a_t_homeward_leadsBack, .int R.2.2.2.2.2.2.2.2.1])), (a_t_homeward_fromRounds, .inr (5, [.ref a_t_homeward_fromRounds_fewest, .ref a_t_homeward_fromRounds_reached, .int R.2.2.2.2.2.2.2.2.2.1, .int R.2.2.2.2.2.2.2.2.2.2.1])), (a_t_homeward_fromRounds_fewest, .inl (Y.1, 5040, .inl R.2.2.2.2.2.2.2.2.2.2.2.1)), (a_t_homeward_fromRounds_reached, .inl (Y.1, 5040, .inl R.2.2.2.2.2.2.2.2.2.2.2.2.1)), (a_t_homeward_leads, .inl (Y.1, 3, .inl R.2.2.2.2.2.2.2.2.2.2.2.2.2.1)), (a_t_homeward_leadsBack, .inl (Y.1, 3, .inl R.2.2.2.2.2.2.2.2.2.2.2.2.2.2))] (va_A [(a_t, .inr (7, [.ref a_t_now, .ref a_t_trial, .ref a_t_snapshot, .int v_t_hasSnapshot, .ref a_t_history, .ref a_t_pad, .ref a_t_reader, .ref a_t_ringing, .ref a_t_homeward])), (a_t_now, .inr (6, [.int v_t_now_bells, .int v_t_now_changes, .int v_t_now_bob, .int v_t_now_single, .int v_t_now_leads, .ref a_t_now_places, .ref a_t_now_kinds])), (a_t_now_places, .inl (Y.1, 20, .inl f_t_now_places)), (a_t_now_kinds, .inl (Y.1, 17, .inl f_t_now_kinds)), (a_t_ringing, .inr (4, [.ref a_t_ringing_rows, .ref a_t_ringing_firsts, .ref a_t_ringing_firstOfRank, .int v_t_ringing_bells, .int v_t_ringing_changes, .int v_t_ringing_leads, .int v_t_ringing_last])), (a_t_ringing_rows, .inl (Y.1, 341, .inl f_t_ringing_rows)), (a_t_ringing_firsts, .inl (Y.1, 341, .inl f_t_ringing_firsts)), (a_t_ringing_firstOfRank, .inl (Y.1, 5040, .inl f_t_ringing_firstOfRank)), (a_t_homeward, .inr (1, [.ref a_t_homeward_fromRounds, .ref a_t_homeward_fromRow, .ref a_t_homeward_leads, .ref a_t_homeward_leadsBack, .int v_t_homeward_bells])), (a_t_homeward_fromRounds, .inr (5, [.ref a_t_homeward_fromRounds_fewest, .ref a_t_homeward_fromRounds_reached, .int v_t_homeward_fromRounds_bells, .int v_t_homeward_fromRounds_size])), (a_t_homeward_fromRounds_fewest, .inl (Y.1, 5040, .inl f_t_homeward_fromRounds_fewest)), (a_t_homeward_fromRounds_reached, .inl (Y.1, 5040, .inl f_t_homeward_fromRounds_reached)), (a_t_homeward_leads, .inl (Y.1, 3, .inl f_t_homeward_leads)), (a_t_homeward_leadsBack, .inl (Y.1, 3, .inl f_t_homeward_leadsBack))] sz)) 0 0 (va_A [(a_t, .inr (7, [.ref a_t_now, .ref a_t_trial, .ref a_t_snapshot, .int v_t_hasSnapshot, .ref a_t_history, .ref a_t_pad, .ref a_t_reader, .ref a_t_ringing, .ref a_t_homeward])), (a_t_now, .inr (6, [.int v_t_now_bells, .int v_t_now_changes, .int v_t_now_bob, .int v_t_now_single, .int v_t_now_leads, .ref a_t_now_places, .ref a_t_now_kinds])), (a_t_now_places, .inl (Y.1, 20, .inl f_t_now_places)), (a_t_now_kinds, .inl (Y.1, 17, .inl f_t_now_kinds)), (a_t_ringing, .inr (4, [.ref a_t_ringing_rows, .ref a_t_ringing_firsts, .ref a_t_ringing_firstOfRank, .int v_t_ringing_bells, .int v_t_ringing_changes, .int v_t_ringing_leads, .int v_t_ringing_last])), (a_t_ringing_rows, .inl (Y.1, 341, .inl f_t_ringing_rows)), (a_t_ringing_firsts, .inl (Y.1, 341, .inl f_t_ringing_firsts)), (a_t_ringing_firstOfRank, .inl (Y.1, 5040, .inl f_t_ringing_firstOfRank)), (a_t_homeward, .inr (1, [.ref a_t_homeward_fromRounds, .ref a_t_homeward_fromRow, .ref a_t_homeward_leads, .ref a_t_homeward_leadsBack, .int v_t_homeward_bells])), (a_t_homeward_fromRounds, .inr (5, [.ref a_t_homeward_fromRounds_fewest, .ref a_t_homeward_fromRounds_reached, .int v_t_homeward_fromRounds_bells, .int v_t_homeward_fromRounds_size])), (a_t_homeward_fromRounds_fewest, .inl (Y.1, 5040, .inl f_t_homeward_fromRounds_fewest)), (a_t_homeward_fromRounds_reached, .inl (Y.1, 5040, .inl f_t_homeward_fromRounds_reached)), (a_t_homeward_leads, .inl (Y.1, 3, .inl f_t_homeward_leads)), (a_t_homeward_leadsBack, .inl (Y.1, 3, .inl f_t_homeward_leadsBack))] sz) := by
  refine rw_start (Qc := fun A => QI D R.1 [(a_t, .inr (7, [.ref a_t_now, .ref a_t_trial, .ref a_t_snapshot, .int v_t_hasSnapshot, .ref a_t_history, .ref a_t_pad, .ref a_t_reader, .ref a_t_ringing, .ref a_t_homeward])), (a_t_now, .inr (6, [.int v_t_now_bells, .int v_t_now_changes, .int v_t_now_bob, .int v_t_now_single, .int v_t_now_leads, .ref a_t_now_places, .ref a_t_now_kinds])), (a_t_now_places, .inl (Y.1, 20, .inl f_t_now_places)), (a_t_now_kinds, .inl (Y.1, 17, .inl f_t_now_kinds)), (a_t_ringing, .inr (4, [.ref a_t_ringing_rows, .ref a_t_ringing_firsts, .ref a_t_ringing_firstOfRank, .int R.2.1, .int R.2.2.1, .int R.2.2.2.1, .int R.2.2.2.2.1])), (a_t_ringing_rows, .inl (Y.1, 341, .inl R.2.2.2.2.2.1)), (a_t_ringing_firsts, .inl (Y.1, 341, .inl R.2.2.2.2.2.2.1)), (a_t_ringing_firstOfRank, .inl (Y.1, 5040, .inl R.2.2.2.2.2.2.2.1)), (a_t_homeward, .inr (1, [.ref a_t_homeward_fromRounds, .ref a_t_homeward_fromRow, .ref a_t_homeward_leads, .ref a_t_homeward_leadsBack, .int R.2.2.2.2.2.2.2.2.1])), (a_t_homeward_fromRounds, .inr (5, [.ref a_t_homeward_fromRounds_fewest, .ref a_t_homeward_fromRounds_reached, .int R.2.2.2.2.2.2.2.2.2.1, .int R.2.2.2.2.2.2.2.2.2.2.1])), (a_t_homeward_fromRounds_fewest, .inl (Y.1, 5040, .inl R.2.2.2.2.2.2.2.2.2.2.2.1)), (a_t_homeward_fromRounds_reached, .inl (Y.1, 5040, .inl R.2.2.2.2.2.2.2.2.2.2.2.2.1)), (a_t_homeward_leads, .inl (Y.1, 3, .inl R.2.2.2.2.2.2.2.2.2.2.2.2.2.1)), (a_t_homeward_leadsBack, .inl (Y.1, 3, .inl R.2.2.2.2.2.2.2.2.2.2.2.2.2.2))] A) (by decide) (Nat.le_of_ble_eq_true rfl) ?_
  intro p e s m below meth c ls A hx hb hml hr hlocks hown hts hnm hA hP hD hS hE hl
  generalize hargs : List.toArray _ = args at hts ⊢
  have hown : s.vm.findClass RX10 = some m.cls := hown
  have E : EN p m c cX10_row 4 s args RX10 := ⟨hx, hb, hml, hown, hts⟩
  have hl : lv_has ls 4 [(0, .ref a_t), (1, .int s1), (2, .int s2)] := hl
  generalize hQ : MQ below _ args s 0 0 _ = Q
  unfold f_X10_row at hf
  refine lv_iload_n hx hb dX10_row_0 rfl (lv_at hl 1 rfl) ?_
  refine lv_iconst (v := 0) hx hb dX10_row_1 (by decide) ?_
  refine lv_aload_n hx hb dX10_row_2 rfl (lv_at hl 0 rfl) ?_
  refine va_get (D := D) (ci := 7) (v := .ref a_t_now) (C := RX10) (T := TX10) (N := 9) hx hb hts inX10 hown hE.1 hP 0 rfl rfl 0 (by decide) (hts _ qw322) (fun _ h9 => h9) rfl dX10_row_3 ?_
  refine af_oi (run_V (As := []) (rest := [.int 0, .int s1]) E (c_X9_lastRow l D Y a_t_now a_t_now_places a_t_now_kinds v_t_now_bells v_t_now_changes v_t_now_bob v_t_now_single v_t_now_leads (f_X9_lastRow v_t_now_changes v_t_now_leads) rfl) qw380 qw381 qw382 qw20 qw383 rfl rfl hd_X9_lastRow ⟨Nat.le_of_ble_eq_true rfl, Nat.le_of_ble_eq_true rfl⟩ (pre_roV hP hE [1] rfl (ci := 6) (q0 := 1) rfl rfl) rfl hl.1 rfl (Nat.le_of_ble_eq_true rfl) dX10_row_6 ⟨Nat.zero_le _, Nat.zero_le _⟩) ?_
  refine af_oz (run_S (As := [.int s1, .int 0, .int (f_X9_lastRow v_t_now_changes v_t_now_leads)]) (rest := []) E (c_X10_isWithin l D Y s1 0 (f_X9_lastRow v_t_now_changes v_t_now_leads) (f_X10_isWithin s1 0 (f_X9_lastRow v_t_now_changes v_t_now_leads)) rfl) qw384 qw385 qw19 qw386 rfl rfl hd_X10_isWithin ⟨Nat.le_of_ble_eq_true rfl, Nat.le_of_ble_eq_true rfl⟩ (pre_roS hP hE [] rfl) rfl hl.1 rfl (Nat.le_of_ble_eq_true rfl) dX10_row_9 ⟨Nat.zero_le _, Nat.zero_le _⟩) (fun z1 => ?_)
  refine lv_if_eq (tgt := 24) hx hb dX10_row_12 (by decide) (fun c2 => ?_) (fun c2 => ?_)
  · have hf := ite_t c2 hf
    refine lv_iconst (v := (-1)) hx hb dX10_row_24 (by decide) ?_
    obtain rfl := Option.some.inj hf
    subst hQ
    exact en_i hx hb hr hlocks hP hD hS rfl dX10_row_25
  have hf := ite_f c2 hf
  refine lv_iload_n hx hb dX10_row_15 rfl (lv_at hl 2 rfl) ?_
  refine lv_iconst (v := 0) hx hb dX10_row_16 (by decide) ?_
  refine lv_iconst (v := 5) hx hb dX10_row_17 (by decide) ?_
  refine af_oz (run_S (As := [.int s2, .int 0, .int 5]) (rest := []) E (c_X10_isWithin l D Y s2 0 5 (f_X10_isWithin s2 0 5) rfl) qw384 qw385 qw19 qw386 rfl rfl hd_X10_isWithin ⟨Nat.le_of_ble_eq_true rfl, Nat.le_of_ble_eq_true rfl⟩ (pre_roS hP hE [] rfl) rfl hl.1 rfl (Nat.le_of_ble_eq_true rfl) dX10_row_18 ⟨Nat.zero_le _, Nat.zero_le _⟩) (fun z3 => ?_)
  refine lv_if_ne (tgt := 26) hx hb dX10_row_21 (by decide) (fun c4 => ?_) (fun c4 => ?_)
  · have hf := ite_f c4 hf
    refine lv_aload_n hx hb dX10_row_26 rfl (lv_at hl 0 rfl) ?_
    refine va_get (D := D) (ci := 7) (v := .ref a_t_ringing) (C := RX10) (T := TX10) (N := 9) hx hb hts inX10 hown hE.1 hP 0 rfl rfl 7 (by decide) (hts _ qw328) (fun _ h9 => h9) rfl dX10_row_27 ?_
    refine lv_aload_n hx hb dX10_row_30 rfl (lv_at hl 0 rfl) ?_
    refine va_get (D := D) (ci := 7) (v := .ref a_t_now) (C := RX10) (T := TX10) (N := 9) hx hb hts inX10 hown hE.1 hP 0 rfl rfl 0 (by decide) (hts _ qw322) (fun _ h9 => h9) rfl dX10_row_31 ?_
    obtain ⟨q5, h6, hf⟩ := bd_s hf
    refine af_v0 (wc := [(a_t_ringing, .inr (4, [.ref a_t_ringing_rows, .ref a_t_ringing_firsts, .ref a_t_ringing_firstOfRank, .int v_t_ringing_bells, .int v_t_ringing_changes, .int v_t_ringing_leads, .int v_t_ringing_last])), (a_t_ringing_rows, .inl (Y.1, 341, .inl f_t_ringing_rows)), (a_t_ringing_firsts, .inl (Y.1, 341, .inl f_t_ringing_firsts)), (a_t_ringing_firstOfRank, .inl (Y.1, 5040, .inl f_t_ringing_firstOfRank)), (a_t_now, .inr (6, [.int v_t_now_bells, .int v_t_now_changes, .int v_t_now_bob, .int v_t_now_single, .int v_t_now_leads, .ref a_t_now_places, .ref a_t_now_kinds])), (a_t_now_places, .inl (Y.1, 20, .inl f_t_now_places)), (a_t_now_kinds, .inl (Y.1, 17, .inl f_t_now_kinds))]) (wr := [(a_t, .inr (7, [.ref a_t_now, .ref a_t_trial, .ref a_t_snapshot, .int v_t_hasSnapshot, .ref a_t_history, .ref a_t_pad, .ref a_t_reader, .ref a_t_ringing, .ref a_t_homeward])), (a_t_homeward, .inr (1, [.ref a_t_homeward_fromRounds, .ref a_t_homeward_fromRow, .ref a_t_homeward_leads, .ref a_t_homeward_leadsBack, .int v_t_homeward_bells])), (a_t_homeward_fromRounds, .inr (5, [.ref a_t_homeward_fromRounds_fewest, .ref a_t_homeward_fromRounds_reached, .int v_t_homeward_fromRounds_bells, .int v_t_homeward_fromRounds_size])), (a_t_homeward_fromRounds_fewest, .inl (Y.1, 5040, .inl f_t_homeward_fromRounds_fewest)), (a_t_homeward_fromRounds_reached, .inl (Y.1, 5040, .inl f_t_homeward_fromRounds_reached)), (a_t_homeward_leads, .inl (Y.1, 3, .inl f_t_homeward_leads)), (a_t_homeward_leadsBack, .inl (Y.1, 3, .inl f_t_homeward_leadsBack))]) (wn := [(a_t, .inr (7, [.ref a_t_now, .ref a_t_trial, .ref a_t_snapshot, .int v_t_hasSnapshot, .ref a_t_history, .ref a_t_pad, .ref a_t_reader, .ref a_t_ringing, .ref a_t_homeward])), (a_t_now, .inr (6, [.int v_t_now_bells, .int v_t_now_changes, .int v_t_now_bob, .int v_t_now_single, .int v_t_now_leads, .ref a_t_now_places, .ref a_t_now_kinds])), (a_t_now_places, .inl (Y.1, 20, .inl f_t_now_places)), (a_t_now_kinds, .inl (Y.1, 17, .inl f_t_now_kinds)), (a_t_ringing, .inr (4, [.ref a_t_ringing_rows, .ref a_t_ringing_firsts, .ref a_t_ringing_firstOfRank, .int q5.1, .int q5.2.1, .int q5.2.2.1, .int q5.2.2.2.1])), (a_t_ringing_rows, .inl (Y.1, 341, .inl q5.2.2.2.2.1)), (a_t_ringing_firsts, .inl (Y.1, 341, .inl q5.2.2.2.2.2.1)), (a_t_ringing_firstOfRank, .inl (Y.1, 5040, .inl q5.2.2.2.2.2.2)), (a_t_homeward, .inr (1, [.ref a_t_homeward_fromRounds, .ref a_t_homeward_fromRow, .ref a_t_homeward_leads, .ref a_t_homeward_leadsBack, .int v_t_homeward_bells])), (a_t_homeward_fromRounds, .inr (5, [.ref a_t_homeward_fromRounds_fewest, .ref a_t_homeward_fromRounds_reached, .int v_t_homeward_fromRounds_bells, .int v_t_homeward_fromRounds_size])), (a_t_homeward_fromRounds_fewest, .inl (Y.1, 5040, .inl f_t_homeward_fromRounds_fewest)), (a_t_homeward_fromRounds_reached, .inl (Y.1, 5040, .inl f_t_homeward_fromRounds_reached)), (a_t_homeward_leads, .inl (Y.1, 3, .inl f_t_homeward_leads)), (a_t_homeward_leadsBack, .inl (Y.1, 3, .inl f_t_homeward_leadsBack))]) (run_V (As := [.ref a_t_now]) (rest := []) E (c_X5_ring l D Y a_t_ringing a_t_ringing_rows a_t_ringing_firsts a_t_ringing_firstOfRank a_t_now a_t_now_places a_t_now_kinds v_t_ringing_bells v_t_ringing_changes v_t_ringing_leads v_t_ringing_last f_t_ringing_rows f_t_ringing_firsts f_t_ringing_firstOfRank v_t_now_bells v_t_now_changes v_t_now_bob v_t_now_single v_t_now_leads f_t_now_places f_t_now_kinds s.heap.size q5 h6) qw391 qw392 qw393 qw24 qw394 rfl rfl hd_X5_ring ⟨Nat.le_of_ble_eq_true rfl, Nat.le_of_ble_eq_true rfl⟩ (pre_rwV hP hD hE [4, 5, 6, 7, 1, 2, 3] rfl (by decide) rfl (ci := 4) (q0 := 4) rfl rfl) rfl hl.1 rfl (Nat.le_of_ble_eq_true rfl) dX10_row_34 ⟨Nat.zero_le _, Nat.zero_le _⟩) hP hD hS hA [4, 5, 6, 7, 1, 2, 3] [0, 8, 9, 10, 11, 12, 13] [0, 11, 12, 13, 7, 8, 9, 10, 1, 2, 3, 4, 5, 6] rfl rfl (by decide) (by decide) rfl rfl (by decide) (fun H locs  hP hD hS => ?_)
    refine lv_aload_n hx hb dX10_row_37 rfl (lv_at hl 0 rfl) ?_
    refine va_get (D := D) (ci := 7) (v := .ref a_t_ringing) (C := RX10) (T := TX10) (N := 9) hx hb hts inX10 hown hE.1 hP 0 rfl rfl 7 (by decide) (hts _ qw328) (fun _ h9 => h9) rfl dX10_row_38 ?_
    refine lv_iload_n hx hb dX10_row_41 rfl (lv_at hl 1 rfl) ?_
    obtain ⟨q7, h8, hf⟩ := bd_s hf
    refine af_oi (run_V (As := [.int s1]) (rest := []) E (c_X5_rowAt l D Y a_t_ringing a_t_ringing_rows a_t_ringing_firsts a_t_ringing_firstOfRank q5.1 q5.2.1 q5.2.2.1 q5.2.2.2.1 q5.2.2.2.2.1 s1 q7 h8) qw445 qw428 qw429 qw24 qw430 rfl rfl hd_X5_rowAt ⟨Nat.le_of_ble_eq_true rfl, Nat.le_of_ble_eq_true rfl⟩ (pre_roV hP hE [4, 5] rfl (ci := 4) (q0 := 4) rfl rfl) rfl hl.1 rfl (Nat.le_of_ble_eq_true rfl) dX10_row_42 ⟨Nat.zero_le _, Nat.zero_le _⟩) ?_
    refine lv_istore_n (lv' := [(3, .int q7), (0, .ref a_t), (1, .int s1), (2, .int s2)]) hx hb dX10_row_45 rfl hl (by decide) rfl (fun ls hl => ?_)
    refine lv_iload_n hx hb dX10_row_46 rfl (lv_at hl 3 rfl) ?_
    by_cases c9 : s2 = 0
    · have hf := ite_t c9 hf
      refine lv_tableIn (tgt := 80) (off := 33) hx hb dX10_row_47 (by rw [c9]; decide) (by rw [c9]; decide) (by rw [c9]; rfl) (by decide) ?_
      refine lv_iload_n hx hb dX10_row_80 rfl (lv_at hl 0 rfl) ?_
      refine lv_aload_n hx hb dX10_row_81 rfl (lv_at hl 1 rfl) ?_
      refine va_get (D := D) (ci := 7) (v := .ref a_t_now) (C := RX10) (T := TX10) (N := 9) hx hb hts inX10 hown hE.1 hP 0 rfl rfl 0 (by decide) (hts _ qw322) (fun _ h9 => h9) rfl dX10_row_82 ?_
      refine va_getN (D := D) (ci := 6) (v := .int v_t_now_bells) (C := RX9) (T := TX9) (N := 7) hx hb hts inX9 hown hE.1 hP 1 rfl rfl 0 (by decide) (va_Nw.use rfl (hE.2.1 _ qw54)) (fun _ h9 => h9) rfl dX10_row_85 ?_
      obtain ⟨q10, h11, hf⟩ := bd_s hf
      refine af_oi (run_S (As := [.int q7, .int v_t_now_bells]) (rest := []) E (c_X6_signByPairs l D Y q7 v_t_now_bells q10 h11) qw451 qw452 qw34 qw453 rfl rfl hd_X6_signByPairs ⟨Nat.le_of_ble_eq_true rfl, Nat.le_of_ble_eq_true rfl⟩ (pre_roS hP hE [] rfl) rfl hl.1 rfl (Nat.le_of_ble_eq_true rfl) dX10_row_88 ⟨Nat.zero_le _, Nat.zero_le _⟩) ?_
      obtain rfl := Option.some.inj hf
      subst hQ
      exact en_i hx hb hr hlocks hP hD hS rfl dX10_row_91
    have hf := ite_f c9 hf
    by_cases c12 : s2 = 1
    · have hf := ite_t c12 hf
      refine lv_tableIn (tgt := 92) (off := 45) hx hb dX10_row_47 (by rw [c12]; decide) (by rw [c12]; decide) (by rw [c12]; rfl) (by decide) ?_
      refine lv_iload_n hx hb dX10_row_92 rfl (lv_at hl 0 rfl) ?_
      refine lv_aload_n hx hb dX10_row_93 rfl (lv_at hl 1 rfl) ?_
      refine va_get (D := D) (ci := 7) (v := .ref a_t_now) (C := RX10) (T := TX10) (N := 9) hx hb hts inX10 hown hE.1 hP 0 rfl rfl 0 (by decide) (hts _ qw322) (fun _ h9 => h9) rfl dX10_row_94 ?_
      refine va_getN (D := D) (ci := 6) (v := .int v_t_now_bells) (C := RX9) (T := TX9) (N := 7) hx hb hts inX9 hown hE.1 hP 1 rfl rfl 0 (by decide) (va_Nw.use rfl (hE.2.1 _ qw54)) (fun _ h9 => h9) rfl dX10_row_97 ?_
      obtain ⟨q13, h14, hf⟩ := bd_s hf
      refine af_oi (run_S (As := [.int q7, .int v_t_now_bells]) (rest := []) E (c_X6_signByCycles l D Y q7 v_t_now_bells q13 h14) qw454 qw455 qw34 qw456 rfl rfl hd_X6_signByCycles ⟨Nat.le_of_ble_eq_true rfl, Nat.le_of_ble_eq_true rfl⟩ (pre_roS hP hE [] rfl) rfl hl.1 rfl (Nat.le_of_ble_eq_true rfl) dX10_row_100 ⟨Nat.zero_le _, Nat.zero_le _⟩) ?_
      obtain rfl := Option.some.inj hf
      subst hQ
      exact en_i hx hb hr hlocks hP hD hS rfl dX10_row_103
    have hf := ite_f c12 hf
    by_cases c15 : s2 = 2
    · have hf := ite_t c15 hf
      refine lv_tableIn (tgt := 104) (off := 57) hx hb dX10_row_47 (by rw [c15]; decide) (by rw [c15]; decide) (by rw [c15]; rfl) (by decide) ?_
      refine lv_iload_n hx hb dX10_row_104 rfl (lv_at hl 0 rfl) ?_
      refine lv_aload_n hx hb dX10_row_105 rfl (lv_at hl 1 rfl) ?_
      refine va_get (D := D) (ci := 7) (v := .ref a_t_now) (C := RX10) (T := TX10) (N := 9) hx hb hts inX10 hown hE.1 hP 0 rfl rfl 0 (by decide) (hts _ qw322) (fun _ h9 => h9) rfl dX10_row_106 ?_
      refine va_getN (D := D) (ci := 6) (v := .int v_t_now_bells) (C := RX9) (T := TX9) (N := 7) hx hb hts inX9 hown hE.1 hP 1 rfl rfl 0 (by decide) (va_Nw.use rfl (hE.2.1 _ qw54)) (fun _ h9 => h9) rfl dX10_row_109 ?_
      refine af_oz (run_S (As := [.int q7, .int v_t_now_bells]) (rest := []) E (c_X6_soundsWell l D Y q7 v_t_now_bells (f_X6_soundsWell q7 v_t_now_bells) rfl) qw457 qw458 qw34 qw459 rfl rfl hd_X6_soundsWell ⟨Nat.le_of_ble_eq_true rfl, Nat.le_of_ble_eq_true rfl⟩ (pre_roS hP hE [] rfl) rfl hl.1 rfl (Nat.le_of_ble_eq_true rfl) dX10_row_112 ⟨Nat.zero_le _, Nat.zero_le _⟩) (fun z16 => ?_)
      refine lv_if_eq (tgt := 122) hx hb dX10_row_115 (by decide) (fun c17 => ?_) (fun c17 => ?_)
      · have hf := ite_t c17 hf
        refine lv_iconst (v := 0) hx hb dX10_row_122 (by decide) ?_
        obtain rfl := Option.some.inj hf
        subst hQ
        exact en_i hx hb hr hlocks hP hD hS rfl dX10_row_123
      have hf := ite_f c17 hf
      refine lv_iconst (v := 1) hx hb dX10_row_118 (by decide) ?_
      refine lv_goto (tgt := 123) hx hb dX10_row_119 (by decide) ?_
      obtain rfl := Option.some.inj hf
      subst hQ
      exact en_i hx hb hr hlocks hP hD hS rfl dX10_row_123
    have hf := ite_f c15 hf
    by_cases c18 : s2 = 3
    · have hf := ite_t c18 hf
      refine lv_tableIn (tgt := 124) (off := 77) hx hb dX10_row_47 (by rw [c18]; decide) (by rw [c18]; decide) (by rw [c18]; rfl) (by decide) ?_
      refine lv_iload_n hx hb dX10_row_124 rfl (lv_at hl 0 rfl) ?_
      refine lv_aload_n hx hb dX10_row_125 rfl (lv_at hl 1 rfl) ?_
      refine va_get (D := D) (ci := 7) (v := .ref a_t_now) (C := RX10) (T := TX10) (N := 9) hx hb hts inX10 hown hE.1 hP 0 rfl rfl 0 (by decide) (hts _ qw322) (fun _ h9 => h9) rfl dX10_row_126 ?_
      refine va_getN (D := D) (ci := 6) (v := .int v_t_now_bells) (C := RX9) (T := TX9) (N := 7) hx hb hts inX9 hown hE.1 hP 1 rfl rfl 0 (by decide) (va_Nw.use rfl (hE.2.1 _ qw54)) (fun _ h9 => h9) rfl dX10_row_129 ?_
      obtain ⟨q19, h20, hf⟩ := bd_s hf
      refine af_oi (run_S (As := [.int q7, .int v_t_now_bells]) (rest := []) E (c_X6_bellsInPlace l D Y q7 v_t_now_bells q19 h20) qw460 qw461 qw34 qw462 rfl rfl hd_X6_bellsInPlace ⟨Nat.le_of_ble_eq_true rfl, Nat.le_of_ble_eq_true rfl⟩ (pre_roS hP hE [] rfl) rfl hl.1 rfl (Nat.le_of_ble_eq_true rfl) dX10_row_132 ⟨Nat.zero_le _, Nat.zero_le _⟩) ?_
      obtain rfl := Option.some.inj hf
      subst hQ
      exact en_i hx hb hr hlocks hP hD hS rfl dX10_row_135
    have hf := ite_f c18 hf
    by_cases c21 : s2 = 4
    · have hf := ite_t c21 hf
      refine lv_tableIn (tgt := 136) (off := 89) hx hb dX10_row_47 (by rw [c21]; decide) (by rw [c21]; decide) (by rw [c21]; rfl) (by decide) ?_
      refine lv_aload_n hx hb dX10_row_136 rfl (lv_at hl 1 rfl) ?_
      refine va_get (D := D) (ci := 7) (v := .ref a_t_ringing) (C := RX10) (T := TX10) (N := 9) hx hb hts inX10 hown hE.1 hP 0 rfl rfl 7 (by decide) (hts _ qw328) (fun _ h9 => h9) rfl dX10_row_137 ?_
      refine lv_iload_n hx hb dX10_row_140 rfl (lv_at hl 2 rfl) ?_
      obtain ⟨q22, h23, hf⟩ := bd_s hf
      refine af_oi (run_V (As := [.int s1]) (rest := []) E (c_X5_firstLike l D Y a_t_ringing a_t_ringing_rows a_t_ringing_firsts a_t_ringing_firstOfRank q5.1 q5.2.1 q5.2.2.1 q5.2.2.2.1 q5.2.2.2.2.1 q5.2.2.2.2.2.1 s1 q22 h23) qw463 qw464 qw465 qw24 qw466 rfl rfl hd_X5_firstLike ⟨Nat.le_of_ble_eq_true rfl, Nat.le_of_ble_eq_true rfl⟩ (pre_roV hP hE [4, 5, 6] rfl (ci := 4) (q0 := 4) rfl rfl) rfl hl.1 rfl (Nat.le_of_ble_eq_true rfl) dX10_row_141 ⟨Nat.zero_le _, Nat.zero_le _⟩) ?_
      obtain rfl := Option.some.inj hf
      subst hQ
      exact en_i hx hb hr hlocks hP hD hS rfl dX10_row_144
    have hf := ite_f c21 hf
    have nc9 := sw_ne (k := 0) (z := 0) rfl c9
    have nc12 := sw_ne (k := 1) (z := 1) rfl c12
    have nc15 := sw_ne (k := 2) (z := 2) rfl c15
    have nc18 := sw_ne (k := 3) (z := 3) rfl c18
    have nc21 := sw_ne (k := 4) (z := 4) rfl c21
    refine lv_tableOut (tgt := 145) hx hb dX10_row_47 (by omega) (by decide) ?_
    refine lv_aload_n hx hb dX10_row_145 rfl (lv_at hl 1 rfl) ?_
    refine va_get (D := D) (ci := 7) (v := .ref a_t_homeward) (C := RX10) (T := TX10) (N := 9) hx hb hts inX10 hown hE.1 hP 0 rfl rfl 8 (by decide) (hts _ qw329) (fun _ h9 => h9) rfl dX10_row_146 ?_
    refine lv_aload_n hx hb dX10_row_149 rfl (lv_at hl 1 rfl) ?_
    refine va_get (D := D) (ci := 7) (v := .ref a_t_now) (C := RX10) (T := TX10) (N := 9) hx hb hts inX10 hown hE.1 hP 0 rfl rfl 0 (by decide) (hts _ qw322) (fun _ h9 => h9) rfl dX10_row_150 ?_
    obtain ⟨q24, h25, hf⟩ := bd_s hf
    refine af_v0 (wc := [(a_t_homeward, .inr (1, [.ref a_t_homeward_fromRounds, .ref a_t_homeward_fromRow, .ref a_t_homeward_leads, .ref a_t_homeward_leadsBack, .int v_t_homeward_bells])), (a_t_homeward_fromRounds, .inr (5, [.ref a_t_homeward_fromRounds_fewest, .ref a_t_homeward_fromRounds_reached, .int v_t_homeward_fromRounds_bells, .int v_t_homeward_fromRounds_size])), (a_t_homeward_fromRounds_fewest, .inl (Y.1, 5040, .inl f_t_homeward_fromRounds_fewest)), (a_t_homeward_fromRounds_reached, .inl (Y.1, 5040, .inl f_t_homeward_fromRounds_reached)), (a_t_homeward_leads, .inl (Y.1, 3, .inl f_t_homeward_leads)), (a_t_homeward_leadsBack, .inl (Y.1, 3, .inl f_t_homeward_leadsBack)), (a_t_now, .inr (6, [.int v_t_now_bells, .int v_t_now_changes, .int v_t_now_bob, .int v_t_now_single, .int v_t_now_leads, .ref a_t_now_places, .ref a_t_now_kinds])), (a_t_now_places, .inl (Y.1, 20, .inl f_t_now_places))]) (wr := [(a_t, .inr (7, [.ref a_t_now, .ref a_t_trial, .ref a_t_snapshot, .int v_t_hasSnapshot, .ref a_t_history, .ref a_t_pad, .ref a_t_reader, .ref a_t_ringing, .ref a_t_homeward])), (a_t_now_kinds, .inl (Y.1, 17, .inl f_t_now_kinds)), (a_t_ringing, .inr (4, [.ref a_t_ringing_rows, .ref a_t_ringing_firsts, .ref a_t_ringing_firstOfRank, .int q5.1, .int q5.2.1, .int q5.2.2.1, .int q5.2.2.2.1])), (a_t_ringing_rows, .inl (Y.1, 341, .inl q5.2.2.2.2.1)), (a_t_ringing_firsts, .inl (Y.1, 341, .inl q5.2.2.2.2.2.1)), (a_t_ringing_firstOfRank, .inl (Y.1, 5040, .inl q5.2.2.2.2.2.2))]) (wn := [(a_t, .inr (7, [.ref a_t_now, .ref a_t_trial, .ref a_t_snapshot, .int v_t_hasSnapshot, .ref a_t_history, .ref a_t_pad, .ref a_t_reader, .ref a_t_ringing, .ref a_t_homeward])), (a_t_now, .inr (6, [.int v_t_now_bells, .int v_t_now_changes, .int v_t_now_bob, .int v_t_now_single, .int v_t_now_leads, .ref a_t_now_places, .ref a_t_now_kinds])), (a_t_now_places, .inl (Y.1, 20, .inl f_t_now_places)), (a_t_now_kinds, .inl (Y.1, 17, .inl f_t_now_kinds)), (a_t_ringing, .inr (4, [.ref a_t_ringing_rows, .ref a_t_ringing_firsts, .ref a_t_ringing_firstOfRank, .int q5.1, .int q5.2.1, .int q5.2.2.1, .int q5.2.2.2.1])), (a_t_ringing_rows, .inl (Y.1, 341, .inl q5.2.2.2.2.1)), (a_t_ringing_firsts, .inl (Y.1, 341, .inl q5.2.2.2.2.2.1)), (a_t_ringing_firstOfRank, .inl (Y.1, 5040, .inl q5.2.2.2.2.2.2)), (a_t_homeward, .inr (1, [.ref a_t_homeward_fromRounds, .ref a_t_homeward_fromRow, .ref a_t_homeward_leads, .ref a_t_homeward_leadsBack, .int q24.1])), (a_t_homeward_fromRounds, .inr (5, [.ref a_t_homeward_fromRounds_fewest, .ref a_t_homeward_fromRounds_reached, .int q24.2.1, .int q24.2.2.1])), (a_t_homeward_fromRounds_fewest, .inl (Y.1, 5040, .inl q24.2.2.2.1)), (a_t_homeward_fromRounds_reached, .inl (Y.1, 5040, .inl q24.2.2.2.2.1)), (a_t_homeward_leads, .inl (Y.1, 3, .inl q24.2.2.2.2.2.1)), (a_t_homeward_leadsBack, .inl (Y.1, 3, .inl q24.2.2.2.2.2.2))]) (run_V (As := [.ref a_t_now]) (rest := []) E (c_X1_learn l D Y a_t_homeward a_t_homeward_fromRounds a_t_homeward_fromRow a_t_homeward_leads a_t_homeward_leadsBack a_t_homeward_fromRounds_fewest a_t_homeward_fromRounds_reached a_t_now a_t_now_places a_t_now_kinds v_t_homeward_bells v_t_homeward_fromRounds_bells v_t_homeward_fromRounds_size f_t_homeward_fromRounds_fewest f_t_homeward_fromRounds_reached f_t_homeward_leads f_t_homeward_leadsBack v_t_now_bells v_t_now_changes v_t_now_bob v_t_now_single v_t_now_leads f_t_now_places H.size q24 h25) qw467 qw468 qw469 qw25 qw470 rfl rfl hd_X1_learn ⟨Nat.le_of_ble_eq_true rfl, Nat.le_of_ble_eq_true rfl⟩ (pre_rwV hP hD hE [8, 9, 10, 11, 12, 13, 1, 2] rfl (by decide) rfl (ci := 1) (q0 := 8) rfl rfl) rfl hl.1 rfl (Nat.le_of_ble_eq_true rfl) dX10_row_153 ⟨Nat.zero_le _, Nat.zero_le _⟩) hP hD hS hA [8, 9, 10, 11, 12, 13, 1, 2] [0, 3, 4, 5, 6, 7] [0, 12, 13, 1, 2, 3, 4, 5, 6, 7, 8, 9, 10, 11] rfl rfl (by decide) (by decide) rfl rfl (by decide) (fun H locs  hP hD hS => ?_)
    refine lv_aload_n hx hb dX10_row_156 rfl (lv_at hl 1 rfl) ?_
    refine va_get (D := D) (ci := 7) (v := .ref a_t_homeward) (C := RX10) (T := TX10) (N := 9) hx hb hts inX10 hown hE.1 hP 0 rfl rfl 8 (by decide) (hts _ qw329) (fun _ h9 => h9) rfl dX10_row_157 ?_
    refine lv_iload_n hx hb dX10_row_160 rfl (lv_at hl 0 rfl) ?_
    obtain ⟨q26, h27, hf⟩ := bd_s hf
    refine af_oi (run_V (As := [.int q7]) (rest := []) E (c_X1_leadsFrom l D Y a_t_homeward a_t_homeward_fromRounds a_t_homeward_fromRow a_t_homeward_leads a_t_homeward_leadsBack a_t_homeward_fromRounds_fewest a_t_homeward_fromRounds_reached q24.1 q24.2.1 q24.2.2.1 q24.2.2.2.1 q7 q26 h27) qw501 qw502 qw503 qw25 qw504 rfl rfl hd_X1_leadsFrom ⟨Nat.le_of_ble_eq_true rfl, Nat.le_of_ble_eq_true rfl⟩ (pre_roV hP hE [8, 9, 10] rfl (ci := 1) (q0 := 8) rfl rfl) rfl hl.1 rfl (Nat.le_of_ble_eq_true rfl) dX10_row_161 ⟨Nat.zero_le _, Nat.zero_le _⟩) ?_
    obtain rfl := Option.some.inj hf
    subst hQ
    exact en_i hx hb hr hlocks hP hD hS rfl dX10_row_164
  have hf := ite_t c4 hf
  refine lv_iconst (v := (-1)) hx hb dX10_row_24 (by decide) ?_
  obtain rfl := Option.some.inj hf
  subst hQ
  exact en_i hx hb hr hlocks hP hD hS rfl dX10_row_25

def f_X10_path (s1 : Int32) (s2 : Int32) (v_t_now_bells : Int32) (v_t_now_changes : Int32) (v_t_now_bob : Int32) (v_t_now_single : Int32) (v_t_now_leads : Int32) (f_t_now_places : Nat → Int32) (f_t_now_kinds : Nat → Int32) (v_t_ringing_bells : Int32) (v_t_ringing_changes : Int32) (v_t_ringing_leads : Int32) (v_t_ringing_last : Int32) (f_t_ringing_rows : Nat → Int32) (f_t_ringing_firsts : Nat → Int32) (f_t_ringing_firstOfRank : Nat → Int32) : Option (Int32 × Int32 × Int32 × Int32 × Int32 × (Nat → Int32) × (Nat → Int32) × (Nat → Int32)) :=
  (if (f_X10_isBell s1 v_t_now_bells) = 0 then some ((-1), v_t_ringing_bells, v_t_ringing_changes, v_t_ringing_leads, v_t_ringing_last, f_t_ringing_rows, f_t_ringing_firsts, f_t_ringing_firstOfRank) else (if (f_X10_isWithin s2 0 4) = 0 then some ((-1), v_t_ringing_bells, v_t_ringing_changes, v_t_ringing_leads, v_t_ringing_last, f_t_ringing_rows, f_t_ringing_firsts, f_t_ringing_firstOfRank) else bd (f_X5_ring v_t_ringing_bells v_t_ringing_changes v_t_ringing_leads v_t_ringing_last f_t_ringing_rows f_t_ringing_firsts f_t_ringing_firstOfRank v_t_now_bells v_t_now_changes v_t_now_bob v_t_now_single v_t_now_leads f_t_now_places f_t_now_kinds) (fun q5 => (if s2 = 0 then bd (f_X5_dodges s1 q5.1 q5.2.2.2.1 q5.2.2.2.2.1) (fun q8 => some (q8, q5.1, q5.2.1, q5.2.2.1, q5.2.2.2.1, q5.2.2.2.2.1, q5.2.2.2.2.2.1, q5.2.2.2.2.2.2)) else (if s2 = 1 then bd (f_X5_firstDodge s1 q5.1 q5.2.2.2.1 q5.2.2.2.2.1) (fun q11 => some (q11, q5.1, q5.2.1, q5.2.2.1, q5.2.2.2.1, q5.2.2.2.2.1, q5.2.2.2.2.2.1, q5.2.2.2.2.2.2)) else (if s2 = 2 then bd (f_X5_blowsAt s1 1 q5.2.2.2.1 q5.2.2.2.2.1) (fun q14 => some (q14, q5.1, q5.2.1, q5.2.2.1, q5.2.2.2.1, q5.2.2.2.2.1, q5.2.2.2.2.2.1, q5.2.2.2.2.2.2)) else (if s2 = 3 then bd (f_X5_stays s1 q5.1 q5.2.2.2.1 q5.2.2.2.2.1) (fun q17 => some (q17, q5.1, q5.2.1, q5.2.2.1, q5.2.2.2.1, q5.2.2.2.2.1, q5.2.2.2.2.2.1, q5.2.2.2.2.2.2)) else bd (f_X5_placeIn q5.2.2.2.1 s1 q5.1 q5.2.2.2.2.1) (fun q19 => some (q19, q5.1, q5.2.1, q5.2.2.1, q5.2.2.2.1, q5.2.2.2.2.1, q5.2.2.2.2.2.1, q5.2.2.2.2.2.2)))))))))
abbrev rm_X10_path : Room := { frames := 6, cells := 0, slots := 0, locals := 137 }
set_option maxHeartbeats 4000000 in
set_option maxRecDepth 100000 in
theorem c_X10_path (l : Launch) (D : va_G) (Y : ClassId × ClassId × ClassId × ClassId) (a_t a_t_now a_t_trial a_t_snapshot a_t_history a_t_pad a_t_reader a_t_ringing a_t_homeward a_t_now_places a_t_now_kinds a_t_ringing_rows a_t_ringing_firsts a_t_ringing_firstOfRank : Nat) (v_t_hasSnapshot : Int32) (v_t_now_bells : Int32) (v_t_now_changes : Int32) (v_t_now_bob : Int32) (v_t_now_single : Int32) (v_t_now_leads : Int32) (f_t_now_places : Nat → Int32) (f_t_now_kinds : Nat → Int32) (v_t_ringing_bells : Int32) (v_t_ringing_changes : Int32) (v_t_ringing_leads : Int32) (v_t_ringing_last : Int32) (f_t_ringing_rows : Nat → Int32) (f_t_ringing_firsts : Nat → Int32) (f_t_ringing_firstOfRank : Nat → Int32) (s1 : Int32) (s2 : Int32) (sz : Nat) (R : Int32 × Int32 × Int32 × Int32 × Int32 × (Nat → Int32) × (Nat → Int32) × (Nat → Int32)) (hf : f_X10_path s1 s2 v_t_now_bells v_t_now_changes v_t_now_bob v_t_now_single v_t_now_leads f_t_now_places f_t_now_kinds v_t_ringing_bells v_t_ringing_changes v_t_ringing_leads v_t_ringing_last f_t_ringing_rows f_t_ringing_firsts f_t_ringing_firstOfRank = some R) : Met l yX10_path (ws_ yX10_path cX10_path 3 (some .int)) rm_X10_path (va_Pc [.ref a_t, .int s1, .int s2] (RW D Y sz [(a_t, .inr (7, [.ref a_t_now, .ref a_t_trial, .ref a_t_snapshot, .int v_t_hasSnapshot, .ref a_t_history, .ref a_t_pad, .ref a_t_reader, .ref a_t_ringing, .ref a_t_homeward])), (a_t_now, .inr (6, [.int v_t_now_bells, .int v_t_now_changes, .int v_t_now_bob, .int v_t_now_single, .int v_t_now_leads, .ref a_t_now_places, .ref a_t_now_kinds])), (a_t_now_places, .inl (Y.1, 20, .inl f_t_now_places)), (a_t_now_kinds, .inl (Y.1, 17, .inl f_t_now_kinds)), (a_t_ringing, .inr (4, [.ref a_t_ringing_rows, .ref a_t_ringing_firsts, .ref a_t_ringing_firstOfRank, .int v_t_ringing_bells, .int v_t_ringing_changes, .int v_t_ringing_leads, .int v_t_ringing_last])), (a_t_ringing_rows, .inl (Y.1, 341, .inl f_t_ringing_rows)), (a_t_ringing_firsts, .inl (Y.1, 341, .inl f_t_ringing_firsts)), (a_t_ringing_firstOfRank, .inl (Y.1, 5040, .inl f_t_ringing_firstOfRank))])) (QI D R.1 [(a_t, .inr (7, [.ref a_t_now, .ref a_t_trial, .ref a_t_snapshot, .int v_t_hasSnapshot, .ref a_t_history, .ref a_t_pad, .ref a_t_reader, .ref a_t_ringing, .ref a_t_homeward])), (a_t_now, .inr (6, [.int v_t_now_bells, .int v_t_now_changes, .int v_t_now_bob, .int v_t_now_single, .int v_t_now_leads, .ref a_t_now_places, .ref a_t_now_kinds])), (a_t_now_places, .inl (Y.1, 20, .inl f_t_now_places)), (a_t_now_kinds, .inl (Y.1, 17, .inl f_t_now_kinds)), (a_t_ringing, .inr (4, [.ref a_t_ringing_rows, .ref a_t_ringing_firsts, .ref a_t_ringing_firstOfRank, .int R.2.1, .int R.2.2.1, .int R.2.2.2.1, .int R.2.2.2.2.1])), (a_t_ringing_rows, .inl (Y.1, 341, .inl R.2.2.2.2.2.1)), (a_t_ringing_firsts, .inl (Y.1, 341, .inl R.2.2.2.2.2.2.1)), (a_t_ringing_firstOfRank, .inl (Y.1, 5040, .inl R.2.2.2.2.2.2.2))] (va_A [(a_t, .inr (7, [.ref a_t_now, .ref a_t_trial, .ref a_t_snapshot, .int v_t_hasSnapshot, .ref a_t_history, .ref a_t_pad, .ref a_t_reader, .ref a_t_ringing, .ref a_t_homeward])), (a_t_now, .inr (6, [.int v_t_now_bells, .int v_t_now_changes, .int v_t_now_bob, .int v_t_now_single, .int v_t_now_leads, .ref a_t_now_places, .ref a_t_now_kinds])), (a_t_now_places, .inl (Y.1, 20, .inl f_t_now_places)), (a_t_now_kinds, .inl (Y.1, 17, .inl f_t_now_kinds)), (a_t_ringing, .inr (4, [.ref a_t_ringing_rows, .ref a_t_ringing_firsts, .ref a_t_ringing_firstOfRank, .int v_t_ringing_bells, .int v_t_ringing_changes, .int v_t_ringing_leads, .int v_t_ringing_last])), (a_t_ringing_rows, .inl (Y.1, 341, .inl f_t_ringing_rows)), (a_t_ringing_firsts, .inl (Y.1, 341, .inl f_t_ringing_firsts)), (a_t_ringing_firstOfRank, .inl (Y.1, 5040, .inl f_t_ringing_firstOfRank))] sz)) 0 0 (va_A [(a_t, .inr (7, [.ref a_t_now, .ref a_t_trial, .ref a_t_snapshot, .int v_t_hasSnapshot, .ref a_t_history, .ref a_t_pad, .ref a_t_reader, .ref a_t_ringing, .ref a_t_homeward])), (a_t_now, .inr (6, [.int v_t_now_bells, .int v_t_now_changes, .int v_t_now_bob, .int v_t_now_single, .int v_t_now_leads, .ref a_t_now_places, .ref a_t_now_kinds])), (a_t_now_places, .inl (Y.1, 20, .inl f_t_now_places)), (a_t_now_kinds, .inl (Y.1, 17, .inl f_t_now_kinds)), (a_t_ringing, .inr (4, [.ref a_t_ringing_rows, .ref a_t_ringing_firsts, .ref a_t_ringing_firstOfRank, .int v_t_ringing_bells, .int v_t_ringing_changes, .int v_t_ringing_leads, .int v_t_ringing_last])), (a_t_ringing_rows, .inl (Y.1, 341, .inl f_t_ringing_rows)), (a_t_ringing_firsts, .inl (Y.1, 341, .inl f_t_ringing_firsts)), (a_t_ringing_firstOfRank, .inl (Y.1, 5040, .inl f_t_ringing_firstOfRank))] sz) := by
  refine rw_start (Qc := fun A => QI D R.1 [(a_t, .inr (7, [.ref a_t_now, .ref a_t_trial, .ref a_t_snapshot, .int v_t_hasSnapshot, .ref a_t_history, .ref a_t_pad, .ref a_t_reader, .ref a_t_ringing, .ref a_t_homeward])), (a_t_now, .inr (6, [.int v_t_now_bells, .int v_t_now_changes, .int v_t_now_bob, .int v_t_now_single, .int v_t_now_leads, .ref a_t_now_places, .ref a_t_now_kinds])), (a_t_now_places, .inl (Y.1, 20, .inl f_t_now_places)), (a_t_now_kinds, .inl (Y.1, 17, .inl f_t_now_kinds)), (a_t_ringing, .inr (4, [.ref a_t_ringing_rows, .ref a_t_ringing_firsts, .ref a_t_ringing_firstOfRank, .int R.2.1, .int R.2.2.1, .int R.2.2.2.1, .int R.2.2.2.2.1])), (a_t_ringing_rows, .inl (Y.1, 341, .inl R.2.2.2.2.2.1)), (a_t_ringing_firsts, .inl (Y.1, 341, .inl R.2.2.2.2.2.2.1)), (a_t_ringing_firstOfRank, .inl (Y.1, 5040, .inl R.2.2.2.2.2.2.2))] A) (by decide) (Nat.le_of_ble_eq_true rfl) ?_
  intro p e s m below meth c ls A hx hb hml hr hlocks hown hts hnm hA hP hD hS hE hl
  generalize hargs : List.toArray _ = args at hts ⊢
  have hown : s.vm.findClass RX10 = some m.cls := hown
  have E : EN p m c cX10_path 3 s args RX10 := ⟨hx, hb, hml, hown, hts⟩
  have hl : lv_has ls 3 [(0, .ref a_t), (1, .int s1), (2, .int s2)] := hl
  generalize hQ : MQ below _ args s 0 0 _ = Q
  unfold f_X10_path at hf
  refine lv_aload_n hx hb dX10_path_0 rfl (lv_at hl 0 rfl) ?_
  refine lv_iload_n hx hb dX10_path_1 rfl (lv_at hl 1 rfl) ?_
  refine af_oz (run_V (As := [.int s1]) (rest := []) E (c_X10_isBell l D Y a_t a_t_now a_t_trial a_t_snapshot a_t_history a_t_pad a_t_reader a_t_ringing a_t_homeward a_t_now_places a_t_now_kinds v_t_hasSnapshot v_t_now_bells v_t_now_changes v_t_now_bob v_t_now_single v_t_now_leads s1 (f_X10_isBell s1 v_t_now_bells) rfl) qw387 qw389 qw8 qw19 qw390 rfl rfl hd_X10_isBell ⟨Nat.le_of_ble_eq_true rfl, Nat.le_of_ble_eq_true rfl⟩ (pre_roV hP hE [0, 1] rfl (ci := 7) (q0 := 0) rfl rfl) rfl hl.1 rfl (Nat.le_of_ble_eq_true rfl) dX10_path_2 ⟨Nat.zero_le _, Nat.zero_le _⟩) (fun z1 => ?_)
  refine lv_if_eq (tgt := 17) hx hb dX10_path_5 (by decide) (fun c2 => ?_) (fun c2 => ?_)
  · have hf := ite_t c2 hf
    refine lv_iconst (v := (-1)) hx hb dX10_path_17 (by decide) ?_
    obtain rfl := Option.some.inj hf
    subst hQ
    exact en_i hx hb hr hlocks hP hD hS rfl dX10_path_18
  have hf := ite_f c2 hf
  refine lv_iload_n hx hb dX10_path_8 rfl (lv_at hl 2 rfl) ?_
  refine lv_iconst (v := 0) hx hb dX10_path_9 (by decide) ?_
  refine lv_iconst (v := 4) hx hb dX10_path_10 (by decide) ?_
  refine af_oz (run_S (As := [.int s2, .int 0, .int 4]) (rest := []) E (c_X10_isWithin l D Y s2 0 4 (f_X10_isWithin s2 0 4) rfl) qw384 qw385 qw19 qw386 rfl rfl hd_X10_isWithin ⟨Nat.le_of_ble_eq_true rfl, Nat.le_of_ble_eq_true rfl⟩ (pre_roS hP hE [] rfl) rfl hl.1 rfl (Nat.le_of_ble_eq_true rfl) dX10_path_11 ⟨Nat.zero_le _, Nat.zero_le _⟩) (fun z3 => ?_)
  refine lv_if_ne (tgt := 19) hx hb dX10_path_14 (by decide) (fun c4 => ?_) (fun c4 => ?_)
  · have hf := ite_f c4 hf
    refine lv_aload_n hx hb dX10_path_19 rfl (lv_at hl 0 rfl) ?_
    refine va_get (D := D) (ci := 7) (v := .ref a_t_ringing) (C := RX10) (T := TX10) (N := 9) hx hb hts inX10 hown hE.1 hP 0 rfl rfl 7 (by decide) (hts _ qw328) (fun _ h9 => h9) rfl dX10_path_20 ?_
    refine lv_aload_n hx hb dX10_path_23 rfl (lv_at hl 0 rfl) ?_
    refine va_get (D := D) (ci := 7) (v := .ref a_t_now) (C := RX10) (T := TX10) (N := 9) hx hb hts inX10 hown hE.1 hP 0 rfl rfl 0 (by decide) (hts _ qw322) (fun _ h9 => h9) rfl dX10_path_24 ?_
    obtain ⟨q5, h6, hf⟩ := bd_s hf
    refine af_v0 (wc := [(a_t_ringing, .inr (4, [.ref a_t_ringing_rows, .ref a_t_ringing_firsts, .ref a_t_ringing_firstOfRank, .int v_t_ringing_bells, .int v_t_ringing_changes, .int v_t_ringing_leads, .int v_t_ringing_last])), (a_t_ringing_rows, .inl (Y.1, 341, .inl f_t_ringing_rows)), (a_t_ringing_firsts, .inl (Y.1, 341, .inl f_t_ringing_firsts)), (a_t_ringing_firstOfRank, .inl (Y.1, 5040, .inl f_t_ringing_firstOfRank)), (a_t_now, .inr (6, [.int v_t_now_bells, .int v_t_now_changes, .int v_t_now_bob, .int v_t_now_single, .int v_t_now_leads, .ref a_t_now_places, .ref a_t_now_kinds])), (a_t_now_places, .inl (Y.1, 20, .inl f_t_now_places)), (a_t_now_kinds, .inl (Y.1, 17, .inl f_t_now_kinds))]) (wr := [(a_t, .inr (7, [.ref a_t_now, .ref a_t_trial, .ref a_t_snapshot, .int v_t_hasSnapshot, .ref a_t_history, .ref a_t_pad, .ref a_t_reader, .ref a_t_ringing, .ref a_t_homeward]))]) (wn := [(a_t, .inr (7, [.ref a_t_now, .ref a_t_trial, .ref a_t_snapshot, .int v_t_hasSnapshot, .ref a_t_history, .ref a_t_pad, .ref a_t_reader, .ref a_t_ringing, .ref a_t_homeward])), (a_t_now, .inr (6, [.int v_t_now_bells, .int v_t_now_changes, .int v_t_now_bob, .int v_t_now_single, .int v_t_now_leads, .ref a_t_now_places, .ref a_t_now_kinds])), (a_t_now_places, .inl (Y.1, 20, .inl f_t_now_places)), (a_t_now_kinds, .inl (Y.1, 17, .inl f_t_now_kinds)), (a_t_ringing, .inr (4, [.ref a_t_ringing_rows, .ref a_t_ringing_firsts, .ref a_t_ringing_firstOfRank, .int q5.1, .int q5.2.1, .int q5.2.2.1, .int q5.2.2.2.1])), (a_t_ringing_rows, .inl (Y.1, 341, .inl q5.2.2.2.2.1)), (a_t_ringing_firsts, .inl (Y.1, 341, .inl q5.2.2.2.2.2.1)), (a_t_ringing_firstOfRank, .inl (Y.1, 5040, .inl q5.2.2.2.2.2.2))]) (run_V (As := [.ref a_t_now]) (rest := []) E (c_X5_ring l D Y a_t_ringing a_t_ringing_rows a_t_ringing_firsts a_t_ringing_firstOfRank a_t_now a_t_now_places a_t_now_kinds v_t_ringing_bells v_t_ringing_changes v_t_ringing_leads v_t_ringing_last f_t_ringing_rows f_t_ringing_firsts f_t_ringing_firstOfRank v_t_now_bells v_t_now_changes v_t_now_bob v_t_now_single v_t_now_leads f_t_now_places f_t_now_kinds s.heap.size q5 h6) qw391 qw392 qw393 qw24 qw394 rfl rfl hd_X5_ring ⟨Nat.le_of_ble_eq_true rfl, Nat.le_of_ble_eq_true rfl⟩ (pre_rwV hP hD hE [4, 5, 6, 7, 1, 2, 3] rfl (by decide) rfl (ci := 4) (q0 := 4) rfl rfl) rfl hl.1 rfl (Nat.le_of_ble_eq_true rfl) dX10_path_27 ⟨Nat.zero_le _, Nat.zero_le _⟩) hP hD hS hA [4, 5, 6, 7, 1, 2, 3] [0] [0, 5, 6, 7, 1, 2, 3, 4] rfl rfl (by decide) (by decide) rfl rfl (by decide) (fun H locs  hP hD hS => ?_)
    refine lv_iload_n hx hb dX10_path_30 rfl (lv_at hl 2 rfl) ?_
    by_cases c7 : s2 = 0
    · have hf := ite_t c7 hf
      refine lv_tableIn (tgt := 60) (off := 29) hx hb dX10_path_31 (by rw [c7]; decide) (by rw [c7]; decide) (by rw [c7]; rfl) (by decide) ?_
      refine lv_aload_n hx hb dX10_path_60 rfl (lv_at hl 0 rfl) ?_
      refine va_get (D := D) (ci := 7) (v := .ref a_t_ringing) (C := RX10) (T := TX10) (N := 9) hx hb hts inX10 hown hE.1 hP 0 rfl rfl 7 (by decide) (hts _ qw328) (fun _ h9 => h9) rfl dX10_path_61 ?_
      refine lv_iload_n hx hb dX10_path_64 rfl (lv_at hl 1 rfl) ?_
      obtain ⟨q8, h9, hf⟩ := bd_s hf
      refine af_oi (run_V (As := [.int s1]) (rest := []) E (c_X5_dodges l D Y a_t_ringing a_t_ringing_rows a_t_ringing_firsts a_t_ringing_firstOfRank q5.1 q5.2.1 q5.2.2.1 q5.2.2.2.1 q5.2.2.2.2.1 s1 q8 h9) qw593 qw594 qw595 qw24 qw596 rfl rfl hd_X5_dodges ⟨Nat.le_of_ble_eq_true rfl, Nat.le_of_ble_eq_true rfl⟩ (pre_roV hP hE [4, 5] rfl (ci := 4) (q0 := 4) rfl rfl) rfl hl.1 rfl (Nat.le_of_ble_eq_true rfl) dX10_path_65 ⟨Nat.zero_le _, Nat.zero_le _⟩) ?_
      obtain rfl := Option.some.inj hf
      subst hQ
      exact en_i hx hb hr hlocks hP hD hS rfl dX10_path_68
    have hf := ite_f c7 hf
    by_cases c10 : s2 = 1
    · have hf := ite_t c10 hf
      refine lv_tableIn (tgt := 69) (off := 38) hx hb dX10_path_31 (by rw [c10]; decide) (by rw [c10]; decide) (by rw [c10]; rfl) (by decide) ?_
      refine lv_aload_n hx hb dX10_path_69 rfl (lv_at hl 0 rfl) ?_
      refine va_get (D := D) (ci := 7) (v := .ref a_t_ringing) (C := RX10) (T := TX10) (N := 9) hx hb hts inX10 hown hE.1 hP 0 rfl rfl 7 (by decide) (hts _ qw328) (fun _ h9 => h9) rfl dX10_path_70 ?_
      refine lv_iload_n hx hb dX10_path_73 rfl (lv_at hl 1 rfl) ?_
      obtain ⟨q11, h12, hf⟩ := bd_s hf
      refine af_oi (run_V (As := [.int s1]) (rest := []) E (c_X5_firstDodge l D Y a_t_ringing a_t_ringing_rows a_t_ringing_firsts a_t_ringing_firstOfRank q5.1 q5.2.1 q5.2.2.1 q5.2.2.2.1 q5.2.2.2.2.1 s1 q11 h12) qw608 qw609 qw610 qw24 qw611 rfl rfl hd_X5_firstDodge ⟨Nat.le_of_ble_eq_true rfl, Nat.le_of_ble_eq_true rfl⟩ (pre_roV hP hE [4, 5] rfl (ci := 4) (q0 := 4) rfl rfl) rfl hl.1 rfl (Nat.le_of_ble_eq_true rfl) dX10_path_74 ⟨Nat.zero_le _, Nat.zero_le _⟩) ?_
      obtain rfl := Option.some.inj hf
      subst hQ
      exact en_i hx hb hr hlocks hP hD hS rfl dX10_path_77
    have hf := ite_f c10 hf
    by_cases c13 : s2 = 2
    · have hf := ite_t c13 hf
      refine lv_tableIn (tgt := 78) (off := 47) hx hb dX10_path_31 (by rw [c13]; decide) (by rw [c13]; decide) (by rw [c13]; rfl) (by decide) ?_
      refine lv_aload_n hx hb dX10_path_78 rfl (lv_at hl 0 rfl) ?_
      refine va_get (D := D) (ci := 7) (v := .ref a_t_ringing) (C := RX10) (T := TX10) (N := 9) hx hb hts inX10 hown hE.1 hP 0 rfl rfl 7 (by decide) (hts _ qw328) (fun _ h9 => h9) rfl dX10_path_79 ?_
      refine lv_iload_n hx hb dX10_path_82 rfl (lv_at hl 1 rfl) ?_
      refine lv_iconst (v := 1) hx hb dX10_path_83 (by decide) ?_
      obtain ⟨q14, h15, hf⟩ := bd_s hf
      refine af_oi (run_V (As := [.int s1, .int 1]) (rest := []) E (c_X5_blowsAt l D Y a_t_ringing a_t_ringing_rows a_t_ringing_firsts a_t_ringing_firstOfRank q5.1 q5.2.1 q5.2.2.1 q5.2.2.2.1 q5.2.2.2.2.1 s1 1 q14 h15) qw612 qw613 qw614 qw24 qw615 rfl rfl hd_X5_blowsAt ⟨Nat.le_of_ble_eq_true rfl, Nat.le_of_ble_eq_true rfl⟩ (pre_roV hP hE [4, 5] rfl (ci := 4) (q0 := 4) rfl rfl) rfl hl.1 rfl (Nat.le_of_ble_eq_true rfl) dX10_path_84 ⟨Nat.zero_le _, Nat.zero_le _⟩) ?_
      obtain rfl := Option.some.inj hf
      subst hQ
      exact en_i hx hb hr hlocks hP hD hS rfl dX10_path_87
    have hf := ite_f c13 hf
    by_cases c16 : s2 = 3
    · have hf := ite_t c16 hf
      refine lv_tableIn (tgt := 88) (off := 57) hx hb dX10_path_31 (by rw [c16]; decide) (by rw [c16]; decide) (by rw [c16]; rfl) (by decide) ?_
      refine lv_aload_n hx hb dX10_path_88 rfl (lv_at hl 0 rfl) ?_
      refine va_get (D := D) (ci := 7) (v := .ref a_t_ringing) (C := RX10) (T := TX10) (N := 9) hx hb hts inX10 hown hE.1 hP 0 rfl rfl 7 (by decide) (hts _ qw328) (fun _ h9 => h9) rfl dX10_path_89 ?_
      refine lv_iload_n hx hb dX10_path_92 rfl (lv_at hl 1 rfl) ?_
      obtain ⟨q17, h18, hf⟩ := bd_s hf
      refine af_oi (run_V (As := [.int s1]) (rest := []) E (c_X5_stays l D Y a_t_ringing a_t_ringing_rows a_t_ringing_firsts a_t_ringing_firstOfRank q5.1 q5.2.1 q5.2.2.1 q5.2.2.2.1 q5.2.2.2.2.1 s1 q17 h18) qw617 qw618 qw619 qw24 qw620 rfl rfl hd_X5_stays ⟨Nat.le_of_ble_eq_true rfl, Nat.le_of_ble_eq_true rfl⟩ (pre_roV hP hE [4, 5] rfl (ci := 4) (q0 := 4) rfl rfl) rfl hl.1 rfl (Nat.le_of_ble_eq_true rfl) dX10_path_93 ⟨Nat.zero_le _, Nat.zero_le _⟩) ?_
      obtain rfl := Option.some.inj hf
      subst hQ
      exact en_i hx hb hr hlocks hP hD hS rfl dX10_path_96
    have hf := ite_f c16 hf
    have nc7 := sw_ne (k := 0) (z := 0) rfl c7
    have nc10 := sw_ne (k := 1) (z := 1) rfl c10
    have nc13 := sw_ne (k := 2) (z := 2) rfl c13
    have nc16 := sw_ne (k := 3) (z := 3) rfl c16
    refine lv_tableOut (tgt := 97) hx hb dX10_path_31 (by omega) (by decide) ?_
    refine lv_aload_n hx hb dX10_path_97 rfl (lv_at hl 0 rfl) ?_
    refine va_get (D := D) (ci := 7) (v := .ref a_t_ringing) (C := RX10) (T := TX10) (N := 9) hx hb hts inX10 hown hE.1 hP 0 rfl rfl 7 (by decide) (hts _ qw328) (fun _ h9 => h9) rfl dX10_path_98 ?_
    refine lv_aload_n hx hb dX10_path_101 rfl (lv_at hl 0 rfl) ?_
    refine va_get (D := D) (ci := 7) (v := .ref a_t_ringing) (C := RX10) (T := TX10) (N := 9) hx hb hts inX10 hown hE.1 hP 0 rfl rfl 7 (by decide) (hts _ qw328) (fun _ h9 => h9) rfl dX10_path_102 ?_
    refine va_getN (D := D) (ci := 4) (v := .int q5.2.2.2.1) (C := RX5) (T := TX5) (N := 7) hx hb hts inX5 hown hE.1 hP 4 rfl rfl 6 (by decide) (va_Nw.use rfl (hE.2.1 _ qw154)) (fun _ h9 => h9) rfl dX10_path_105 ?_
    refine lv_iload_n hx hb dX10_path_108 rfl (lv_at hl 1 rfl) ?_
    obtain ⟨q19, h20, hf⟩ := bd_s hf
    refine af_oi (run_V (As := [.int q5.2.2.2.1, .int s1]) (rest := []) E (c_X5_placeIn l D Y a_t_ringing a_t_ringing_rows a_t_ringing_firsts a_t_ringing_firstOfRank q5.1 q5.2.1 q5.2.2.1 q5.2.2.2.1 q5.2.2.2.2.1 q5.2.2.2.1 s1 q19 h20) qw621 qw602 qw603 qw24 qw604 rfl rfl hd_X5_placeIn ⟨Nat.le_of_ble_eq_true rfl, Nat.le_of_ble_eq_true rfl⟩ (pre_roV hP hE [4, 5] rfl (ci := 4) (q0 := 4) rfl rfl) rfl hl.1 rfl (Nat.le_of_ble_eq_true rfl) dX10_path_109 ⟨Nat.zero_le _, Nat.zero_le _⟩) ?_
    obtain rfl := Option.some.inj hf
    subst hQ
    exact en_i hx hb hr hlocks hP hD hS rfl dX10_path_112
  have hf := ite_t c4 hf
  refine lv_iconst (v := (-1)) hx hb dX10_path_17 (by decide) ?_
  obtain rfl := Option.some.inj hf
  subst hQ
  exact en_i hx hb hr hlocks hP hD hS rfl dX10_path_18

def f_X10_blows (s1 : Int32) (s2 : Int32) (v_t_now_bells : Int32) (v_t_now_changes : Int32) (v_t_now_bob : Int32) (v_t_now_single : Int32) (v_t_now_leads : Int32) (f_t_now_places : Nat → Int32) (f_t_now_kinds : Nat → Int32) (v_t_ringing_bells : Int32) (v_t_ringing_changes : Int32) (v_t_ringing_leads : Int32) (v_t_ringing_last : Int32) (f_t_ringing_rows : Nat → Int32) (f_t_ringing_firsts : Nat → Int32) (f_t_ringing_firstOfRank : Nat → Int32) : Option (Int32 × Int32 × Int32 × Int32 × Int32 × (Nat → Int32) × (Nat → Int32) × (Nat → Int32)) :=
  (if (f_X10_isBell s1 v_t_now_bells) = 0 then some ((-1), v_t_ringing_bells, v_t_ringing_changes, v_t_ringing_leads, v_t_ringing_last, f_t_ringing_rows, f_t_ringing_firsts, f_t_ringing_firstOfRank) else (if (f_X10_isBell s2 v_t_now_bells) = 0 then some ((-1), v_t_ringing_bells, v_t_ringing_changes, v_t_ringing_leads, v_t_ringing_last, f_t_ringing_rows, f_t_ringing_firsts, f_t_ringing_firstOfRank) else bd (f_X5_ring v_t_ringing_bells v_t_ringing_changes v_t_ringing_leads v_t_ringing_last f_t_ringing_rows f_t_ringing_firsts f_t_ringing_firstOfRank v_t_now_bells v_t_now_changes v_t_now_bob v_t_now_single v_t_now_leads f_t_now_places f_t_now_kinds) (fun q5 => bd (f_X5_blowsAt s1 s2 q5.2.2.2.1 q5.2.2.2.2.1) (fun q7 => some (q7, q5.1, q5.2.1, q5.2.2.1, q5.2.2.2.1, q5.2.2.2.2.1, q5.2.2.2.2.2.1, q5.2.2.2.2.2.2)))))
abbrev rm_X10_blows : Room := { frames := 5, cells := 0, slots := 0, locals := 119 }
set_option maxHeartbeats 4000000 in
set_option maxRecDepth 100000 in
theorem c_X10_blows (l : Launch) (D : va_G) (Y : ClassId × ClassId × ClassId × ClassId) (a_t a_t_now a_t_trial a_t_snapshot a_t_history a_t_pad a_t_reader a_t_ringing a_t_homeward a_t_now_places a_t_now_kinds a_t_ringing_rows a_t_ringing_firsts a_t_ringing_firstOfRank : Nat) (v_t_hasSnapshot : Int32) (v_t_now_bells : Int32) (v_t_now_changes : Int32) (v_t_now_bob : Int32) (v_t_now_single : Int32) (v_t_now_leads : Int32) (f_t_now_places : Nat → Int32) (f_t_now_kinds : Nat → Int32) (v_t_ringing_bells : Int32) (v_t_ringing_changes : Int32) (v_t_ringing_leads : Int32) (v_t_ringing_last : Int32) (f_t_ringing_rows : Nat → Int32) (f_t_ringing_firsts : Nat → Int32) (f_t_ringing_firstOfRank : Nat → Int32) (s1 : Int32) (s2 : Int32) (sz : Nat) (R : Int32 × Int32 × Int32 × Int32 × Int32 × (Nat → Int32) × (Nat → Int32) × (Nat → Int32)) (hf : f_X10_blows s1 s2 v_t_now_bells v_t_now_changes v_t_now_bob v_t_now_single v_t_now_leads f_t_now_places f_t_now_kinds v_t_ringing_bells v_t_ringing_changes v_t_ringing_leads v_t_ringing_last f_t_ringing_rows f_t_ringing_firsts f_t_ringing_firstOfRank = some R) : Met l yX10_blows (ws_ yX10_blows cX10_blows 3 (some .int)) rm_X10_blows (va_Pc [.ref a_t, .int s1, .int s2] (RW D Y sz [(a_t, .inr (7, [.ref a_t_now, .ref a_t_trial, .ref a_t_snapshot, .int v_t_hasSnapshot, .ref a_t_history, .ref a_t_pad, .ref a_t_reader, .ref a_t_ringing, .ref a_t_homeward])), (a_t_now, .inr (6, [.int v_t_now_bells, .int v_t_now_changes, .int v_t_now_bob, .int v_t_now_single, .int v_t_now_leads, .ref a_t_now_places, .ref a_t_now_kinds])), (a_t_now_places, .inl (Y.1, 20, .inl f_t_now_places)), (a_t_now_kinds, .inl (Y.1, 17, .inl f_t_now_kinds)), (a_t_ringing, .inr (4, [.ref a_t_ringing_rows, .ref a_t_ringing_firsts, .ref a_t_ringing_firstOfRank, .int v_t_ringing_bells, .int v_t_ringing_changes, .int v_t_ringing_leads, .int v_t_ringing_last])), (a_t_ringing_rows, .inl (Y.1, 341, .inl f_t_ringing_rows)), (a_t_ringing_firsts, .inl (Y.1, 341, .inl f_t_ringing_firsts)), (a_t_ringing_firstOfRank, .inl (Y.1, 5040, .inl f_t_ringing_firstOfRank))])) (QI D R.1 [(a_t, .inr (7, [.ref a_t_now, .ref a_t_trial, .ref a_t_snapshot, .int v_t_hasSnapshot, .ref a_t_history, .ref a_t_pad, .ref a_t_reader, .ref a_t_ringing, .ref a_t_homeward])), (a_t_now, .inr (6, [.int v_t_now_bells, .int v_t_now_changes, .int v_t_now_bob, .int v_t_now_single, .int v_t_now_leads, .ref a_t_now_places, .ref a_t_now_kinds])), (a_t_now_places, .inl (Y.1, 20, .inl f_t_now_places)), (a_t_now_kinds, .inl (Y.1, 17, .inl f_t_now_kinds)), (a_t_ringing, .inr (4, [.ref a_t_ringing_rows, .ref a_t_ringing_firsts, .ref a_t_ringing_firstOfRank, .int R.2.1, .int R.2.2.1, .int R.2.2.2.1, .int R.2.2.2.2.1])), (a_t_ringing_rows, .inl (Y.1, 341, .inl R.2.2.2.2.2.1)), (a_t_ringing_firsts, .inl (Y.1, 341, .inl R.2.2.2.2.2.2.1)), (a_t_ringing_firstOfRank, .inl (Y.1, 5040, .inl R.2.2.2.2.2.2.2))] (va_A [(a_t, .inr (7, [.ref a_t_now, .ref a_t_trial, .ref a_t_snapshot, .int v_t_hasSnapshot, .ref a_t_history, .ref a_t_pad, .ref a_t_reader, .ref a_t_ringing, .ref a_t_homeward])), (a_t_now, .inr (6, [.int v_t_now_bells, .int v_t_now_changes, .int v_t_now_bob, .int v_t_now_single, .int v_t_now_leads, .ref a_t_now_places, .ref a_t_now_kinds])), (a_t_now_places, .inl (Y.1, 20, .inl f_t_now_places)), (a_t_now_kinds, .inl (Y.1, 17, .inl f_t_now_kinds)), (a_t_ringing, .inr (4, [.ref a_t_ringing_rows, .ref a_t_ringing_firsts, .ref a_t_ringing_firstOfRank, .int v_t_ringing_bells, .int v_t_ringing_changes, .int v_t_ringing_leads, .int v_t_ringing_last])), (a_t_ringing_rows, .inl (Y.1, 341, .inl f_t_ringing_rows)), (a_t_ringing_firsts, .inl (Y.1, 341, .inl f_t_ringing_firsts)), (a_t_ringing_firstOfRank, .inl (Y.1, 5040, .inl f_t_ringing_firstOfRank))] sz)) 0 0 (va_A [(a_t, .inr (7, [.ref a_t_now, .ref a_t_trial, .ref a_t_snapshot, .int v_t_hasSnapshot, .ref a_t_history, .ref a_t_pad, .ref a_t_reader, .ref a_t_ringing, .ref a_t_homeward])), (a_t_now, .inr (6, [.int v_t_now_bells, .int v_t_now_changes, .int v_t_now_bob, .int v_t_now_single, .int v_t_now_leads, .ref a_t_now_places, .ref a_t_now_kinds])), (a_t_now_places, .inl (Y.1, 20, .inl f_t_now_places)), (a_t_now_kinds, .inl (Y.1, 17, .inl f_t_now_kinds)), (a_t_ringing, .inr (4, [.ref a_t_ringing_rows, .ref a_t_ringing_firsts, .ref a_t_ringing_firstOfRank, .int v_t_ringing_bells, .int v_t_ringing_changes, .int v_t_ringing_leads, .int v_t_ringing_last])), (a_t_ringing_rows, .inl (Y.1, 341, .inl f_t_ringing_rows)), (a_t_ringing_firsts, .inl (Y.1, 341, .inl f_t_ringing_firsts)), (a_t_ringing_firstOfRank, .inl (Y.1, 5040, .inl f_t_ringing_firstOfRank))] sz) := by
  refine rw_start (Qc := fun A => QI D R.1 [(a_t, .inr (7, [.ref a_t_now, .ref a_t_trial, .ref a_t_snapshot, .int v_t_hasSnapshot, .ref a_t_history, .ref a_t_pad, .ref a_t_reader, .ref a_t_ringing, .ref a_t_homeward])), (a_t_now, .inr (6, [.int v_t_now_bells, .int v_t_now_changes, .int v_t_now_bob, .int v_t_now_single, .int v_t_now_leads, .ref a_t_now_places, .ref a_t_now_kinds])), (a_t_now_places, .inl (Y.1, 20, .inl f_t_now_places)), (a_t_now_kinds, .inl (Y.1, 17, .inl f_t_now_kinds)), (a_t_ringing, .inr (4, [.ref a_t_ringing_rows, .ref a_t_ringing_firsts, .ref a_t_ringing_firstOfRank, .int R.2.1, .int R.2.2.1, .int R.2.2.2.1, .int R.2.2.2.2.1])), (a_t_ringing_rows, .inl (Y.1, 341, .inl R.2.2.2.2.2.1)), (a_t_ringing_firsts, .inl (Y.1, 341, .inl R.2.2.2.2.2.2.1)), (a_t_ringing_firstOfRank, .inl (Y.1, 5040, .inl R.2.2.2.2.2.2.2))] A) (by decide) (Nat.le_of_ble_eq_true rfl) ?_
  intro p e s m below meth c ls A hx hb hml hr hlocks hown hts hnm hA hP hD hS hE hl
  generalize hargs : List.toArray _ = args at hts ⊢
  have hown : s.vm.findClass RX10 = some m.cls := hown
  have E : EN p m c cX10_blows 3 s args RX10 := ⟨hx, hb, hml, hown, hts⟩
  have hl : lv_has ls 3 [(0, .ref a_t), (1, .int s1), (2, .int s2)] := hl
  generalize hQ : MQ below _ args s 0 0 _ = Q
  unfold f_X10_blows at hf
  refine lv_aload_n hx hb dX10_blows_0 rfl (lv_at hl 0 rfl) ?_
  refine lv_iload_n hx hb dX10_blows_1 rfl (lv_at hl 1 rfl) ?_
  refine af_oz (run_V (As := [.int s1]) (rest := []) E (c_X10_isBell l D Y a_t a_t_now a_t_trial a_t_snapshot a_t_history a_t_pad a_t_reader a_t_ringing a_t_homeward a_t_now_places a_t_now_kinds v_t_hasSnapshot v_t_now_bells v_t_now_changes v_t_now_bob v_t_now_single v_t_now_leads s1 (f_X10_isBell s1 v_t_now_bells) rfl) qw387 qw389 qw8 qw19 qw390 rfl rfl hd_X10_isBell ⟨Nat.le_of_ble_eq_true rfl, Nat.le_of_ble_eq_true rfl⟩ (pre_roV hP hE [0, 1] rfl (ci := 7) (q0 := 0) rfl rfl) rfl hl.1 rfl (Nat.le_of_ble_eq_true rfl) dX10_blows_2 ⟨Nat.zero_le _, Nat.zero_le _⟩) (fun z1 => ?_)
  refine lv_if_eq (tgt := 16) hx hb dX10_blows_5 (by decide) (fun c2 => ?_) (fun c2 => ?_)
  · have hf := ite_t c2 hf
    refine lv_iconst (v := (-1)) hx hb dX10_blows_16 (by decide) ?_
    obtain rfl := Option.some.inj hf
    subst hQ
    exact en_i hx hb hr hlocks hP hD hS rfl dX10_blows_17
  have hf := ite_f c2 hf
  refine lv_aload_n hx hb dX10_blows_8 rfl (lv_at hl 0 rfl) ?_
  refine lv_iload_n hx hb dX10_blows_9 rfl (lv_at hl 2 rfl) ?_
  refine af_oz (run_V (As := [.int s2]) (rest := []) E (c_X10_isBell l D Y a_t a_t_now a_t_trial a_t_snapshot a_t_history a_t_pad a_t_reader a_t_ringing a_t_homeward a_t_now_places a_t_now_kinds v_t_hasSnapshot v_t_now_bells v_t_now_changes v_t_now_bob v_t_now_single v_t_now_leads s2 (f_X10_isBell s2 v_t_now_bells) rfl) qw387 qw389 qw8 qw19 qw390 rfl rfl hd_X10_isBell ⟨Nat.le_of_ble_eq_true rfl, Nat.le_of_ble_eq_true rfl⟩ (pre_roV hP hE [0, 1] rfl (ci := 7) (q0 := 0) rfl rfl) rfl hl.1 rfl (Nat.le_of_ble_eq_true rfl) dX10_blows_10 ⟨Nat.zero_le _, Nat.zero_le _⟩) (fun z3 => ?_)
  refine lv_if_ne (tgt := 18) hx hb dX10_blows_13 (by decide) (fun c4 => ?_) (fun c4 => ?_)
  · have hf := ite_f c4 hf
    refine lv_aload_n hx hb dX10_blows_18 rfl (lv_at hl 0 rfl) ?_
    refine va_get (D := D) (ci := 7) (v := .ref a_t_ringing) (C := RX10) (T := TX10) (N := 9) hx hb hts inX10 hown hE.1 hP 0 rfl rfl 7 (by decide) (hts _ qw328) (fun _ h9 => h9) rfl dX10_blows_19 ?_
    refine lv_aload_n hx hb dX10_blows_22 rfl (lv_at hl 0 rfl) ?_
    refine va_get (D := D) (ci := 7) (v := .ref a_t_now) (C := RX10) (T := TX10) (N := 9) hx hb hts inX10 hown hE.1 hP 0 rfl rfl 0 (by decide) (hts _ qw322) (fun _ h9 => h9) rfl dX10_blows_23 ?_
    obtain ⟨q5, h6, hf⟩ := bd_s hf
    refine af_v0 (wc := [(a_t_ringing, .inr (4, [.ref a_t_ringing_rows, .ref a_t_ringing_firsts, .ref a_t_ringing_firstOfRank, .int v_t_ringing_bells, .int v_t_ringing_changes, .int v_t_ringing_leads, .int v_t_ringing_last])), (a_t_ringing_rows, .inl (Y.1, 341, .inl f_t_ringing_rows)), (a_t_ringing_firsts, .inl (Y.1, 341, .inl f_t_ringing_firsts)), (a_t_ringing_firstOfRank, .inl (Y.1, 5040, .inl f_t_ringing_firstOfRank)), (a_t_now, .inr (6, [.int v_t_now_bells, .int v_t_now_changes, .int v_t_now_bob, .int v_t_now_single, .int v_t_now_leads, .ref a_t_now_places, .ref a_t_now_kinds])), (a_t_now_places, .inl (Y.1, 20, .inl f_t_now_places)), (a_t_now_kinds, .inl (Y.1, 17, .inl f_t_now_kinds))]) (wr := [(a_t, .inr (7, [.ref a_t_now, .ref a_t_trial, .ref a_t_snapshot, .int v_t_hasSnapshot, .ref a_t_history, .ref a_t_pad, .ref a_t_reader, .ref a_t_ringing, .ref a_t_homeward]))]) (wn := [(a_t, .inr (7, [.ref a_t_now, .ref a_t_trial, .ref a_t_snapshot, .int v_t_hasSnapshot, .ref a_t_history, .ref a_t_pad, .ref a_t_reader, .ref a_t_ringing, .ref a_t_homeward])), (a_t_now, .inr (6, [.int v_t_now_bells, .int v_t_now_changes, .int v_t_now_bob, .int v_t_now_single, .int v_t_now_leads, .ref a_t_now_places, .ref a_t_now_kinds])), (a_t_now_places, .inl (Y.1, 20, .inl f_t_now_places)), (a_t_now_kinds, .inl (Y.1, 17, .inl f_t_now_kinds)), (a_t_ringing, .inr (4, [.ref a_t_ringing_rows, .ref a_t_ringing_firsts, .ref a_t_ringing_firstOfRank, .int q5.1, .int q5.2.1, .int q5.2.2.1, .int q5.2.2.2.1])), (a_t_ringing_rows, .inl (Y.1, 341, .inl q5.2.2.2.2.1)), (a_t_ringing_firsts, .inl (Y.1, 341, .inl q5.2.2.2.2.2.1)), (a_t_ringing_firstOfRank, .inl (Y.1, 5040, .inl q5.2.2.2.2.2.2))]) (run_V (As := [.ref a_t_now]) (rest := []) E (c_X5_ring l D Y a_t_ringing a_t_ringing_rows a_t_ringing_firsts a_t_ringing_firstOfRank a_t_now a_t_now_places a_t_now_kinds v_t_ringing_bells v_t_ringing_changes v_t_ringing_leads v_t_ringing_last f_t_ringing_rows f_t_ringing_firsts f_t_ringing_firstOfRank v_t_now_bells v_t_now_changes v_t_now_bob v_t_now_single v_t_now_leads f_t_now_places f_t_now_kinds s.heap.size q5 h6) qw391 qw392 qw393 qw24 qw394 rfl rfl hd_X5_ring ⟨Nat.le_of_ble_eq_true rfl, Nat.le_of_ble_eq_true rfl⟩ (pre_rwV hP hD hE [4, 5, 6, 7, 1, 2, 3] rfl (by decide) rfl (ci := 4) (q0 := 4) rfl rfl) rfl hl.1 rfl (Nat.le_of_ble_eq_true rfl) dX10_blows_26 ⟨Nat.zero_le _, Nat.zero_le _⟩) hP hD hS hA [4, 5, 6, 7, 1, 2, 3] [0] [0, 5, 6, 7, 1, 2, 3, 4] rfl rfl (by decide) (by decide) rfl rfl (by decide) (fun H locs  hP hD hS => ?_)
    refine lv_aload_n hx hb dX10_blows_29 rfl (lv_at hl 0 rfl) ?_
    refine va_get (D := D) (ci := 7) (v := .ref a_t_ringing) (C := RX10) (T := TX10) (N := 9) hx hb hts inX10 hown hE.1 hP 0 rfl rfl 7 (by decide) (hts _ qw328) (fun _ h9 => h9) rfl dX10_blows_30 ?_
    refine lv_iload_n hx hb dX10_blows_33 rfl (lv_at hl 1 rfl) ?_
    refine lv_iload_n hx hb dX10_blows_34 rfl (lv_at hl 2 rfl) ?_
    obtain ⟨q7, h8, hf⟩ := bd_s hf
    refine af_oi (run_V (As := [.int s1, .int s2]) (rest := []) E (c_X5_blowsAt l D Y a_t_ringing a_t_ringing_rows a_t_ringing_firsts a_t_ringing_firstOfRank q5.1 q5.2.1 q5.2.2.1 q5.2.2.2.1 q5.2.2.2.2.1 s1 s2 q7 h8) qw612 qw613 qw614 qw24 qw615 rfl rfl hd_X5_blowsAt ⟨Nat.le_of_ble_eq_true rfl, Nat.le_of_ble_eq_true rfl⟩ (pre_roV hP hE [4, 5] rfl (ci := 4) (q0 := 4) rfl rfl) rfl hl.1 rfl (Nat.le_of_ble_eq_true rfl) dX10_blows_35 ⟨Nat.zero_le _, Nat.zero_le _⟩) ?_
    obtain rfl := Option.some.inj hf
    subst hQ
    exact en_i hx hb hr hlocks hP hD hS rfl dX10_blows_38
  have hf := ite_t c4 hf
  refine lv_iconst (v := (-1)) hx hb dX10_blows_16 (by decide) ?_
  obtain rfl := Option.some.inj hf
  subst hQ
  exact en_i hx hb hr hlocks hP hD hS rfl dX10_blows_17

def f_X10_countRows (s1 : Int32) (v_t_now_bells : Int32) (v_t_now_changes : Int32) (v_t_now_bob : Int32) (v_t_now_single : Int32) (v_t_now_leads : Int32) (f_t_now_places : Nat → Int32) (f_t_now_kinds : Nat → Int32) (v_t_ringing_bells : Int32) (v_t_ringing_changes : Int32) (v_t_ringing_leads : Int32) (v_t_ringing_last : Int32) (f_t_ringing_rows : Nat → Int32) (f_t_ringing_firsts : Nat → Int32) (f_t_ringing_firstOfRank : Nat → Int32) : Option (Int32 × Int32 × Int32 × Int32 × Int32 × (Nat → Int32) × (Nat → Int32) × (Nat → Int32)) :=
  bd (f_X5_ring v_t_ringing_bells v_t_ringing_changes v_t_ringing_leads v_t_ringing_last f_t_ringing_rows f_t_ringing_firsts f_t_ringing_firstOfRank v_t_now_bells v_t_now_changes v_t_now_bob v_t_now_single v_t_now_leads f_t_now_places f_t_now_kinds) (fun q1 => (if s1 = 4 then bd (f_X5_comesRound q1.2.2.2.1 q1.2.2.2.2.1) (fun q4 => some (q4, q1.1, q1.2.1, q1.2.2.1, q1.2.2.2.1, q1.2.2.2.2.1, q1.2.2.2.2.2.1, q1.2.2.2.2.2.2)) else (if s1 = 5 then bd (f_X5_isTrue q1.2.2.2.1 q1.2.2.2.2.2.1) (fun q7 => (if q7 = 0 then some (0, q1.1, q1.2.1, q1.2.2.1, q1.2.2.2.1, q1.2.2.2.2.1, q1.2.2.2.2.2.1, q1.2.2.2.2.2.2) else some (1, q1.1, q1.2.1, q1.2.2.1, q1.2.2.2.1, q1.2.2.2.2.1, q1.2.2.2.2.2.1, q1.2.2.2.2.2.2))) else (if s1 = 6 then bd (f_X5_firstRepeat q1.2.2.2.1 q1.2.2.2.2.2.1) (fun q12 => some (q12, q1.1, q1.2.1, q1.2.2.1, q1.2.2.2.1, q1.2.2.2.2.1, q1.2.2.2.2.2.1, q1.2.2.2.2.2.2)) else (if s1 = 7 then bd (f_X5_differentRows q1.2.2.2.1 q1.2.2.2.2.2.1) (fun q15 => some (q15, q1.1, q1.2.1, q1.2.2.1, q1.2.2.2.1, q1.2.2.2.2.1, q1.2.2.2.2.2.1, q1.2.2.2.2.2.2)) else (if s1 = 8 then bd (f_X5_falsePairs q1.2.1 q1.2.2.1 q1.2.2.2.2.1) (fun q18 => some (q18, q1.1, q1.2.1, q1.2.2.1, q1.2.2.2.1, q1.2.2.2.2.1, q1.2.2.2.2.2.1, q1.2.2.2.2.2.2)) else bd (f_X5_wellSounding q1.1 q1.2.2.2.1 q1.2.2.2.2.1) (fun q20 => some (q20, q1.1, q1.2.1, q1.2.2.1, q1.2.2.2.1, q1.2.2.2.2.1, q1.2.2.2.2.2.1, q1.2.2.2.2.2.2))))))))
abbrev rm_X10_countRows : Room := { frames := 5, cells := 0, slots := 0, locals := 119 }
set_option maxHeartbeats 4000000 in
set_option maxRecDepth 100000 in
theorem c_X10_countRows (l : Launch) (D : va_G) (Y : ClassId × ClassId × ClassId × ClassId) (a_t a_t_now a_t_trial a_t_snapshot a_t_history a_t_pad a_t_reader a_t_ringing a_t_homeward a_t_now_places a_t_now_kinds a_t_ringing_rows a_t_ringing_firsts a_t_ringing_firstOfRank : Nat) (v_t_hasSnapshot : Int32) (v_t_now_bells : Int32) (v_t_now_changes : Int32) (v_t_now_bob : Int32) (v_t_now_single : Int32) (v_t_now_leads : Int32) (f_t_now_places : Nat → Int32) (f_t_now_kinds : Nat → Int32) (v_t_ringing_bells : Int32) (v_t_ringing_changes : Int32) (v_t_ringing_leads : Int32) (v_t_ringing_last : Int32) (f_t_ringing_rows : Nat → Int32) (f_t_ringing_firsts : Nat → Int32) (f_t_ringing_firstOfRank : Nat → Int32) (s1 : Int32) (sz : Nat) (R : Int32 × Int32 × Int32 × Int32 × Int32 × (Nat → Int32) × (Nat → Int32) × (Nat → Int32)) (hf : f_X10_countRows s1 v_t_now_bells v_t_now_changes v_t_now_bob v_t_now_single v_t_now_leads f_t_now_places f_t_now_kinds v_t_ringing_bells v_t_ringing_changes v_t_ringing_leads v_t_ringing_last f_t_ringing_rows f_t_ringing_firsts f_t_ringing_firstOfRank = some R) : Met l yX10_countRows (ws_ yX10_countRows cX10_countRows 2 (some .int)) rm_X10_countRows (va_Pc [.ref a_t, .int s1] (RW D Y sz [(a_t, .inr (7, [.ref a_t_now, .ref a_t_trial, .ref a_t_snapshot, .int v_t_hasSnapshot, .ref a_t_history, .ref a_t_pad, .ref a_t_reader, .ref a_t_ringing, .ref a_t_homeward])), (a_t_now, .inr (6, [.int v_t_now_bells, .int v_t_now_changes, .int v_t_now_bob, .int v_t_now_single, .int v_t_now_leads, .ref a_t_now_places, .ref a_t_now_kinds])), (a_t_now_places, .inl (Y.1, 20, .inl f_t_now_places)), (a_t_now_kinds, .inl (Y.1, 17, .inl f_t_now_kinds)), (a_t_ringing, .inr (4, [.ref a_t_ringing_rows, .ref a_t_ringing_firsts, .ref a_t_ringing_firstOfRank, .int v_t_ringing_bells, .int v_t_ringing_changes, .int v_t_ringing_leads, .int v_t_ringing_last])), (a_t_ringing_rows, .inl (Y.1, 341, .inl f_t_ringing_rows)), (a_t_ringing_firsts, .inl (Y.1, 341, .inl f_t_ringing_firsts)), (a_t_ringing_firstOfRank, .inl (Y.1, 5040, .inl f_t_ringing_firstOfRank))])) (QI D R.1 [(a_t, .inr (7, [.ref a_t_now, .ref a_t_trial, .ref a_t_snapshot, .int v_t_hasSnapshot, .ref a_t_history, .ref a_t_pad, .ref a_t_reader, .ref a_t_ringing, .ref a_t_homeward])), (a_t_now, .inr (6, [.int v_t_now_bells, .int v_t_now_changes, .int v_t_now_bob, .int v_t_now_single, .int v_t_now_leads, .ref a_t_now_places, .ref a_t_now_kinds])), (a_t_now_places, .inl (Y.1, 20, .inl f_t_now_places)), (a_t_now_kinds, .inl (Y.1, 17, .inl f_t_now_kinds)), (a_t_ringing, .inr (4, [.ref a_t_ringing_rows, .ref a_t_ringing_firsts, .ref a_t_ringing_firstOfRank, .int R.2.1, .int R.2.2.1, .int R.2.2.2.1, .int R.2.2.2.2.1])), (a_t_ringing_rows, .inl (Y.1, 341, .inl R.2.2.2.2.2.1)), (a_t_ringing_firsts, .inl (Y.1, 341, .inl R.2.2.2.2.2.2.1)), (a_t_ringing_firstOfRank, .inl (Y.1, 5040, .inl R.2.2.2.2.2.2.2))] (va_A [(a_t, .inr (7, [.ref a_t_now, .ref a_t_trial, .ref a_t_snapshot, .int v_t_hasSnapshot, .ref a_t_history, .ref a_t_pad, .ref a_t_reader, .ref a_t_ringing, .ref a_t_homeward])), (a_t_now, .inr (6, [.int v_t_now_bells, .int v_t_now_changes, .int v_t_now_bob, .int v_t_now_single, .int v_t_now_leads, .ref a_t_now_places, .ref a_t_now_kinds])), (a_t_now_places, .inl (Y.1, 20, .inl f_t_now_places)), (a_t_now_kinds, .inl (Y.1, 17, .inl f_t_now_kinds)), (a_t_ringing, .inr (4, [.ref a_t_ringing_rows, .ref a_t_ringing_firsts, .ref a_t_ringing_firstOfRank, .int v_t_ringing_bells, .int v_t_ringing_changes, .int v_t_ringing_leads, .int v_t_ringing_last])), (a_t_ringing_rows, .inl (Y.1, 341, .inl f_t_ringing_rows)), (a_t_ringing_firsts, .inl (Y.1, 341, .inl f_t_ringing_firsts)), (a_t_ringing_firstOfRank, .inl (Y.1, 5040, .inl f_t_ringing_firstOfRank))] sz)) 0 0 (va_A [(a_t, .inr (7, [.ref a_t_now, .ref a_t_trial, .ref a_t_snapshot, .int v_t_hasSnapshot, .ref a_t_history, .ref a_t_pad, .ref a_t_reader, .ref a_t_ringing, .ref a_t_homeward])), (a_t_now, .inr (6, [.int v_t_now_bells, .int v_t_now_changes, .int v_t_now_bob, .int v_t_now_single, .int v_t_now_leads, .ref a_t_now_places, .ref a_t_now_kinds])), (a_t_now_places, .inl (Y.1, 20, .inl f_t_now_places)), (a_t_now_kinds, .inl (Y.1, 17, .inl f_t_now_kinds)), (a_t_ringing, .inr (4, [.ref a_t_ringing_rows, .ref a_t_ringing_firsts, .ref a_t_ringing_firstOfRank, .int v_t_ringing_bells, .int v_t_ringing_changes, .int v_t_ringing_leads, .int v_t_ringing_last])), (a_t_ringing_rows, .inl (Y.1, 341, .inl f_t_ringing_rows)), (a_t_ringing_firsts, .inl (Y.1, 341, .inl f_t_ringing_firsts)), (a_t_ringing_firstOfRank, .inl (Y.1, 5040, .inl f_t_ringing_firstOfRank))] sz) := by
  refine rw_start (Qc := fun A => QI D R.1 [(a_t, .inr (7, [.ref a_t_now, .ref a_t_trial, .ref a_t_snapshot, .int v_t_hasSnapshot, .ref a_t_history, .ref a_t_pad, .ref a_t_reader, .ref a_t_ringing, .ref a_t_homeward])), (a_t_now, .inr (6, [.int v_t_now_bells, .int v_t_now_changes, .int v_t_now_bob, .int v_t_now_single, .int v_t_now_leads, .ref a_t_now_places, .ref a_t_now_kinds])), (a_t_now_places, .inl (Y.1, 20, .inl f_t_now_places)), (a_t_now_kinds, .inl (Y.1, 17, .inl f_t_now_kinds)), (a_t_ringing, .inr (4, [.ref a_t_ringing_rows, .ref a_t_ringing_firsts, .ref a_t_ringing_firstOfRank, .int R.2.1, .int R.2.2.1, .int R.2.2.2.1, .int R.2.2.2.2.1])), (a_t_ringing_rows, .inl (Y.1, 341, .inl R.2.2.2.2.2.1)), (a_t_ringing_firsts, .inl (Y.1, 341, .inl R.2.2.2.2.2.2.1)), (a_t_ringing_firstOfRank, .inl (Y.1, 5040, .inl R.2.2.2.2.2.2.2))] A) (by decide) (Nat.le_of_ble_eq_true rfl) ?_
  intro p e s m below meth c ls A hx hb hml hr hlocks hown hts hnm hA hP hD hS hE hl
  generalize hargs : List.toArray _ = args at hts ⊢
  have hown : s.vm.findClass RX10 = some m.cls := hown
  have E : EN p m c cX10_countRows 2 s args RX10 := ⟨hx, hb, hml, hown, hts⟩
  have hl : lv_has ls 2 [(0, .ref a_t), (1, .int s1)] := hl
  generalize hQ : MQ below _ args s 0 0 _ = Q
  unfold f_X10_countRows at hf
  refine lv_aload_n hx hb dX10_countRows_0 rfl (lv_at hl 0 rfl) ?_
  refine va_get (D := D) (ci := 7) (v := .ref a_t_ringing) (C := RX10) (T := TX10) (N := 9) hx hb hts inX10 hown hE.1 hP 0 rfl rfl 7 (by decide) (hts _ qw328) (fun _ h9 => h9) rfl dX10_countRows_1 ?_
  refine lv_aload_n hx hb dX10_countRows_4 rfl (lv_at hl 0 rfl) ?_
  refine va_get (D := D) (ci := 7) (v := .ref a_t_now) (C := RX10) (T := TX10) (N := 9) hx hb hts inX10 hown hE.1 hP 0 rfl rfl 0 (by decide) (hts _ qw322) (fun _ h9 => h9) rfl dX10_countRows_5 ?_
  obtain ⟨q1, h2, hf⟩ := bd_s hf
  refine af_v0 (wc := [(a_t_ringing, .inr (4, [.ref a_t_ringing_rows, .ref a_t_ringing_firsts, .ref a_t_ringing_firstOfRank, .int v_t_ringing_bells, .int v_t_ringing_changes, .int v_t_ringing_leads, .int v_t_ringing_last])), (a_t_ringing_rows, .inl (Y.1, 341, .inl f_t_ringing_rows)), (a_t_ringing_firsts, .inl (Y.1, 341, .inl f_t_ringing_firsts)), (a_t_ringing_firstOfRank, .inl (Y.1, 5040, .inl f_t_ringing_firstOfRank)), (a_t_now, .inr (6, [.int v_t_now_bells, .int v_t_now_changes, .int v_t_now_bob, .int v_t_now_single, .int v_t_now_leads, .ref a_t_now_places, .ref a_t_now_kinds])), (a_t_now_places, .inl (Y.1, 20, .inl f_t_now_places)), (a_t_now_kinds, .inl (Y.1, 17, .inl f_t_now_kinds))]) (wr := [(a_t, .inr (7, [.ref a_t_now, .ref a_t_trial, .ref a_t_snapshot, .int v_t_hasSnapshot, .ref a_t_history, .ref a_t_pad, .ref a_t_reader, .ref a_t_ringing, .ref a_t_homeward]))]) (wn := [(a_t, .inr (7, [.ref a_t_now, .ref a_t_trial, .ref a_t_snapshot, .int v_t_hasSnapshot, .ref a_t_history, .ref a_t_pad, .ref a_t_reader, .ref a_t_ringing, .ref a_t_homeward])), (a_t_now, .inr (6, [.int v_t_now_bells, .int v_t_now_changes, .int v_t_now_bob, .int v_t_now_single, .int v_t_now_leads, .ref a_t_now_places, .ref a_t_now_kinds])), (a_t_now_places, .inl (Y.1, 20, .inl f_t_now_places)), (a_t_now_kinds, .inl (Y.1, 17, .inl f_t_now_kinds)), (a_t_ringing, .inr (4, [.ref a_t_ringing_rows, .ref a_t_ringing_firsts, .ref a_t_ringing_firstOfRank, .int q1.1, .int q1.2.1, .int q1.2.2.1, .int q1.2.2.2.1])), (a_t_ringing_rows, .inl (Y.1, 341, .inl q1.2.2.2.2.1)), (a_t_ringing_firsts, .inl (Y.1, 341, .inl q1.2.2.2.2.2.1)), (a_t_ringing_firstOfRank, .inl (Y.1, 5040, .inl q1.2.2.2.2.2.2))]) (run_V (As := [.ref a_t_now]) (rest := []) E (c_X5_ring l D Y a_t_ringing a_t_ringing_rows a_t_ringing_firsts a_t_ringing_firstOfRank a_t_now a_t_now_places a_t_now_kinds v_t_ringing_bells v_t_ringing_changes v_t_ringing_leads v_t_ringing_last f_t_ringing_rows f_t_ringing_firsts f_t_ringing_firstOfRank v_t_now_bells v_t_now_changes v_t_now_bob v_t_now_single v_t_now_leads f_t_now_places f_t_now_kinds s.heap.size q1 h2) qw391 qw392 qw393 qw24 qw394 rfl rfl hd_X5_ring ⟨Nat.le_of_ble_eq_true rfl, Nat.le_of_ble_eq_true rfl⟩ (pre_rwV hP hD hE [4, 5, 6, 7, 1, 2, 3] rfl (by decide) rfl (ci := 4) (q0 := 4) rfl rfl) rfl hl.1 rfl (Nat.le_of_ble_eq_true rfl) dX10_countRows_8 ⟨Nat.zero_le _, Nat.zero_le _⟩) hP hD hS hA [4, 5, 6, 7, 1, 2, 3] [0] [0, 5, 6, 7, 1, 2, 3, 4] rfl rfl (by decide) (by decide) rfl rfl (by decide) (fun H locs  hP hD hS => ?_)
  refine lv_iload_n hx hb dX10_countRows_11 rfl (lv_at hl 1 rfl) ?_
  by_cases c3 : s1 = 4
  · have hf := ite_t c3 hf
    refine lv_tableIn (tgt := 48) (off := 36) hx hb dX10_countRows_12 (by rw [c3]; decide) (by rw [c3]; decide) (by rw [c3]; rfl) (by decide) ?_
    refine lv_aload_n hx hb dX10_countRows_48 rfl (lv_at hl 0 rfl) ?_
    refine va_get (D := D) (ci := 7) (v := .ref a_t_ringing) (C := RX10) (T := TX10) (N := 9) hx hb hts inX10 hown hE.1 hP 0 rfl rfl 7 (by decide) (hts _ qw328) (fun _ h9 => h9) rfl dX10_countRows_49 ?_
    obtain ⟨q4, h5, hf⟩ := bd_s hf
    refine af_oi (run_V (As := []) (rest := []) E (c_X5_comesRound l D Y a_t_ringing a_t_ringing_rows a_t_ringing_firsts a_t_ringing_firstOfRank q1.1 q1.2.1 q1.2.2.1 q1.2.2.2.1 q1.2.2.2.2.1 q4 h5) qw539 qw540 qw541 qw24 qw542 rfl rfl hd_X5_comesRound ⟨Nat.le_of_ble_eq_true rfl, Nat.le_of_ble_eq_true rfl⟩ (pre_roV hP hE [4, 5] rfl (ci := 4) (q0 := 4) rfl rfl) rfl hl.1 rfl (Nat.le_of_ble_eq_true rfl) dX10_countRows_52 ⟨Nat.zero_le _, Nat.zero_le _⟩) ?_
    obtain rfl := Option.some.inj hf
    subst hQ
    exact en_i hx hb hr hlocks hP hD hS rfl dX10_countRows_55
  have hf := ite_f c3 hf
  by_cases c6 : s1 = 5
  · have hf := ite_t c6 hf
    refine lv_tableIn (tgt := 56) (off := 44) hx hb dX10_countRows_12 (by rw [c6]; decide) (by rw [c6]; decide) (by rw [c6]; rfl) (by decide) ?_
    refine lv_aload_n hx hb dX10_countRows_56 rfl (lv_at hl 0 rfl) ?_
    refine va_get (D := D) (ci := 7) (v := .ref a_t_ringing) (C := RX10) (T := TX10) (N := 9) hx hb hts inX10 hown hE.1 hP 0 rfl rfl 7 (by decide) (hts _ qw328) (fun _ h9 => h9) rfl dX10_countRows_57 ?_
    obtain ⟨q7, h8, hf⟩ := bd_s hf
    refine af_oz (run_V (As := []) (rest := []) E (c_X5_isTrue l D Y a_t_ringing a_t_ringing_rows a_t_ringing_firsts a_t_ringing_firstOfRank q1.1 q1.2.1 q1.2.2.1 q1.2.2.2.1 q1.2.2.2.2.2.1 q7 h8) qw543 qw544 qw545 qw24 qw546 rfl rfl hd_X5_isTrue ⟨Nat.le_of_ble_eq_true rfl, Nat.le_of_ble_eq_true rfl⟩ (pre_roV hP hE [4, 6] rfl (ci := 4) (q0 := 4) rfl rfl) rfl hl.1 rfl (Nat.le_of_ble_eq_true rfl) dX10_countRows_60 ⟨Nat.zero_le _, Nat.zero_le _⟩) (fun z9 => ?_)
    refine lv_if_eq (tgt := 70) hx hb dX10_countRows_63 (by decide) (fun c10 => ?_) (fun c10 => ?_)
    · have hf := ite_t c10 hf
      refine lv_iconst (v := 0) hx hb dX10_countRows_70 (by decide) ?_
      obtain rfl := Option.some.inj hf
      subst hQ
      exact en_i hx hb hr hlocks hP hD hS rfl dX10_countRows_71
    have hf := ite_f c10 hf
    refine lv_iconst (v := 1) hx hb dX10_countRows_66 (by decide) ?_
    refine lv_goto (tgt := 71) hx hb dX10_countRows_67 (by decide) ?_
    obtain rfl := Option.some.inj hf
    subst hQ
    exact en_i hx hb hr hlocks hP hD hS rfl dX10_countRows_71
  have hf := ite_f c6 hf
  by_cases c11 : s1 = 6
  · have hf := ite_t c11 hf
    refine lv_tableIn (tgt := 72) (off := 60) hx hb dX10_countRows_12 (by rw [c11]; decide) (by rw [c11]; decide) (by rw [c11]; rfl) (by decide) ?_
    refine lv_aload_n hx hb dX10_countRows_72 rfl (lv_at hl 0 rfl) ?_
    refine va_get (D := D) (ci := 7) (v := .ref a_t_ringing) (C := RX10) (T := TX10) (N := 9) hx hb hts inX10 hown hE.1 hP 0 rfl rfl 7 (by decide) (hts _ qw328) (fun _ h9 => h9) rfl dX10_countRows_73 ?_
    obtain ⟨q12, h13, hf⟩ := bd_s hf
    refine af_oi (run_V (As := []) (rest := []) E (c_X5_firstRepeat l D Y a_t_ringing a_t_ringing_rows a_t_ringing_firsts a_t_ringing_firstOfRank q1.1 q1.2.1 q1.2.2.1 q1.2.2.2.1 q1.2.2.2.2.2.1 q12 h13) qw555 qw548 qw549 qw24 qw550 rfl rfl hd_X5_firstRepeat ⟨Nat.le_of_ble_eq_true rfl, Nat.le_of_ble_eq_true rfl⟩ (pre_roV hP hE [4, 6] rfl (ci := 4) (q0 := 4) rfl rfl) rfl hl.1 rfl (Nat.le_of_ble_eq_true rfl) dX10_countRows_76 ⟨Nat.zero_le _, Nat.zero_le _⟩) ?_
    obtain rfl := Option.some.inj hf
    subst hQ
    exact en_i hx hb hr hlocks hP hD hS rfl dX10_countRows_79
  have hf := ite_f c11 hf
  by_cases c14 : s1 = 7
  · have hf := ite_t c14 hf
    refine lv_tableIn (tgt := 80) (off := 68) hx hb dX10_countRows_12 (by rw [c14]; decide) (by rw [c14]; decide) (by rw [c14]; rfl) (by decide) ?_
    refine lv_aload_n hx hb dX10_countRows_80 rfl (lv_at hl 0 rfl) ?_
    refine va_get (D := D) (ci := 7) (v := .ref a_t_ringing) (C := RX10) (T := TX10) (N := 9) hx hb hts inX10 hown hE.1 hP 0 rfl rfl 7 (by decide) (hts _ qw328) (fun _ h9 => h9) rfl dX10_countRows_81 ?_
    obtain ⟨q15, h16, hf⟩ := bd_s hf
    refine af_oi (run_V (As := []) (rest := []) E (c_X5_differentRows l D Y a_t_ringing a_t_ringing_rows a_t_ringing_firsts a_t_ringing_firstOfRank q1.1 q1.2.1 q1.2.2.1 q1.2.2.2.1 q1.2.2.2.2.2.1 q15 h16) qw556 qw557 qw558 qw24 qw559 rfl rfl hd_X5_differentRows ⟨Nat.le_of_ble_eq_true rfl, Nat.le_of_ble_eq_true rfl⟩ (pre_roV hP hE [4, 6] rfl (ci := 4) (q0 := 4) rfl rfl) rfl hl.1 rfl (Nat.le_of_ble_eq_true rfl) dX10_countRows_84 ⟨Nat.zero_le _, Nat.zero_le _⟩) ?_
    obtain rfl := Option.some.inj hf
    subst hQ
    exact en_i hx hb hr hlocks hP hD hS rfl dX10_countRows_87
  have hf := ite_f c14 hf
  by_cases c17 : s1 = 8
  · have hf := ite_t c17 hf
    refine lv_tableIn (tgt := 88) (off := 76) hx hb dX10_countRows_12 (by rw [c17]; decide) (by rw [c17]; decide) (by rw [c17]; rfl) (by decide) ?_
    refine lv_aload_n hx hb dX10_countRows_88 rfl (lv_at hl 0 rfl) ?_
    refine va_get (D := D) (ci := 7) (v := .ref a_t_ringing) (C := RX10) (T := TX10) (N := 9) hx hb hts inX10 hown hE.1 hP 0 rfl rfl 7 (by decide) (hts _ qw328) (fun _ h9 => h9) rfl dX10_countRows_89 ?_
    obtain ⟨q18, h19, hf⟩ := bd_s hf
    refine af_oi (run_V (As := []) (rest := []) E (c_X5_falsePairs l D Y a_t_ringing a_t_ringing_rows a_t_ringing_firsts a_t_ringing_firstOfRank q1.1 q1.2.1 q1.2.2.1 q1.2.2.2.1 q1.2.2.2.2.1 q18 h19) qw560 qw561 qw562 qw24 qw563 rfl rfl hd_X5_falsePairs ⟨Nat.le_of_ble_eq_true rfl, Nat.le_of_ble_eq_true rfl⟩ (pre_roV hP hE [4, 5] rfl (ci := 4) (q0 := 4) rfl rfl) rfl hl.1 rfl (Nat.le_of_ble_eq_true rfl) dX10_countRows_92 ⟨Nat.zero_le _, Nat.zero_le _⟩) ?_
    obtain rfl := Option.some.inj hf
    subst hQ
    exact en_i hx hb hr hlocks hP hD hS rfl dX10_countRows_95
  have hf := ite_f c17 hf
  have nc3 := sw_ne (k := 4) (z := 4) rfl c3
  have nc6 := sw_ne (k := 5) (z := 5) rfl c6
  have nc11 := sw_ne (k := 6) (z := 6) rfl c11
  have nc14 := sw_ne (k := 7) (z := 7) rfl c14
  have nc17 := sw_ne (k := 8) (z := 8) rfl c17
  refine lv_tableOut (tgt := 96) hx hb dX10_countRows_12 (by omega) (by decide) ?_
  refine lv_aload_n hx hb dX10_countRows_96 rfl (lv_at hl 0 rfl) ?_
  refine va_get (D := D) (ci := 7) (v := .ref a_t_ringing) (C := RX10) (T := TX10) (N := 9) hx hb hts inX10 hown hE.1 hP 0 rfl rfl 7 (by decide) (hts _ qw328) (fun _ h9 => h9) rfl dX10_countRows_97 ?_
  obtain ⟨q20, h21, hf⟩ := bd_s hf
  refine af_oi (run_V (As := []) (rest := []) E (c_X5_wellSounding l D Y a_t_ringing a_t_ringing_rows a_t_ringing_firsts a_t_ringing_firstOfRank q1.1 q1.2.1 q1.2.2.1 q1.2.2.2.1 q1.2.2.2.2.1 q20 h21) qw568 qw569 qw570 qw24 qw571 rfl rfl hd_X5_wellSounding ⟨Nat.le_of_ble_eq_true rfl, Nat.le_of_ble_eq_true rfl⟩ (pre_roV hP hE [4, 5] rfl (ci := 4) (q0 := 4) rfl rfl) rfl hl.1 rfl (Nat.le_of_ble_eq_true rfl) dX10_countRows_100 ⟨Nat.zero_le _, Nat.zero_le _⟩) ?_
  obtain rfl := Option.some.inj hf
  subst hQ
  exact en_i hx hb hr hlocks hP hD hS rfl dX10_countRows_103

def f_X10_count (s1 : Int32) (v_t_now_bells : Int32) (v_t_now_changes : Int32) (v_t_now_bob : Int32) (v_t_now_single : Int32) (v_t_now_leads : Int32) (f_t_now_places : Nat → Int32) (f_t_now_kinds : Nat → Int32) (v_t_history_size : Int32) (v_t_pad_length : Int32) (v_t_ringing_bells : Int32) (v_t_ringing_changes : Int32) (v_t_ringing_leads : Int32) (v_t_ringing_last : Int32) (f_t_ringing_rows : Nat → Int32) (f_t_ringing_firsts : Nat → Int32) (f_t_ringing_firstOfRank : Nat → Int32) : Option (Int32 × Int32 × Int32 × Int32 × Int32 × (Nat → Int32) × (Nat → Int32) × (Nat → Int32)) :=
  (if s1 = 0 then some (v_t_now_bells, v_t_ringing_bells, v_t_ringing_changes, v_t_ringing_leads, v_t_ringing_last, f_t_ringing_rows, f_t_ringing_firsts, f_t_ringing_firstOfRank) else (if s1 = 1 then some (v_t_now_changes, v_t_ringing_bells, v_t_ringing_changes, v_t_ringing_leads, v_t_ringing_last, f_t_ringing_rows, f_t_ringing_firsts, f_t_ringing_firstOfRank) else (if s1 = 2 then some (v_t_now_leads, v_t_ringing_bells, v_t_ringing_changes, v_t_ringing_leads, v_t_ringing_last, f_t_ringing_rows, f_t_ringing_firsts, f_t_ringing_firstOfRank) else (if s1 = 3 then some ((f_X9_lastRow v_t_now_changes v_t_now_leads), v_t_ringing_bells, v_t_ringing_changes, v_t_ringing_leads, v_t_ringing_last, f_t_ringing_rows, f_t_ringing_firsts, f_t_ringing_firstOfRank) else (if s1 = 4 then (if (f_X10_isWithin s1 4 9) = 0 then some ((-1), v_t_ringing_bells, v_t_ringing_changes, v_t_ringing_leads, v_t_ringing_last, f_t_ringing_rows, f_t_ringing_firsts, f_t_ringing_firstOfRank) else bd (f_X10_countRows s1 v_t_now_bells v_t_now_changes v_t_now_bob v_t_now_single v_t_now_leads f_t_now_places f_t_now_kinds v_t_ringing_bells v_t_ringing_changes v_t_ringing_leads v_t_ringing_last f_t_ringing_rows f_t_ringing_firsts f_t_ringing_firstOfRank) (fun q8 => some (q8.1, q8.2.1, q8.2.2.1, q8.2.2.2.1, q8.2.2.2.2.1, q8.2.2.2.2.2.1, q8.2.2.2.2.2.2.1, q8.2.2.2.2.2.2.2))) else (if s1 = 5 then (if (f_X10_isWithin s1 4 9) = 0 then some ((-1), v_t_ringing_bells, v_t_ringing_changes, v_t_ringing_leads, v_t_ringing_last, f_t_ringing_rows, f_t_ringing_firsts, f_t_ringing_firstOfRank) else bd (f_X10_countRows s1 v_t_now_bells v_t_now_changes v_t_now_bob v_t_now_single v_t_now_leads f_t_now_places f_t_now_kinds v_t_ringing_bells v_t_ringing_changes v_t_ringing_leads v_t_ringing_last f_t_ringing_rows f_t_ringing_firsts f_t_ringing_firstOfRank) (fun q13 => some (q13.1, q13.2.1, q13.2.2.1, q13.2.2.2.1, q13.2.2.2.2.1, q13.2.2.2.2.2.1, q13.2.2.2.2.2.2.1, q13.2.2.2.2.2.2.2))) else (if s1 = 6 then (if (f_X10_isWithin s1 4 9) = 0 then some ((-1), v_t_ringing_bells, v_t_ringing_changes, v_t_ringing_leads, v_t_ringing_last, f_t_ringing_rows, f_t_ringing_firsts, f_t_ringing_firstOfRank) else bd (f_X10_countRows s1 v_t_now_bells v_t_now_changes v_t_now_bob v_t_now_single v_t_now_leads f_t_now_places f_t_now_kinds v_t_ringing_bells v_t_ringing_changes v_t_ringing_leads v_t_ringing_last f_t_ringing_rows f_t_ringing_firsts f_t_ringing_firstOfRank) (fun q18 => some (q18.1, q18.2.1, q18.2.2.1, q18.2.2.2.1, q18.2.2.2.2.1, q18.2.2.2.2.2.1, q18.2.2.2.2.2.2.1, q18.2.2.2.2.2.2.2))) else (if s1 = 7 then (if (f_X10_isWithin s1 4 9) = 0 then some ((-1), v_t_ringing_bells, v_t_ringing_changes, v_t_ringing_leads, v_t_ringing_last, f_t_ringing_rows, f_t_ringing_firsts, f_t_ringing_firstOfRank) else bd (f_X10_countRows s1 v_t_now_bells v_t_now_changes v_t_now_bob v_t_now_single v_t_now_leads f_t_now_places f_t_now_kinds v_t_ringing_bells v_t_ringing_changes v_t_ringing_leads v_t_ringing_last f_t_ringing_rows f_t_ringing_firsts f_t_ringing_firstOfRank) (fun q23 => some (q23.1, q23.2.1, q23.2.2.1, q23.2.2.2.1, q23.2.2.2.2.1, q23.2.2.2.2.2.1, q23.2.2.2.2.2.2.1, q23.2.2.2.2.2.2.2))) else (if s1 = 8 then (if (f_X10_isWithin s1 4 9) = 0 then some ((-1), v_t_ringing_bells, v_t_ringing_changes, v_t_ringing_leads, v_t_ringing_last, f_t_ringing_rows, f_t_ringing_firsts, f_t_ringing_firstOfRank) else bd (f_X10_countRows s1 v_t_now_bells v_t_now_changes v_t_now_bob v_t_now_single v_t_now_leads f_t_now_places f_t_now_kinds v_t_ringing_bells v_t_ringing_changes v_t_ringing_leads v_t_ringing_last f_t_ringing_rows f_t_ringing_firsts f_t_ringing_firstOfRank) (fun q28 => some (q28.1, q28.2.1, q28.2.2.1, q28.2.2.2.1, q28.2.2.2.2.1, q28.2.2.2.2.2.1, q28.2.2.2.2.2.2.1, q28.2.2.2.2.2.2.2))) else (if s1 = 9 then (if (f_X10_isWithin s1 4 9) = 0 then some ((-1), v_t_ringing_bells, v_t_ringing_changes, v_t_ringing_leads, v_t_ringing_last, f_t_ringing_rows, f_t_ringing_firsts, f_t_ringing_firstOfRank) else bd (f_X10_countRows s1 v_t_now_bells v_t_now_changes v_t_now_bob v_t_now_single v_t_now_leads f_t_now_places f_t_now_kinds v_t_ringing_bells v_t_ringing_changes v_t_ringing_leads v_t_ringing_last f_t_ringing_rows f_t_ringing_firsts f_t_ringing_firstOfRank) (fun q33 => some (q33.1, q33.2.1, q33.2.2.1, q33.2.2.2.1, q33.2.2.2.2.1, q33.2.2.2.2.2.1, q33.2.2.2.2.2.2.1, q33.2.2.2.2.2.2.2))) else (if s1 = 10 then bd (f_X9_calledLeads v_t_now_leads f_t_now_kinds) (fun q36 => some (q36, v_t_ringing_bells, v_t_ringing_changes, v_t_ringing_leads, v_t_ringing_last, f_t_ringing_rows, f_t_ringing_firsts, f_t_ringing_firstOfRank)) else (if s1 = 11 then bd (f_X9_plainCourse v_t_now_bells v_t_now_changes v_t_now_bob v_t_now_single f_t_now_places) (fun q39 => some (q39, v_t_ringing_bells, v_t_ringing_changes, v_t_ringing_leads, v_t_ringing_last, f_t_ringing_rows, f_t_ringing_firsts, f_t_ringing_firstOfRank)) else (if s1 = 12 then some (v_t_now_bob, v_t_ringing_bells, v_t_ringing_changes, v_t_ringing_leads, v_t_ringing_last, f_t_ringing_rows, f_t_ringing_firsts, f_t_ringing_firstOfRank) else (if s1 = 13 then some (v_t_now_single, v_t_ringing_bells, v_t_ringing_changes, v_t_ringing_leads, v_t_ringing_last, f_t_ringing_rows, f_t_ringing_firsts, f_t_ringing_firstOfRank) else (if s1 = 14 then some (v_t_pad_length, v_t_ringing_bells, v_t_ringing_changes, v_t_ringing_leads, v_t_ringing_last, f_t_ringing_rows, f_t_ringing_firsts, f_t_ringing_firstOfRank) else (if s1 = 15 then some (v_t_history_size, v_t_ringing_bells, v_t_ringing_changes, v_t_ringing_leads, v_t_ringing_last, f_t_ringing_rows, f_t_ringing_firsts, f_t_ringing_firstOfRank) else (if (f_X10_isWithin s1 4 9) = 0 then some ((-1), v_t_ringing_bells, v_t_ringing_changes, v_t_ringing_leads, v_t_ringing_last, f_t_ringing_rows, f_t_ringing_firsts, f_t_ringing_firstOfRank) else bd (f_X10_countRows s1 v_t_now_bells v_t_now_changes v_t_now_bob v_t_now_single v_t_now_leads f_t_now_places f_t_now_kinds v_t_ringing_bells v_t_ringing_changes v_t_ringing_leads v_t_ringing_last f_t_ringing_rows f_t_ringing_firsts f_t_ringing_firstOfRank) (fun q47 => some (q47.1, q47.2.1, q47.2.2.1, q47.2.2.2.1, q47.2.2.2.2.1, q47.2.2.2.2.2.1, q47.2.2.2.2.2.2.1, q47.2.2.2.2.2.2.2)))))))))))))))))))
abbrev rm_X10_count : Room := { frames := 6, cells := 0, slots := 0, locals := 140 }
set_option maxHeartbeats 4000000 in
set_option maxRecDepth 100000 in
theorem c_X10_count (l : Launch) (D : va_G) (Y : ClassId × ClassId × ClassId × ClassId) (a_t a_t_now a_t_trial a_t_snapshot a_t_history a_t_pad a_t_reader a_t_ringing a_t_homeward a_t_now_places a_t_now_kinds a_t_history_states a_t_pad_signs a_t_ringing_rows a_t_ringing_firsts a_t_ringing_firstOfRank : Nat) (v_t_hasSnapshot : Int32) (v_t_now_bells : Int32) (v_t_now_changes : Int32) (v_t_now_bob : Int32) (v_t_now_single : Int32) (v_t_now_leads : Int32) (f_t_now_places : Nat → Int32) (f_t_now_kinds : Nat → Int32) (v_t_history_size : Int32) (v_t_pad_length : Int32) (v_t_ringing_bells : Int32) (v_t_ringing_changes : Int32) (v_t_ringing_leads : Int32) (v_t_ringing_last : Int32) (f_t_ringing_rows : Nat → Int32) (f_t_ringing_firsts : Nat → Int32) (f_t_ringing_firstOfRank : Nat → Int32) (s1 : Int32) (sz : Nat) (R : Int32 × Int32 × Int32 × Int32 × Int32 × (Nat → Int32) × (Nat → Int32) × (Nat → Int32)) (hf : f_X10_count s1 v_t_now_bells v_t_now_changes v_t_now_bob v_t_now_single v_t_now_leads f_t_now_places f_t_now_kinds v_t_history_size v_t_pad_length v_t_ringing_bells v_t_ringing_changes v_t_ringing_leads v_t_ringing_last f_t_ringing_rows f_t_ringing_firsts f_t_ringing_firstOfRank = some R) : Met l yX10_count (ws_ yX10_count cX10_count 2 (some .int)) rm_X10_count (va_Pc [.ref a_t, .int s1] (RW D Y sz [(a_t, .inr (7, [.ref a_t_now, .ref a_t_trial, .ref a_t_snapshot, .int v_t_hasSnapshot, .ref a_t_history, .ref a_t_pad, .ref a_t_reader, .ref a_t_ringing, .ref a_t_homeward])), (a_t_now, .inr (6, [.int v_t_now_bells, .int v_t_now_changes, .int v_t_now_bob, .int v_t_now_single, .int v_t_now_leads, .ref a_t_now_places, .ref a_t_now_kinds])), (a_t_now_places, .inl (Y.1, 20, .inl f_t_now_places)), (a_t_now_kinds, .inl (Y.1, 17, .inl f_t_now_kinds)), (a_t_history, .inr (0, [.ref a_t_history_states, .int v_t_history_size])), (a_t_pad, .inr (3, [.ref a_t_pad_signs, .int v_t_pad_length])), (a_t_ringing, .inr (4, [.ref a_t_ringing_rows, .ref a_t_ringing_firsts, .ref a_t_ringing_firstOfRank, .int v_t_ringing_bells, .int v_t_ringing_changes, .int v_t_ringing_leads, .int v_t_ringing_last])), (a_t_ringing_rows, .inl (Y.1, 341, .inl f_t_ringing_rows)), (a_t_ringing_firsts, .inl (Y.1, 341, .inl f_t_ringing_firsts)), (a_t_ringing_firstOfRank, .inl (Y.1, 5040, .inl f_t_ringing_firstOfRank))])) (QI D R.1 [(a_t, .inr (7, [.ref a_t_now, .ref a_t_trial, .ref a_t_snapshot, .int v_t_hasSnapshot, .ref a_t_history, .ref a_t_pad, .ref a_t_reader, .ref a_t_ringing, .ref a_t_homeward])), (a_t_now, .inr (6, [.int v_t_now_bells, .int v_t_now_changes, .int v_t_now_bob, .int v_t_now_single, .int v_t_now_leads, .ref a_t_now_places, .ref a_t_now_kinds])), (a_t_now_places, .inl (Y.1, 20, .inl f_t_now_places)), (a_t_now_kinds, .inl (Y.1, 17, .inl f_t_now_kinds)), (a_t_history, .inr (0, [.ref a_t_history_states, .int v_t_history_size])), (a_t_pad, .inr (3, [.ref a_t_pad_signs, .int v_t_pad_length])), (a_t_ringing, .inr (4, [.ref a_t_ringing_rows, .ref a_t_ringing_firsts, .ref a_t_ringing_firstOfRank, .int R.2.1, .int R.2.2.1, .int R.2.2.2.1, .int R.2.2.2.2.1])), (a_t_ringing_rows, .inl (Y.1, 341, .inl R.2.2.2.2.2.1)), (a_t_ringing_firsts, .inl (Y.1, 341, .inl R.2.2.2.2.2.2.1)), (a_t_ringing_firstOfRank, .inl (Y.1, 5040, .inl R.2.2.2.2.2.2.2))] (va_A [(a_t, .inr (7, [.ref a_t_now, .ref a_t_trial, .ref a_t_snapshot, .int v_t_hasSnapshot, .ref a_t_history, .ref a_t_pad, .ref a_t_reader, .ref a_t_ringing, .ref a_t_homeward])), (a_t_now, .inr (6, [.int v_t_now_bells, .int v_t_now_changes, .int v_t_now_bob, .int v_t_now_single, .int v_t_now_leads, .ref a_t_now_places, .ref a_t_now_kinds])), (a_t_now_places, .inl (Y.1, 20, .inl f_t_now_places)), (a_t_now_kinds, .inl (Y.1, 17, .inl f_t_now_kinds)), (a_t_history, .inr (0, [.ref a_t_history_states, .int v_t_history_size])), (a_t_pad, .inr (3, [.ref a_t_pad_signs, .int v_t_pad_length])), (a_t_ringing, .inr (4, [.ref a_t_ringing_rows, .ref a_t_ringing_firsts, .ref a_t_ringing_firstOfRank, .int v_t_ringing_bells, .int v_t_ringing_changes, .int v_t_ringing_leads, .int v_t_ringing_last])), (a_t_ringing_rows, .inl (Y.1, 341, .inl f_t_ringing_rows)), (a_t_ringing_firsts, .inl (Y.1, 341, .inl f_t_ringing_firsts)), (a_t_ringing_firstOfRank, .inl (Y.1, 5040, .inl f_t_ringing_firstOfRank))] sz)) 0 0 (va_A [(a_t, .inr (7, [.ref a_t_now, .ref a_t_trial, .ref a_t_snapshot, .int v_t_hasSnapshot, .ref a_t_history, .ref a_t_pad, .ref a_t_reader, .ref a_t_ringing, .ref a_t_homeward])), (a_t_now, .inr (6, [.int v_t_now_bells, .int v_t_now_changes, .int v_t_now_bob, .int v_t_now_single, .int v_t_now_leads, .ref a_t_now_places, .ref a_t_now_kinds])), (a_t_now_places, .inl (Y.1, 20, .inl f_t_now_places)), (a_t_now_kinds, .inl (Y.1, 17, .inl f_t_now_kinds)), (a_t_history, .inr (0, [.ref a_t_history_states, .int v_t_history_size])), (a_t_pad, .inr (3, [.ref a_t_pad_signs, .int v_t_pad_length])), (a_t_ringing, .inr (4, [.ref a_t_ringing_rows, .ref a_t_ringing_firsts, .ref a_t_ringing_firstOfRank, .int v_t_ringing_bells, .int v_t_ringing_changes, .int v_t_ringing_leads, .int v_t_ringing_last])), (a_t_ringing_rows, .inl (Y.1, 341, .inl f_t_ringing_rows)), (a_t_ringing_firsts, .inl (Y.1, 341, .inl f_t_ringing_firsts)), (a_t_ringing_firstOfRank, .inl (Y.1, 5040, .inl f_t_ringing_firstOfRank))] sz) := by
  refine rw_start (Qc := fun A => QI D R.1 [(a_t, .inr (7, [.ref a_t_now, .ref a_t_trial, .ref a_t_snapshot, .int v_t_hasSnapshot, .ref a_t_history, .ref a_t_pad, .ref a_t_reader, .ref a_t_ringing, .ref a_t_homeward])), (a_t_now, .inr (6, [.int v_t_now_bells, .int v_t_now_changes, .int v_t_now_bob, .int v_t_now_single, .int v_t_now_leads, .ref a_t_now_places, .ref a_t_now_kinds])), (a_t_now_places, .inl (Y.1, 20, .inl f_t_now_places)), (a_t_now_kinds, .inl (Y.1, 17, .inl f_t_now_kinds)), (a_t_history, .inr (0, [.ref a_t_history_states, .int v_t_history_size])), (a_t_pad, .inr (3, [.ref a_t_pad_signs, .int v_t_pad_length])), (a_t_ringing, .inr (4, [.ref a_t_ringing_rows, .ref a_t_ringing_firsts, .ref a_t_ringing_firstOfRank, .int R.2.1, .int R.2.2.1, .int R.2.2.2.1, .int R.2.2.2.2.1])), (a_t_ringing_rows, .inl (Y.1, 341, .inl R.2.2.2.2.2.1)), (a_t_ringing_firsts, .inl (Y.1, 341, .inl R.2.2.2.2.2.2.1)), (a_t_ringing_firstOfRank, .inl (Y.1, 5040, .inl R.2.2.2.2.2.2.2))] A) (by decide) (Nat.le_of_ble_eq_true rfl) ?_
  intro p e s m below meth c ls A hx hb hml hr hlocks hown hts hnm hA hP hD hS hE hl
  generalize hargs : List.toArray _ = args at hts ⊢
  have hown : s.vm.findClass RX10 = some m.cls := hown
  have E : EN p m c cX10_count 2 s args RX10 := ⟨hx, hb, hml, hown, hts⟩
  have hl : lv_has ls 2 [(0, .ref a_t), (1, .int s1)] := hl
  generalize hQ : MQ below _ args s 0 0 _ = Q
  unfold f_X10_count at hf
  refine lv_iload_n hx hb dX10_count_0 rfl (lv_at hl 1 rfl) ?_
  by_cases c1 : s1 = 0
  · have hf := ite_t c1 hf
    refine lv_tableIn (tgt := 80) (off := 79) hx hb dX10_count_1 (by rw [c1]; decide) (by rw [c1]; decide) (by rw [c1]; rfl) (by decide) ?_
    refine lv_aload_n hx hb dX10_count_80 rfl (lv_at hl 0 rfl) ?_
    refine va_get (D := D) (ci := 7) (v := .ref a_t_now) (C := RX10) (T := TX10) (N := 9) hx hb hts inX10 hown hE.1 hP 0 rfl rfl 0 (by decide) (hts _ qw322) (fun _ h9 => h9) rfl dX10_count_81 ?_
    refine va_getN (D := D) (ci := 6) (v := .int v_t_now_bells) (C := RX9) (T := TX9) (N := 7) hx hb hts inX9 hown hE.1 hP 1 rfl rfl 0 (by decide) (va_Nw.use rfl (hE.2.1 _ qw54)) (fun _ h9 => h9) rfl dX10_count_84 ?_
    obtain rfl := Option.some.inj hf
    subst hQ
    exact en_i hx hb hr hlocks hP hD hS rfl dX10_count_87
  have hf := ite_f c1 hf
  by_cases c2 : s1 = 1
  · have hf := ite_t c2 hf
    refine lv_tableIn (tgt := 88) (off := 87) hx hb dX10_count_1 (by rw [c2]; decide) (by rw [c2]; decide) (by rw [c2]; rfl) (by decide) ?_
    refine lv_aload_n hx hb dX10_count_88 rfl (lv_at hl 0 rfl) ?_
    refine va_get (D := D) (ci := 7) (v := .ref a_t_now) (C := RX10) (T := TX10) (N := 9) hx hb hts inX10 hown hE.1 hP 0 rfl rfl 0 (by decide) (hts _ qw322) (fun _ h9 => h9) rfl dX10_count_89 ?_
    refine va_getN (D := D) (ci := 6) (v := .int v_t_now_changes) (C := RX9) (T := TX9) (N := 7) hx hb hts inX9 hown hE.1 hP 1 rfl rfl 1 (by decide) (va_Nw.use rfl (hE.2.1 _ qw57)) (fun _ h9 => h9) rfl dX10_count_92 ?_
    obtain rfl := Option.some.inj hf
    subst hQ
    exact en_i hx hb hr hlocks hP hD hS rfl dX10_count_95
  have hf := ite_f c2 hf
  by_cases c3 : s1 = 2
  · have hf := ite_t c3 hf
    refine lv_tableIn (tgt := 96) (off := 95) hx hb dX10_count_1 (by rw [c3]; decide) (by rw [c3]; decide) (by rw [c3]; rfl) (by decide) ?_
    refine lv_aload_n hx hb dX10_count_96 rfl (lv_at hl 0 rfl) ?_
    refine va_get (D := D) (ci := 7) (v := .ref a_t_now) (C := RX10) (T := TX10) (N := 9) hx hb hts inX10 hown hE.1 hP 0 rfl rfl 0 (by decide) (hts _ qw322) (fun _ h9 => h9) rfl dX10_count_97 ?_
    refine va_getN (D := D) (ci := 6) (v := .int v_t_now_leads) (C := RX9) (T := TX9) (N := 7) hx hb hts inX9 hown hE.1 hP 1 rfl rfl 4 (by decide) (va_Nw.use rfl (hE.2.1 _ qw64)) (fun _ h9 => h9) rfl dX10_count_100 ?_
    obtain rfl := Option.some.inj hf
    subst hQ
    exact en_i hx hb hr hlocks hP hD hS rfl dX10_count_103
  have hf := ite_f c3 hf
  by_cases c4 : s1 = 3
  · have hf := ite_t c4 hf
    refine lv_tableIn (tgt := 104) (off := 103) hx hb dX10_count_1 (by rw [c4]; decide) (by rw [c4]; decide) (by rw [c4]; rfl) (by decide) ?_
    refine lv_aload_n hx hb dX10_count_104 rfl (lv_at hl 0 rfl) ?_
    refine va_get (D := D) (ci := 7) (v := .ref a_t_now) (C := RX10) (T := TX10) (N := 9) hx hb hts inX10 hown hE.1 hP 0 rfl rfl 0 (by decide) (hts _ qw322) (fun _ h9 => h9) rfl dX10_count_105 ?_
    refine af_oi (run_V (As := []) (rest := []) E (c_X9_lastRow l D Y a_t_now a_t_now_places a_t_now_kinds v_t_now_bells v_t_now_changes v_t_now_bob v_t_now_single v_t_now_leads (f_X9_lastRow v_t_now_changes v_t_now_leads) rfl) qw380 qw381 qw382 qw20 qw383 rfl rfl hd_X9_lastRow ⟨Nat.le_of_ble_eq_true rfl, Nat.le_of_ble_eq_true rfl⟩ (pre_roV hP hE [1] rfl (ci := 6) (q0 := 1) rfl rfl) rfl hl.1 rfl (Nat.le_of_ble_eq_true rfl) dX10_count_108 ⟨Nat.zero_le _, Nat.zero_le _⟩) ?_
    obtain rfl := Option.some.inj hf
    subst hQ
    exact en_i hx hb hr hlocks hP hD hS rfl dX10_count_111
  have hf := ite_f c4 hf
  by_cases c5 : s1 = 4
  · have hf := ite_t c5 hf
    refine lv_tableIn (tgt := 160) (off := 159) hx hb dX10_count_1 (by rw [c5]; decide) (by rw [c5]; decide) (by rw [c5]; rfl) (by decide) ?_
    refine lv_iload_n hx hb dX10_count_160 rfl (lv_at hl 1 rfl) ?_
    refine lv_iconst (v := 4) hx hb dX10_count_161 (by decide) ?_
    refine lv_bipush (v := 9) hx hb dX10_count_162 (by decide) ?_
    refine af_oz (run_S (As := [.int s1, .int 4, .int 9]) (rest := []) E (c_X10_isWithin l D Y s1 4 9 (f_X10_isWithin s1 4 9) rfl) qw384 qw385 qw19 qw386 rfl rfl hd_X10_isWithin ⟨Nat.le_of_ble_eq_true rfl, Nat.le_of_ble_eq_true rfl⟩ (pre_roS hP hE [] rfl) rfl hl.1 rfl (Nat.le_of_ble_eq_true rfl) dX10_count_164 ⟨Nat.zero_le _, Nat.zero_le _⟩) (fun z6 => ?_)
    refine lv_if_eq (tgt := 178) hx hb dX10_count_167 (by decide) (fun c7 => ?_) (fun c7 => ?_)
    · have hf := ite_t c7 hf
      refine lv_iconst (v := (-1)) hx hb dX10_count_178 (by decide) ?_
      obtain rfl := Option.some.inj hf
      subst hQ
      exact en_i hx hb hr hlocks hP hD hS rfl dX10_count_179
    have hf := ite_f c7 hf
    refine lv_aload_n hx hb dX10_count_170 rfl (lv_at hl 0 rfl) ?_
    refine lv_iload_n hx hb dX10_count_171 rfl (lv_at hl 1 rfl) ?_
    obtain ⟨q8, h9, hf⟩ := bd_s hf
    refine af_i0 (wc := [(a_t, .inr (7, [.ref a_t_now, .ref a_t_trial, .ref a_t_snapshot, .int v_t_hasSnapshot, .ref a_t_history, .ref a_t_pad, .ref a_t_reader, .ref a_t_ringing, .ref a_t_homeward])), (a_t_now, .inr (6, [.int v_t_now_bells, .int v_t_now_changes, .int v_t_now_bob, .int v_t_now_single, .int v_t_now_leads, .ref a_t_now_places, .ref a_t_now_kinds])), (a_t_now_places, .inl (Y.1, 20, .inl f_t_now_places)), (a_t_now_kinds, .inl (Y.1, 17, .inl f_t_now_kinds)), (a_t_ringing, .inr (4, [.ref a_t_ringing_rows, .ref a_t_ringing_firsts, .ref a_t_ringing_firstOfRank, .int v_t_ringing_bells, .int v_t_ringing_changes, .int v_t_ringing_leads, .int v_t_ringing_last])), (a_t_ringing_rows, .inl (Y.1, 341, .inl f_t_ringing_rows)), (a_t_ringing_firsts, .inl (Y.1, 341, .inl f_t_ringing_firsts)), (a_t_ringing_firstOfRank, .inl (Y.1, 5040, .inl f_t_ringing_firstOfRank))]) (wr := [(a_t_history, .inr (0, [.ref a_t_history_states, .int v_t_history_size])), (a_t_pad, .inr (3, [.ref a_t_pad_signs, .int v_t_pad_length]))]) (wn := [(a_t, .inr (7, [.ref a_t_now, .ref a_t_trial, .ref a_t_snapshot, .int v_t_hasSnapshot, .ref a_t_history, .ref a_t_pad, .ref a_t_reader, .ref a_t_ringing, .ref a_t_homeward])), (a_t_now, .inr (6, [.int v_t_now_bells, .int v_t_now_changes, .int v_t_now_bob, .int v_t_now_single, .int v_t_now_leads, .ref a_t_now_places, .ref a_t_now_kinds])), (a_t_now_places, .inl (Y.1, 20, .inl f_t_now_places)), (a_t_now_kinds, .inl (Y.1, 17, .inl f_t_now_kinds)), (a_t_history, .inr (0, [.ref a_t_history_states, .int v_t_history_size])), (a_t_pad, .inr (3, [.ref a_t_pad_signs, .int v_t_pad_length])), (a_t_ringing, .inr (4, [.ref a_t_ringing_rows, .ref a_t_ringing_firsts, .ref a_t_ringing_firstOfRank, .int q8.2.1, .int q8.2.2.1, .int q8.2.2.2.1, .int q8.2.2.2.2.1])), (a_t_ringing_rows, .inl (Y.1, 341, .inl q8.2.2.2.2.2.1)), (a_t_ringing_firsts, .inl (Y.1, 341, .inl q8.2.2.2.2.2.2.1)), (a_t_ringing_firstOfRank, .inl (Y.1, 5040, .inl q8.2.2.2.2.2.2.2))]) (run_V (As := [.int s1]) (rest := []) E (c_X10_countRows l D Y a_t a_t_now a_t_trial a_t_snapshot a_t_history a_t_pad a_t_reader a_t_ringing a_t_homeward a_t_now_places a_t_now_kinds a_t_ringing_rows a_t_ringing_firsts a_t_ringing_firstOfRank v_t_hasSnapshot v_t_now_bells v_t_now_changes v_t_now_bob v_t_now_single v_t_now_leads f_t_now_places f_t_now_kinds v_t_ringing_bells v_t_ringing_changes v_t_ringing_leads v_t_ringing_last f_t_ringing_rows f_t_ringing_firsts f_t_ringing_firstOfRank s1 s.heap.size q8 h9) qw535 qw537 qw13 qw19 qw538 rfl rfl hd_X10_countRows ⟨Nat.le_of_ble_eq_true rfl, Nat.le_of_ble_eq_true rfl⟩ (pre_rwV hP hD hE [0, 1, 2, 3, 6, 7, 8, 9] rfl (by decide) rfl (ci := 7) (q0 := 0) rfl rfl) rfl hl.1 rfl (Nat.le_of_ble_eq_true rfl) dX10_count_172 ⟨Nat.zero_le _, Nat.zero_le _⟩) hP hD hS hA [0, 1, 2, 3, 6, 7, 8, 9] [4, 5] [2, 3, 4, 5, 0, 1, 6, 7, 8, 9] rfl rfl (by decide) (by decide) rfl rfl (by decide) (fun H locs  hP hD hS => ?_)
    refine lv_goto (tgt := 179) hx hb dX10_count_175 (by decide) ?_
    obtain rfl := Option.some.inj hf
    subst hQ
    exact en_i hx hb hr hlocks hP hD hS rfl dX10_count_179
  have hf := ite_f c5 hf
  by_cases c10 : s1 = 5
  · have hf := ite_t c10 hf
    refine lv_tableIn (tgt := 160) (off := 159) hx hb dX10_count_1 (by rw [c10]; decide) (by rw [c10]; decide) (by rw [c10]; rfl) (by decide) ?_
    refine lv_iload_n hx hb dX10_count_160 rfl (lv_at hl 1 rfl) ?_
    refine lv_iconst (v := 4) hx hb dX10_count_161 (by decide) ?_
    refine lv_bipush (v := 9) hx hb dX10_count_162 (by decide) ?_
    refine af_oz (run_S (As := [.int s1, .int 4, .int 9]) (rest := []) E (c_X10_isWithin l D Y s1 4 9 (f_X10_isWithin s1 4 9) rfl) qw384 qw385 qw19 qw386 rfl rfl hd_X10_isWithin ⟨Nat.le_of_ble_eq_true rfl, Nat.le_of_ble_eq_true rfl⟩ (pre_roS hP hE [] rfl) rfl hl.1 rfl (Nat.le_of_ble_eq_true rfl) dX10_count_164 ⟨Nat.zero_le _, Nat.zero_le _⟩) (fun z11 => ?_)
    refine lv_if_eq (tgt := 178) hx hb dX10_count_167 (by decide) (fun c12 => ?_) (fun c12 => ?_)
    · have hf := ite_t c12 hf
      refine lv_iconst (v := (-1)) hx hb dX10_count_178 (by decide) ?_
      obtain rfl := Option.some.inj hf
      subst hQ
      exact en_i hx hb hr hlocks hP hD hS rfl dX10_count_179
    have hf := ite_f c12 hf
    refine lv_aload_n hx hb dX10_count_170 rfl (lv_at hl 0 rfl) ?_
    refine lv_iload_n hx hb dX10_count_171 rfl (lv_at hl 1 rfl) ?_
    obtain ⟨q13, h14, hf⟩ := bd_s hf
    refine af_i0 (wc := [(a_t, .inr (7, [.ref a_t_now, .ref a_t_trial, .ref a_t_snapshot, .int v_t_hasSnapshot, .ref a_t_history, .ref a_t_pad, .ref a_t_reader, .ref a_t_ringing, .ref a_t_homeward])), (a_t_now, .inr (6, [.int v_t_now_bells, .int v_t_now_changes, .int v_t_now_bob, .int v_t_now_single, .int v_t_now_leads, .ref a_t_now_places, .ref a_t_now_kinds])), (a_t_now_places, .inl (Y.1, 20, .inl f_t_now_places)), (a_t_now_kinds, .inl (Y.1, 17, .inl f_t_now_kinds)), (a_t_ringing, .inr (4, [.ref a_t_ringing_rows, .ref a_t_ringing_firsts, .ref a_t_ringing_firstOfRank, .int v_t_ringing_bells, .int v_t_ringing_changes, .int v_t_ringing_leads, .int v_t_ringing_last])), (a_t_ringing_rows, .inl (Y.1, 341, .inl f_t_ringing_rows)), (a_t_ringing_firsts, .inl (Y.1, 341, .inl f_t_ringing_firsts)), (a_t_ringing_firstOfRank, .inl (Y.1, 5040, .inl f_t_ringing_firstOfRank))]) (wr := [(a_t_history, .inr (0, [.ref a_t_history_states, .int v_t_history_size])), (a_t_pad, .inr (3, [.ref a_t_pad_signs, .int v_t_pad_length]))]) (wn := [(a_t, .inr (7, [.ref a_t_now, .ref a_t_trial, .ref a_t_snapshot, .int v_t_hasSnapshot, .ref a_t_history, .ref a_t_pad, .ref a_t_reader, .ref a_t_ringing, .ref a_t_homeward])), (a_t_now, .inr (6, [.int v_t_now_bells, .int v_t_now_changes, .int v_t_now_bob, .int v_t_now_single, .int v_t_now_leads, .ref a_t_now_places, .ref a_t_now_kinds])), (a_t_now_places, .inl (Y.1, 20, .inl f_t_now_places)), (a_t_now_kinds, .inl (Y.1, 17, .inl f_t_now_kinds)), (a_t_history, .inr (0, [.ref a_t_history_states, .int v_t_history_size])), (a_t_pad, .inr (3, [.ref a_t_pad_signs, .int v_t_pad_length])), (a_t_ringing, .inr (4, [.ref a_t_ringing_rows, .ref a_t_ringing_firsts, .ref a_t_ringing_firstOfRank, .int q13.2.1, .int q13.2.2.1, .int q13.2.2.2.1, .int q13.2.2.2.2.1])), (a_t_ringing_rows, .inl (Y.1, 341, .inl q13.2.2.2.2.2.1)), (a_t_ringing_firsts, .inl (Y.1, 341, .inl q13.2.2.2.2.2.2.1)), (a_t_ringing_firstOfRank, .inl (Y.1, 5040, .inl q13.2.2.2.2.2.2.2))]) (run_V (As := [.int s1]) (rest := []) E (c_X10_countRows l D Y a_t a_t_now a_t_trial a_t_snapshot a_t_history a_t_pad a_t_reader a_t_ringing a_t_homeward a_t_now_places a_t_now_kinds a_t_ringing_rows a_t_ringing_firsts a_t_ringing_firstOfRank v_t_hasSnapshot v_t_now_bells v_t_now_changes v_t_now_bob v_t_now_single v_t_now_leads f_t_now_places f_t_now_kinds v_t_ringing_bells v_t_ringing_changes v_t_ringing_leads v_t_ringing_last f_t_ringing_rows f_t_ringing_firsts f_t_ringing_firstOfRank s1 s.heap.size q13 h14) qw535 qw537 qw13 qw19 qw538 rfl rfl hd_X10_countRows ⟨Nat.le_of_ble_eq_true rfl, Nat.le_of_ble_eq_true rfl⟩ (pre_rwV hP hD hE [0, 1, 2, 3, 6, 7, 8, 9] rfl (by decide) rfl (ci := 7) (q0 := 0) rfl rfl) rfl hl.1 rfl (Nat.le_of_ble_eq_true rfl) dX10_count_172 ⟨Nat.zero_le _, Nat.zero_le _⟩) hP hD hS hA [0, 1, 2, 3, 6, 7, 8, 9] [4, 5] [2, 3, 4, 5, 0, 1, 6, 7, 8, 9] rfl rfl (by decide) (by decide) rfl rfl (by decide) (fun H locs  hP hD hS => ?_)
    refine lv_goto (tgt := 179) hx hb dX10_count_175 (by decide) ?_
    obtain rfl := Option.some.inj hf
    subst hQ
    exact en_i hx hb hr hlocks hP hD hS rfl dX10_count_179
  have hf := ite_f c10 hf
  by_cases c15 : s1 = 6
  · have hf := ite_t c15 hf
    refine lv_tableIn (tgt := 160) (off := 159) hx hb dX10_count_1 (by rw [c15]; decide) (by rw [c15]; decide) (by rw [c15]; rfl) (by decide) ?_
    refine lv_iload_n hx hb dX10_count_160 rfl (lv_at hl 1 rfl) ?_
    refine lv_iconst (v := 4) hx hb dX10_count_161 (by decide) ?_
    refine lv_bipush (v := 9) hx hb dX10_count_162 (by decide) ?_
    refine af_oz (run_S (As := [.int s1, .int 4, .int 9]) (rest := []) E (c_X10_isWithin l D Y s1 4 9 (f_X10_isWithin s1 4 9) rfl) qw384 qw385 qw19 qw386 rfl rfl hd_X10_isWithin ⟨Nat.le_of_ble_eq_true rfl, Nat.le_of_ble_eq_true rfl⟩ (pre_roS hP hE [] rfl) rfl hl.1 rfl (Nat.le_of_ble_eq_true rfl) dX10_count_164 ⟨Nat.zero_le _, Nat.zero_le _⟩) (fun z16 => ?_)
    refine lv_if_eq (tgt := 178) hx hb dX10_count_167 (by decide) (fun c17 => ?_) (fun c17 => ?_)
    · have hf := ite_t c17 hf
      refine lv_iconst (v := (-1)) hx hb dX10_count_178 (by decide) ?_
      obtain rfl := Option.some.inj hf
      subst hQ
      exact en_i hx hb hr hlocks hP hD hS rfl dX10_count_179
    have hf := ite_f c17 hf
    refine lv_aload_n hx hb dX10_count_170 rfl (lv_at hl 0 rfl) ?_
    refine lv_iload_n hx hb dX10_count_171 rfl (lv_at hl 1 rfl) ?_
    obtain ⟨q18, h19, hf⟩ := bd_s hf
    refine af_i0 (wc := [(a_t, .inr (7, [.ref a_t_now, .ref a_t_trial, .ref a_t_snapshot, .int v_t_hasSnapshot, .ref a_t_history, .ref a_t_pad, .ref a_t_reader, .ref a_t_ringing, .ref a_t_homeward])), (a_t_now, .inr (6, [.int v_t_now_bells, .int v_t_now_changes, .int v_t_now_bob, .int v_t_now_single, .int v_t_now_leads, .ref a_t_now_places, .ref a_t_now_kinds])), (a_t_now_places, .inl (Y.1, 20, .inl f_t_now_places)), (a_t_now_kinds, .inl (Y.1, 17, .inl f_t_now_kinds)), (a_t_ringing, .inr (4, [.ref a_t_ringing_rows, .ref a_t_ringing_firsts, .ref a_t_ringing_firstOfRank, .int v_t_ringing_bells, .int v_t_ringing_changes, .int v_t_ringing_leads, .int v_t_ringing_last])), (a_t_ringing_rows, .inl (Y.1, 341, .inl f_t_ringing_rows)), (a_t_ringing_firsts, .inl (Y.1, 341, .inl f_t_ringing_firsts)), (a_t_ringing_firstOfRank, .inl (Y.1, 5040, .inl f_t_ringing_firstOfRank))]) (wr := [(a_t_history, .inr (0, [.ref a_t_history_states, .int v_t_history_size])), (a_t_pad, .inr (3, [.ref a_t_pad_signs, .int v_t_pad_length]))]) (wn := [(a_t, .inr (7, [.ref a_t_now, .ref a_t_trial, .ref a_t_snapshot, .int v_t_hasSnapshot, .ref a_t_history, .ref a_t_pad, .ref a_t_reader, .ref a_t_ringing, .ref a_t_homeward])), (a_t_now, .inr (6, [.int v_t_now_bells, .int v_t_now_changes, .int v_t_now_bob, .int v_t_now_single, .int v_t_now_leads, .ref a_t_now_places, .ref a_t_now_kinds])), (a_t_now_places, .inl (Y.1, 20, .inl f_t_now_places)), (a_t_now_kinds, .inl (Y.1, 17, .inl f_t_now_kinds)), (a_t_history, .inr (0, [.ref a_t_history_states, .int v_t_history_size])), (a_t_pad, .inr (3, [.ref a_t_pad_signs, .int v_t_pad_length])), (a_t_ringing, .inr (4, [.ref a_t_ringing_rows, .ref a_t_ringing_firsts, .ref a_t_ringing_firstOfRank, .int q18.2.1, .int q18.2.2.1, .int q18.2.2.2.1, .int q18.2.2.2.2.1])), (a_t_ringing_rows, .inl (Y.1, 341, .inl q18.2.2.2.2.2.1)), (a_t_ringing_firsts, .inl (Y.1, 341, .inl q18.2.2.2.2.2.2.1)), (a_t_ringing_firstOfRank, .inl (Y.1, 5040, .inl q18.2.2.2.2.2.2.2))]) (run_V (As := [.int s1]) (rest := []) E (c_X10_countRows l D Y a_t a_t_now a_t_trial a_t_snapshot a_t_history a_t_pad a_t_reader a_t_ringing a_t_homeward a_t_now_places a_t_now_kinds a_t_ringing_rows a_t_ringing_firsts a_t_ringing_firstOfRank v_t_hasSnapshot v_t_now_bells v_t_now_changes v_t_now_bob v_t_now_single v_t_now_leads f_t_now_places f_t_now_kinds v_t_ringing_bells v_t_ringing_changes v_t_ringing_leads v_t_ringing_last f_t_ringing_rows f_t_ringing_firsts f_t_ringing_firstOfRank s1 s.heap.size q18 h19) qw535 qw537 qw13 qw19 qw538 rfl rfl hd_X10_countRows ⟨Nat.le_of_ble_eq_true rfl, Nat.le_of_ble_eq_true rfl⟩ (pre_rwV hP hD hE [0, 1, 2, 3, 6, 7, 8, 9] rfl (by decide) rfl (ci := 7) (q0 := 0) rfl rfl) rfl hl.1 rfl (Nat.le_of_ble_eq_true rfl) dX10_count_172 ⟨Nat.zero_le _, Nat.zero_le _⟩) hP hD hS hA [0, 1, 2, 3, 6, 7, 8, 9] [4, 5] [2, 3, 4, 5, 0, 1, 6, 7, 8, 9] rfl rfl (by decide) (by decide) rfl rfl (by decide) (fun H locs  hP hD hS => ?_)
    refine lv_goto (tgt := 179) hx hb dX10_count_175 (by decide) ?_
    obtain rfl := Option.some.inj hf
    subst hQ
    exact en_i hx hb hr hlocks hP hD hS rfl dX10_count_179
  have hf := ite_f c15 hf
  by_cases c20 : s1 = 7
  · have hf := ite_t c20 hf
    refine lv_tableIn (tgt := 160) (off := 159) hx hb dX10_count_1 (by rw [c20]; decide) (by rw [c20]; decide) (by rw [c20]; rfl) (by decide) ?_
    refine lv_iload_n hx hb dX10_count_160 rfl (lv_at hl 1 rfl) ?_
    refine lv_iconst (v := 4) hx hb dX10_count_161 (by decide) ?_
    refine lv_bipush (v := 9) hx hb dX10_count_162 (by decide) ?_
    refine af_oz (run_S (As := [.int s1, .int 4, .int 9]) (rest := []) E (c_X10_isWithin l D Y s1 4 9 (f_X10_isWithin s1 4 9) rfl) qw384 qw385 qw19 qw386 rfl rfl hd_X10_isWithin ⟨Nat.le_of_ble_eq_true rfl, Nat.le_of_ble_eq_true rfl⟩ (pre_roS hP hE [] rfl) rfl hl.1 rfl (Nat.le_of_ble_eq_true rfl) dX10_count_164 ⟨Nat.zero_le _, Nat.zero_le _⟩) (fun z21 => ?_)
    refine lv_if_eq (tgt := 178) hx hb dX10_count_167 (by decide) (fun c22 => ?_) (fun c22 => ?_)
    · have hf := ite_t c22 hf
      refine lv_iconst (v := (-1)) hx hb dX10_count_178 (by decide) ?_
      obtain rfl := Option.some.inj hf
      subst hQ
      exact en_i hx hb hr hlocks hP hD hS rfl dX10_count_179
    have hf := ite_f c22 hf
    refine lv_aload_n hx hb dX10_count_170 rfl (lv_at hl 0 rfl) ?_
    refine lv_iload_n hx hb dX10_count_171 rfl (lv_at hl 1 rfl) ?_
    obtain ⟨q23, h24, hf⟩ := bd_s hf
    refine af_i0 (wc := [(a_t, .inr (7, [.ref a_t_now, .ref a_t_trial, .ref a_t_snapshot, .int v_t_hasSnapshot, .ref a_t_history, .ref a_t_pad, .ref a_t_reader, .ref a_t_ringing, .ref a_t_homeward])), (a_t_now, .inr (6, [.int v_t_now_bells, .int v_t_now_changes, .int v_t_now_bob, .int v_t_now_single, .int v_t_now_leads, .ref a_t_now_places, .ref a_t_now_kinds])), (a_t_now_places, .inl (Y.1, 20, .inl f_t_now_places)), (a_t_now_kinds, .inl (Y.1, 17, .inl f_t_now_kinds)), (a_t_ringing, .inr (4, [.ref a_t_ringing_rows, .ref a_t_ringing_firsts, .ref a_t_ringing_firstOfRank, .int v_t_ringing_bells, .int v_t_ringing_changes, .int v_t_ringing_leads, .int v_t_ringing_last])), (a_t_ringing_rows, .inl (Y.1, 341, .inl f_t_ringing_rows)), (a_t_ringing_firsts, .inl (Y.1, 341, .inl f_t_ringing_firsts)), (a_t_ringing_firstOfRank, .inl (Y.1, 5040, .inl f_t_ringing_firstOfRank))]) (wr := [(a_t_history, .inr (0, [.ref a_t_history_states, .int v_t_history_size])), (a_t_pad, .inr (3, [.ref a_t_pad_signs, .int v_t_pad_length]))]) (wn := [(a_t, .inr (7, [.ref a_t_now, .ref a_t_trial, .ref a_t_snapshot, .int v_t_hasSnapshot, .ref a_t_history, .ref a_t_pad, .ref a_t_reader, .ref a_t_ringing, .ref a_t_homeward])), (a_t_now, .inr (6, [.int v_t_now_bells, .int v_t_now_changes, .int v_t_now_bob, .int v_t_now_single, .int v_t_now_leads, .ref a_t_now_places, .ref a_t_now_kinds])), (a_t_now_places, .inl (Y.1, 20, .inl f_t_now_places)), (a_t_now_kinds, .inl (Y.1, 17, .inl f_t_now_kinds)), (a_t_history, .inr (0, [.ref a_t_history_states, .int v_t_history_size])), (a_t_pad, .inr (3, [.ref a_t_pad_signs, .int v_t_pad_length])), (a_t_ringing, .inr (4, [.ref a_t_ringing_rows, .ref a_t_ringing_firsts, .ref a_t_ringing_firstOfRank, .int q23.2.1, .int q23.2.2.1, .int q23.2.2.2.1, .int q23.2.2.2.2.1])), (a_t_ringing_rows, .inl (Y.1, 341, .inl q23.2.2.2.2.2.1)), (a_t_ringing_firsts, .inl (Y.1, 341, .inl q23.2.2.2.2.2.2.1)), (a_t_ringing_firstOfRank, .inl (Y.1, 5040, .inl q23.2.2.2.2.2.2.2))]) (run_V (As := [.int s1]) (rest := []) E (c_X10_countRows l D Y a_t a_t_now a_t_trial a_t_snapshot a_t_history a_t_pad a_t_reader a_t_ringing a_t_homeward a_t_now_places a_t_now_kinds a_t_ringing_rows a_t_ringing_firsts a_t_ringing_firstOfRank v_t_hasSnapshot v_t_now_bells v_t_now_changes v_t_now_bob v_t_now_single v_t_now_leads f_t_now_places f_t_now_kinds v_t_ringing_bells v_t_ringing_changes v_t_ringing_leads v_t_ringing_last f_t_ringing_rows f_t_ringing_firsts f_t_ringing_firstOfRank s1 s.heap.size q23 h24) qw535 qw537 qw13 qw19 qw538 rfl rfl hd_X10_countRows ⟨Nat.le_of_ble_eq_true rfl, Nat.le_of_ble_eq_true rfl⟩ (pre_rwV hP hD hE [0, 1, 2, 3, 6, 7, 8, 9] rfl (by decide) rfl (ci := 7) (q0 := 0) rfl rfl) rfl hl.1 rfl (Nat.le_of_ble_eq_true rfl) dX10_count_172 ⟨Nat.zero_le _, Nat.zero_le _⟩) hP hD hS hA [0, 1, 2, 3, 6, 7, 8, 9] [4, 5] [2, 3, 4, 5, 0, 1, 6, 7, 8, 9] rfl rfl (by decide) (by decide) rfl rfl (by decide) (fun H locs  hP hD hS => ?_)
    refine lv_goto (tgt := 179) hx hb dX10_count_175 (by decide) ?_
    obtain rfl := Option.some.inj hf
    subst hQ
    exact en_i hx hb hr hlocks hP hD hS rfl dX10_count_179
  have hf := ite_f c20 hf
  by_cases c25 : s1 = 8
  · have hf := ite_t c25 hf
    refine lv_tableIn (tgt := 160) (off := 159) hx hb dX10_count_1 (by rw [c25]; decide) (by rw [c25]; decide) (by rw [c25]; rfl) (by decide) ?_
    refine lv_iload_n hx hb dX10_count_160 rfl (lv_at hl 1 rfl) ?_
    refine lv_iconst (v := 4) hx hb dX10_count_161 (by decide) ?_
    refine lv_bipush (v := 9) hx hb dX10_count_162 (by decide) ?_
    refine af_oz (run_S (As := [.int s1, .int 4, .int 9]) (rest := []) E (c_X10_isWithin l D Y s1 4 9 (f_X10_isWithin s1 4 9) rfl) qw384 qw385 qw19 qw386 rfl rfl hd_X10_isWithin ⟨Nat.le_of_ble_eq_true rfl, Nat.le_of_ble_eq_true rfl⟩ (pre_roS hP hE [] rfl) rfl hl.1 rfl (Nat.le_of_ble_eq_true rfl) dX10_count_164 ⟨Nat.zero_le _, Nat.zero_le _⟩) (fun z26 => ?_)
    refine lv_if_eq (tgt := 178) hx hb dX10_count_167 (by decide) (fun c27 => ?_) (fun c27 => ?_)
    · have hf := ite_t c27 hf
      refine lv_iconst (v := (-1)) hx hb dX10_count_178 (by decide) ?_
      obtain rfl := Option.some.inj hf
      subst hQ
      exact en_i hx hb hr hlocks hP hD hS rfl dX10_count_179
    have hf := ite_f c27 hf
    refine lv_aload_n hx hb dX10_count_170 rfl (lv_at hl 0 rfl) ?_
    refine lv_iload_n hx hb dX10_count_171 rfl (lv_at hl 1 rfl) ?_
    obtain ⟨q28, h29, hf⟩ := bd_s hf
    refine af_i0 (wc := [(a_t, .inr (7, [.ref a_t_now, .ref a_t_trial, .ref a_t_snapshot, .int v_t_hasSnapshot, .ref a_t_history, .ref a_t_pad, .ref a_t_reader, .ref a_t_ringing, .ref a_t_homeward])), (a_t_now, .inr (6, [.int v_t_now_bells, .int v_t_now_changes, .int v_t_now_bob, .int v_t_now_single, .int v_t_now_leads, .ref a_t_now_places, .ref a_t_now_kinds])), (a_t_now_places, .inl (Y.1, 20, .inl f_t_now_places)), (a_t_now_kinds, .inl (Y.1, 17, .inl f_t_now_kinds)), (a_t_ringing, .inr (4, [.ref a_t_ringing_rows, .ref a_t_ringing_firsts, .ref a_t_ringing_firstOfRank, .int v_t_ringing_bells, .int v_t_ringing_changes, .int v_t_ringing_leads, .int v_t_ringing_last])), (a_t_ringing_rows, .inl (Y.1, 341, .inl f_t_ringing_rows)), (a_t_ringing_firsts, .inl (Y.1, 341, .inl f_t_ringing_firsts)), (a_t_ringing_firstOfRank, .inl (Y.1, 5040, .inl f_t_ringing_firstOfRank))]) (wr := [(a_t_history, .inr (0, [.ref a_t_history_states, .int v_t_history_size])), (a_t_pad, .inr (3, [.ref a_t_pad_signs, .int v_t_pad_length]))]) (wn := [(a_t, .inr (7, [.ref a_t_now, .ref a_t_trial, .ref a_t_snapshot, .int v_t_hasSnapshot, .ref a_t_history, .ref a_t_pad, .ref a_t_reader, .ref a_t_ringing, .ref a_t_homeward])), (a_t_now, .inr (6, [.int v_t_now_bells, .int v_t_now_changes, .int v_t_now_bob, .int v_t_now_single, .int v_t_now_leads, .ref a_t_now_places, .ref a_t_now_kinds])), (a_t_now_places, .inl (Y.1, 20, .inl f_t_now_places)), (a_t_now_kinds, .inl (Y.1, 17, .inl f_t_now_kinds)), (a_t_history, .inr (0, [.ref a_t_history_states, .int v_t_history_size])), (a_t_pad, .inr (3, [.ref a_t_pad_signs, .int v_t_pad_length])), (a_t_ringing, .inr (4, [.ref a_t_ringing_rows, .ref a_t_ringing_firsts, .ref a_t_ringing_firstOfRank, .int q28.2.1, .int q28.2.2.1, .int q28.2.2.2.1, .int q28.2.2.2.2.1])), (a_t_ringing_rows, .inl (Y.1, 341, .inl q28.2.2.2.2.2.1)), (a_t_ringing_firsts, .inl (Y.1, 341, .inl q28.2.2.2.2.2.2.1)), (a_t_ringing_firstOfRank, .inl (Y.1, 5040, .inl q28.2.2.2.2.2.2.2))]) (run_V (As := [.int s1]) (rest := []) E (c_X10_countRows l D Y a_t a_t_now a_t_trial a_t_snapshot a_t_history a_t_pad a_t_reader a_t_ringing a_t_homeward a_t_now_places a_t_now_kinds a_t_ringing_rows a_t_ringing_firsts a_t_ringing_firstOfRank v_t_hasSnapshot v_t_now_bells v_t_now_changes v_t_now_bob v_t_now_single v_t_now_leads f_t_now_places f_t_now_kinds v_t_ringing_bells v_t_ringing_changes v_t_ringing_leads v_t_ringing_last f_t_ringing_rows f_t_ringing_firsts f_t_ringing_firstOfRank s1 s.heap.size q28 h29) qw535 qw537 qw13 qw19 qw538 rfl rfl hd_X10_countRows ⟨Nat.le_of_ble_eq_true rfl, Nat.le_of_ble_eq_true rfl⟩ (pre_rwV hP hD hE [0, 1, 2, 3, 6, 7, 8, 9] rfl (by decide) rfl (ci := 7) (q0 := 0) rfl rfl) rfl hl.1 rfl (Nat.le_of_ble_eq_true rfl) dX10_count_172 ⟨Nat.zero_le _, Nat.zero_le _⟩) hP hD hS hA [0, 1, 2, 3, 6, 7, 8, 9] [4, 5] [2, 3, 4, 5, 0, 1, 6, 7, 8, 9] rfl rfl (by decide) (by decide) rfl rfl (by decide) (fun H locs  hP hD hS => ?_)
    refine lv_goto (tgt := 179) hx hb dX10_count_175 (by decide) ?_
    obtain rfl := Option.some.inj hf
    subst hQ
    exact en_i hx hb hr hlocks hP hD hS rfl dX10_count_179
  have hf := ite_f c25 hf
  by_cases c30 : s1 = 9
  · have hf := ite_t c30 hf
    refine lv_tableIn (tgt := 160) (off := 159) hx hb dX10_count_1 (by rw [c30]; decide) (by rw [c30]; decide) (by rw [c30]; rfl) (by decide) ?_
    refine lv_iload_n hx hb dX10_count_160 rfl (lv_at hl 1 rfl) ?_
    refine lv_iconst (v := 4) hx hb dX10_count_161 (by decide) ?_
    refine lv_bipush (v := 9) hx hb dX10_count_162 (by decide) ?_
    refine af_oz (run_S (As := [.int s1, .int 4, .int 9]) (rest := []) E (c_X10_isWithin l D Y s1 4 9 (f_X10_isWithin s1 4 9) rfl) qw384 qw385 qw19 qw386 rfl rfl hd_X10_isWithin ⟨Nat.le_of_ble_eq_true rfl, Nat.le_of_ble_eq_true rfl⟩ (pre_roS hP hE [] rfl) rfl hl.1 rfl (Nat.le_of_ble_eq_true rfl) dX10_count_164 ⟨Nat.zero_le _, Nat.zero_le _⟩) (fun z31 => ?_)
    refine lv_if_eq (tgt := 178) hx hb dX10_count_167 (by decide) (fun c32 => ?_) (fun c32 => ?_)
    · have hf := ite_t c32 hf
      refine lv_iconst (v := (-1)) hx hb dX10_count_178 (by decide) ?_
      obtain rfl := Option.some.inj hf
      subst hQ
      exact en_i hx hb hr hlocks hP hD hS rfl dX10_count_179
    have hf := ite_f c32 hf
    refine lv_aload_n hx hb dX10_count_170 rfl (lv_at hl 0 rfl) ?_
    refine lv_iload_n hx hb dX10_count_171 rfl (lv_at hl 1 rfl) ?_
    obtain ⟨q33, h34, hf⟩ := bd_s hf
    refine af_i0 (wc := [(a_t, .inr (7, [.ref a_t_now, .ref a_t_trial, .ref a_t_snapshot, .int v_t_hasSnapshot, .ref a_t_history, .ref a_t_pad, .ref a_t_reader, .ref a_t_ringing, .ref a_t_homeward])), (a_t_now, .inr (6, [.int v_t_now_bells, .int v_t_now_changes, .int v_t_now_bob, .int v_t_now_single, .int v_t_now_leads, .ref a_t_now_places, .ref a_t_now_kinds])), (a_t_now_places, .inl (Y.1, 20, .inl f_t_now_places)), (a_t_now_kinds, .inl (Y.1, 17, .inl f_t_now_kinds)), (a_t_ringing, .inr (4, [.ref a_t_ringing_rows, .ref a_t_ringing_firsts, .ref a_t_ringing_firstOfRank, .int v_t_ringing_bells, .int v_t_ringing_changes, .int v_t_ringing_leads, .int v_t_ringing_last])), (a_t_ringing_rows, .inl (Y.1, 341, .inl f_t_ringing_rows)), (a_t_ringing_firsts, .inl (Y.1, 341, .inl f_t_ringing_firsts)), (a_t_ringing_firstOfRank, .inl (Y.1, 5040, .inl f_t_ringing_firstOfRank))]) (wr := [(a_t_history, .inr (0, [.ref a_t_history_states, .int v_t_history_size])), (a_t_pad, .inr (3, [.ref a_t_pad_signs, .int v_t_pad_length]))]) (wn := [(a_t, .inr (7, [.ref a_t_now, .ref a_t_trial, .ref a_t_snapshot, .int v_t_hasSnapshot, .ref a_t_history, .ref a_t_pad, .ref a_t_reader, .ref a_t_ringing, .ref a_t_homeward])), (a_t_now, .inr (6, [.int v_t_now_bells, .int v_t_now_changes, .int v_t_now_bob, .int v_t_now_single, .int v_t_now_leads, .ref a_t_now_places, .ref a_t_now_kinds])), (a_t_now_places, .inl (Y.1, 20, .inl f_t_now_places)), (a_t_now_kinds, .inl (Y.1, 17, .inl f_t_now_kinds)), (a_t_history, .inr (0, [.ref a_t_history_states, .int v_t_history_size])), (a_t_pad, .inr (3, [.ref a_t_pad_signs, .int v_t_pad_length])), (a_t_ringing, .inr (4, [.ref a_t_ringing_rows, .ref a_t_ringing_firsts, .ref a_t_ringing_firstOfRank, .int q33.2.1, .int q33.2.2.1, .int q33.2.2.2.1, .int q33.2.2.2.2.1])), (a_t_ringing_rows, .inl (Y.1, 341, .inl q33.2.2.2.2.2.1)), (a_t_ringing_firsts, .inl (Y.1, 341, .inl q33.2.2.2.2.2.2.1)), (a_t_ringing_firstOfRank, .inl (Y.1, 5040, .inl q33.2.2.2.2.2.2.2))]) (run_V (As := [.int s1]) (rest := []) E (c_X10_countRows l D Y a_t a_t_now a_t_trial a_t_snapshot a_t_history a_t_pad a_t_reader a_t_ringing a_t_homeward a_t_now_places a_t_now_kinds a_t_ringing_rows a_t_ringing_firsts a_t_ringing_firstOfRank v_t_hasSnapshot v_t_now_bells v_t_now_changes v_t_now_bob v_t_now_single v_t_now_leads f_t_now_places f_t_now_kinds v_t_ringing_bells v_t_ringing_changes v_t_ringing_leads v_t_ringing_last f_t_ringing_rows f_t_ringing_firsts f_t_ringing_firstOfRank s1 s.heap.size q33 h34) qw535 qw537 qw13 qw19 qw538 rfl rfl hd_X10_countRows ⟨Nat.le_of_ble_eq_true rfl, Nat.le_of_ble_eq_true rfl⟩ (pre_rwV hP hD hE [0, 1, 2, 3, 6, 7, 8, 9] rfl (by decide) rfl (ci := 7) (q0 := 0) rfl rfl) rfl hl.1 rfl (Nat.le_of_ble_eq_true rfl) dX10_count_172 ⟨Nat.zero_le _, Nat.zero_le _⟩) hP hD hS hA [0, 1, 2, 3, 6, 7, 8, 9] [4, 5] [2, 3, 4, 5, 0, 1, 6, 7, 8, 9] rfl rfl (by decide) (by decide) rfl rfl (by decide) (fun H locs  hP hD hS => ?_)
    refine lv_goto (tgt := 179) hx hb dX10_count_175 (by decide) ?_
    obtain rfl := Option.some.inj hf
    subst hQ
    exact en_i hx hb hr hlocks hP hD hS rfl dX10_count_179
  have hf := ite_f c30 hf
  by_cases c35 : s1 = 10
  · have hf := ite_t c35 hf
    refine lv_tableIn (tgt := 112) (off := 111) hx hb dX10_count_1 (by rw [c35]; decide) (by rw [c35]; decide) (by rw [c35]; rfl) (by decide) ?_
    refine lv_aload_n hx hb dX10_count_112 rfl (lv_at hl 0 rfl) ?_
    refine va_get (D := D) (ci := 7) (v := .ref a_t_now) (C := RX10) (T := TX10) (N := 9) hx hb hts inX10 hown hE.1 hP 0 rfl rfl 0 (by decide) (hts _ qw322) (fun _ h9 => h9) rfl dX10_count_113 ?_
    obtain ⟨q36, h37, hf⟩ := bd_s hf
    refine af_oi (run_V (As := []) (rest := []) E (c_X9_calledLeads l D Y a_t_now a_t_now_places a_t_now_kinds v_t_now_bells v_t_now_changes v_t_now_bob v_t_now_single v_t_now_leads f_t_now_kinds q36 h37) qw524 qw525 qw526 qw20 qw527 rfl rfl hd_X9_calledLeads ⟨Nat.le_of_ble_eq_true rfl, Nat.le_of_ble_eq_true rfl⟩ (pre_roV hP hE [1, 3] rfl (ci := 6) (q0 := 1) rfl rfl) rfl hl.1 rfl (Nat.le_of_ble_eq_true rfl) dX10_count_116 ⟨Nat.zero_le _, Nat.zero_le _⟩) ?_
    obtain rfl := Option.some.inj hf
    subst hQ
    exact en_i hx hb hr hlocks hP hD hS rfl dX10_count_119
  have hf := ite_f c35 hf
  by_cases c38 : s1 = 11
  · have hf := ite_t c38 hf
    refine lv_tableIn (tgt := 120) (off := 119) hx hb dX10_count_1 (by rw [c38]; decide) (by rw [c38]; decide) (by rw [c38]; rfl) (by decide) ?_
    refine lv_aload_n hx hb dX10_count_120 rfl (lv_at hl 0 rfl) ?_
    refine va_get (D := D) (ci := 7) (v := .ref a_t_now) (C := RX10) (T := TX10) (N := 9) hx hb hts inX10 hown hE.1 hP 0 rfl rfl 0 (by decide) (hts _ qw322) (fun _ h9 => h9) rfl dX10_count_121 ?_
    obtain ⟨q39, h40, hf⟩ := bd_s hf
    refine af_oi (run_V (As := []) (rest := []) E (c_X9_plainCourse l D Y a_t_now a_t_now_places a_t_now_kinds v_t_now_bells v_t_now_changes v_t_now_bob v_t_now_single v_t_now_leads f_t_now_places q39 h40) qw529 qw530 qw531 qw20 qw532 rfl rfl hd_X9_plainCourse ⟨Nat.le_of_ble_eq_true rfl, Nat.le_of_ble_eq_true rfl⟩ (pre_roV hP hE [1, 2] rfl (ci := 6) (q0 := 1) rfl rfl) rfl hl.1 rfl (Nat.le_of_ble_eq_true rfl) dX10_count_124 ⟨Nat.zero_le _, Nat.zero_le _⟩) ?_
    obtain rfl := Option.some.inj hf
    subst hQ
    exact en_i hx hb hr hlocks hP hD hS rfl dX10_count_127
  have hf := ite_f c38 hf
  by_cases c41 : s1 = 12
  · have hf := ite_t c41 hf
    refine lv_tableIn (tgt := 128) (off := 127) hx hb dX10_count_1 (by rw [c41]; decide) (by rw [c41]; decide) (by rw [c41]; rfl) (by decide) ?_
    refine lv_aload_n hx hb dX10_count_128 rfl (lv_at hl 0 rfl) ?_
    refine va_get (D := D) (ci := 7) (v := .ref a_t_now) (C := RX10) (T := TX10) (N := 9) hx hb hts inX10 hown hE.1 hP 0 rfl rfl 0 (by decide) (hts _ qw322) (fun _ h9 => h9) rfl dX10_count_129 ?_
    refine va_getN (D := D) (ci := 6) (v := .int v_t_now_bob) (C := RX9) (T := TX9) (N := 7) hx hb hts inX9 hown hE.1 hP 1 rfl rfl 2 (by decide) (va_Nw.use rfl (hE.2.1 _ qw59)) (fun _ h9 => h9) rfl dX10_count_132 ?_
    obtain rfl := Option.some.inj hf
    subst hQ
    exact en_i hx hb hr hlocks hP hD hS rfl dX10_count_135
  have hf := ite_f c41 hf
  by_cases c42 : s1 = 13
  · have hf := ite_t c42 hf
    refine lv_tableIn (tgt := 136) (off := 135) hx hb dX10_count_1 (by rw [c42]; decide) (by rw [c42]; decide) (by rw [c42]; rfl) (by decide) ?_
    refine lv_aload_n hx hb dX10_count_136 rfl (lv_at hl 0 rfl) ?_
    refine va_get (D := D) (ci := 7) (v := .ref a_t_now) (C := RX10) (T := TX10) (N := 9) hx hb hts inX10 hown hE.1 hP 0 rfl rfl 0 (by decide) (hts _ qw322) (fun _ h9 => h9) rfl dX10_count_137 ?_
    refine va_getN (D := D) (ci := 6) (v := .int v_t_now_single) (C := RX9) (T := TX9) (N := 7) hx hb hts inX9 hown hE.1 hP 1 rfl rfl 3 (by decide) (va_Nw.use rfl (hE.2.1 _ qw61)) (fun _ h9 => h9) rfl dX10_count_140 ?_
    obtain rfl := Option.some.inj hf
    subst hQ
    exact en_i hx hb hr hlocks hP hD hS rfl dX10_count_143
  have hf := ite_f c42 hf
  by_cases c43 : s1 = 14
  · have hf := ite_t c43 hf
    refine lv_tableIn (tgt := 144) (off := 143) hx hb dX10_count_1 (by rw [c43]; decide) (by rw [c43]; decide) (by rw [c43]; rfl) (by decide) ?_
    refine lv_aload_n hx hb dX10_count_144 rfl (lv_at hl 0 rfl) ?_
    refine va_get (D := D) (ci := 7) (v := .ref a_t_pad) (C := RX10) (T := TX10) (N := 9) hx hb hts inX10 hown hE.1 hP 0 rfl rfl 5 (by decide) (hts _ qw326) (fun _ h9 => h9) rfl dX10_count_145 ?_
    refine va_getN (D := D) (ci := 3) (v := .int v_t_pad_length) (C := RX3) (T := TX3) (N := 2) hx hb hts inX3 hown hE.1 hP 5 rfl rfl 1 (by decide) (va_Nw.use rfl (hE.2.1 _ qw109)) (fun _ h9 => h9) rfl dX10_count_148 ?_
    obtain rfl := Option.some.inj hf
    subst hQ
    exact en_i hx hb hr hlocks hP hD hS rfl dX10_count_151
  have hf := ite_f c43 hf
  by_cases c44 : s1 = 15
  · have hf := ite_t c44 hf
    refine lv_tableIn (tgt := 152) (off := 151) hx hb dX10_count_1 (by rw [c44]; decide) (by rw [c44]; decide) (by rw [c44]; rfl) (by decide) ?_
    refine lv_aload_n hx hb dX10_count_152 rfl (lv_at hl 0 rfl) ?_
    refine va_get (D := D) (ci := 7) (v := .ref a_t_history) (C := RX10) (T := TX10) (N := 9) hx hb hts inX10 hown hE.1 hP 0 rfl rfl 4 (by decide) (hts _ qw325) (fun _ h9 => h9) rfl dX10_count_153 ?_
    refine va_getN (D := D) (ci := 0) (v := .int v_t_history_size) (C := RX0) (T := TX0) (N := 2) hx hb hts inX0 hown hE.1 hP 4 rfl rfl 1 (by decide) (va_Nw.use rfl (hE.2.1 _ qw94)) (fun _ h9 => h9) rfl dX10_count_156 ?_
    obtain rfl := Option.some.inj hf
    subst hQ
    exact en_i hx hb hr hlocks hP hD hS rfl dX10_count_159
  have hf := ite_f c44 hf
  have nc1 := sw_ne (k := 0) (z := 0) rfl c1
  have nc2 := sw_ne (k := 1) (z := 1) rfl c2
  have nc3 := sw_ne (k := 2) (z := 2) rfl c3
  have nc4 := sw_ne (k := 3) (z := 3) rfl c4
  have nc5 := sw_ne (k := 4) (z := 4) rfl c5
  have nc10 := sw_ne (k := 5) (z := 5) rfl c10
  have nc15 := sw_ne (k := 6) (z := 6) rfl c15
  have nc20 := sw_ne (k := 7) (z := 7) rfl c20
  have nc25 := sw_ne (k := 8) (z := 8) rfl c25
  have nc30 := sw_ne (k := 9) (z := 9) rfl c30
  have nc35 := sw_ne (k := 10) (z := 10) rfl c35
  have nc38 := sw_ne (k := 11) (z := 11) rfl c38
  have nc41 := sw_ne (k := 12) (z := 12) rfl c41
  have nc42 := sw_ne (k := 13) (z := 13) rfl c42
  have nc43 := sw_ne (k := 14) (z := 14) rfl c43
  have nc44 := sw_ne (k := 15) (z := 15) rfl c44
  refine lv_tableOut (tgt := 160) hx hb dX10_count_1 (by omega) (by decide) ?_
  refine lv_iload_n hx hb dX10_count_160 rfl (lv_at hl 1 rfl) ?_
  refine lv_iconst (v := 4) hx hb dX10_count_161 (by decide) ?_
  refine lv_bipush (v := 9) hx hb dX10_count_162 (by decide) ?_
  refine af_oz (run_S (As := [.int s1, .int 4, .int 9]) (rest := []) E (c_X10_isWithin l D Y s1 4 9 (f_X10_isWithin s1 4 9) rfl) qw384 qw385 qw19 qw386 rfl rfl hd_X10_isWithin ⟨Nat.le_of_ble_eq_true rfl, Nat.le_of_ble_eq_true rfl⟩ (pre_roS hP hE [] rfl) rfl hl.1 rfl (Nat.le_of_ble_eq_true rfl) dX10_count_164 ⟨Nat.zero_le _, Nat.zero_le _⟩) (fun z45 => ?_)
  refine lv_if_eq (tgt := 178) hx hb dX10_count_167 (by decide) (fun c46 => ?_) (fun c46 => ?_)
  · have hf := ite_t c46 hf
    refine lv_iconst (v := (-1)) hx hb dX10_count_178 (by decide) ?_
    obtain rfl := Option.some.inj hf
    subst hQ
    exact en_i hx hb hr hlocks hP hD hS rfl dX10_count_179
  have hf := ite_f c46 hf
  refine lv_aload_n hx hb dX10_count_170 rfl (lv_at hl 0 rfl) ?_
  refine lv_iload_n hx hb dX10_count_171 rfl (lv_at hl 1 rfl) ?_
  obtain ⟨q47, h48, hf⟩ := bd_s hf
  refine af_i0 (wc := [(a_t, .inr (7, [.ref a_t_now, .ref a_t_trial, .ref a_t_snapshot, .int v_t_hasSnapshot, .ref a_t_history, .ref a_t_pad, .ref a_t_reader, .ref a_t_ringing, .ref a_t_homeward])), (a_t_now, .inr (6, [.int v_t_now_bells, .int v_t_now_changes, .int v_t_now_bob, .int v_t_now_single, .int v_t_now_leads, .ref a_t_now_places, .ref a_t_now_kinds])), (a_t_now_places, .inl (Y.1, 20, .inl f_t_now_places)), (a_t_now_kinds, .inl (Y.1, 17, .inl f_t_now_kinds)), (a_t_ringing, .inr (4, [.ref a_t_ringing_rows, .ref a_t_ringing_firsts, .ref a_t_ringing_firstOfRank, .int v_t_ringing_bells, .int v_t_ringing_changes, .int v_t_ringing_leads, .int v_t_ringing_last])), (a_t_ringing_rows, .inl (Y.1, 341, .inl f_t_ringing_rows)), (a_t_ringing_firsts, .inl (Y.1, 341, .inl f_t_ringing_firsts)), (a_t_ringing_firstOfRank, .inl (Y.1, 5040, .inl f_t_ringing_firstOfRank))]) (wr := [(a_t_history, .inr (0, [.ref a_t_history_states, .int v_t_history_size])), (a_t_pad, .inr (3, [.ref a_t_pad_signs, .int v_t_pad_length]))]) (wn := [(a_t, .inr (7, [.ref a_t_now, .ref a_t_trial, .ref a_t_snapshot, .int v_t_hasSnapshot, .ref a_t_history, .ref a_t_pad, .ref a_t_reader, .ref a_t_ringing, .ref a_t_homeward])), (a_t_now, .inr (6, [.int v_t_now_bells, .int v_t_now_changes, .int v_t_now_bob, .int v_t_now_single, .int v_t_now_leads, .ref a_t_now_places, .ref a_t_now_kinds])), (a_t_now_places, .inl (Y.1, 20, .inl f_t_now_places)), (a_t_now_kinds, .inl (Y.1, 17, .inl f_t_now_kinds)), (a_t_history, .inr (0, [.ref a_t_history_states, .int v_t_history_size])), (a_t_pad, .inr (3, [.ref a_t_pad_signs, .int v_t_pad_length])), (a_t_ringing, .inr (4, [.ref a_t_ringing_rows, .ref a_t_ringing_firsts, .ref a_t_ringing_firstOfRank, .int q47.2.1, .int q47.2.2.1, .int q47.2.2.2.1, .int q47.2.2.2.2.1])), (a_t_ringing_rows, .inl (Y.1, 341, .inl q47.2.2.2.2.2.1)), (a_t_ringing_firsts, .inl (Y.1, 341, .inl q47.2.2.2.2.2.2.1)), (a_t_ringing_firstOfRank, .inl (Y.1, 5040, .inl q47.2.2.2.2.2.2.2))]) (run_V (As := [.int s1]) (rest := []) E (c_X10_countRows l D Y a_t a_t_now a_t_trial a_t_snapshot a_t_history a_t_pad a_t_reader a_t_ringing a_t_homeward a_t_now_places a_t_now_kinds a_t_ringing_rows a_t_ringing_firsts a_t_ringing_firstOfRank v_t_hasSnapshot v_t_now_bells v_t_now_changes v_t_now_bob v_t_now_single v_t_now_leads f_t_now_places f_t_now_kinds v_t_ringing_bells v_t_ringing_changes v_t_ringing_leads v_t_ringing_last f_t_ringing_rows f_t_ringing_firsts f_t_ringing_firstOfRank s1 s.heap.size q47 h48) qw535 qw537 qw13 qw19 qw538 rfl rfl hd_X10_countRows ⟨Nat.le_of_ble_eq_true rfl, Nat.le_of_ble_eq_true rfl⟩ (pre_rwV hP hD hE [0, 1, 2, 3, 6, 7, 8, 9] rfl (by decide) rfl (ci := 7) (q0 := 0) rfl rfl) rfl hl.1 rfl (Nat.le_of_ble_eq_true rfl) dX10_count_172 ⟨Nat.zero_le _, Nat.zero_le _⟩) hP hD hS hA [0, 1, 2, 3, 6, 7, 8, 9] [4, 5] [2, 3, 4, 5, 0, 1, 6, 7, 8, 9] rfl rfl (by decide) (by decide) rfl rfl (by decide) (fun H locs  hP hD hS => ?_)
  refine lv_goto (tgt := 179) hx hb dX10_count_175 (by decide) ?_
  obtain rfl := Option.some.inj hf
  subst hQ
  exact en_i hx hb hr hlocks hP hD hS rfl dX10_count_179

def f_X10_music (v_t_now_bells : Int32) (v_t_now_changes : Int32) (v_t_now_bob : Int32) (v_t_now_single : Int32) (v_t_now_leads : Int32) (f_t_now_places : Nat → Int32) (f_t_now_kinds : Nat → Int32) (v_t_ringing_bells : Int32) (v_t_ringing_changes : Int32) (v_t_ringing_leads : Int32) (v_t_ringing_last : Int32) (f_t_ringing_rows : Nat → Int32) (f_t_ringing_firsts : Nat → Int32) (f_t_ringing_firstOfRank : Nat → Int32) : Option (UInt64 × Int32 × Int32 × Int32 × Int32 × (Nat → Int32) × (Nat → Int32) × (Nat → Int32)) :=
  bd (f_X5_ring v_t_ringing_bells v_t_ringing_changes v_t_ringing_leads v_t_ringing_last f_t_ringing_rows f_t_ringing_firsts f_t_ringing_firstOfRank v_t_now_bells v_t_now_changes v_t_now_bob v_t_now_single v_t_now_leads f_t_now_places f_t_now_kinds) (fun q1 => (if (0 : Int32) < q1.2.2.2.1 then bd (f_X5_wellSounding q1.1 q1.2.2.2.1 q1.2.2.2.2.1) (fun q4 => gd (nnb (FP.ddiv (FP.i2d q4) (FP.i2d q1.2.2.2.1))) (some ((FP.ddiv (FP.i2d q4) (FP.i2d q1.2.2.2.1)), q1.1, q1.2.1, q1.2.2.1, q1.2.2.2.1, q1.2.2.2.2.1, q1.2.2.2.2.2.1, q1.2.2.2.2.2.2))) else some (FP.dconst0, q1.1, q1.2.1, q1.2.2.1, q1.2.2.2.1, q1.2.2.2.2.1, q1.2.2.2.2.2.1, q1.2.2.2.2.2.2)))
abbrev rm_X10_music : Room := { frames := 5, cells := 0, slots := 0, locals := 119 }
set_option maxHeartbeats 4000000 in
set_option maxRecDepth 100000 in
theorem c_X10_music (l : Launch) (D : va_G) (Y : ClassId × ClassId × ClassId × ClassId) (a_t a_t_now a_t_trial a_t_snapshot a_t_history a_t_pad a_t_reader a_t_ringing a_t_homeward a_t_now_places a_t_now_kinds a_t_ringing_rows a_t_ringing_firsts a_t_ringing_firstOfRank : Nat) (v_t_hasSnapshot : Int32) (v_t_now_bells : Int32) (v_t_now_changes : Int32) (v_t_now_bob : Int32) (v_t_now_single : Int32) (v_t_now_leads : Int32) (f_t_now_places : Nat → Int32) (f_t_now_kinds : Nat → Int32) (v_t_ringing_bells : Int32) (v_t_ringing_changes : Int32) (v_t_ringing_leads : Int32) (v_t_ringing_last : Int32) (f_t_ringing_rows : Nat → Int32) (f_t_ringing_firsts : Nat → Int32) (f_t_ringing_firstOfRank : Nat → Int32) (sz : Nat) (R : UInt64 × Int32 × Int32 × Int32 × Int32 × (Nat → Int32) × (Nat → Int32) × (Nat → Int32)) (hf : f_X10_music v_t_now_bells v_t_now_changes v_t_now_bob v_t_now_single v_t_now_leads f_t_now_places f_t_now_kinds v_t_ringing_bells v_t_ringing_changes v_t_ringing_leads v_t_ringing_last f_t_ringing_rows f_t_ringing_firsts f_t_ringing_firstOfRank = some R) : Met l yX10_music (ws_ yX10_music cX10_music 1 (some .double)) rm_X10_music (va_Pc [.ref a_t] (RW D Y sz [(a_t, .inr (7, [.ref a_t_now, .ref a_t_trial, .ref a_t_snapshot, .int v_t_hasSnapshot, .ref a_t_history, .ref a_t_pad, .ref a_t_reader, .ref a_t_ringing, .ref a_t_homeward])), (a_t_now, .inr (6, [.int v_t_now_bells, .int v_t_now_changes, .int v_t_now_bob, .int v_t_now_single, .int v_t_now_leads, .ref a_t_now_places, .ref a_t_now_kinds])), (a_t_now_places, .inl (Y.1, 20, .inl f_t_now_places)), (a_t_now_kinds, .inl (Y.1, 17, .inl f_t_now_kinds)), (a_t_ringing, .inr (4, [.ref a_t_ringing_rows, .ref a_t_ringing_firsts, .ref a_t_ringing_firstOfRank, .int v_t_ringing_bells, .int v_t_ringing_changes, .int v_t_ringing_leads, .int v_t_ringing_last])), (a_t_ringing_rows, .inl (Y.1, 341, .inl f_t_ringing_rows)), (a_t_ringing_firsts, .inl (Y.1, 341, .inl f_t_ringing_firsts)), (a_t_ringing_firstOfRank, .inl (Y.1, 5040, .inl f_t_ringing_firstOfRank))])) (QD D R.1 [(a_t, .inr (7, [.ref a_t_now, .ref a_t_trial, .ref a_t_snapshot, .int v_t_hasSnapshot, .ref a_t_history, .ref a_t_pad, .ref a_t_reader, .ref a_t_ringing, .ref a_t_homeward])), (a_t_now, .inr (6, [.int v_t_now_bells, .int v_t_now_changes, .int v_t_now_bob, .int v_t_now_single, .int v_t_now_leads, .ref a_t_now_places, .ref a_t_now_kinds])), (a_t_now_places, .inl (Y.1, 20, .inl f_t_now_places)), (a_t_now_kinds, .inl (Y.1, 17, .inl f_t_now_kinds)), (a_t_ringing, .inr (4, [.ref a_t_ringing_rows, .ref a_t_ringing_firsts, .ref a_t_ringing_firstOfRank, .int R.2.1, .int R.2.2.1, .int R.2.2.2.1, .int R.2.2.2.2.1])), (a_t_ringing_rows, .inl (Y.1, 341, .inl R.2.2.2.2.2.1)), (a_t_ringing_firsts, .inl (Y.1, 341, .inl R.2.2.2.2.2.2.1)), (a_t_ringing_firstOfRank, .inl (Y.1, 5040, .inl R.2.2.2.2.2.2.2))] (va_A [(a_t, .inr (7, [.ref a_t_now, .ref a_t_trial, .ref a_t_snapshot, .int v_t_hasSnapshot, .ref a_t_history, .ref a_t_pad, .ref a_t_reader, .ref a_t_ringing, .ref a_t_homeward])), (a_t_now, .inr (6, [.int v_t_now_bells, .int v_t_now_changes, .int v_t_now_bob, .int v_t_now_single, .int v_t_now_leads, .ref a_t_now_places, .ref a_t_now_kinds])), (a_t_now_places, .inl (Y.1, 20, .inl f_t_now_places)), (a_t_now_kinds, .inl (Y.1, 17, .inl f_t_now_kinds)), (a_t_ringing, .inr (4, [.ref a_t_ringing_rows, .ref a_t_ringing_firsts, .ref a_t_ringing_firstOfRank, .int v_t_ringing_bells, .int v_t_ringing_changes, .int v_t_ringing_leads, .int v_t_ringing_last])), (a_t_ringing_rows, .inl (Y.1, 341, .inl f_t_ringing_rows)), (a_t_ringing_firsts, .inl (Y.1, 341, .inl f_t_ringing_firsts)), (a_t_ringing_firstOfRank, .inl (Y.1, 5040, .inl f_t_ringing_firstOfRank))] sz)) 0 0 (va_A [(a_t, .inr (7, [.ref a_t_now, .ref a_t_trial, .ref a_t_snapshot, .int v_t_hasSnapshot, .ref a_t_history, .ref a_t_pad, .ref a_t_reader, .ref a_t_ringing, .ref a_t_homeward])), (a_t_now, .inr (6, [.int v_t_now_bells, .int v_t_now_changes, .int v_t_now_bob, .int v_t_now_single, .int v_t_now_leads, .ref a_t_now_places, .ref a_t_now_kinds])), (a_t_now_places, .inl (Y.1, 20, .inl f_t_now_places)), (a_t_now_kinds, .inl (Y.1, 17, .inl f_t_now_kinds)), (a_t_ringing, .inr (4, [.ref a_t_ringing_rows, .ref a_t_ringing_firsts, .ref a_t_ringing_firstOfRank, .int v_t_ringing_bells, .int v_t_ringing_changes, .int v_t_ringing_leads, .int v_t_ringing_last])), (a_t_ringing_rows, .inl (Y.1, 341, .inl f_t_ringing_rows)), (a_t_ringing_firsts, .inl (Y.1, 341, .inl f_t_ringing_firsts)), (a_t_ringing_firstOfRank, .inl (Y.1, 5040, .inl f_t_ringing_firstOfRank))] sz) := by
  refine rw_start (Qc := fun A => QD D R.1 [(a_t, .inr (7, [.ref a_t_now, .ref a_t_trial, .ref a_t_snapshot, .int v_t_hasSnapshot, .ref a_t_history, .ref a_t_pad, .ref a_t_reader, .ref a_t_ringing, .ref a_t_homeward])), (a_t_now, .inr (6, [.int v_t_now_bells, .int v_t_now_changes, .int v_t_now_bob, .int v_t_now_single, .int v_t_now_leads, .ref a_t_now_places, .ref a_t_now_kinds])), (a_t_now_places, .inl (Y.1, 20, .inl f_t_now_places)), (a_t_now_kinds, .inl (Y.1, 17, .inl f_t_now_kinds)), (a_t_ringing, .inr (4, [.ref a_t_ringing_rows, .ref a_t_ringing_firsts, .ref a_t_ringing_firstOfRank, .int R.2.1, .int R.2.2.1, .int R.2.2.2.1, .int R.2.2.2.2.1])), (a_t_ringing_rows, .inl (Y.1, 341, .inl R.2.2.2.2.2.1)), (a_t_ringing_firsts, .inl (Y.1, 341, .inl R.2.2.2.2.2.2.1)), (a_t_ringing_firstOfRank, .inl (Y.1, 5040, .inl R.2.2.2.2.2.2.2))] A) (by decide) (Nat.le_of_ble_eq_true rfl) ?_
  intro p e s m below meth c ls A hx hb hml hr hlocks hown hts hnm hA hP hD hS hE hl
  generalize hargs : List.toArray _ = args at hts ⊢
  have hown : s.vm.findClass RX10 = some m.cls := hown
  have E : EN p m c cX10_music 1 s args RX10 := ⟨hx, hb, hml, hown, hts⟩
  have hl : lv_has ls 1 [(0, .ref a_t)] := hl
  generalize hQ : MQ below _ args s 0 0 _ = Q
  unfold f_X10_music at hf
  refine lv_aload_n hx hb dX10_music_0 rfl (lv_at hl 0 rfl) ?_
  refine va_get (D := D) (ci := 7) (v := .ref a_t_ringing) (C := RX10) (T := TX10) (N := 9) hx hb hts inX10 hown hE.1 hP 0 rfl rfl 7 (by decide) (hts _ qw328) (fun _ h9 => h9) rfl dX10_music_1 ?_
  refine lv_aload_n hx hb dX10_music_4 rfl (lv_at hl 0 rfl) ?_
  refine va_get (D := D) (ci := 7) (v := .ref a_t_now) (C := RX10) (T := TX10) (N := 9) hx hb hts inX10 hown hE.1 hP 0 rfl rfl 0 (by decide) (hts _ qw322) (fun _ h9 => h9) rfl dX10_music_5 ?_
  obtain ⟨q1, h2, hf⟩ := bd_s hf
  refine af_v0 (wc := [(a_t_ringing, .inr (4, [.ref a_t_ringing_rows, .ref a_t_ringing_firsts, .ref a_t_ringing_firstOfRank, .int v_t_ringing_bells, .int v_t_ringing_changes, .int v_t_ringing_leads, .int v_t_ringing_last])), (a_t_ringing_rows, .inl (Y.1, 341, .inl f_t_ringing_rows)), (a_t_ringing_firsts, .inl (Y.1, 341, .inl f_t_ringing_firsts)), (a_t_ringing_firstOfRank, .inl (Y.1, 5040, .inl f_t_ringing_firstOfRank)), (a_t_now, .inr (6, [.int v_t_now_bells, .int v_t_now_changes, .int v_t_now_bob, .int v_t_now_single, .int v_t_now_leads, .ref a_t_now_places, .ref a_t_now_kinds])), (a_t_now_places, .inl (Y.1, 20, .inl f_t_now_places)), (a_t_now_kinds, .inl (Y.1, 17, .inl f_t_now_kinds))]) (wr := [(a_t, .inr (7, [.ref a_t_now, .ref a_t_trial, .ref a_t_snapshot, .int v_t_hasSnapshot, .ref a_t_history, .ref a_t_pad, .ref a_t_reader, .ref a_t_ringing, .ref a_t_homeward]))]) (wn := [(a_t, .inr (7, [.ref a_t_now, .ref a_t_trial, .ref a_t_snapshot, .int v_t_hasSnapshot, .ref a_t_history, .ref a_t_pad, .ref a_t_reader, .ref a_t_ringing, .ref a_t_homeward])), (a_t_now, .inr (6, [.int v_t_now_bells, .int v_t_now_changes, .int v_t_now_bob, .int v_t_now_single, .int v_t_now_leads, .ref a_t_now_places, .ref a_t_now_kinds])), (a_t_now_places, .inl (Y.1, 20, .inl f_t_now_places)), (a_t_now_kinds, .inl (Y.1, 17, .inl f_t_now_kinds)), (a_t_ringing, .inr (4, [.ref a_t_ringing_rows, .ref a_t_ringing_firsts, .ref a_t_ringing_firstOfRank, .int q1.1, .int q1.2.1, .int q1.2.2.1, .int q1.2.2.2.1])), (a_t_ringing_rows, .inl (Y.1, 341, .inl q1.2.2.2.2.1)), (a_t_ringing_firsts, .inl (Y.1, 341, .inl q1.2.2.2.2.2.1)), (a_t_ringing_firstOfRank, .inl (Y.1, 5040, .inl q1.2.2.2.2.2.2))]) (run_V (As := [.ref a_t_now]) (rest := []) E (c_X5_ring l D Y a_t_ringing a_t_ringing_rows a_t_ringing_firsts a_t_ringing_firstOfRank a_t_now a_t_now_places a_t_now_kinds v_t_ringing_bells v_t_ringing_changes v_t_ringing_leads v_t_ringing_last f_t_ringing_rows f_t_ringing_firsts f_t_ringing_firstOfRank v_t_now_bells v_t_now_changes v_t_now_bob v_t_now_single v_t_now_leads f_t_now_places f_t_now_kinds s.heap.size q1 h2) qw391 qw392 qw393 qw24 qw394 rfl rfl hd_X5_ring ⟨Nat.le_of_ble_eq_true rfl, Nat.le_of_ble_eq_true rfl⟩ (pre_rwV hP hD hE [4, 5, 6, 7, 1, 2, 3] rfl (by decide) rfl (ci := 4) (q0 := 4) rfl rfl) rfl hl.1 rfl (Nat.le_of_ble_eq_true rfl) dX10_music_8 ⟨Nat.zero_le _, Nat.zero_le _⟩) hP hD hS hA [4, 5, 6, 7, 1, 2, 3] [0] [0, 5, 6, 7, 1, 2, 3, 4] rfl rfl (by decide) (by decide) rfl rfl (by decide) (fun H locs  hP hD hS => ?_)
  refine lv_aload_n hx hb dX10_music_11 rfl (lv_at hl 0 rfl) ?_
  refine va_get (D := D) (ci := 7) (v := .ref a_t_ringing) (C := RX10) (T := TX10) (N := 9) hx hb hts inX10 hown hE.1 hP 0 rfl rfl 7 (by decide) (hts _ qw328) (fun _ h9 => h9) rfl dX10_music_12 ?_
  refine va_getN (D := D) (ci := 4) (v := .int q1.2.2.2.1) (C := RX5) (T := TX5) (N := 7) hx hb hts inX5 hown hE.1 hP 4 rfl rfl 6 (by decide) (va_Nw.use rfl (hE.2.1 _ qw154)) (fun _ h9 => h9) rfl dX10_music_15 ?_
  refine lv_if_gt (tgt := 23) hx hb dX10_music_18 (by decide) (fun c3 => ?_) (fun c3 => ?_)
  · have hf := ite_t c3 hf
    refine lv_aload_n hx hb dX10_music_23 rfl (lv_at hl 0 rfl) ?_
    refine va_get (D := D) (ci := 7) (v := .ref a_t_ringing) (C := RX10) (T := TX10) (N := 9) hx hb hts inX10 hown hE.1 hP 0 rfl rfl 7 (by decide) (hts _ qw328) (fun _ h9 => h9) rfl dX10_music_24 ?_
    obtain ⟨q4, h5, hf⟩ := bd_s hf
    refine af_oi (run_V (As := []) (rest := []) E (c_X5_wellSounding l D Y a_t_ringing a_t_ringing_rows a_t_ringing_firsts a_t_ringing_firstOfRank q1.1 q1.2.1 q1.2.2.1 q1.2.2.2.1 q1.2.2.2.2.1 q4 h5) qw568 qw569 qw570 qw24 qw571 rfl rfl hd_X5_wellSounding ⟨Nat.le_of_ble_eq_true rfl, Nat.le_of_ble_eq_true rfl⟩ (pre_roV hP hE [4, 5] rfl (ci := 4) (q0 := 4) rfl rfl) rfl hl.1 rfl (Nat.le_of_ble_eq_true rfl) dX10_music_27 ⟨Nat.zero_le _, Nat.zero_le _⟩) ?_
    refine lv_i2d hx hb dX10_music_30 ?_
    refine lv_aload_n hx hb dX10_music_31 rfl (lv_at hl 0 rfl) ?_
    refine va_get (D := D) (ci := 7) (v := .ref a_t_ringing) (C := RX10) (T := TX10) (N := 9) hx hb hts inX10 hown hE.1 hP 0 rfl rfl 7 (by decide) (hts _ qw328) (fun _ h9 => h9) rfl dX10_music_32 ?_
    refine va_getN (D := D) (ci := 4) (v := .int q1.2.2.2.1) (C := RX5) (T := TX5) (N := 7) hx hb hts inX5 hown hE.1 hP 4 rfl rfl 6 (by decide) (va_Nw.use rfl (hE.2.1 _ qw154)) (fun _ h9 => h9) rfl dX10_music_35 ?_
    refine lv_i2d hx hb dX10_music_38 ?_
    obtain ⟨g6, hf⟩ := gd_s hf
    refine lv_ddiv hx hb dX10_music_39 (nnb_n g6) ?_
    obtain rfl := Option.some.inj hf
    subst hQ
    exact en_d hx hb hr hlocks hP hD hS rfl dX10_music_40
  have hf := ite_f c3 hf
  refine lv_dconst0 hx hb dX10_music_21 ?_
  obtain rfl := Option.some.inj hf
  subst hQ
  exact en_d hx hb hr hlocks hP hD hS rfl dX10_music_22
