def f_X11_clear (v_t_typed : Int32) : Int32 × Int32 :=
  (v_t_typed, 0)
abbrev rm_X11_clear : Room := { frames := 1, cells := 0, slots := 0, locals := 24 }
set_option maxHeartbeats 4000000 in
set_option maxRecDepth 100000 in
theorem c_X11_clear (l : Launch) (D : va_G) (Y : ClassId × ClassId × ClassId) (a_t a_t_s a_t_past a_t_kept a_t_pad a_t_cell a_t_other a_t_rows a_t_read a_t_track a_t_lead a_t_distance a_t_line : Nat) (v_t_isKept : Int32) (v_t_pasts : Int32) (v_t_typed : Int32) (v_t_ends : Int32) (v_t_many : Int32) (v_t_spot : Int32) (sz : Nat) (R : Int32 × Int32) (hf : f_X11_clear v_t_typed = R) : Met l yX11_clear (ws_ yX11_clear cX11_clear 2 (some .int)) rm_X11_clear (va_Pc [.ref a_t] (RW D Y sz [(a_t, .inr (8, [.ref a_t_s, .ref a_t_past, .ref a_t_kept, .int v_t_isKept, .int v_t_pasts, .ref a_t_pad, .int v_t_typed, .ref a_t_cell, .ref a_t_other, .ref a_t_rows, .int v_t_ends, .ref a_t_read, .int v_t_many, .int v_t_spot, .ref a_t_track, .ref a_t_lead, .ref a_t_distance, .ref a_t_line]))])) (QI D R.1 [(a_t, .inr (8, [.ref a_t_s, .ref a_t_past, .ref a_t_kept, .int v_t_isKept, .int v_t_pasts, .ref a_t_pad, .int R.2, .ref a_t_cell, .ref a_t_other, .ref a_t_rows, .int v_t_ends, .ref a_t_read, .int v_t_many, .int v_t_spot, .ref a_t_track, .ref a_t_lead, .ref a_t_distance, .ref a_t_line]))] (va_A [(a_t, .inr (8, [.ref a_t_s, .ref a_t_past, .ref a_t_kept, .int v_t_isKept, .int v_t_pasts, .ref a_t_pad, .int v_t_typed, .ref a_t_cell, .ref a_t_other, .ref a_t_rows, .int v_t_ends, .ref a_t_read, .int v_t_many, .int v_t_spot, .ref a_t_track, .ref a_t_lead, .ref a_t_distance, .ref a_t_line]))] sz)) 0 0 (va_A [(a_t, .inr (8, [.ref a_t_s, .ref a_t_past, .ref a_t_kept, .int v_t_isKept, .int v_t_pasts, .ref a_t_pad, .int v_t_typed, .ref a_t_cell, .ref a_t_other, .ref a_t_rows, .int v_t_ends, .ref a_t_read, .int v_t_many, .int v_t_spot, .ref a_t_track, .ref a_t_lead, .ref a_t_distance, .ref a_t_line]))] sz) := by
  refine rw_start (Qc := fun A => QI D R.1 [(a_t, .inr (8, [.ref a_t_s, .ref a_t_past, .ref a_t_kept, .int v_t_isKept, .int v_t_pasts, .ref a_t_pad, .int R.2, .ref a_t_cell, .ref a_t_other, .ref a_t_rows, .int v_t_ends, .ref a_t_read, .int v_t_many, .int v_t_spot, .ref a_t_track, .ref a_t_lead, .ref a_t_distance, .ref a_t_line]))] A) (by decide) (Nat.le_of_ble_eq_true rfl) ?_
  intro p e s m below meth c ls A hx hb hml hr hlocks hown hts hnm hA hP hD hS hE hl
  generalize hargs : List.toArray _ = args at hts ⊢
  have hown : s.vm.findClass RX11 = some m.cls := hown
  have E : EN p m c cX11_clear 2 s args RX11 := ⟨hx, hb, hml, hown, hts⟩
  have hl : lv_has ls 2 [(0, .ref a_t)] := hl
  generalize hQ : MQ below _ args s 0 0 _ = Q
  unfold f_X11_clear at hf
  refine lv_aload_n hx hb dX11_clear_0 rfl (lv_at hl 0 rfl) ?_
  refine va_get (D := D) (ci := 8) (v := .int v_t_typed) (C := RX11) (T := TX11) (N := 18) hx hb hts inX11 hown hE.1 hP 0 rfl rfl 6 (by decide) (hts _ qw767) (fun _ h9 => h9) rfl dX11_clear_1 ?_
  refine lv_istore_n (lv' := [(1, .int v_t_typed), (0, .ref a_t)]) hx hb dX11_clear_4 rfl hl (by decide) rfl (fun ls hl => ?_)
  refine lv_aload_n hx hb dX11_clear_5 rfl (lv_at hl 1 rfl) ?_
  refine lv_iconst (v := 0) hx hb dX11_clear_6 (by decide) ?_
  refine va_put (D := D) (ci := 8) (v := .int 0) (ty := .int) (C := RX11) (T := TX11) (N := 18) hx hb hts inX11 tyX11 tyX11_ok nmX11 hown hE.1 hP hD hS 0 rfl rfl 6 (by decide) (hts _ qw767) (fun _ h9 => h9) rfl (tyX11_ok 6 (by decide)) rfl rfl (Nat.le_of_ble_eq_true rfl) dX11_clear_7 (fun H locs hP hD hS => ?_)
  have hP : va_P D vwCl [(a_t, .inr (8, [.ref a_t_s, .ref a_t_past, .ref a_t_kept, .int v_t_isKept, .int v_t_pasts, .ref a_t_pad, .int 0, .ref a_t_cell, .ref a_t_other, .ref a_t_rows, .int v_t_ends, .ref a_t_read, .int v_t_many, .int v_t_spot, .ref a_t_track, .ref a_t_lead, .ref a_t_distance, .ref a_t_line]))] H := hP
  have hD : va_D A [(a_t, .inr (8, [.ref a_t_s, .ref a_t_past, .ref a_t_kept, .int v_t_isKept, .int v_t_pasts, .ref a_t_pad, .int 0, .ref a_t_cell, .ref a_t_other, .ref a_t_rows, .int v_t_ends, .ref a_t_read, .int v_t_many, .int v_t_spot, .ref a_t_track, .ref a_t_lead, .ref a_t_distance, .ref a_t_line]))] := hD
  refine lv_iload_n hx hb dX11_clear_10 rfl (lv_at hl 0 rfl) ?_
  subst hf
  subst hQ
  exact en_i hx hb hr hlocks hP hD hS rfl dX11_clear_11

def f_X11_fault (s1 : Int32) (v_t_typed : Int32) (v_t_many : Int32) (v_t_spot : Int32) (f_t_s : Nat → Int32) (f_t_pad : Nat → Int32) (f_t_read : Nat → Int32) : Option (Int32 × Int32 × Int32 × (Nat → Int32)) :=
  (if s1 = 0 then bd (f_X11_methodFault v_t_typed v_t_many v_t_spot f_t_s f_t_pad f_t_read) (fun q5 => some (q5.1, q5.2.1, q5.2.2.1, q5.2.2.2)) else (if s1 = 1 then bd (f_X11_touchFault v_t_typed f_t_pad) (fun q3 => some (q3, v_t_many, v_t_spot, f_t_read)) else some ((-1), v_t_many, v_t_spot, f_t_read)))
abbrev rm_X11_fault : Room := { frames := 6, cells := 0, slots := 0, locals := 137 }
set_option maxHeartbeats 4000000 in
set_option maxRecDepth 100000 in
theorem c_X11_fault (l : Launch) (D : va_G) (Y : ClassId × ClassId × ClassId) (a_t a_t_s a_t_past a_t_kept a_t_pad a_t_cell a_t_other a_t_rows a_t_read a_t_track a_t_lead a_t_distance a_t_line : Nat) (v_t_isKept : Int32) (v_t_pasts : Int32) (v_t_typed : Int32) (v_t_ends : Int32) (v_t_many : Int32) (v_t_spot : Int32) (f_t_s : Nat → Int32) (f_t_pad : Nat → Int32) (f_t_read : Nat → Int32) (s1 : Int32) (sz : Nat) (R : Int32 × Int32 × Int32 × (Nat → Int32)) (hf : f_X11_fault s1 v_t_typed v_t_many v_t_spot f_t_s f_t_pad f_t_read = some R) : Met l yX11_fault (ws_ yX11_fault cX11_fault 2 (some .int)) rm_X11_fault (va_Pc [.ref a_t, .int s1] (RW D Y sz [(a_t, .inr (8, [.ref a_t_s, .ref a_t_past, .ref a_t_kept, .int v_t_isKept, .int v_t_pasts, .ref a_t_pad, .int v_t_typed, .ref a_t_cell, .ref a_t_other, .ref a_t_rows, .int v_t_ends, .ref a_t_read, .int v_t_many, .int v_t_spot, .ref a_t_track, .ref a_t_lead, .ref a_t_distance, .ref a_t_line])), (a_t_s, .inl (Y.1, 41, .inl f_t_s)), (a_t_pad, .inl (Y.1, 80, .inl f_t_pad)), (a_t_read, .inl (Y.1, 21, .inl f_t_read))])) (QI D R.1 [(a_t, .inr (8, [.ref a_t_s, .ref a_t_past, .ref a_t_kept, .int v_t_isKept, .int v_t_pasts, .ref a_t_pad, .int v_t_typed, .ref a_t_cell, .ref a_t_other, .ref a_t_rows, .int v_t_ends, .ref a_t_read, .int R.2.1, .int R.2.2.1, .ref a_t_track, .ref a_t_lead, .ref a_t_distance, .ref a_t_line])), (a_t_s, .inl (Y.1, 41, .inl f_t_s)), (a_t_pad, .inl (Y.1, 80, .inl f_t_pad)), (a_t_read, .inl (Y.1, 21, .inl R.2.2.2))] (va_A [(a_t, .inr (8, [.ref a_t_s, .ref a_t_past, .ref a_t_kept, .int v_t_isKept, .int v_t_pasts, .ref a_t_pad, .int v_t_typed, .ref a_t_cell, .ref a_t_other, .ref a_t_rows, .int v_t_ends, .ref a_t_read, .int v_t_many, .int v_t_spot, .ref a_t_track, .ref a_t_lead, .ref a_t_distance, .ref a_t_line])), (a_t_s, .inl (Y.1, 41, .inl f_t_s)), (a_t_pad, .inl (Y.1, 80, .inl f_t_pad)), (a_t_read, .inl (Y.1, 21, .inl f_t_read))] sz)) 0 0 (va_A [(a_t, .inr (8, [.ref a_t_s, .ref a_t_past, .ref a_t_kept, .int v_t_isKept, .int v_t_pasts, .ref a_t_pad, .int v_t_typed, .ref a_t_cell, .ref a_t_other, .ref a_t_rows, .int v_t_ends, .ref a_t_read, .int v_t_many, .int v_t_spot, .ref a_t_track, .ref a_t_lead, .ref a_t_distance, .ref a_t_line])), (a_t_s, .inl (Y.1, 41, .inl f_t_s)), (a_t_pad, .inl (Y.1, 80, .inl f_t_pad)), (a_t_read, .inl (Y.1, 21, .inl f_t_read))] sz) := by
  refine rw_start (Qc := fun A => QI D R.1 [(a_t, .inr (8, [.ref a_t_s, .ref a_t_past, .ref a_t_kept, .int v_t_isKept, .int v_t_pasts, .ref a_t_pad, .int v_t_typed, .ref a_t_cell, .ref a_t_other, .ref a_t_rows, .int v_t_ends, .ref a_t_read, .int R.2.1, .int R.2.2.1, .ref a_t_track, .ref a_t_lead, .ref a_t_distance, .ref a_t_line])), (a_t_s, .inl (Y.1, 41, .inl f_t_s)), (a_t_pad, .inl (Y.1, 80, .inl f_t_pad)), (a_t_read, .inl (Y.1, 21, .inl R.2.2.2))] A) (by decide) (Nat.le_of_ble_eq_true rfl) ?_
  intro p e s m below meth c ls A hx hb hml hr hlocks hown hts hnm hA hP hD hS hE hl
  generalize hargs : List.toArray _ = args at hts ⊢
  have hown : s.vm.findClass RX11 = some m.cls := hown
  have E : EN p m c cX11_fault 2 s args RX11 := ⟨hx, hb, hml, hown, hts⟩
  have hl : lv_has ls 2 [(0, .ref a_t), (1, .int s1)] := hl
  generalize hQ : MQ below _ args s 0 0 _ = Q
  unfold f_X11_fault at hf
  refine lv_iload_n hx hb dX11_fault_0 rfl (lv_at hl 1 rfl) ?_
  refine lv_if_ne (tgt := 11) hx hb dX11_fault_1 (by decide) (fun c1 => ?_) (fun c1 => ?_)
  · have hf := ite_f c1 hf
    refine lv_iload_n hx hb dX11_fault_11 rfl (lv_at hl 1 rfl) ?_
    refine lv_iconst (v := 1) hx hb dX11_fault_12 (by decide) ?_
    refine lv_icmp_ne (tgt := 23) hx hb dX11_fault_13 (by decide) (fun c2 => ?_) (fun c2 => ?_)
    · have hf := ite_f c2 hf
      refine lv_iconst (v := (-1)) hx hb dX11_fault_23 (by decide) ?_
      obtain rfl := Option.some.inj hf
      subst hQ
      exact en_i hx hb hr hlocks hP hD hS rfl dX11_fault_24
    have hf := ite_t c2 hf
    refine lv_aload_n hx hb dX11_fault_16 rfl (lv_at hl 0 rfl) ?_
    obtain ⟨q3, h4, hf⟩ := bd_s hf
    refine af_oi (run_V (As := []) (rest := []) E (c_X11_touchFault l D Y a_t a_t_s a_t_past a_t_kept a_t_pad a_t_cell a_t_other a_t_rows a_t_read a_t_track a_t_lead a_t_distance a_t_line v_t_isKept v_t_pasts v_t_typed v_t_ends v_t_many v_t_spot f_t_pad q3 h4) qw859 qw861 qw28 qw76 qw862 rfl rfl hd_X11_touchFault ⟨Nat.le_of_ble_eq_true rfl, Nat.le_of_ble_eq_true rfl⟩ (pre_roV hP hE [0, 2] rfl (ci := 8) (q0 := 0) rfl rfl) rfl hl.1 rfl (Nat.le_of_ble_eq_true rfl) dX11_fault_17 ⟨Nat.zero_le _, Nat.zero_le _⟩) ?_
    refine lv_goto (tgt := 24) hx hb dX11_fault_20 (by decide) ?_
    obtain rfl := Option.some.inj hf
    subst hQ
    exact en_i hx hb hr hlocks hP hD hS rfl dX11_fault_24
  have hf := ite_t c1 hf
  refine lv_aload_n hx hb dX11_fault_4 rfl (lv_at hl 0 rfl) ?_
  obtain ⟨q5, h6, hf⟩ := bd_s hf
  refine af_i0 (wc := [(a_t, .inr (8, [.ref a_t_s, .ref a_t_past, .ref a_t_kept, .int v_t_isKept, .int v_t_pasts, .ref a_t_pad, .int v_t_typed, .ref a_t_cell, .ref a_t_other, .ref a_t_rows, .int v_t_ends, .ref a_t_read, .int v_t_many, .int v_t_spot, .ref a_t_track, .ref a_t_lead, .ref a_t_distance, .ref a_t_line])), (a_t_s, .inl (Y.1, 41, .inl f_t_s)), (a_t_pad, .inl (Y.1, 80, .inl f_t_pad)), (a_t_read, .inl (Y.1, 21, .inl f_t_read))]) (wr := []) (wn := [(a_t, .inr (8, [.ref a_t_s, .ref a_t_past, .ref a_t_kept, .int v_t_isKept, .int v_t_pasts, .ref a_t_pad, .int v_t_typed, .ref a_t_cell, .ref a_t_other, .ref a_t_rows, .int v_t_ends, .ref a_t_read, .int q5.2.1, .int q5.2.2.1, .ref a_t_track, .ref a_t_lead, .ref a_t_distance, .ref a_t_line])), (a_t_s, .inl (Y.1, 41, .inl f_t_s)), (a_t_pad, .inl (Y.1, 80, .inl f_t_pad)), (a_t_read, .inl (Y.1, 21, .inl q5.2.2.2))]) (run_V (As := []) (rest := []) E (c_X11_methodFault l D Y a_t a_t_s a_t_past a_t_kept a_t_pad a_t_cell a_t_other a_t_rows a_t_read a_t_track a_t_lead a_t_distance a_t_line v_t_isKept v_t_pasts v_t_typed v_t_ends v_t_many v_t_spot f_t_s f_t_pad f_t_read s.heap.size q5 h6) qw831 qw833 qw23 qw76 qw834 rfl rfl hd_X11_methodFault ⟨Nat.le_of_ble_eq_true rfl, Nat.le_of_ble_eq_true rfl⟩ (pre_rwV hP hD hE [0, 1, 2, 3] rfl (by decide) rfl (ci := 8) (q0 := 0) rfl rfl) rfl hl.1 rfl (Nat.le_of_ble_eq_true rfl) dX11_fault_5 ⟨Nat.zero_le _, Nat.zero_le _⟩) hP hD hS hA [0, 1, 2, 3] [] [0, 1, 2, 3] rfl rfl (by decide) (by decide) rfl rfl (by decide) (fun H locs  hP hD hS => ?_)
  refine lv_goto (tgt := 24) hx hb dX11_fault_8 (by decide) ?_
  obtain rfl := Option.some.inj hf
  subst hQ
  exact en_i hx hb hr hlocks hP hD hS rfl dX11_fault_24

def f_X11_isPlace (s1 : Int32) (f_t_s : Nat → Int32) : Option (Int32) :=
  some (f_X11_in s1 1 (f_t_s (0 : Int32).toNatClampNeg))
abbrev rm_X11_isPlace : Room := { frames := 2, cells := 0, slots := 0, locals := 46 }
set_option maxHeartbeats 4000000 in
set_option maxRecDepth 100000 in
theorem c_X11_isPlace (l : Launch) (D : va_G) (Y : ClassId × ClassId × ClassId) (a_t a_t_s a_t_past a_t_kept a_t_pad a_t_cell a_t_other a_t_rows a_t_read a_t_track a_t_lead a_t_distance a_t_line : Nat) (v_t_isKept : Int32) (v_t_pasts : Int32) (v_t_typed : Int32) (v_t_ends : Int32) (v_t_many : Int32) (v_t_spot : Int32) (f_t_s : Nat → Int32) (s1 : Int32) (R : Int32) (hf : f_X11_isPlace s1 f_t_s = some R) : Met l yX11_isPlace (ws_ yX11_isPlace cX11_isPlace 2 (some .boolean)) rm_X11_isPlace (va_Pc [.ref a_t, .int s1] (RO D Y [(a_t, .inr (8, [.ref a_t_s, .ref a_t_past, .ref a_t_kept, .int v_t_isKept, .int v_t_pasts, .ref a_t_pad, .int v_t_typed, .ref a_t_cell, .ref a_t_other, .ref a_t_rows, .int v_t_ends, .ref a_t_read, .int v_t_many, .int v_t_spot, .ref a_t_track, .ref a_t_lead, .ref a_t_distance, .ref a_t_line])), (a_t_s, .inl (Y.1, 41, .inl f_t_s))])) (OZ R) 0 0 (fun _ => False) := by
  refine ro_start (by decide) (Nat.le_of_ble_eq_true rfl) ?_
  intro p e s m below meth c ls hx hb hml hr hlocks hown hts hP hE hl
  generalize hargs : List.toArray _ = args at hts ⊢
  have hown : s.vm.findClass RX11 = some m.cls := hown
  have E : EN p m c cX11_isPlace 2 s args RX11 := ⟨hx, hb, hml, hown, hts⟩
  have hl : lv_has ls 2 [(0, .ref a_t), (1, .int s1)] := hl
  generalize hQ : MQ below _ args s 0 0 _ = Q
  unfold f_X11_isPlace at hf
  refine lv_iload_n hx hb dX11_isPlace_0 rfl (lv_at hl 1 rfl) ?_
  refine lv_iconst (v := 1) hx hb dX11_isPlace_1 (by decide) ?_
  refine lv_aload_n hx hb dX11_isPlace_2 rfl (lv_at hl 0 rfl) ?_
  refine va_get (D := D) (ci := 8) (v := .ref a_t_s) (C := RX11) (T := TX11) (N := 18) hx hb hts inX11 hown hE.1 hP 0 rfl rfl 0 (by decide) (hts _ qw761) (fun _ h9 => h9) rfl dX11_isPlace_3 ?_
  refine lv_iconst (v := 0) hx hb dX11_isPlace_6 (by decide) ?_
  refine va_iald hx hb hE.1 hP 1 0 rfl rfl (inb_in (by decide)) dX11_isPlace_7 ?_
  refine af_oz (run_S (As := [.int s1, .int 1, .int (f_t_s (0 : Int32).toNatClampNeg)]) (rest := []) E (c_X11_in l D Y s1 1 (f_t_s (0 : Int32).toNatClampNeg) (f_X11_in s1 1 (f_t_s (0 : Int32).toNatClampNeg)) rfl) qw820 qw821 qw76 qw822 rfl rfl hd_X11_in ⟨Nat.le_of_ble_eq_true rfl, Nat.le_of_ble_eq_true rfl⟩ (pre_roS hP hE [] rfl) rfl hl.1 rfl (Nat.le_of_ble_eq_true rfl) dX11_isPlace_8 ⟨Nat.zero_le _, Nat.zero_le _⟩) (fun z1 => ?_)
  obtain rfl := Option.some.inj hf
  subst hQ
  exact en_oz hx hb hr hlocks rfl z1 dX11_isPlace_11

def f_X11_isRow (s1 : Int32) (f_t_s : Nat → Int32) : Option (Int32) :=
  bd (f_X11_last f_t_s) (fun q1 => some (f_X11_in s1 0 q1))
abbrev rm_X11_isRow : Room := { frames := 2, cells := 0, slots := 0, locals := 46 }
set_option maxHeartbeats 4000000 in
set_option maxRecDepth 100000 in
theorem c_X11_isRow (l : Launch) (D : va_G) (Y : ClassId × ClassId × ClassId) (a_t a_t_s a_t_past a_t_kept a_t_pad a_t_cell a_t_other a_t_rows a_t_read a_t_track a_t_lead a_t_distance a_t_line : Nat) (v_t_isKept : Int32) (v_t_pasts : Int32) (v_t_typed : Int32) (v_t_ends : Int32) (v_t_many : Int32) (v_t_spot : Int32) (f_t_s : Nat → Int32) (s1 : Int32) (R : Int32) (hf : f_X11_isRow s1 f_t_s = some R) : Met l yX11_isRow (ws_ yX11_isRow cX11_isRow 2 (some .boolean)) rm_X11_isRow (va_Pc [.ref a_t, .int s1] (RO D Y [(a_t, .inr (8, [.ref a_t_s, .ref a_t_past, .ref a_t_kept, .int v_t_isKept, .int v_t_pasts, .ref a_t_pad, .int v_t_typed, .ref a_t_cell, .ref a_t_other, .ref a_t_rows, .int v_t_ends, .ref a_t_read, .int v_t_many, .int v_t_spot, .ref a_t_track, .ref a_t_lead, .ref a_t_distance, .ref a_t_line])), (a_t_s, .inl (Y.1, 41, .inl f_t_s))])) (OZ R) 0 0 (fun _ => False) := by
  refine ro_start (by decide) (Nat.le_of_ble_eq_true rfl) ?_
  intro p e s m below meth c ls hx hb hml hr hlocks hown hts hP hE hl
  generalize hargs : List.toArray _ = args at hts ⊢
  have hown : s.vm.findClass RX11 = some m.cls := hown
  have E : EN p m c cX11_isRow 2 s args RX11 := ⟨hx, hb, hml, hown, hts⟩
  have hl : lv_has ls 2 [(0, .ref a_t), (1, .int s1)] := hl
  generalize hQ : MQ below _ args s 0 0 _ = Q
  unfold f_X11_isRow at hf
  refine lv_iload_n hx hb dX11_isRow_0 rfl (lv_at hl 1 rfl) ?_
  refine lv_iconst (v := 0) hx hb dX11_isRow_1 (by decide) ?_
  refine lv_aload_n hx hb dX11_isRow_2 rfl (lv_at hl 0 rfl) ?_
  obtain ⟨q1, h2, hf⟩ := bd_s hf
  refine af_oi (run_V (As := []) (rest := [.int 0, .int s1]) E (c_X11_last l D Y a_t a_t_s a_t_past a_t_kept a_t_pad a_t_cell a_t_other a_t_rows a_t_read a_t_track a_t_lead a_t_distance a_t_line v_t_isKept v_t_pasts v_t_typed v_t_ends v_t_many v_t_spot f_t_s q1 h2) qw894 qw896 qw30 qw76 qw897 rfl rfl hd_X11_last ⟨Nat.le_of_ble_eq_true rfl, Nat.le_of_ble_eq_true rfl⟩ (pre_roV hP hE [0, 1] rfl (ci := 8) (q0 := 0) rfl rfl) rfl hl.1 rfl (Nat.le_of_ble_eq_true rfl) dX11_isRow_3 ⟨Nat.zero_le _, Nat.zero_le _⟩) ?_
  refine af_oz (run_S (As := [.int s1, .int 0, .int q1]) (rest := []) E (c_X11_in l D Y s1 0 q1 (f_X11_in s1 0 q1) rfl) qw820 qw821 qw76 qw822 rfl rfl hd_X11_in ⟨Nat.le_of_ble_eq_true rfl, Nat.le_of_ble_eq_true rfl⟩ (pre_roS hP hE [] rfl) rfl hl.1 rfl (Nat.le_of_ble_eq_true rfl) dX11_isRow_6 ⟨Nat.zero_le _, Nat.zero_le _⟩) (fun z3 => ?_)
  obtain rfl := Option.some.inj hf
  subst hQ
  exact en_oz hx hb hr hlocks rfl z3 dX11_isRow_9

def f_X11_bell (s1 : Int32) (s2 : Int32) (v_t_ends : Int32) (f_t_s : Nat → Int32) (f_t_cell : Nat → Int32) (f_t_rows : Nat → Int32) : Option (Int32 × Int32 × (Nat → Int32) × (Nat → Int32)) :=
  bd (f_X11_isRow s1 f_t_s) (fun q1 => (if q1 = 0 then some ((-1), v_t_ends, f_t_cell, f_t_rows) else bd (f_X11_isPlace s2 f_t_s) (fun q5 => (if q5 = 0 then some ((-1), v_t_ends, f_t_cell, f_t_rows) else bd (f_X11_ringsAll (-4) v_t_ends f_t_s f_t_cell f_t_rows) (fun q9 => gd (inb s1 341) (bd (f_X11_unrank (q9.2.2 s1.toNatClampNeg) f_t_s q9.2.1) (fun q12 => gd (inb (s2 - 1) 7) (some (((q12 (s2 - 1).toNatClampNeg) + 1), q9.1, q12, q9.2.2)))))))))
abbrev rm_X11_bell : Room := { frames := 4, cells := 0, slots := 0, locals := 93 }
set_option maxHeartbeats 4000000 in
set_option maxRecDepth 100000 in
theorem c_X11_bell (l : Launch) (D : va_G) (Y : ClassId × ClassId × ClassId) (a_t a_t_s a_t_past a_t_kept a_t_pad a_t_cell a_t_other a_t_rows a_t_read a_t_track a_t_lead a_t_distance a_t_line : Nat) (v_t_isKept : Int32) (v_t_pasts : Int32) (v_t_typed : Int32) (v_t_ends : Int32) (v_t_many : Int32) (v_t_spot : Int32) (f_t_s : Nat → Int32) (f_t_cell : Nat → Int32) (f_t_rows : Nat → Int32) (s1 : Int32) (s2 : Int32) (sz : Nat) (R : Int32 × Int32 × (Nat → Int32) × (Nat → Int32)) (hf : f_X11_bell s1 s2 v_t_ends f_t_s f_t_cell f_t_rows = some R) : Met l yX11_bell (ws_ yX11_bell cX11_bell 3 (some .int)) rm_X11_bell (va_Pc [.ref a_t, .int s1, .int s2] (RW D Y sz [(a_t, .inr (8, [.ref a_t_s, .ref a_t_past, .ref a_t_kept, .int v_t_isKept, .int v_t_pasts, .ref a_t_pad, .int v_t_typed, .ref a_t_cell, .ref a_t_other, .ref a_t_rows, .int v_t_ends, .ref a_t_read, .int v_t_many, .int v_t_spot, .ref a_t_track, .ref a_t_lead, .ref a_t_distance, .ref a_t_line])), (a_t_s, .inl (Y.1, 41, .inl f_t_s)), (a_t_cell, .inl (Y.1, 7, .inl f_t_cell)), (a_t_rows, .inl (Y.1, 341, .inl f_t_rows))])) (QI D R.1 [(a_t, .inr (8, [.ref a_t_s, .ref a_t_past, .ref a_t_kept, .int v_t_isKept, .int v_t_pasts, .ref a_t_pad, .int v_t_typed, .ref a_t_cell, .ref a_t_other, .ref a_t_rows, .int R.2.1, .ref a_t_read, .int v_t_many, .int v_t_spot, .ref a_t_track, .ref a_t_lead, .ref a_t_distance, .ref a_t_line])), (a_t_s, .inl (Y.1, 41, .inl f_t_s)), (a_t_cell, .inl (Y.1, 7, .inl R.2.2.1)), (a_t_rows, .inl (Y.1, 341, .inl R.2.2.2))] (va_A [(a_t, .inr (8, [.ref a_t_s, .ref a_t_past, .ref a_t_kept, .int v_t_isKept, .int v_t_pasts, .ref a_t_pad, .int v_t_typed, .ref a_t_cell, .ref a_t_other, .ref a_t_rows, .int v_t_ends, .ref a_t_read, .int v_t_many, .int v_t_spot, .ref a_t_track, .ref a_t_lead, .ref a_t_distance, .ref a_t_line])), (a_t_s, .inl (Y.1, 41, .inl f_t_s)), (a_t_cell, .inl (Y.1, 7, .inl f_t_cell)), (a_t_rows, .inl (Y.1, 341, .inl f_t_rows))] sz)) 0 0 (va_A [(a_t, .inr (8, [.ref a_t_s, .ref a_t_past, .ref a_t_kept, .int v_t_isKept, .int v_t_pasts, .ref a_t_pad, .int v_t_typed, .ref a_t_cell, .ref a_t_other, .ref a_t_rows, .int v_t_ends, .ref a_t_read, .int v_t_many, .int v_t_spot, .ref a_t_track, .ref a_t_lead, .ref a_t_distance, .ref a_t_line])), (a_t_s, .inl (Y.1, 41, .inl f_t_s)), (a_t_cell, .inl (Y.1, 7, .inl f_t_cell)), (a_t_rows, .inl (Y.1, 341, .inl f_t_rows))] sz) := by
  refine rw_start (Qc := fun A => QI D R.1 [(a_t, .inr (8, [.ref a_t_s, .ref a_t_past, .ref a_t_kept, .int v_t_isKept, .int v_t_pasts, .ref a_t_pad, .int v_t_typed, .ref a_t_cell, .ref a_t_other, .ref a_t_rows, .int R.2.1, .ref a_t_read, .int v_t_many, .int v_t_spot, .ref a_t_track, .ref a_t_lead, .ref a_t_distance, .ref a_t_line])), (a_t_s, .inl (Y.1, 41, .inl f_t_s)), (a_t_cell, .inl (Y.1, 7, .inl R.2.2.1)), (a_t_rows, .inl (Y.1, 341, .inl R.2.2.2))] A) (by decide) (Nat.le_of_ble_eq_true rfl) ?_
  intro p e s m below meth c ls A hx hb hml hr hlocks hown hts hnm hA hP hD hS hE hl
  generalize hargs : List.toArray _ = args at hts ⊢
  have hown : s.vm.findClass RX11 = some m.cls := hown
  have E : EN p m c cX11_bell 3 s args RX11 := ⟨hx, hb, hml, hown, hts⟩
  have hl : lv_has ls 3 [(0, .ref a_t), (1, .int s1), (2, .int s2)] := hl
  generalize hQ : MQ below _ args s 0 0 _ = Q
  unfold f_X11_bell at hf
  refine lv_aload_n hx hb dX11_bell_0 rfl (lv_at hl 0 rfl) ?_
  refine lv_iload_n hx hb dX11_bell_1 rfl (lv_at hl 1 rfl) ?_
  obtain ⟨q1, h2, hf⟩ := bd_s hf
  refine af_oz (run_V (As := [.int s1]) (rest := []) E (c_X11_isRow l D Y a_t a_t_s a_t_past a_t_kept a_t_pad a_t_cell a_t_other a_t_rows a_t_read a_t_track a_t_lead a_t_distance a_t_line v_t_isKept v_t_pasts v_t_typed v_t_ends v_t_many v_t_spot f_t_s s1 q1 h2) qw890 qw892 qw29 qw76 qw893 rfl rfl hd_X11_isRow ⟨Nat.le_of_ble_eq_true rfl, Nat.le_of_ble_eq_true rfl⟩ (pre_roV hP hE [0, 1] rfl (ci := 8) (q0 := 0) rfl rfl) rfl hl.1 rfl (Nat.le_of_ble_eq_true rfl) dX11_bell_2 ⟨Nat.zero_le _, Nat.zero_le _⟩) (fun z3 => ?_)
  refine lv_if_eq (tgt := 16) hx hb dX11_bell_5 (by decide) (fun c4 => ?_) (fun c4 => ?_)
  · have hf := ite_t c4 hf
    refine lv_iconst (v := (-1)) hx hb dX11_bell_16 (by decide) ?_
    obtain rfl := Option.some.inj hf
    subst hQ
    exact en_i hx hb hr hlocks hP hD hS rfl dX11_bell_17
  have hf := ite_f c4 hf
  refine lv_aload_n hx hb dX11_bell_8 rfl (lv_at hl 0 rfl) ?_
  refine lv_iload_n hx hb dX11_bell_9 rfl (lv_at hl 2 rfl) ?_
  obtain ⟨q5, h6, hf⟩ := bd_s hf
  refine af_oz (run_V (As := [.int s2]) (rest := []) E (c_X11_isPlace l D Y a_t a_t_s a_t_past a_t_kept a_t_pad a_t_cell a_t_other a_t_rows a_t_read a_t_track a_t_lead a_t_distance a_t_line v_t_isKept v_t_pasts v_t_typed v_t_ends v_t_many v_t_spot f_t_s s2 q5 h6) qw898 qw900 qw31 qw76 qw901 rfl rfl hd_X11_isPlace ⟨Nat.le_of_ble_eq_true rfl, Nat.le_of_ble_eq_true rfl⟩ (pre_roV hP hE [0, 1] rfl (ci := 8) (q0 := 0) rfl rfl) rfl hl.1 rfl (Nat.le_of_ble_eq_true rfl) dX11_bell_10 ⟨Nat.zero_le _, Nat.zero_le _⟩) (fun z7 => ?_)
  refine lv_if_ne (tgt := 18) hx hb dX11_bell_13 (by decide) (fun c8 => ?_) (fun c8 => ?_)
  · have hf := ite_f c8 hf
    refine lv_aload_n hx hb dX11_bell_18 rfl (lv_at hl 0 rfl) ?_
    refine lv_bipush (v := (-4)) hx hb dX11_bell_19 (by decide) ?_
    obtain ⟨q9, h10, hf⟩ := bd_s hf
    refine af_v0 (wc := [(a_t, .inr (8, [.ref a_t_s, .ref a_t_past, .ref a_t_kept, .int v_t_isKept, .int v_t_pasts, .ref a_t_pad, .int v_t_typed, .ref a_t_cell, .ref a_t_other, .ref a_t_rows, .int v_t_ends, .ref a_t_read, .int v_t_many, .int v_t_spot, .ref a_t_track, .ref a_t_lead, .ref a_t_distance, .ref a_t_line])), (a_t_s, .inl (Y.1, 41, .inl f_t_s)), (a_t_cell, .inl (Y.1, 7, .inl f_t_cell)), (a_t_rows, .inl (Y.1, 341, .inl f_t_rows))]) (wr := []) (wn := [(a_t, .inr (8, [.ref a_t_s, .ref a_t_past, .ref a_t_kept, .int v_t_isKept, .int v_t_pasts, .ref a_t_pad, .int v_t_typed, .ref a_t_cell, .ref a_t_other, .ref a_t_rows, .int q9.1, .ref a_t_read, .int v_t_many, .int v_t_spot, .ref a_t_track, .ref a_t_lead, .ref a_t_distance, .ref a_t_line])), (a_t_s, .inl (Y.1, 41, .inl f_t_s)), (a_t_cell, .inl (Y.1, 7, .inl q9.2.1)), (a_t_rows, .inl (Y.1, 341, .inl q9.2.2))]) (run_V (As := [.int (-4)]) (rest := []) E (c_X11_ringsAll l D Y a_t a_t_s a_t_past a_t_kept a_t_pad a_t_cell a_t_other a_t_rows a_t_read a_t_track a_t_lead a_t_distance a_t_line v_t_isKept v_t_pasts v_t_typed v_t_ends v_t_many v_t_spot f_t_s f_t_cell f_t_rows (-4) s.heap.size q9 h10) qw902 qw904 qw32 qw76 qw905 rfl rfl hd_X11_ringsAll ⟨Nat.le_of_ble_eq_true rfl, Nat.le_of_ble_eq_true rfl⟩ (pre_rwV hP hD hE [0, 1, 2, 3] rfl (by decide) rfl (ci := 8) (q0 := 0) rfl rfl) rfl hl.1 rfl (Nat.le_of_ble_eq_true rfl) dX11_bell_21 ⟨Nat.zero_le _, Nat.zero_le _⟩) hP hD hS hA [0, 1, 2, 3] [] [0, 1, 2, 3] rfl rfl (by decide) (by decide) rfl rfl (by decide) (fun H locs  hP hD hS => ?_)
    refine lv_aload_n hx hb dX11_bell_24 rfl (lv_at hl 0 rfl) ?_
    refine lv_aload_n hx hb dX11_bell_25 rfl (lv_at hl 0 rfl) ?_
    refine va_get (D := D) (ci := 8) (v := .ref a_t_rows) (C := RX11) (T := TX11) (N := 18) hx hb hts inX11 hown hE.1 hP 0 rfl rfl 9 (by decide) (hts _ qw770) (fun _ h9 => h9) rfl dX11_bell_26 ?_
    refine lv_iload_n hx hb dX11_bell_29 rfl (lv_at hl 1 rfl) ?_
    obtain ⟨g11, hf⟩ := gd_s hf
    refine va_iald hx hb hE.1 hP 3 0 rfl rfl (inb_in g11) dX11_bell_30 ?_
    obtain ⟨q12, h13, hf⟩ := bd_s hf
    refine af_v0 (wc := [(a_t, .inr (8, [.ref a_t_s, .ref a_t_past, .ref a_t_kept, .int v_t_isKept, .int v_t_pasts, .ref a_t_pad, .int v_t_typed, .ref a_t_cell, .ref a_t_other, .ref a_t_rows, .int q9.1, .ref a_t_read, .int v_t_many, .int v_t_spot, .ref a_t_track, .ref a_t_lead, .ref a_t_distance, .ref a_t_line])), (a_t_s, .inl (Y.1, 41, .inl f_t_s)), (a_t_cell, .inl (Y.1, 7, .inl q9.2.1))]) (wr := [(a_t_rows, .inl (Y.1, 341, .inl q9.2.2))]) (wn := [(a_t, .inr (8, [.ref a_t_s, .ref a_t_past, .ref a_t_kept, .int v_t_isKept, .int v_t_pasts, .ref a_t_pad, .int v_t_typed, .ref a_t_cell, .ref a_t_other, .ref a_t_rows, .int q9.1, .ref a_t_read, .int v_t_many, .int v_t_spot, .ref a_t_track, .ref a_t_lead, .ref a_t_distance, .ref a_t_line])), (a_t_s, .inl (Y.1, 41, .inl f_t_s)), (a_t_cell, .inl (Y.1, 7, .inl q12)), (a_t_rows, .inl (Y.1, 341, .inl q9.2.2))]) (run_V (As := [.int (q9.2.2 s1.toNatClampNeg)]) (rest := []) E (c_X11_unrank l D Y a_t a_t_s a_t_past a_t_kept a_t_pad a_t_cell a_t_other a_t_rows a_t_read a_t_track a_t_lead a_t_distance a_t_line v_t_isKept v_t_pasts v_t_typed q9.1 v_t_many v_t_spot f_t_s q9.2.1 (q9.2.2 s1.toNatClampNeg) H.size q12 h13) qw926 qw928 qw38 qw76 qw929 rfl rfl hd_X11_unrank ⟨Nat.le_of_ble_eq_true rfl, Nat.le_of_ble_eq_true rfl⟩ (pre_rwV hP hD hE [0, 1, 2] rfl (by decide) rfl (ci := 8) (q0 := 0) rfl rfl) rfl hl.1 rfl (Nat.le_of_ble_eq_true rfl) dX11_bell_31 ⟨Nat.zero_le _, Nat.zero_le _⟩) hP hD hS hA [0, 1, 2] [3] [1, 2, 3, 0] rfl rfl (by decide) (by decide) rfl rfl (by decide) (fun H locs  hP hD hS => ?_)
    refine lv_aload_n hx hb dX11_bell_34 rfl (lv_at hl 0 rfl) ?_
    refine va_get (D := D) (ci := 8) (v := .ref a_t_cell) (C := RX11) (T := TX11) (N := 18) hx hb hts inX11 hown hE.1 hP 0 rfl rfl 7 (by decide) (hts _ qw768) (fun _ h9 => h9) rfl dX11_bell_35 ?_
    refine lv_iload_n hx hb dX11_bell_38 rfl (lv_at hl 2 rfl) ?_
    refine lv_iconst (v := 1) hx hb dX11_bell_39 (by decide) ?_
    refine lv_isub hx hb dX11_bell_40 ?_
    obtain ⟨g14, hf⟩ := gd_s hf
    refine va_iald hx hb hE.1 hP 2 0 rfl rfl (inb_in g14) dX11_bell_41 ?_
    refine lv_iconst (v := 1) hx hb dX11_bell_42 (by decide) ?_
    refine lv_iadd hx hb dX11_bell_43 ?_
    obtain rfl := Option.some.inj hf
    subst hQ
    exact en_i hx hb hr hlocks hP hD hS rfl dX11_bell_44
  have hf := ite_t c8 hf
  refine lv_iconst (v := (-1)) hx hb dX11_bell_16 (by decide) ?_
  obtain rfl := Option.some.inj hf
  subst hQ
  exact en_i hx hb hr hlocks hP hD hS rfl dX11_bell_17

def f_X11_change (s1 : Int32) (s2 : Int32) (f_t_s : Nat → Int32) : Option (Int32) :=
  (if (f_X11_in s1 (-1) ((f_t_s (2 : Int32).toNatClampNeg) - 1)) = 0 then some (-1) else (if (0 : Int32) ≤ s2 then (if (f_t_s (1 : Int32).toNatClampNeg) ≤ s2 then some (-4) else (if (0 : Int32) ≤ s1 then gd (inb ((25 : Int32) + s1) 41) (bd (f_X11_changeOf (f_t_s ((25 : Int32) + s1).toNatClampNeg) s2 f_t_s) (fun q7 => some q7)) else bd (f_X11_changeOf 0 s2 f_t_s) (fun q9 => some q9))) else some (-1)))
abbrev rm_X11_change : Room := { frames := 2, cells := 0, slots := 0, locals := 46 }
set_option maxHeartbeats 4000000 in
set_option maxRecDepth 100000 in
theorem c_X11_change (l : Launch) (D : va_G) (Y : ClassId × ClassId × ClassId) (a_t a_t_s a_t_past a_t_kept a_t_pad a_t_cell a_t_other a_t_rows a_t_read a_t_track a_t_lead a_t_distance a_t_line : Nat) (v_t_isKept : Int32) (v_t_pasts : Int32) (v_t_typed : Int32) (v_t_ends : Int32) (v_t_many : Int32) (v_t_spot : Int32) (f_t_s : Nat → Int32) (s1 : Int32) (s2 : Int32) (R : Int32) (hf : f_X11_change s1 s2 f_t_s = some R) : Met l yX11_change (ws_ yX11_change cX11_change 3 (some .int)) rm_X11_change (va_Pc [.ref a_t, .int s1, .int s2] (RO D Y [(a_t, .inr (8, [.ref a_t_s, .ref a_t_past, .ref a_t_kept, .int v_t_isKept, .int v_t_pasts, .ref a_t_pad, .int v_t_typed, .ref a_t_cell, .ref a_t_other, .ref a_t_rows, .int v_t_ends, .ref a_t_read, .int v_t_many, .int v_t_spot, .ref a_t_track, .ref a_t_lead, .ref a_t_distance, .ref a_t_line])), (a_t_s, .inl (Y.1, 41, .inl f_t_s))])) (OI R) 0 0 (fun _ => False) := by
  refine ro_start (by decide) (Nat.le_of_ble_eq_true rfl) ?_
  intro p e s m below meth c ls hx hb hml hr hlocks hown hts hP hE hl
  generalize hargs : List.toArray _ = args at hts ⊢
  have hown : s.vm.findClass RX11 = some m.cls := hown
  have E : EN p m c cX11_change 3 s args RX11 := ⟨hx, hb, hml, hown, hts⟩
  have hl : lv_has ls 3 [(0, .ref a_t), (1, .int s1), (2, .int s2)] := hl
  generalize hQ : MQ below _ args s 0 0 _ = Q
  unfold f_X11_change at hf
  refine lv_iload_n hx hb dX11_change_0 rfl (lv_at hl 1 rfl) ?_
  refine lv_iconst (v := (-1)) hx hb dX11_change_1 (by decide) ?_
  refine lv_aload_n hx hb dX11_change_2 rfl (lv_at hl 0 rfl) ?_
  refine va_get (D := D) (ci := 8) (v := .ref a_t_s) (C := RX11) (T := TX11) (N := 18) hx hb hts inX11 hown hE.1 hP 0 rfl rfl 0 (by decide) (hts _ qw761) (fun _ h9 => h9) rfl dX11_change_3 ?_
  refine lv_iconst (v := 2) hx hb dX11_change_6 (by decide) ?_
  refine va_iald hx hb hE.1 hP 1 0 rfl rfl (inb_in (by decide)) dX11_change_7 ?_
  refine lv_iconst (v := 1) hx hb dX11_change_8 (by decide) ?_
  refine lv_isub hx hb dX11_change_9 ?_
  refine af_oz (run_S (As := [.int s1, .int (-1), .int ((f_t_s (2 : Int32).toNatClampNeg) - 1)]) (rest := []) E (c_X11_in l D Y s1 (-1) ((f_t_s (2 : Int32).toNatClampNeg) - 1) (f_X11_in s1 (-1) ((f_t_s (2 : Int32).toNatClampNeg) - 1)) rfl) qw820 qw821 qw76 qw822 rfl rfl hd_X11_in ⟨Nat.le_of_ble_eq_true rfl, Nat.le_of_ble_eq_true rfl⟩ (pre_roS hP hE [] rfl) rfl hl.1 rfl (Nat.le_of_ble_eq_true rfl) dX11_change_10 ⟨Nat.zero_le _, Nat.zero_le _⟩) (fun z1 => ?_)
  refine lv_if_eq (tgt := 20) hx hb dX11_change_13 (by decide) (fun c2 => ?_) (fun c2 => ?_)
  · have hf := ite_t c2 hf
    refine lv_iconst (v := (-1)) hx hb dX11_change_20 (by decide) ?_
    obtain rfl := Option.some.inj hf
    subst hQ
    exact en_oi hx hb hr hlocks rfl dX11_change_21
  have hf := ite_f c2 hf
  refine lv_iload_n hx hb dX11_change_16 rfl (lv_at hl 2 rfl) ?_
  refine lv_if_ge (tgt := 22) hx hb dX11_change_17 (by decide) (fun c3 => ?_) (fun c3 => ?_)
  · have hf := ite_t c3 hf
    refine lv_iload_n hx hb dX11_change_22 rfl (lv_at hl 2 rfl) ?_
    refine lv_aload_n hx hb dX11_change_23 rfl (lv_at hl 0 rfl) ?_
    refine va_get (D := D) (ci := 8) (v := .ref a_t_s) (C := RX11) (T := TX11) (N := 18) hx hb hts inX11 hown hE.1 hP 0 rfl rfl 0 (by decide) (hts _ qw761) (fun _ h9 => h9) rfl dX11_change_24 ?_
    refine lv_iconst (v := 1) hx hb dX11_change_27 (by decide) ?_
    refine va_iald hx hb hE.1 hP 1 0 rfl rfl (inb_in (by decide)) dX11_change_28 ?_
    refine lv_icmp_ge (tgt := 57) hx hb dX11_change_29 (by decide) (fun c4 => ?_) (fun c4 => ?_)
    · have hf := ite_t c4 hf
      refine lv_bipush (v := (-4)) hx hb dX11_change_57 (by decide) ?_
      obtain rfl := Option.some.inj hf
      subst hQ
      exact en_oi hx hb hr hlocks rfl dX11_change_59
    have hf := ite_f c4 hf
    refine lv_aload_n hx hb dX11_change_32 rfl (lv_at hl 0 rfl) ?_
    refine lv_iload_n hx hb dX11_change_33 rfl (lv_at hl 1 rfl) ?_
    refine lv_if_ge (tgt := 41) hx hb dX11_change_34 (by decide) (fun c5 => ?_) (fun c5 => ?_)
    · have hf := ite_t c5 hf
      refine lv_aload_n hx hb dX11_change_41 rfl (lv_at hl 0 rfl) ?_
      refine va_get (D := D) (ci := 8) (v := .ref a_t_s) (C := RX11) (T := TX11) (N := 18) hx hb hts inX11 hown hE.1 hP 0 rfl rfl 0 (by decide) (hts _ qw761) (fun _ h9 => h9) rfl dX11_change_42 ?_
      refine lv_bipush (v := 25) hx hb dX11_change_45 (by decide) ?_
      refine lv_iload_n hx hb dX11_change_47 rfl (lv_at hl 1 rfl) ?_
      refine lv_iadd hx hb dX11_change_48 ?_
      obtain ⟨g6, hf⟩ := gd_s hf
      refine va_iald hx hb hE.1 hP 1 0 rfl rfl (inb_in g6) dX11_change_49 ?_
      refine lv_iload_n hx hb dX11_change_50 rfl (lv_at hl 2 rfl) ?_
      obtain ⟨q7, h8, hf⟩ := bd_s hf
      refine af_oi (run_V (As := [.int (f_t_s ((25 : Int32) + s1).toNatClampNeg), .int s2]) (rest := []) E (c_X11_changeOf l D Y a_t a_t_s a_t_past a_t_kept a_t_pad a_t_cell a_t_other a_t_rows a_t_read a_t_track a_t_lead a_t_distance a_t_line v_t_isKept v_t_pasts v_t_typed v_t_ends v_t_many v_t_spot f_t_s (f_t_s ((25 : Int32) + s1).toNatClampNeg) s2 q7 h8) qw914 qw916 qw35 qw76 qw917 rfl rfl hd_X11_changeOf ⟨Nat.le_of_ble_eq_true rfl, Nat.le_of_ble_eq_true rfl⟩ (pre_roV hP hE [0, 1] rfl (ci := 8) (q0 := 0) rfl rfl) rfl hl.1 rfl (Nat.le_of_ble_eq_true rfl) dX11_change_51 ⟨Nat.zero_le _, Nat.zero_le _⟩) ?_
      refine lv_goto (tgt := 59) hx hb dX11_change_54 (by decide) ?_
      obtain rfl := Option.some.inj hf
      subst hQ
      exact en_oi hx hb hr hlocks rfl dX11_change_59
    have hf := ite_f c5 hf
    refine lv_iconst (v := 0) hx hb dX11_change_37 (by decide) ?_
    refine lv_goto (tgt := 50) hx hb dX11_change_38 (by decide) ?_
    refine lv_iload_n hx hb dX11_change_50 rfl (lv_at hl 2 rfl) ?_
    obtain ⟨q9, h10, hf⟩ := bd_s hf
    refine af_oi (run_V (As := [.int 0, .int s2]) (rest := []) E (c_X11_changeOf l D Y a_t a_t_s a_t_past a_t_kept a_t_pad a_t_cell a_t_other a_t_rows a_t_read a_t_track a_t_lead a_t_distance a_t_line v_t_isKept v_t_pasts v_t_typed v_t_ends v_t_many v_t_spot f_t_s 0 s2 q9 h10) qw914 qw916 qw35 qw76 qw917 rfl rfl hd_X11_changeOf ⟨Nat.le_of_ble_eq_true rfl, Nat.le_of_ble_eq_true rfl⟩ (pre_roV hP hE [0, 1] rfl (ci := 8) (q0 := 0) rfl rfl) rfl hl.1 rfl (Nat.le_of_ble_eq_true rfl) dX11_change_51 ⟨Nat.zero_le _, Nat.zero_le _⟩) ?_
    refine lv_goto (tgt := 59) hx hb dX11_change_54 (by decide) ?_
    obtain rfl := Option.some.inj hf
    subst hQ
    exact en_oi hx hb hr hlocks rfl dX11_change_59
  have hf := ite_f c3 hf
  refine lv_iconst (v := (-1)) hx hb dX11_change_20 (by decide) ?_
  obtain rfl := Option.some.inj hf
  subst hQ
  exact en_oi hx hb hr hlocks rfl dX11_change_21

def f_X11_signByPairs_L18 (k : Int32 → Int32 → Option (Int32)) (s2 : Int32) (f_t_s : Nat → Int32) (f_t_cell : Nat → Int32) : Nat → Int32 → Int32 → Option (Int32)
  | 0, _, _ => none
  | n + 1, s1, s3 => (if (f_t_s (0 : Int32).toNatClampNeg) ≤ s3 then (k s1 s3) else gd (inb s3 7) (gd (inb s2 7) (nm (if (f_t_cell s2.toNatClampNeg) ≤ (f_t_cell s3.toNatClampNeg) then (0 : Int32) else (1 : Int32)) (fun (w6 : Int32) => nm (s1 + w6) (fun (x7 : Int32) => (f_X11_signByPairs_L18 k s2 f_t_s f_t_cell n x7 (s3 + 1)))))))
def f_X11_signByPairs_L4 (k : Int32 → Int32 → Option (Int32)) (f_t_s : Nat → Int32) (f_t_cell : Nat → Int32) : Nat → Int32 → Int32 → Option (Int32)
  | 0, _, _ => none
  | n + 1, s1, s2 => (if (f_t_s (0 : Int32).toNatClampNeg) ≤ s2 then (k s1 s2) else nm (s2 + 1) (fun (x2 : Int32) => (f_X11_signByPairs_L18 (fun (y9 : Int32) (y10 : Int32) => (f_X11_signByPairs_L4 k f_t_s f_t_cell n y9 (s2 + 1))) s2 f_t_s f_t_cell fu s1 x2)))
def f_X11_signByPairs (f_t_s : Nat → Int32) (f_t_cell : Nat → Int32) : Option (Int32) :=
  (f_X11_signByPairs_L4 (fun (y11 : Int32) (y12 : Int32) => some (y11 - y11 / 2 * 2)) f_t_s f_t_cell fu 0 0)
abbrev rm_X11_signByPairs : Room := { frames := 1, cells := 0, slots := 0, locals := 24 }
set_option maxHeartbeats 4000000 in
set_option maxRecDepth 100000 in
theorem c_X11_signByPairs (l : Launch) (D : va_G) (Y : ClassId × ClassId × ClassId) (a_t a_t_s a_t_past a_t_kept a_t_pad a_t_cell a_t_other a_t_rows a_t_read a_t_track a_t_lead a_t_distance a_t_line : Nat) (v_t_isKept : Int32) (v_t_pasts : Int32) (v_t_typed : Int32) (v_t_ends : Int32) (v_t_many : Int32) (v_t_spot : Int32) (f_t_s : Nat → Int32) (f_t_cell : Nat → Int32) (R : Int32) (hf : f_X11_signByPairs f_t_s f_t_cell = some R) : Met l yX11_signByPairs (ws_ yX11_signByPairs cX11_signByPairs 4 (some .int)) rm_X11_signByPairs (va_Pc [.ref a_t] (RO D Y [(a_t, .inr (8, [.ref a_t_s, .ref a_t_past, .ref a_t_kept, .int v_t_isKept, .int v_t_pasts, .ref a_t_pad, .int v_t_typed, .ref a_t_cell, .ref a_t_other, .ref a_t_rows, .int v_t_ends, .ref a_t_read, .int v_t_many, .int v_t_spot, .ref a_t_track, .ref a_t_lead, .ref a_t_distance, .ref a_t_line])), (a_t_s, .inl (Y.1, 41, .inl f_t_s)), (a_t_cell, .inl (Y.1, 7, .inl f_t_cell))])) (OI R) 0 0 (fun _ => False) := by
  refine ro_start (by decide) (Nat.le_of_ble_eq_true rfl) ?_
  intro p e s m below meth c ls hx hb hml hr hlocks hown hts hP hE hl
  generalize hargs : List.toArray _ = args at hts ⊢
  have hown : s.vm.findClass RX11 = some m.cls := hown
  have E : EN p m c cX11_signByPairs 4 s args RX11 := ⟨hx, hb, hml, hown, hts⟩
  have hl : lv_has ls 4 [(0, .ref a_t)] := hl
  generalize hQ : MQ below _ args s 0 0 _ = Q
  unfold f_X11_signByPairs at hf
  have L18 : ∀ (n : Nat) (k : Int32 → Int32 → Option (Int32)) (s2 : Int32) (s1 : Int32) (s3 : Int32) (ls : Array Slot), f_X11_signByPairs_L18 k s2 f_t_s f_t_cell n s1 s3 = some R → lv_has ls 4 [(0, .ref a_t), (1, .int s1), (2, .int s2), (3, .int s3)] → (∀ (y_s1 : Int32) (y_s3 : Int32) (ls : Array Slot), k y_s1 y_s3 = some R → lv_has ls 4 [(0, .ref a_t), (1, .int y_s1), (2, .int s2)] → W p l e rm_X11_signByPairs s m args below meth c s.heap [] 0 0 Q (F0 m 57 ls [])) → W p l e rm_X11_signByPairs s m args below meth c s.heap [] 0 0 Q (F0 m 18 ls []) := by
    intro n
    induction n with
    | zero =>
      intro k s2 s1 s3 ls hf
      cases hf
    | succ n ih =>
      intro k s2 s1 s3 ls hf hl hk
      unfold f_X11_signByPairs_L18 at hf
      refine lv_iload_n hx hb dX11_signByPairs_18 rfl (lv_at hl 3 rfl) ?_
      refine lv_aload_n hx hb dX11_signByPairs_19 rfl (lv_at hl 0 rfl) ?_
      refine va_get (D := D) (ci := 8) (v := .ref a_t_s) (C := RX11) (T := TX11) (N := 18) hx hb hts inX11 hown hE.1 hP 0 rfl rfl 0 (by decide) (hts _ qw761) (fun _ h9 => h9) rfl dX11_signByPairs_20 ?_
      refine lv_iconst (v := 0) hx hb dX11_signByPairs_23 (by decide) ?_
      refine va_iald hx hb hE.1 hP 1 0 rfl rfl (inb_in (by decide)) dX11_signByPairs_24 ?_
      refine lv_icmp_ge (tgt := 57) hx hb dX11_signByPairs_25 (by decide) (fun c3 => ?_) (fun c3 => ?_)
      · have hf := ite_t c3 hf
        exact hk _ _ _ hf (lv_sub hl [0, 1, 2] rfl)
      have hf := ite_f c3 hf
      refine lv_iload_n hx hb dX11_signByPairs_28 rfl (lv_at hl 1 rfl) ?_
      refine lv_aload_n hx hb dX11_signByPairs_29 rfl (lv_at hl 0 rfl) ?_
      refine va_get (D := D) (ci := 8) (v := .ref a_t_cell) (C := RX11) (T := TX11) (N := 18) hx hb hts inX11 hown hE.1 hP 0 rfl rfl 7 (by decide) (hts _ qw768) (fun _ h9 => h9) rfl dX11_signByPairs_30 ?_
      refine lv_iload_n hx hb dX11_signByPairs_33 rfl (lv_at hl 3 rfl) ?_
      obtain ⟨g4, hf⟩ := gd_s hf
      refine va_iald hx hb hE.1 hP 2 0 rfl rfl (inb_in g4) dX11_signByPairs_34 ?_
      refine lv_aload_n hx hb dX11_signByPairs_35 rfl (lv_at hl 0 rfl) ?_
      refine va_get (D := D) (ci := 8) (v := .ref a_t_cell) (C := RX11) (T := TX11) (N := 18) hx hb hts inX11 hown hE.1 hP 0 rfl rfl 7 (by decide) (hts _ qw768) (fun _ h9 => h9) rfl dX11_signByPairs_36 ?_
      refine lv_iload_n hx hb dX11_signByPairs_39 rfl (lv_at hl 2 rfl) ?_
      obtain ⟨g5, hf⟩ := gd_s hf
      refine va_iald hx hb hE.1 hP 2 0 rfl rfl (inb_in g5) dX11_signByPairs_40 ?_
      refine mg (P := fun (w6 : Int32) => ∀ (ls : Array Slot), lv_has ls 4 [(0, .ref a_t), (2, .int s2), (3, .int s3)] → W p l e rm_X11_signByPairs s m args below meth c s.heap [] 0 0 Q (F0 m 49 ls [.int w6, .int s1])) hf (fun w6 hf ls hl => ?_) (fun hJ => ?_)
      · refine lv_iadd hx hb dX11_signByPairs_49 ?_
        refine nm_W hf (fun x7 hf => ?_)
        refine lv_istore_n (lv' := [(1, .int x7), (0, .ref a_t), (2, .int s2), (3, .int s3)]) hx hb dX11_signByPairs_50 rfl hl (by decide) rfl (fun ls hl => ?_)
        refine lv_iinc (v := (s3 + 1)) (lv' := [(3, .int (s3 + 1)), (1, .int x7), (0, .ref a_t), (2, .int s2)]) hx hb dX11_signByPairs_51 hl (k := 3) rfl rfl (by decide) rfl (fun ls hl => ?_)
        refine lv_goto (tgt := 18) hx hb dX11_signByPairs_54 (by decide) ?_
        exact ih _ _ _ _ _ hf (lv_sub hl [2, 1, 3, 0] rfl) hk
      refine lv_icmp_ge (tgt := 48) hx hb dX11_signByPairs_41 (by decide) (fun c8 => ?_) (fun c8 => ?_)
      · have hf := nmi_t c8 hf
        refine lv_iconst (v := 0) hx hb dX11_signByPairs_48 (by decide) ?_
        exact hJ _ (nm_b hf) _ (lv_sub hl [0, 2, 3] rfl)
      have hf := nmi_f c8 hf
      refine lv_iconst (v := 1) hx hb dX11_signByPairs_44 (by decide) ?_
      refine lv_goto (tgt := 49) hx hb dX11_signByPairs_45 (by decide) ?_
      exact hJ _ (nm_b hf) _ (lv_sub hl [0, 2, 3] rfl)
  have L4 : ∀ (n : Nat) (k : Int32 → Int32 → Option (Int32)) (s1 : Int32) (s2 : Int32) (ls : Array Slot), f_X11_signByPairs_L4 k f_t_s f_t_cell n s1 s2 = some R → lv_has ls 4 [(0, .ref a_t), (1, .int s1), (2, .int s2)] → (∀ (y_s1 : Int32) (y_s2 : Int32) (ls : Array Slot), k y_s1 y_s2 = some R → lv_has ls 4 [(1, .int y_s1)] → W p l e rm_X11_signByPairs s m args below meth c s.heap [] 0 0 Q (F0 m 63 ls [])) → W p l e rm_X11_signByPairs s m args below meth c s.heap [] 0 0 Q (F0 m 4 ls []) := by
    intro n
    induction n with
    | zero =>
      intro k s1 s2 ls hf
      cases hf
    | succ n ih =>
      intro k s1 s2 ls hf hl hk
      unfold f_X11_signByPairs_L4 at hf
      refine lv_iload_n hx hb dX11_signByPairs_4 rfl (lv_at hl 2 rfl) ?_
      refine lv_aload_n hx hb dX11_signByPairs_5 rfl (lv_at hl 0 rfl) ?_
      refine va_get (D := D) (ci := 8) (v := .ref a_t_s) (C := RX11) (T := TX11) (N := 18) hx hb hts inX11 hown hE.1 hP 0 rfl rfl 0 (by decide) (hts _ qw761) (fun _ h9 => h9) rfl dX11_signByPairs_6 ?_
      refine lv_iconst (v := 0) hx hb dX11_signByPairs_9 (by decide) ?_
      refine va_iald hx hb hE.1 hP 1 0 rfl rfl (inb_in (by decide)) dX11_signByPairs_10 ?_
      refine lv_icmp_ge (tgt := 63) hx hb dX11_signByPairs_11 (by decide) (fun c1 => ?_) (fun c1 => ?_)
      · have hf := ite_t c1 hf
        exact hk _ _ _ hf (lv_sub hl [1] rfl)
      have hf := ite_f c1 hf
      refine lv_iload_n hx hb dX11_signByPairs_14 rfl (lv_at hl 2 rfl) ?_
      refine lv_iconst (v := 1) hx hb dX11_signByPairs_15 (by decide) ?_
      refine lv_iadd hx hb dX11_signByPairs_16 ?_
      refine nm_W hf (fun x2 hf => ?_)
      refine lv_istore_n (lv' := [(3, .int x2), (0, .ref a_t), (1, .int s1), (2, .int s2)]) hx hb dX11_signByPairs_17 rfl hl (by decide) rfl (fun ls hl => ?_)
      refine L18 _ _ _ _ _ _ hf (lv_sub hl [1, 2, 3, 0] rfl) ?_
      intro y9 y10 ls hf hl
      refine lv_iinc (v := (s2 + 1)) (lv' := [(2, .int (s2 + 1)), (0, .ref a_t), (1, .int y9)]) hx hb dX11_signByPairs_57 hl (k := 2) rfl rfl (by decide) rfl (fun ls hl => ?_)
      refine lv_goto (tgt := 4) hx hb dX11_signByPairs_60 (by decide) ?_
      exact ih _ _ _ _ hf (lv_sub hl [1, 2, 0] rfl) hk
  refine lv_iconst (v := 0) hx hb dX11_signByPairs_0 (by decide) ?_
  refine lv_istore_n (lv' := [(1, .int 0), (0, .ref a_t)]) hx hb dX11_signByPairs_1 rfl hl (by decide) rfl (fun ls hl => ?_)
  refine lv_iconst (v := 0) hx hb dX11_signByPairs_2 (by decide) ?_
  refine lv_istore_n (lv' := [(2, .int 0), (1, .int 0), (0, .ref a_t)]) hx hb dX11_signByPairs_3 rfl hl (by decide) rfl (fun ls hl => ?_)
  refine L4 _ _ _ _ _ hf (lv_sub hl [2, 1, 0] rfl) ?_
  intro y11 y12 ls hf hl
  refine lv_iload_n hx hb dX11_signByPairs_63 rfl (lv_at hl 0 rfl) ?_
  refine lv_iconst (v := 2) hx hb dX11_signByPairs_64 (by decide) ?_
  refine lv_irem hx hb dX11_signByPairs_65 (by decide) ?_
  obtain rfl := Option.some.inj hf
  subst hQ
  exact en_oi hx hb hr hlocks rfl dX11_signByPairs_66

def f_X11_signByRings_L24 (k : Int32 → Int32 → Option (Int32)) (s1 : Int32) (s2 : Int32) (f_t_s : Nat → Int32) (f_t_cell : Nat → Int32) : Nat → Int32 → Int32 → Option (Int32)
  | 0, _, _ => none
  | n + 1, s3, s4 => (if s4 = s2 then (k s3 s4) else nm (if s3 ≤ s4 then s3 else s4) (fun (w5 : Int32) => gd (inb s4 7) (nm (f_t_cell s4.toNatClampNeg) (fun (x7 : Int32) => (f_X11_signByRings_L24 k s1 s2 f_t_s f_t_cell n w5 x7)))))
def f_X11_signByRings_L4 (k : Int32 → Int32 → Option (Int32)) (f_t_s : Nat → Int32) (f_t_cell : Nat → Int32) : Nat → Int32 → Int32 → Option (Int32)
  | 0, _, _ => none
  | n + 1, s1, s2 => (if (f_t_s (0 : Int32).toNatClampNeg) ≤ s2 then (k s1 s2) else gd (inb s2 7) (nm (f_t_cell s2.toNatClampNeg) (fun (x3 : Int32) => (f_X11_signByRings_L24 (fun (y9 : Int32) (y10 : Int32) => nm (if y9 = s2 then (1 : Int32) else (0 : Int32)) (fun (w11 : Int32) => nm (s1 + w11) (fun (x12 : Int32) => (f_X11_signByRings_L4 k f_t_s f_t_cell n x12 (s2 + 1))))) s1 s2 f_t_s f_t_cell fu s2 x3))))
def f_X11_signByRings (f_t_s : Nat → Int32) (f_t_cell : Nat → Int32) : Option (Int32) :=
  (f_X11_signByRings_L4 (fun (y14 : Int32) (y15 : Int32) => some (((f_t_s (0 : Int32).toNatClampNeg) - y14) - ((f_t_s (0 : Int32).toNatClampNeg) - y14) / 2 * 2)) f_t_s f_t_cell fu 0 0)
abbrev rm_X11_signByRings : Room := { frames := 1, cells := 0, slots := 0, locals := 24 }
set_option maxHeartbeats 4000000 in
set_option maxRecDepth 100000 in
theorem c_X11_signByRings (l : Launch) (D : va_G) (Y : ClassId × ClassId × ClassId) (a_t a_t_s a_t_past a_t_kept a_t_pad a_t_cell a_t_other a_t_rows a_t_read a_t_track a_t_lead a_t_distance a_t_line : Nat) (v_t_isKept : Int32) (v_t_pasts : Int32) (v_t_typed : Int32) (v_t_ends : Int32) (v_t_many : Int32) (v_t_spot : Int32) (f_t_s : Nat → Int32) (f_t_cell : Nat → Int32) (R : Int32) (hf : f_X11_signByRings f_t_s f_t_cell = some R) : Met l yX11_signByRings (ws_ yX11_signByRings cX11_signByRings 5 (some .int)) rm_X11_signByRings (va_Pc [.ref a_t] (RO D Y [(a_t, .inr (8, [.ref a_t_s, .ref a_t_past, .ref a_t_kept, .int v_t_isKept, .int v_t_pasts, .ref a_t_pad, .int v_t_typed, .ref a_t_cell, .ref a_t_other, .ref a_t_rows, .int v_t_ends, .ref a_t_read, .int v_t_many, .int v_t_spot, .ref a_t_track, .ref a_t_lead, .ref a_t_distance, .ref a_t_line])), (a_t_s, .inl (Y.1, 41, .inl f_t_s)), (a_t_cell, .inl (Y.1, 7, .inl f_t_cell))])) (OI R) 0 0 (fun _ => False) := by
  refine ro_start (by decide) (Nat.le_of_ble_eq_true rfl) ?_
  intro p e s m below meth c ls hx hb hml hr hlocks hown hts hP hE hl
  generalize hargs : List.toArray _ = args at hts ⊢
  have hown : s.vm.findClass RX11 = some m.cls := hown
  have E : EN p m c cX11_signByRings 5 s args RX11 := ⟨hx, hb, hml, hown, hts⟩
  have hl : lv_has ls 5 [(0, .ref a_t)] := hl
  generalize hQ : MQ below _ args s 0 0 _ = Q
  unfold f_X11_signByRings at hf
  have L24 : ∀ (n : Nat) (k : Int32 → Int32 → Option (Int32)) (s1 : Int32) (s2 : Int32) (s3 : Int32) (s4 : Int32) (ls : Array Slot), f_X11_signByRings_L24 k s1 s2 f_t_s f_t_cell n s3 s4 = some R → lv_has ls 5 [(0, .ref a_t), (1, .int s1), (2, .int s2), (3, .int s3), (4, .int s4)] → (∀ (y_s3 : Int32) (y_s4 : Int32) (ls : Array Slot), k y_s3 y_s4 = some R → lv_has ls 5 [(0, .ref a_t), (1, .int s1), (2, .int s2), (3, .int y_s3)] → W p l e rm_X11_signByRings s m args below meth c s.heap [] 0 0 Q (F0 m 55 ls [])) → W p l e rm_X11_signByRings s m args below meth c s.heap [] 0 0 Q (F0 m 24 ls []) := by
    intro n
    induction n with
    | zero =>
      intro k s1 s2 s3 s4 ls hf
      cases hf
    | succ n ih =>
      intro k s1 s2 s3 s4 ls hf hl hk
      unfold f_X11_signByRings_L24 at hf
      refine lv_iload hx hb dX11_signByRings_24 (lv_at hl 4 rfl) ?_
      refine lv_iload_n hx hb dX11_signByRings_26 rfl (lv_at hl 2 rfl) ?_
      refine lv_icmp_eq (tgt := 55) hx hb dX11_signByRings_27 (by decide) (fun c4 => ?_) (fun c4 => ?_)
      · have hf := ite_t c4 hf
        exact hk _ _ _ hf (lv_sub hl [0, 1, 2, 3] rfl)
      have hf := ite_f c4 hf
      refine lv_iload hx hb dX11_signByRings_30 (lv_at hl 4 rfl) ?_
      refine lv_iload_n hx hb dX11_signByRings_32 rfl (lv_at hl 3 rfl) ?_
      refine mg (P := fun (w5 : Int32) => ∀ (ls : Array Slot), lv_has ls 5 [(0, .ref a_t), (1, .int s1), (2, .int s2), (4, .int s4)] → W p l e rm_X11_signByRings s m args below meth c s.heap [] 0 0 Q (F0 m 42 ls [.int w5])) hf (fun w5 hf ls hl => ?_) (fun hJ => ?_)
      · refine lv_istore_n (lv' := [(3, .int w5), (0, .ref a_t), (1, .int s1), (2, .int s2), (4, .int s4)]) hx hb dX11_signByRings_42 rfl hl (by decide) rfl (fun ls hl => ?_)
        refine lv_aload_n hx hb dX11_signByRings_43 rfl (lv_at hl 1 rfl) ?_
        refine va_get (D := D) (ci := 8) (v := .ref a_t_cell) (C := RX11) (T := TX11) (N := 18) hx hb hts inX11 hown hE.1 hP 0 rfl rfl 7 (by decide) (hts _ qw768) (fun _ h9 => h9) rfl dX11_signByRings_44 ?_
        refine lv_iload hx hb dX11_signByRings_47 (lv_at hl 4 rfl) ?_
        obtain ⟨g6, hf⟩ := gd_s hf
        refine va_iald hx hb hE.1 hP 2 0 rfl rfl (inb_in g6) dX11_signByRings_49 ?_
        refine nm_W hf (fun x7 hf => ?_)
        refine lv_istore (lv' := [(4, .int x7), (3, .int w5), (0, .ref a_t), (1, .int s1), (2, .int s2)]) hx hb dX11_signByRings_50 hl (by decide) rfl (fun ls hl => ?_)
        refine lv_goto (tgt := 24) hx hb dX11_signByRings_52 (by decide) ?_
        exact ih _ _ _ _ _ _ hf (lv_sub hl [2, 3, 4, 1, 0] rfl) hk
      refine lv_icmp_ge (tgt := 41) hx hb dX11_signByRings_33 (by decide) (fun c8 => ?_) (fun c8 => ?_)
      · have hf := nmi_t c8 hf
        refine lv_iload_n hx hb dX11_signByRings_41 rfl (lv_at hl 3 rfl) ?_
        exact hJ _ (nm_b hf) _ (lv_sub hl [0, 1, 2, 4] rfl)
      have hf := nmi_f c8 hf
      refine lv_iload hx hb dX11_signByRings_36 (lv_at hl 4 rfl) ?_
      refine lv_goto (tgt := 42) hx hb dX11_signByRings_38 (by decide) ?_
      exact hJ _ (nm_b hf) _ (lv_sub hl [0, 1, 2, 4] rfl)
  have L4 : ∀ (n : Nat) (k : Int32 → Int32 → Option (Int32)) (s1 : Int32) (s2 : Int32) (ls : Array Slot), f_X11_signByRings_L4 k f_t_s f_t_cell n s1 s2 = some R → lv_has ls 5 [(0, .ref a_t), (1, .int s1), (2, .int s2)] → (∀ (y_s1 : Int32) (y_s2 : Int32) (ls : Array Slot), k y_s1 y_s2 = some R → lv_has ls 5 [(0, .ref a_t), (1, .int y_s1)] → W p l e rm_X11_signByRings s m args below meth c s.heap [] 0 0 Q (F0 m 74 ls [])) → W p l e rm_X11_signByRings s m args below meth c s.heap [] 0 0 Q (F0 m 4 ls []) := by
    intro n
    induction n with
    | zero =>
      intro k s1 s2 ls hf
      cases hf
    | succ n ih =>
      intro k s1 s2 ls hf hl hk
      unfold f_X11_signByRings_L4 at hf
      refine lv_iload_n hx hb dX11_signByRings_4 rfl (lv_at hl 2 rfl) ?_
      refine lv_aload_n hx hb dX11_signByRings_5 rfl (lv_at hl 0 rfl) ?_
      refine va_get (D := D) (ci := 8) (v := .ref a_t_s) (C := RX11) (T := TX11) (N := 18) hx hb hts inX11 hown hE.1 hP 0 rfl rfl 0 (by decide) (hts _ qw761) (fun _ h9 => h9) rfl dX11_signByRings_6 ?_
      refine lv_iconst (v := 0) hx hb dX11_signByRings_9 (by decide) ?_
      refine va_iald hx hb hE.1 hP 1 0 rfl rfl (inb_in (by decide)) dX11_signByRings_10 ?_
      refine lv_icmp_ge (tgt := 74) hx hb dX11_signByRings_11 (by decide) (fun c1 => ?_) (fun c1 => ?_)
      · have hf := ite_t c1 hf
        exact hk _ _ _ hf (lv_sub hl [0, 1] rfl)
      have hf := ite_f c1 hf
      refine lv_iload_n hx hb dX11_signByRings_14 rfl (lv_at hl 2 rfl) ?_
      refine lv_istore_n (lv' := [(3, .int s2), (0, .ref a_t), (1, .int s1), (2, .int s2)]) hx hb dX11_signByRings_15 rfl hl (by decide) rfl (fun ls hl => ?_)
      refine lv_aload_n hx hb dX11_signByRings_16 rfl (lv_at hl 1 rfl) ?_
      refine va_get (D := D) (ci := 8) (v := .ref a_t_cell) (C := RX11) (T := TX11) (N := 18) hx hb hts inX11 hown hE.1 hP 0 rfl rfl 7 (by decide) (hts _ qw768) (fun _ h9 => h9) rfl dX11_signByRings_17 ?_
      refine lv_iload_n hx hb dX11_signByRings_20 rfl (lv_at hl 3 rfl) ?_
      obtain ⟨g2, hf⟩ := gd_s hf
      refine va_iald hx hb hE.1 hP 2 0 rfl rfl (inb_in g2) dX11_signByRings_21 ?_
      refine nm_W hf (fun x3 hf => ?_)
      refine lv_istore (lv' := [(4, .int x3), (3, .int s2), (0, .ref a_t), (1, .int s1), (2, .int s2)]) hx hb dX11_signByRings_22 hl (by decide) rfl (fun ls hl => ?_)
      refine L24 _ _ _ _ _ _ _ hf (lv_sub hl [2, 3, 4, 1, 0] rfl) ?_
      intro y9 y10 ls hf hl
      refine lv_iload_n hx hb dX11_signByRings_55 rfl (lv_at hl 1 rfl) ?_
      refine lv_iload_n hx hb dX11_signByRings_56 rfl (lv_at hl 3 rfl) ?_
      refine lv_iload_n hx hb dX11_signByRings_57 rfl (lv_at hl 2 rfl) ?_
      refine mg (P := fun (w11 : Int32) => ∀ (ls : Array Slot), lv_has ls 5 [(0, .ref a_t), (2, .int s2)] → W p l e rm_X11_signByRings s m args below meth c s.heap [] 0 0 Q (F0 m 66 ls [.int w11, .int s1])) hf (fun w11 hf ls hl => ?_) (fun hJ => ?_)
      · refine lv_iadd hx hb dX11_signByRings_66 ?_
        refine nm_W hf (fun x12 hf => ?_)
        refine lv_istore_n (lv' := [(1, .int x12), (0, .ref a_t), (2, .int s2)]) hx hb dX11_signByRings_67 rfl hl (by decide) rfl (fun ls hl => ?_)
        refine lv_iinc (v := (s2 + 1)) (lv' := [(2, .int (s2 + 1)), (1, .int x12), (0, .ref a_t)]) hx hb dX11_signByRings_68 hl (k := 2) rfl rfl (by decide) rfl (fun ls hl => ?_)
        refine lv_goto (tgt := 4) hx hb dX11_signByRings_71 (by decide) ?_
        exact ih _ _ _ _ hf (lv_sub hl [2, 1, 0] rfl) hk
      refine lv_icmp_ne (tgt := 65) hx hb dX11_signByRings_58 (by decide) (fun c13 => ?_) (fun c13 => ?_)
      · have hf := nmi_f c13 hf
        refine lv_iconst (v := 0) hx hb dX11_signByRings_65 (by decide) ?_
        exact hJ _ (nm_b hf) _ (lv_sub hl [0, 2] rfl)
      have hf := nmi_t c13 hf
      refine lv_iconst (v := 1) hx hb dX11_signByRings_61 (by decide) ?_
      refine lv_goto (tgt := 66) hx hb dX11_signByRings_62 (by decide) ?_
      exact hJ _ (nm_b hf) _ (lv_sub hl [0, 2] rfl)
  refine lv_iconst (v := 0) hx hb dX11_signByRings_0 (by decide) ?_
  refine lv_istore_n (lv' := [(1, .int 0), (0, .ref a_t)]) hx hb dX11_signByRings_1 rfl hl (by decide) rfl (fun ls hl => ?_)
  refine lv_iconst (v := 0) hx hb dX11_signByRings_2 (by decide) ?_
  refine lv_istore_n (lv' := [(2, .int 0), (1, .int 0), (0, .ref a_t)]) hx hb dX11_signByRings_3 rfl hl (by decide) rfl (fun ls hl => ?_)
  refine L4 _ _ _ _ _ hf (lv_sub hl [2, 1, 0] rfl) ?_
  intro y14 y15 ls hf hl
  refine lv_aload_n hx hb dX11_signByRings_74 rfl (lv_at hl 0 rfl) ?_
  refine va_get (D := D) (ci := 8) (v := .ref a_t_s) (C := RX11) (T := TX11) (N := 18) hx hb hts inX11 hown hE.1 hP 0 rfl rfl 0 (by decide) (hts _ qw761) (fun _ h9 => h9) rfl dX11_signByRings_75 ?_
  refine lv_iconst (v := 0) hx hb dX11_signByRings_78 (by decide) ?_
  refine va_iald hx hb hE.1 hP 1 0 rfl rfl (inb_in (by decide)) dX11_signByRings_79 ?_
  refine lv_iload_n hx hb dX11_signByRings_80 rfl (lv_at hl 1 rfl) ?_
  refine lv_isub hx hb dX11_signByRings_81 ?_
  refine lv_iconst (v := 2) hx hb dX11_signByRings_82 (by decide) ?_
  refine lv_irem hx hb dX11_signByRings_83 (by decide) ?_
  obtain rfl := Option.some.inj hf
  subst hQ
  exact en_oi hx hb hr hlocks rfl dX11_signByRings_84

def f_X11_soundsWell (f_t_s : Nat → Int32) (f_t_cell : Nat → Int32) : Option (Int32) :=
  nm (f_t_s (0 : Int32).toNatClampNeg) (fun (x1 : Int32) => gd (inb (x1 - 3) 7) (gd (inb (x1 - 2) 7) ((if (f_t_cell (x1 - 2).toNatClampNeg) ≤ (f_t_cell (x1 - 3).toNatClampNeg) then some 0 else gd (inb (x1 - 1) 7) ((if (f_t_cell (x1 - 1).toNatClampNeg) ≤ (f_t_cell (x1 - 2).toNatClampNeg) then some 0 else some 1))))))
abbrev rm_X11_soundsWell : Room := { frames := 1, cells := 0, slots := 0, locals := 24 }
set_option maxHeartbeats 4000000 in
set_option maxRecDepth 100000 in
theorem c_X11_soundsWell (l : Launch) (D : va_G) (Y : ClassId × ClassId × ClassId) (a_t a_t_s a_t_past a_t_kept a_t_pad a_t_cell a_t_other a_t_rows a_t_read a_t_track a_t_lead a_t_distance a_t_line : Nat) (v_t_isKept : Int32) (v_t_pasts : Int32) (v_t_typed : Int32) (v_t_ends : Int32) (v_t_many : Int32) (v_t_spot : Int32) (f_t_s : Nat → Int32) (f_t_cell : Nat → Int32) (R : Int32) (hf : f_X11_soundsWell f_t_s f_t_cell = some R) : Met l yX11_soundsWell (ws_ yX11_soundsWell cX11_soundsWell 2 (some .boolean)) rm_X11_soundsWell (va_Pc [.ref a_t] (RO D Y [(a_t, .inr (8, [.ref a_t_s, .ref a_t_past, .ref a_t_kept, .int v_t_isKept, .int v_t_pasts, .ref a_t_pad, .int v_t_typed, .ref a_t_cell, .ref a_t_other, .ref a_t_rows, .int v_t_ends, .ref a_t_read, .int v_t_many, .int v_t_spot, .ref a_t_track, .ref a_t_lead, .ref a_t_distance, .ref a_t_line])), (a_t_s, .inl (Y.1, 41, .inl f_t_s)), (a_t_cell, .inl (Y.1, 7, .inl f_t_cell))])) (OZ R) 0 0 (fun _ => False) := by
  refine ro_start (by decide) (Nat.le_of_ble_eq_true rfl) ?_
  intro p e s m below meth c ls hx hb hml hr hlocks hown hts hP hE hl
  generalize hargs : List.toArray _ = args at hts ⊢
  have hown : s.vm.findClass RX11 = some m.cls := hown
  have E : EN p m c cX11_soundsWell 2 s args RX11 := ⟨hx, hb, hml, hown, hts⟩
  have hl : lv_has ls 2 [(0, .ref a_t)] := hl
  generalize hQ : MQ below _ args s 0 0 _ = Q
  unfold f_X11_soundsWell at hf
  refine lv_aload_n hx hb dX11_soundsWell_0 rfl (lv_at hl 0 rfl) ?_
  refine va_get (D := D) (ci := 8) (v := .ref a_t_s) (C := RX11) (T := TX11) (N := 18) hx hb hts inX11 hown hE.1 hP 0 rfl rfl 0 (by decide) (hts _ qw761) (fun _ h9 => h9) rfl dX11_soundsWell_1 ?_
  refine lv_iconst (v := 0) hx hb dX11_soundsWell_4 (by decide) ?_
  refine va_iald hx hb hE.1 hP 1 0 rfl rfl (inb_in (by decide)) dX11_soundsWell_5 ?_
  refine nm_W hf (fun x1 hf => ?_)
  refine lv_istore_n (lv' := [(1, .int x1), (0, .ref a_t)]) hx hb dX11_soundsWell_6 rfl hl (by decide) rfl (fun ls hl => ?_)
  refine lv_aload_n hx hb dX11_soundsWell_7 rfl (lv_at hl 1 rfl) ?_
  refine va_get (D := D) (ci := 8) (v := .ref a_t_cell) (C := RX11) (T := TX11) (N := 18) hx hb hts inX11 hown hE.1 hP 0 rfl rfl 7 (by decide) (hts _ qw768) (fun _ h9 => h9) rfl dX11_soundsWell_8 ?_
  refine lv_iload_n hx hb dX11_soundsWell_11 rfl (lv_at hl 0 rfl) ?_
  refine lv_iconst (v := 3) hx hb dX11_soundsWell_12 (by decide) ?_
  refine lv_isub hx hb dX11_soundsWell_13 ?_
  obtain ⟨g2, hf⟩ := gd_s hf
  refine va_iald hx hb hE.1 hP 2 0 rfl rfl (inb_in g2) dX11_soundsWell_14 ?_
  refine lv_aload_n hx hb dX11_soundsWell_15 rfl (lv_at hl 1 rfl) ?_
  refine va_get (D := D) (ci := 8) (v := .ref a_t_cell) (C := RX11) (T := TX11) (N := 18) hx hb hts inX11 hown hE.1 hP 0 rfl rfl 7 (by decide) (hts _ qw768) (fun _ h9 => h9) rfl dX11_soundsWell_16 ?_
  refine lv_iload_n hx hb dX11_soundsWell_19 rfl (lv_at hl 0 rfl) ?_
  refine lv_iconst (v := 2) hx hb dX11_soundsWell_20 (by decide) ?_
  refine lv_isub hx hb dX11_soundsWell_21 ?_
  obtain ⟨g3, hf⟩ := gd_s hf
  refine va_iald hx hb hE.1 hP 2 0 rfl rfl (inb_in g3) dX11_soundsWell_22 ?_
  refine lv_icmp_ge (tgt := 49) hx hb dX11_soundsWell_23 (by decide) (fun c4 => ?_) (fun c4 => ?_)
  · have hf := ite_t c4 hf
    refine lv_iconst (v := 0) hx hb dX11_soundsWell_49 (by decide) ?_
    obtain rfl := Option.some.inj hf
    subst hQ
    exact en_oz hx hb hr hlocks rfl (Or.inl rfl) dX11_soundsWell_50
  have hf := ite_f c4 hf
  refine lv_aload_n hx hb dX11_soundsWell_26 rfl (lv_at hl 1 rfl) ?_
  refine va_get (D := D) (ci := 8) (v := .ref a_t_cell) (C := RX11) (T := TX11) (N := 18) hx hb hts inX11 hown hE.1 hP 0 rfl rfl 7 (by decide) (hts _ qw768) (fun _ h9 => h9) rfl dX11_soundsWell_27 ?_
  refine lv_iload_n hx hb dX11_soundsWell_30 rfl (lv_at hl 0 rfl) ?_
  refine lv_iconst (v := 2) hx hb dX11_soundsWell_31 (by decide) ?_
  refine lv_isub hx hb dX11_soundsWell_32 ?_
  refine va_iald hx hb hE.1 hP 2 0 rfl rfl (inb_in g3) dX11_soundsWell_33 ?_
  refine lv_aload_n hx hb dX11_soundsWell_34 rfl (lv_at hl 1 rfl) ?_
  refine va_get (D := D) (ci := 8) (v := .ref a_t_cell) (C := RX11) (T := TX11) (N := 18) hx hb hts inX11 hown hE.1 hP 0 rfl rfl 7 (by decide) (hts _ qw768) (fun _ h9 => h9) rfl dX11_soundsWell_35 ?_
  refine lv_iload_n hx hb dX11_soundsWell_38 rfl (lv_at hl 0 rfl) ?_
  refine lv_iconst (v := 1) hx hb dX11_soundsWell_39 (by decide) ?_
  refine lv_isub hx hb dX11_soundsWell_40 ?_
  obtain ⟨g5, hf⟩ := gd_s hf
  refine va_iald hx hb hE.1 hP 2 0 rfl rfl (inb_in g5) dX11_soundsWell_41 ?_
  refine lv_icmp_ge (tgt := 49) hx hb dX11_soundsWell_42 (by decide) (fun c6 => ?_) (fun c6 => ?_)
  · have hf := ite_t c6 hf
    refine lv_iconst (v := 0) hx hb dX11_soundsWell_49 (by decide) ?_
    obtain rfl := Option.some.inj hf
    subst hQ
    exact en_oz hx hb hr hlocks rfl (Or.inl rfl) dX11_soundsWell_50
  have hf := ite_f c6 hf
  refine lv_iconst (v := 1) hx hb dX11_soundsWell_45 (by decide) ?_
  refine lv_goto (tgt := 50) hx hb dX11_soundsWell_46 (by decide) ?_
  obtain rfl := Option.some.inj hf
  subst hQ
  exact en_oz hx hb hr hlocks rfl (Or.inr rfl) dX11_soundsWell_50

def f_X11_atHome_L4 (f_t_s : Nat → Int32) (f_t_cell : Nat → Int32) : Nat → Int32 → Int32 → Option (Int32)
  | 0, _, _ => none
  | n + 1, s1, s2 => (if (f_t_s (0 : Int32).toNatClampNeg) ≤ s2 then some s1 else gd (inb s2 7) (nm (if (f_t_cell s2.toNatClampNeg) = s2 then (1 : Int32) else (0 : Int32)) (fun (w3 : Int32) => nm (s1 + w3) (fun (x4 : Int32) => (f_X11_atHome_L4 f_t_s f_t_cell n x4 (s2 + 1))))))
def f_X11_atHome (f_t_s : Nat → Int32) (f_t_cell : Nat → Int32) : Option (Int32) :=
  (f_X11_atHome_L4 f_t_s f_t_cell fu 0 0)
abbrev rm_X11_atHome : Room := { frames := 1, cells := 0, slots := 0, locals := 24 }
set_option maxHeartbeats 4000000 in
set_option maxRecDepth 100000 in
theorem c_X11_atHome (l : Launch) (D : va_G) (Y : ClassId × ClassId × ClassId) (a_t a_t_s a_t_past a_t_kept a_t_pad a_t_cell a_t_other a_t_rows a_t_read a_t_track a_t_lead a_t_distance a_t_line : Nat) (v_t_isKept : Int32) (v_t_pasts : Int32) (v_t_typed : Int32) (v_t_ends : Int32) (v_t_many : Int32) (v_t_spot : Int32) (f_t_s : Nat → Int32) (f_t_cell : Nat → Int32) (R : Int32) (hf : f_X11_atHome f_t_s f_t_cell = some R) : Met l yX11_atHome (ws_ yX11_atHome cX11_atHome 3 (some .int)) rm_X11_atHome (va_Pc [.ref a_t] (RO D Y [(a_t, .inr (8, [.ref a_t_s, .ref a_t_past, .ref a_t_kept, .int v_t_isKept, .int v_t_pasts, .ref a_t_pad, .int v_t_typed, .ref a_t_cell, .ref a_t_other, .ref a_t_rows, .int v_t_ends, .ref a_t_read, .int v_t_many, .int v_t_spot, .ref a_t_track, .ref a_t_lead, .ref a_t_distance, .ref a_t_line])), (a_t_s, .inl (Y.1, 41, .inl f_t_s)), (a_t_cell, .inl (Y.1, 7, .inl f_t_cell))])) (OI R) 0 0 (fun _ => False) := by
  refine ro_start (by decide) (Nat.le_of_ble_eq_true rfl) ?_
  intro p e s m below meth c ls hx hb hml hr hlocks hown hts hP hE hl
  generalize hargs : List.toArray _ = args at hts ⊢
  have hown : s.vm.findClass RX11 = some m.cls := hown
  have E : EN p m c cX11_atHome 3 s args RX11 := ⟨hx, hb, hml, hown, hts⟩
  have hl : lv_has ls 3 [(0, .ref a_t)] := hl
  generalize hQ : MQ below _ args s 0 0 _ = Q
  unfold f_X11_atHome at hf
  have L4 : ∀ (n : Nat) (s1 : Int32) (s2 : Int32) (ls : Array Slot), f_X11_atHome_L4 f_t_s f_t_cell n s1 s2 = some R → lv_has ls 3 [(0, .ref a_t), (1, .int s1), (2, .int s2)] → W p l e rm_X11_atHome s m args below meth c s.heap [] 0 0 Q (F0 m 4 ls []) := by
    intro n
    induction n with
    | zero =>
      intro s1 s2 ls hf
      cases hf
    | succ n ih =>
      intro s1 s2 ls hf hl
      unfold f_X11_atHome_L4 at hf
      refine lv_iload_n hx hb dX11_atHome_4 rfl (lv_at hl 2 rfl) ?_
      refine lv_aload_n hx hb dX11_atHome_5 rfl (lv_at hl 0 rfl) ?_
      refine va_get (D := D) (ci := 8) (v := .ref a_t_s) (C := RX11) (T := TX11) (N := 18) hx hb hts inX11 hown hE.1 hP 0 rfl rfl 0 (by decide) (hts _ qw761) (fun _ h9 => h9) rfl dX11_atHome_6 ?_
      refine lv_iconst (v := 0) hx hb dX11_atHome_9 (by decide) ?_
      refine va_iald hx hb hE.1 hP 1 0 rfl rfl (inb_in (by decide)) dX11_atHome_10 ?_
      refine lv_icmp_ge (tgt := 38) hx hb dX11_atHome_11 (by decide) (fun c1 => ?_) (fun c1 => ?_)
      · have hf := ite_t c1 hf
        refine lv_iload_n hx hb dX11_atHome_38 rfl (lv_at hl 1 rfl) ?_
        obtain rfl := Option.some.inj hf
        subst hQ
        exact en_oi hx hb hr hlocks rfl dX11_atHome_39
      have hf := ite_f c1 hf
      refine lv_iload_n hx hb dX11_atHome_14 rfl (lv_at hl 1 rfl) ?_
      refine lv_aload_n hx hb dX11_atHome_15 rfl (lv_at hl 0 rfl) ?_
      refine va_get (D := D) (ci := 8) (v := .ref a_t_cell) (C := RX11) (T := TX11) (N := 18) hx hb hts inX11 hown hE.1 hP 0 rfl rfl 7 (by decide) (hts _ qw768) (fun _ h9 => h9) rfl dX11_atHome_16 ?_
      refine lv_iload_n hx hb dX11_atHome_19 rfl (lv_at hl 2 rfl) ?_
      obtain ⟨g2, hf⟩ := gd_s hf
      refine va_iald hx hb hE.1 hP 2 0 rfl rfl (inb_in g2) dX11_atHome_20 ?_
      refine lv_iload_n hx hb dX11_atHome_21 rfl (lv_at hl 2 rfl) ?_
      refine mg (P := fun (w3 : Int32) => ∀ (ls : Array Slot), lv_has ls 3 [(0, .ref a_t), (2, .int s2)] → W p l e rm_X11_atHome s m args below meth c s.heap [] 0 0 Q (F0 m 30 ls [.int w3, .int s1])) hf (fun w3 hf ls hl => ?_) (fun hJ => ?_)
      · refine lv_iadd hx hb dX11_atHome_30 ?_
        refine nm_W hf (fun x4 hf => ?_)
        refine lv_istore_n (lv' := [(1, .int x4), (0, .ref a_t), (2, .int s2)]) hx hb dX11_atHome_31 rfl hl (by decide) rfl (fun ls hl => ?_)
        refine lv_iinc (v := (s2 + 1)) (lv' := [(2, .int (s2 + 1)), (1, .int x4), (0, .ref a_t)]) hx hb dX11_atHome_32 hl (k := 2) rfl rfl (by decide) rfl (fun ls hl => ?_)
        refine lv_goto (tgt := 4) hx hb dX11_atHome_35 (by decide) ?_
        exact ih _ _ _ hf (lv_sub hl [2, 1, 0] rfl)
      refine lv_icmp_ne (tgt := 29) hx hb dX11_atHome_22 (by decide) (fun c5 => ?_) (fun c5 => ?_)
      · have hf := nmi_f c5 hf
        refine lv_iconst (v := 0) hx hb dX11_atHome_29 (by decide) ?_
        exact hJ _ (nm_b hf) _ (lv_sub hl [0, 2] rfl)
      have hf := nmi_t c5 hf
      refine lv_iconst (v := 1) hx hb dX11_atHome_25 (by decide) ?_
      refine lv_goto (tgt := 30) hx hb dX11_atHome_26 (by decide) ?_
      exact hJ _ (nm_b hf) _ (lv_sub hl [0, 2] rfl)
  refine lv_iconst (v := 0) hx hb dX11_atHome_0 (by decide) ?_
  refine lv_istore_n (lv' := [(1, .int 0), (0, .ref a_t)]) hx hb dX11_atHome_1 rfl hl (by decide) rfl (fun ls hl => ?_)
  refine lv_iconst (v := 0) hx hb dX11_atHome_2 (by decide) ?_
  refine lv_istore_n (lv' := [(2, .int 0), (1, .int 0), (0, .ref a_t)]) hx hb dX11_atHome_3 rfl hl (by decide) rfl (fun ls hl => ?_)
  exact L4 _ _ _ _ hf (lv_sub hl [2, 1, 0] rfl)

def f_X11_firstSame_L2 (s1 : Int32) (f_t_rows : Nat → Int32) : Nat → Int32 → Option (Int32)
  | 0, _ => none
  | n + 1, s3 => gd (inb s3 341) (gd (inb s1 341) ((if (f_t_rows s3.toNatClampNeg) = (f_t_rows s1.toNatClampNeg) then some s3 else (f_X11_firstSame_L2 s1 f_t_rows n (s3 + 1)))))
def f_X11_firstSame (s1 : Int32) (s2 : Int32) (f_t_rows : Nat → Int32) : Option (Int32) :=
  (f_X11_firstSame_L2 s1 f_t_rows fu s2)
abbrev rm_X11_firstSame : Room := { frames := 1, cells := 0, slots := 0, locals := 24 }
set_option maxHeartbeats 4000000 in
set_option maxRecDepth 100000 in
theorem c_X11_firstSame (l : Launch) (D : va_G) (Y : ClassId × ClassId × ClassId) (a_t a_t_s a_t_past a_t_kept a_t_pad a_t_cell a_t_other a_t_rows a_t_read a_t_track a_t_lead a_t_distance a_t_line : Nat) (v_t_isKept : Int32) (v_t_pasts : Int32) (v_t_typed : Int32) (v_t_ends : Int32) (v_t_many : Int32) (v_t_spot : Int32) (f_t_rows : Nat → Int32) (s1 : Int32) (s2 : Int32) (R : Int32) (hf : f_X11_firstSame s1 s2 f_t_rows = some R) : Met l yX11_firstSame (ws_ yX11_firstSame cX11_firstSame 4 (some .int)) rm_X11_firstSame (va_Pc [.ref a_t, .int s1, .int s2] (RO D Y [(a_t, .inr (8, [.ref a_t_s, .ref a_t_past, .ref a_t_kept, .int v_t_isKept, .int v_t_pasts, .ref a_t_pad, .int v_t_typed, .ref a_t_cell, .ref a_t_other, .ref a_t_rows, .int v_t_ends, .ref a_t_read, .int v_t_many, .int v_t_spot, .ref a_t_track, .ref a_t_lead, .ref a_t_distance, .ref a_t_line])), (a_t_rows, .inl (Y.1, 341, .inl f_t_rows))])) (OI R) 0 0 (fun _ => False) := by
  refine ro_start (by decide) (Nat.le_of_ble_eq_true rfl) ?_
  intro p e s m below meth c ls hx hb hml hr hlocks hown hts hP hE hl
  generalize hargs : List.toArray _ = args at hts ⊢
  have hown : s.vm.findClass RX11 = some m.cls := hown
  have E : EN p m c cX11_firstSame 4 s args RX11 := ⟨hx, hb, hml, hown, hts⟩
  have hl : lv_has ls 4 [(0, .ref a_t), (1, .int s1), (2, .int s2)] := hl
  generalize hQ : MQ below _ args s 0 0 _ = Q
  unfold f_X11_firstSame at hf
  have L2 : ∀ (n : Nat) (s1 : Int32) (s3 : Int32) (ls : Array Slot), f_X11_firstSame_L2 s1 f_t_rows n s3 = some R → lv_has ls 4 [(0, .ref a_t), (1, .int s1), (3, .int s3)] → W p l e rm_X11_firstSame s m args below meth c s.heap [] 0 0 Q (F0 m 2 ls []) := by
    intro n
    induction n with
    | zero =>
      intro s1 s3 ls hf
      cases hf
    | succ n ih =>
      intro s1 s3 ls hf hl
      unfold f_X11_firstSame_L2 at hf
      refine lv_aload_n hx hb dX11_firstSame_2 rfl (lv_at hl 0 rfl) ?_
      refine va_get (D := D) (ci := 8) (v := .ref a_t_rows) (C := RX11) (T := TX11) (N := 18) hx hb hts inX11 hown hE.1 hP 0 rfl rfl 9 (by decide) (hts _ qw770) (fun _ h9 => h9) rfl dX11_firstSame_3 ?_
      refine lv_iload_n hx hb dX11_firstSame_6 rfl (lv_at hl 2 rfl) ?_
      obtain ⟨g1, hf⟩ := gd_s hf
      refine va_iald hx hb hE.1 hP 1 0 rfl rfl (inb_in g1) dX11_firstSame_7 ?_
      refine lv_aload_n hx hb dX11_firstSame_8 rfl (lv_at hl 0 rfl) ?_
      refine va_get (D := D) (ci := 8) (v := .ref a_t_rows) (C := RX11) (T := TX11) (N := 18) hx hb hts inX11 hown hE.1 hP 0 rfl rfl 9 (by decide) (hts _ qw770) (fun _ h9 => h9) rfl dX11_firstSame_9 ?_
      refine lv_iload_n hx hb dX11_firstSame_12 rfl (lv_at hl 1 rfl) ?_
      obtain ⟨g2, hf⟩ := gd_s hf
      refine va_iald hx hb hE.1 hP 1 0 rfl rfl (inb_in g2) dX11_firstSame_13 ?_
      refine lv_icmp_eq (tgt := 23) hx hb dX11_firstSame_14 (by decide) (fun c3 => ?_) (fun c3 => ?_)
      · have hf := ite_t c3 hf
        refine lv_iload_n hx hb dX11_firstSame_23 rfl (lv_at hl 2 rfl) ?_
        obtain rfl := Option.some.inj hf
        subst hQ
        exact en_oi hx hb hr hlocks rfl dX11_firstSame_24
      have hf := ite_f c3 hf
      refine lv_iinc (v := (s3 + 1)) (lv' := [(3, .int (s3 + 1)), (0, .ref a_t), (1, .int s1)]) hx hb dX11_firstSame_17 hl (k := 2) rfl rfl (by decide) rfl (fun ls hl => ?_)
      refine lv_goto (tgt := 2) hx hb dX11_firstSame_20 (by decide) ?_
      exact ih _ _ _ hf (lv_sub hl [1, 2, 0] rfl)
  refine lv_iload_n hx hb dX11_firstSame_0 rfl (lv_at hl 2 rfl) ?_
  refine lv_istore_n (lv' := [(3, .int s2), (0, .ref a_t), (1, .int s1), (2, .int s2)]) hx hb dX11_firstSame_1 rfl hl (by decide) rfl (fun ls hl => ?_)
  exact L2 _ _ _ _ hf (lv_sub hl [1, 2, 0] rfl)

def f_X11_takesLeads_L13 (k : Int32 → (Nat → Int32) → Option ((Nat → Int32) × (Nat → Int32))) (s1 : Int32) (f_t_s : Nat → Int32) (f_t_lead : Nat → Int32) : Nat → Int32 → (Nat → Int32) → Option ((Nat → Int32) × (Nat → Int32))
  | 0, _, _ => none
  | n + 1, s2, f_t_cell => (if (f_t_s (1 : Int32).toNatClampNeg) ≤ s2 then (k s2 f_t_cell) else bd (f_X11_changeOf s1 s2 f_t_s) (fun q5 => bd (f_X11_rings q5 f_t_s f_t_cell) (fun q7 => (f_X11_takesLeads_L13 k s1 f_t_s f_t_lead n (s2 + 1) q7))))
def f_X11_takesLeads_L41 (k : Int32 → (Nat → Int32) → Option ((Nat → Int32) × (Nat → Int32))) (s1 : Int32) (f_t_s : Nat → Int32) (f_t_cell : Nat → Int32) : Nat → Int32 → (Nat → Int32) → Option ((Nat → Int32) × (Nat → Int32))
  | 0, _, _ => none
  | n + 1, s2, f_t_lead => (if (f_t_s (0 : Int32).toNatClampNeg) ≤ s2 then (k s2 f_t_lead) else gd (inb s2 7) (gd (inb (((7 : Int32) * s1) + s2) 21) ((f_X11_takesLeads_L41 k s1 f_t_s f_t_cell n (s2 + 1) (upd f_t_lead (((7 : Int32) * s1) + s2).toNatClampNeg (f_t_cell s2.toNatClampNeg))))))
def f_X11_takesLeads_L2 (f_t_s : Nat → Int32) : Nat → Int32 → (Nat → Int32) → (Nat → Int32) → Option ((Nat → Int32) × (Nat → Int32))
  | 0, _, _, _ => none
  | n + 1, s1, f_t_cell, f_t_lead => (if (3 : Int32) ≤ s1 then some (f_t_cell, f_t_lead) else bd (f_X11_toRounds f_t_s f_t_cell) (fun q2 => (f_X11_takesLeads_L13 (fun (y9 : Int32) (y10 : Nat → Int32) => (f_X11_takesLeads_L41 (fun (y14 : Int32) (y15 : Nat → Int32) => (f_X11_takesLeads_L2 f_t_s n (s1 + 1) y10 y15)) s1 f_t_s y10 fu 0 f_t_lead)) s1 f_t_s f_t_lead fu 0 q2)))
def f_X11_takesLeads (f_t_s : Nat → Int32) (f_t_cell : Nat → Int32) (f_t_lead : Nat → Int32) : Option ((Nat → Int32) × (Nat → Int32)) :=
  (f_X11_takesLeads_L2 f_t_s fu 0 f_t_cell f_t_lead)
abbrev rm_X11_takesLeads : Room := { frames := 2, cells := 0, slots := 0, locals := 47 }
set_option maxHeartbeats 4000000 in
set_option maxRecDepth 100000 in
theorem c_X11_takesLeads (l : Launch) (D : va_G) (Y : ClassId × ClassId × ClassId) (a_t a_t_s a_t_past a_t_kept a_t_pad a_t_cell a_t_other a_t_rows a_t_read a_t_track a_t_lead a_t_distance a_t_line : Nat) (v_t_isKept : Int32) (v_t_pasts : Int32) (v_t_typed : Int32) (v_t_ends : Int32) (v_t_many : Int32) (v_t_spot : Int32) (f_t_s : Nat → Int32) (f_t_cell : Nat → Int32) (f_t_lead : Nat → Int32) (sz : Nat) (R : (Nat → Int32) × (Nat → Int32)) (hf : f_X11_takesLeads f_t_s f_t_cell f_t_lead = some R) : Met l yX11_takesLeads (ws_ yX11_takesLeads cX11_takesLeads 3 none) rm_X11_takesLeads (va_Pc [.ref a_t] (RW D Y sz [(a_t, .inr (8, [.ref a_t_s, .ref a_t_past, .ref a_t_kept, .int v_t_isKept, .int v_t_pasts, .ref a_t_pad, .int v_t_typed, .ref a_t_cell, .ref a_t_other, .ref a_t_rows, .int v_t_ends, .ref a_t_read, .int v_t_many, .int v_t_spot, .ref a_t_track, .ref a_t_lead, .ref a_t_distance, .ref a_t_line])), (a_t_s, .inl (Y.1, 41, .inl f_t_s)), (a_t_cell, .inl (Y.1, 7, .inl f_t_cell)), (a_t_lead, .inl (Y.1, 21, .inl f_t_lead))])) (QV D [(a_t, .inr (8, [.ref a_t_s, .ref a_t_past, .ref a_t_kept, .int v_t_isKept, .int v_t_pasts, .ref a_t_pad, .int v_t_typed, .ref a_t_cell, .ref a_t_other, .ref a_t_rows, .int v_t_ends, .ref a_t_read, .int v_t_many, .int v_t_spot, .ref a_t_track, .ref a_t_lead, .ref a_t_distance, .ref a_t_line])), (a_t_s, .inl (Y.1, 41, .inl f_t_s)), (a_t_cell, .inl (Y.1, 7, .inl R.1)), (a_t_lead, .inl (Y.1, 21, .inl R.2))] (va_A [(a_t, .inr (8, [.ref a_t_s, .ref a_t_past, .ref a_t_kept, .int v_t_isKept, .int v_t_pasts, .ref a_t_pad, .int v_t_typed, .ref a_t_cell, .ref a_t_other, .ref a_t_rows, .int v_t_ends, .ref a_t_read, .int v_t_many, .int v_t_spot, .ref a_t_track, .ref a_t_lead, .ref a_t_distance, .ref a_t_line])), (a_t_s, .inl (Y.1, 41, .inl f_t_s)), (a_t_cell, .inl (Y.1, 7, .inl f_t_cell)), (a_t_lead, .inl (Y.1, 21, .inl f_t_lead))] sz)) 0 0 (va_A [(a_t, .inr (8, [.ref a_t_s, .ref a_t_past, .ref a_t_kept, .int v_t_isKept, .int v_t_pasts, .ref a_t_pad, .int v_t_typed, .ref a_t_cell, .ref a_t_other, .ref a_t_rows, .int v_t_ends, .ref a_t_read, .int v_t_many, .int v_t_spot, .ref a_t_track, .ref a_t_lead, .ref a_t_distance, .ref a_t_line])), (a_t_s, .inl (Y.1, 41, .inl f_t_s)), (a_t_cell, .inl (Y.1, 7, .inl f_t_cell)), (a_t_lead, .inl (Y.1, 21, .inl f_t_lead))] sz) := by
  refine rw_start (Qc := fun A => QV D [(a_t, .inr (8, [.ref a_t_s, .ref a_t_past, .ref a_t_kept, .int v_t_isKept, .int v_t_pasts, .ref a_t_pad, .int v_t_typed, .ref a_t_cell, .ref a_t_other, .ref a_t_rows, .int v_t_ends, .ref a_t_read, .int v_t_many, .int v_t_spot, .ref a_t_track, .ref a_t_lead, .ref a_t_distance, .ref a_t_line])), (a_t_s, .inl (Y.1, 41, .inl f_t_s)), (a_t_cell, .inl (Y.1, 7, .inl R.1)), (a_t_lead, .inl (Y.1, 21, .inl R.2))] A) (by decide) (Nat.le_of_ble_eq_true rfl) ?_
  intro p e s m below meth c ls A hx hb hml hr hlocks hown hts hnm hA hP hD hS hE hl
  generalize hargs : List.toArray _ = args at hts ⊢
  have hown : s.vm.findClass RX11 = some m.cls := hown
  have E : EN p m c cX11_takesLeads 3 s args RX11 := ⟨hx, hb, hml, hown, hts⟩
  have hl : lv_has ls 3 [(0, .ref a_t)] := hl
  generalize hQ : MQ below _ args s 0 0 _ = Q
  unfold f_X11_takesLeads at hf
  have L13 : ∀ (n : Nat) (k : Int32 → (Nat → Int32) → Option ((Nat → Int32) × (Nat → Int32))) (s1 : Int32) (f_t_lead : Nat → Int32) (s2 : Int32) (f_t_cell : Nat → Int32) (H : Heap) (locs : List Loc) (ls : Array Slot), f_X11_takesLeads_L13 k s1 f_t_s f_t_lead n s2 f_t_cell = some R → va_P D vwCl [(a_t, .inr (8, [.ref a_t_s, .ref a_t_past, .ref a_t_kept, .int v_t_isKept, .int v_t_pasts, .ref a_t_pad, .int v_t_typed, .ref a_t_cell, .ref a_t_other, .ref a_t_rows, .int v_t_ends, .ref a_t_read, .int v_t_many, .int v_t_spot, .ref a_t_track, .ref a_t_lead, .ref a_t_distance, .ref a_t_line])), (a_t_s, .inl (Y.1, 41, .inl f_t_s)), (a_t_cell, .inl (Y.1, 7, .inl f_t_cell)), (a_t_lead, .inl (Y.1, 21, .inl f_t_lead))] H → va_D A [(a_t, .inr (8, [.ref a_t_s, .ref a_t_past, .ref a_t_kept, .int v_t_isKept, .int v_t_pasts, .ref a_t_pad, .int v_t_typed, .ref a_t_cell, .ref a_t_other, .ref a_t_rows, .int v_t_ends, .ref a_t_read, .int v_t_many, .int v_t_spot, .ref a_t_track, .ref a_t_lead, .ref a_t_distance, .ref a_t_line])), (a_t_s, .inl (Y.1, 41, .inl f_t_s)), (a_t_cell, .inl (Y.1, 7, .inl f_t_cell)), (a_t_lead, .inl (Y.1, 21, .inl f_t_lead))] → va_S A s.heap H locs → lv_has ls 3 [(0, .ref a_t), (1, .int s1), (2, .int s2)] → (∀ (y_s2 : Int32) (y_f_t_cell : Nat → Int32) (H : Heap) (locs : List Loc) (ls : Array Slot), k y_s2 y_f_t_cell = some R → va_P D vwCl [(a_t, .inr (8, [.ref a_t_s, .ref a_t_past, .ref a_t_kept, .int v_t_isKept, .int v_t_pasts, .ref a_t_pad, .int v_t_typed, .ref a_t_cell, .ref a_t_other, .ref a_t_rows, .int v_t_ends, .ref a_t_read, .int v_t_many, .int v_t_spot, .ref a_t_track, .ref a_t_lead, .ref a_t_distance, .ref a_t_line])), (a_t_s, .inl (Y.1, 41, .inl f_t_s)), (a_t_cell, .inl (Y.1, 7, .inl y_f_t_cell)), (a_t_lead, .inl (Y.1, 21, .inl f_t_lead))] H → va_D A [(a_t, .inr (8, [.ref a_t_s, .ref a_t_past, .ref a_t_kept, .int v_t_isKept, .int v_t_pasts, .ref a_t_pad, .int v_t_typed, .ref a_t_cell, .ref a_t_other, .ref a_t_rows, .int v_t_ends, .ref a_t_read, .int v_t_many, .int v_t_spot, .ref a_t_track, .ref a_t_lead, .ref a_t_distance, .ref a_t_line])), (a_t_s, .inl (Y.1, 41, .inl f_t_s)), (a_t_cell, .inl (Y.1, 7, .inl y_f_t_cell)), (a_t_lead, .inl (Y.1, 21, .inl f_t_lead))] → va_S A s.heap H locs → lv_has ls 3 [(0, .ref a_t), (1, .int s1)] → W p l e rm_X11_takesLeads s m args below meth c H locs 0 0 Q (F0 m 39 ls [])) → W p l e rm_X11_takesLeads s m args below meth c H locs 0 0 Q (F0 m 13 ls []) := by
    intro n
    induction n with
    | zero =>
      intro k s1 f_t_lead s2 f_t_cell H locs ls hf
      cases hf
    | succ n ih =>
      intro k s1 f_t_lead s2 f_t_cell H locs ls hf hP hD hS hl hk
      unfold f_X11_takesLeads_L13 at hf
      refine lv_iload_n hx hb dX11_takesLeads_13 rfl (lv_at hl 2 rfl) ?_
      refine lv_aload_n hx hb dX11_takesLeads_14 rfl (lv_at hl 0 rfl) ?_
      refine va_get (D := D) (ci := 8) (v := .ref a_t_s) (C := RX11) (T := TX11) (N := 18) hx hb hts inX11 hown hE.1 hP 0 rfl rfl 0 (by decide) (hts _ qw761) (fun _ h9 => h9) rfl dX11_takesLeads_15 ?_
      refine lv_iconst (v := 1) hx hb dX11_takesLeads_18 (by decide) ?_
      refine va_iald hx hb hE.1 hP 1 0 rfl rfl (inb_in (by decide)) dX11_takesLeads_19 ?_
      refine lv_icmp_ge (tgt := 39) hx hb dX11_takesLeads_20 (by decide) (fun c4 => ?_) (fun c4 => ?_)
      · have hf := ite_t c4 hf
        exact hk _ _ _ _ _ hf hP hD hS (lv_sub hl [0, 1] rfl)
      have hf := ite_f c4 hf
      refine lv_aload_n hx hb dX11_takesLeads_23 rfl (lv_at hl 0 rfl) ?_
      refine lv_aload_n hx hb dX11_takesLeads_24 rfl (lv_at hl 0 rfl) ?_
      refine lv_iload_n hx hb dX11_takesLeads_25 rfl (lv_at hl 1 rfl) ?_
      refine lv_iload_n hx hb dX11_takesLeads_26 rfl (lv_at hl 2 rfl) ?_
      obtain ⟨q5, h6, hf⟩ := bd_s hf
      refine af_oi (run_V (As := [.int s1, .int s2]) (rest := [.ref a_t]) E (c_X11_changeOf l D Y a_t a_t_s a_t_past a_t_kept a_t_pad a_t_cell a_t_other a_t_rows a_t_read a_t_track a_t_lead a_t_distance a_t_line v_t_isKept v_t_pasts v_t_typed v_t_ends v_t_many v_t_spot f_t_s s1 s2 q5 h6) qw914 qw916 qw35 qw76 qw917 rfl rfl hd_X11_changeOf ⟨Nat.le_of_ble_eq_true rfl, Nat.le_of_ble_eq_true rfl⟩ (pre_roV hP hE [0, 1] rfl (ci := 8) (q0 := 0) rfl rfl) rfl hl.1 rfl (Nat.le_of_ble_eq_true rfl) dX11_takesLeads_27 ⟨Nat.zero_le _, Nat.zero_le _⟩) ?_
      obtain ⟨q7, h8, hf⟩ := bd_s hf
      refine af_v0 (wc := [(a_t, .inr (8, [.ref a_t_s, .ref a_t_past, .ref a_t_kept, .int v_t_isKept, .int v_t_pasts, .ref a_t_pad, .int v_t_typed, .ref a_t_cell, .ref a_t_other, .ref a_t_rows, .int v_t_ends, .ref a_t_read, .int v_t_many, .int v_t_spot, .ref a_t_track, .ref a_t_lead, .ref a_t_distance, .ref a_t_line])), (a_t_s, .inl (Y.1, 41, .inl f_t_s)), (a_t_cell, .inl (Y.1, 7, .inl f_t_cell))]) (wr := [(a_t_lead, .inl (Y.1, 21, .inl f_t_lead))]) (wn := [(a_t, .inr (8, [.ref a_t_s, .ref a_t_past, .ref a_t_kept, .int v_t_isKept, .int v_t_pasts, .ref a_t_pad, .int v_t_typed, .ref a_t_cell, .ref a_t_other, .ref a_t_rows, .int v_t_ends, .ref a_t_read, .int v_t_many, .int v_t_spot, .ref a_t_track, .ref a_t_lead, .ref a_t_distance, .ref a_t_line])), (a_t_s, .inl (Y.1, 41, .inl f_t_s)), (a_t_cell, .inl (Y.1, 7, .inl q7)), (a_t_lead, .inl (Y.1, 21, .inl f_t_lead))]) (run_V (As := [.int q5]) (rest := []) E (c_X11_rings l D Y a_t a_t_s a_t_past a_t_kept a_t_pad a_t_cell a_t_other a_t_rows a_t_read a_t_track a_t_lead a_t_distance a_t_line v_t_isKept v_t_pasts v_t_typed v_t_ends v_t_many v_t_spot f_t_s f_t_cell q5 H.size q7 h8) qw918 qw920 qw36 qw76 qw921 rfl rfl hd_X11_rings ⟨Nat.le_of_ble_eq_true rfl, Nat.le_of_ble_eq_true rfl⟩ (pre_rwV hP hD hE [0, 1, 2] rfl (by decide) rfl (ci := 8) (q0 := 0) rfl rfl) rfl hl.1 rfl (Nat.le_of_ble_eq_true rfl) dX11_takesLeads_30 ⟨Nat.zero_le _, Nat.zero_le _⟩) hP hD hS hA [0, 1, 2] [3] [1, 2, 3, 0] rfl rfl (by decide) (by decide) rfl rfl (by decide) (fun H locs  hP hD hS => ?_)
      refine lv_iinc (v := (s2 + 1)) (lv' := [(2, .int (s2 + 1)), (0, .ref a_t), (1, .int s1)]) hx hb dX11_takesLeads_33 hl (k := 2) rfl rfl (by decide) rfl (fun ls hl => ?_)
      refine lv_goto (tgt := 13) hx hb dX11_takesLeads_36 (by decide) ?_
      exact ih _ _ _ _ _ _ _ _ hf hP hD hS (lv_sub hl [1, 2, 0] rfl) hk
  have L41 : ∀ (n : Nat) (k : Int32 → (Nat → Int32) → Option ((Nat → Int32) × (Nat → Int32))) (s1 : Int32) (f_t_cell : Nat → Int32) (s2 : Int32) (f_t_lead : Nat → Int32) (H : Heap) (locs : List Loc) (ls : Array Slot), f_X11_takesLeads_L41 k s1 f_t_s f_t_cell n s2 f_t_lead = some R → va_P D vwCl [(a_t, .inr (8, [.ref a_t_s, .ref a_t_past, .ref a_t_kept, .int v_t_isKept, .int v_t_pasts, .ref a_t_pad, .int v_t_typed, .ref a_t_cell, .ref a_t_other, .ref a_t_rows, .int v_t_ends, .ref a_t_read, .int v_t_many, .int v_t_spot, .ref a_t_track, .ref a_t_lead, .ref a_t_distance, .ref a_t_line])), (a_t_s, .inl (Y.1, 41, .inl f_t_s)), (a_t_cell, .inl (Y.1, 7, .inl f_t_cell)), (a_t_lead, .inl (Y.1, 21, .inl f_t_lead))] H → va_D A [(a_t, .inr (8, [.ref a_t_s, .ref a_t_past, .ref a_t_kept, .int v_t_isKept, .int v_t_pasts, .ref a_t_pad, .int v_t_typed, .ref a_t_cell, .ref a_t_other, .ref a_t_rows, .int v_t_ends, .ref a_t_read, .int v_t_many, .int v_t_spot, .ref a_t_track, .ref a_t_lead, .ref a_t_distance, .ref a_t_line])), (a_t_s, .inl (Y.1, 41, .inl f_t_s)), (a_t_cell, .inl (Y.1, 7, .inl f_t_cell)), (a_t_lead, .inl (Y.1, 21, .inl f_t_lead))] → va_S A s.heap H locs → lv_has ls 3 [(0, .ref a_t), (1, .int s1), (2, .int s2)] → (∀ (y_s2 : Int32) (y_f_t_lead : Nat → Int32) (H : Heap) (locs : List Loc) (ls : Array Slot), k y_s2 y_f_t_lead = some R → va_P D vwCl [(a_t, .inr (8, [.ref a_t_s, .ref a_t_past, .ref a_t_kept, .int v_t_isKept, .int v_t_pasts, .ref a_t_pad, .int v_t_typed, .ref a_t_cell, .ref a_t_other, .ref a_t_rows, .int v_t_ends, .ref a_t_read, .int v_t_many, .int v_t_spot, .ref a_t_track, .ref a_t_lead, .ref a_t_distance, .ref a_t_line])), (a_t_s, .inl (Y.1, 41, .inl f_t_s)), (a_t_cell, .inl (Y.1, 7, .inl f_t_cell)), (a_t_lead, .inl (Y.1, 21, .inl y_f_t_lead))] H → va_D A [(a_t, .inr (8, [.ref a_t_s, .ref a_t_past, .ref a_t_kept, .int v_t_isKept, .int v_t_pasts, .ref a_t_pad, .int v_t_typed, .ref a_t_cell, .ref a_t_other, .ref a_t_rows, .int v_t_ends, .ref a_t_read, .int v_t_many, .int v_t_spot, .ref a_t_track, .ref a_t_lead, .ref a_t_distance, .ref a_t_line])), (a_t_s, .inl (Y.1, 41, .inl f_t_s)), (a_t_cell, .inl (Y.1, 7, .inl f_t_cell)), (a_t_lead, .inl (Y.1, 21, .inl y_f_t_lead))] → va_S A s.heap H locs → lv_has ls 3 [(0, .ref a_t), (1, .int s1)] → W p l e rm_X11_takesLeads s m args below meth c H locs 0 0 Q (F0 m 74 ls [])) → W p l e rm_X11_takesLeads s m args below meth c H locs 0 0 Q (F0 m 41 ls []) := by
    intro n
    induction n with
    | zero =>
      intro k s1 f_t_cell s2 f_t_lead H locs ls hf
      cases hf
    | succ n ih =>
      intro k s1 f_t_cell s2 f_t_lead H locs ls hf hP hD hS hl hk
      unfold f_X11_takesLeads_L41 at hf
      refine lv_iload_n hx hb dX11_takesLeads_41 rfl (lv_at hl 2 rfl) ?_
      refine lv_aload_n hx hb dX11_takesLeads_42 rfl (lv_at hl 0 rfl) ?_
      refine va_get (D := D) (ci := 8) (v := .ref a_t_s) (C := RX11) (T := TX11) (N := 18) hx hb hts inX11 hown hE.1 hP 0 rfl rfl 0 (by decide) (hts _ qw761) (fun _ h9 => h9) rfl dX11_takesLeads_43 ?_
      refine lv_iconst (v := 0) hx hb dX11_takesLeads_46 (by decide) ?_
      refine va_iald hx hb hE.1 hP 1 0 rfl rfl (inb_in (by decide)) dX11_takesLeads_47 ?_
      refine lv_icmp_ge (tgt := 74) hx hb dX11_takesLeads_48 (by decide) (fun c11 => ?_) (fun c11 => ?_)
      · have hf := ite_t c11 hf
        exact hk _ _ _ _ _ hf hP hD hS (lv_sub hl [0, 1] rfl)
      have hf := ite_f c11 hf
      refine lv_aload_n hx hb dX11_takesLeads_51 rfl (lv_at hl 0 rfl) ?_
      refine va_get (D := D) (ci := 8) (v := .ref a_t_lead) (C := RX11) (T := TX11) (N := 18) hx hb hts inX11 hown hE.1 hP 0 rfl rfl 15 (by decide) (hts _ qw776) (fun _ h9 => h9) rfl dX11_takesLeads_52 ?_
      refine lv_bipush (v := 7) hx hb dX11_takesLeads_55 (by decide) ?_
      refine lv_iload_n hx hb dX11_takesLeads_57 rfl (lv_at hl 1 rfl) ?_
      refine lv_imul hx hb dX11_takesLeads_58 ?_
      refine lv_iload_n hx hb dX11_takesLeads_59 rfl (lv_at hl 2 rfl) ?_
      refine lv_iadd hx hb dX11_takesLeads_60 ?_
      refine lv_aload_n hx hb dX11_takesLeads_61 rfl (lv_at hl 0 rfl) ?_
      refine va_get (D := D) (ci := 8) (v := .ref a_t_cell) (C := RX11) (T := TX11) (N := 18) hx hb hts inX11 hown hE.1 hP 0 rfl rfl 7 (by decide) (hts _ qw768) (fun _ h9 => h9) rfl dX11_takesLeads_62 ?_
      refine lv_iload_n hx hb dX11_takesLeads_65 rfl (lv_at hl 2 rfl) ?_
      obtain ⟨g12, hf⟩ := gd_s hf
      refine va_iald hx hb hE.1 hP 2 0 rfl rfl (inb_in g12) dX11_takesLeads_66 ?_
      obtain ⟨g13, hf⟩ := gd_s hf
      refine va_iast hx hb hE.1 hP hD hS 3 0 rfl rfl (inb_in g13) dX11_takesLeads_67 (fun H locs hP hD hS => ?_)
      have hP : va_P D vwCl [(a_t, .inr (8, [.ref a_t_s, .ref a_t_past, .ref a_t_kept, .int v_t_isKept, .int v_t_pasts, .ref a_t_pad, .int v_t_typed, .ref a_t_cell, .ref a_t_other, .ref a_t_rows, .int v_t_ends, .ref a_t_read, .int v_t_many, .int v_t_spot, .ref a_t_track, .ref a_t_lead, .ref a_t_distance, .ref a_t_line])), (a_t_s, .inl (Y.1, 41, .inl f_t_s)), (a_t_cell, .inl (Y.1, 7, .inl f_t_cell)), (a_t_lead, .inl (Y.1, 21, .inl (upd f_t_lead (((7 : Int32) * s1) + s2).toNatClampNeg (f_t_cell s2.toNatClampNeg))))] H := hP
      have hD : va_D A [(a_t, .inr (8, [.ref a_t_s, .ref a_t_past, .ref a_t_kept, .int v_t_isKept, .int v_t_pasts, .ref a_t_pad, .int v_t_typed, .ref a_t_cell, .ref a_t_other, .ref a_t_rows, .int v_t_ends, .ref a_t_read, .int v_t_many, .int v_t_spot, .ref a_t_track, .ref a_t_lead, .ref a_t_distance, .ref a_t_line])), (a_t_s, .inl (Y.1, 41, .inl f_t_s)), (a_t_cell, .inl (Y.1, 7, .inl f_t_cell)), (a_t_lead, .inl (Y.1, 21, .inl (upd f_t_lead (((7 : Int32) * s1) + s2).toNatClampNeg (f_t_cell s2.toNatClampNeg))))] := hD
      refine lv_iinc (v := (s2 + 1)) (lv' := [(2, .int (s2 + 1)), (0, .ref a_t), (1, .int s1)]) hx hb dX11_takesLeads_68 hl (k := 2) rfl rfl (by decide) rfl (fun ls hl => ?_)
      refine lv_goto (tgt := 41) hx hb dX11_takesLeads_71 (by decide) ?_
      exact ih _ _ _ _ _ _ _ _ hf hP hD hS (lv_sub hl [1, 2, 0] rfl) hk
  have L2 : ∀ (n : Nat) (s1 : Int32) (f_t_cell : Nat → Int32) (f_t_lead : Nat → Int32) (H : Heap) (locs : List Loc) (ls : Array Slot), f_X11_takesLeads_L2 f_t_s n s1 f_t_cell f_t_lead = some R → va_P D vwCl [(a_t, .inr (8, [.ref a_t_s, .ref a_t_past, .ref a_t_kept, .int v_t_isKept, .int v_t_pasts, .ref a_t_pad, .int v_t_typed, .ref a_t_cell, .ref a_t_other, .ref a_t_rows, .int v_t_ends, .ref a_t_read, .int v_t_many, .int v_t_spot, .ref a_t_track, .ref a_t_lead, .ref a_t_distance, .ref a_t_line])), (a_t_s, .inl (Y.1, 41, .inl f_t_s)), (a_t_cell, .inl (Y.1, 7, .inl f_t_cell)), (a_t_lead, .inl (Y.1, 21, .inl f_t_lead))] H → va_D A [(a_t, .inr (8, [.ref a_t_s, .ref a_t_past, .ref a_t_kept, .int v_t_isKept, .int v_t_pasts, .ref a_t_pad, .int v_t_typed, .ref a_t_cell, .ref a_t_other, .ref a_t_rows, .int v_t_ends, .ref a_t_read, .int v_t_many, .int v_t_spot, .ref a_t_track, .ref a_t_lead, .ref a_t_distance, .ref a_t_line])), (a_t_s, .inl (Y.1, 41, .inl f_t_s)), (a_t_cell, .inl (Y.1, 7, .inl f_t_cell)), (a_t_lead, .inl (Y.1, 21, .inl f_t_lead))] → va_S A s.heap H locs → lv_has ls 3 [(0, .ref a_t), (1, .int s1)] → W p l e rm_X11_takesLeads s m args below meth c H locs 0 0 Q (F0 m 2 ls []) := by
    intro n
    induction n with
    | zero =>
      intro s1 f_t_cell f_t_lead H locs ls hf
      cases hf
    | succ n ih =>
      intro s1 f_t_cell f_t_lead H locs ls hf hP hD hS hl
      unfold f_X11_takesLeads_L2 at hf
      refine lv_iload_n hx hb dX11_takesLeads_2 rfl (lv_at hl 1 rfl) ?_
      refine lv_iconst (v := 3) hx hb dX11_takesLeads_3 (by decide) ?_
      refine lv_icmp_ge (tgt := 80) hx hb dX11_takesLeads_4 (by decide) (fun c1 => ?_) (fun c1 => ?_)
      · have hf := ite_t c1 hf
        obtain rfl := Option.some.inj hf
        subst hQ
        exact en_v hx hb hr hlocks hP hD hS dX11_takesLeads_80
      have hf := ite_f c1 hf
      refine lv_aload_n hx hb dX11_takesLeads_7 rfl (lv_at hl 0 rfl) ?_
      obtain ⟨q2, h3, hf⟩ := bd_s hf
      refine af_v0 (wc := [(a_t, .inr (8, [.ref a_t_s, .ref a_t_past, .ref a_t_kept, .int v_t_isKept, .int v_t_pasts, .ref a_t_pad, .int v_t_typed, .ref a_t_cell, .ref a_t_other, .ref a_t_rows, .int v_t_ends, .ref a_t_read, .int v_t_many, .int v_t_spot, .ref a_t_track, .ref a_t_lead, .ref a_t_distance, .ref a_t_line])), (a_t_s, .inl (Y.1, 41, .inl f_t_s)), (a_t_cell, .inl (Y.1, 7, .inl f_t_cell))]) (wr := [(a_t_lead, .inl (Y.1, 21, .inl f_t_lead))]) (wn := [(a_t, .inr (8, [.ref a_t_s, .ref a_t_past, .ref a_t_kept, .int v_t_isKept, .int v_t_pasts, .ref a_t_pad, .int v_t_typed, .ref a_t_cell, .ref a_t_other, .ref a_t_rows, .int v_t_ends, .ref a_t_read, .int v_t_many, .int v_t_spot, .ref a_t_track, .ref a_t_lead, .ref a_t_distance, .ref a_t_line])), (a_t_s, .inl (Y.1, 41, .inl f_t_s)), (a_t_cell, .inl (Y.1, 7, .inl q2)), (a_t_lead, .inl (Y.1, 21, .inl f_t_lead))]) (run_V (As := []) (rest := []) E (c_X11_toRounds l D Y a_t a_t_s a_t_past a_t_kept a_t_pad a_t_cell a_t_other a_t_rows a_t_read a_t_track a_t_lead a_t_distance a_t_line v_t_isKept v_t_pasts v_t_typed v_t_ends v_t_many v_t_spot f_t_s f_t_cell H.size q2 h3) qw906 qw908 qw33 qw76 qw909 rfl rfl hd_X11_toRounds ⟨Nat.le_of_ble_eq_true rfl, Nat.le_of_ble_eq_true rfl⟩ (pre_rwV hP hD hE [0, 1, 2] rfl (by decide) rfl (ci := 8) (q0 := 0) rfl rfl) rfl hl.1 rfl (Nat.le_of_ble_eq_true rfl) dX11_takesLeads_8 ⟨Nat.zero_le _, Nat.zero_le _⟩) hP hD hS hA [0, 1, 2] [3] [1, 2, 3, 0] rfl rfl (by decide) (by decide) rfl rfl (by decide) (fun H locs  hP hD hS => ?_)
      refine lv_iconst (v := 0) hx hb dX11_takesLeads_11 (by decide) ?_
      refine lv_istore_n (lv' := [(2, .int 0), (0, .ref a_t), (1, .int s1)]) hx hb dX11_takesLeads_12 rfl hl (by decide) rfl (fun ls hl => ?_)
      refine L13 _ _ _ _ _ _ _ _ _ hf hP hD hS (lv_sub hl [1, 2, 0] rfl) ?_
      intro y9 y10 H locs ls hf hP hD hS hl
      refine lv_iconst (v := 0) hx hb dX11_takesLeads_39 (by decide) ?_
      refine lv_istore_n (lv' := [(2, .int 0), (0, .ref a_t), (1, .int s1)]) hx hb dX11_takesLeads_40 rfl hl (by decide) rfl (fun ls hl => ?_)
      refine L41 _ _ _ _ _ _ _ _ _ hf hP hD hS (lv_sub hl [1, 2, 0] rfl) ?_
      intro y14 y15 H locs ls hf hP hD hS hl
      refine lv_iinc (v := (s1 + 1)) (lv' := [(1, .int (s1 + 1)), (0, .ref a_t)]) hx hb dX11_takesLeads_74 hl (k := 1) rfl rfl (by decide) rfl (fun ls hl => ?_)
      refine lv_goto (tgt := 2) hx hb dX11_takesLeads_77 (by decide) ?_
      exact ih _ _ _ _ _ _ hf hP hD hS (lv_sub hl [1, 0] rfl)
  refine lv_iconst (v := 0) hx hb dX11_takesLeads_0 (by decide) ?_
  refine lv_istore_n (lv' := [(1, .int 0), (0, .ref a_t)]) hx hb dX11_takesLeads_1 rfl hl (by decide) rfl (fun ls hl => ?_)
  exact L2 _ _ _ _ _ _ _ hf hP hD hS (lv_sub hl [1, 0] rfl)

def f_X11_moved_L8 (k : Int32 → (Nat → Int32) → Option (Int32 × (Nat → Int32) × (Nat → Int32))) (s2 : Int32) (s3 : Int32) (f_t_s : Nat → Int32) (f_t_cell : Nat → Int32) (f_t_lead : Nat → Int32) : Nat → Int32 → (Nat → Int32) → Option (Int32 × (Nat → Int32) × (Nat → Int32))
  | 0, _, _ => none
  | n + 1, s4, f_t_other => (if (f_t_s (0 : Int32).toNatClampNeg) ≤ s4 then (k s4 f_t_other) else gd (inb s4 7) ((f_X11_moved_L8 k s2 s3 f_t_s f_t_cell f_t_lead n (s4 + 1) (upd f_t_other s4.toNatClampNeg (f_t_cell s4.toNatClampNeg)))))
def f_X11_moved_L42 (k : Int32 → (Nat → Int32) → Option (Int32 × (Nat → Int32) × (Nat → Int32))) (s2 : Int32) (s3 : Int32) (f_t_s : Nat → Int32) (f_t_other : Nat → Int32) (f_t_lead : Nat → Int32) : Nat → Int32 → (Nat → Int32) → Option (Int32 × (Nat → Int32) × (Nat → Int32))
  | 0, _, _ => none
  | n + 1, s4, f_t_cell => (if (f_t_s (0 : Int32).toNatClampNeg) ≤ s4 then (k s4 f_t_cell) else gd (inb (((7 : Int32) * s2) + s4) 21) (nm (f_t_lead (((7 : Int32) * s2) + s4).toNatClampNeg) (fun (x9 : Int32) => (if s3 = 0 then gd (inb x9 7) (gd (inb s4 7) ((f_X11_moved_L42 k s2 s3 f_t_s f_t_other f_t_lead n (s4 + 1) (upd f_t_cell s4.toNatClampNeg (f_t_other x9.toNatClampNeg))))) else gd (inb s4 7) (gd (inb x9 7) ((f_X11_moved_L42 k s2 s3 f_t_s f_t_other f_t_lead n (s4 + 1) (upd f_t_cell x9.toNatClampNeg (f_t_other s4.toNatClampNeg)))))))))
def f_X11_moved (s1 : Int32) (s2 : Int32) (s3 : Int32) (f_t_s : Nat → Int32) (f_t_cell : Nat → Int32) (f_t_other : Nat → Int32) (f_t_lead : Nat → Int32) : Option (Int32 × (Nat → Int32) × (Nat → Int32)) :=
  bd (f_X11_unrank s1 f_t_s f_t_cell) (fun q1 => (f_X11_moved_L8 (fun (y5 : Int32) (y6 : Nat → Int32) => (f_X11_moved_L42 (fun (y15 : Int32) (y16 : Nat → Int32) => bd (f_X11_rank f_t_s y16) (fun q17 => some (q17, y16, y6))) s2 s3 f_t_s y6 f_t_lead fu 0 q1)) s2 s3 f_t_s q1 f_t_lead fu 0 f_t_other))
abbrev rm_X11_moved : Room := { frames := 2, cells := 0, slots := 0, locals := 49 }
set_option maxHeartbeats 4000000 in
set_option maxRecDepth 100000 in
theorem c_X11_moved (l : Launch) (D : va_G) (Y : ClassId × ClassId × ClassId) (a_t a_t_s a_t_past a_t_kept a_t_pad a_t_cell a_t_other a_t_rows a_t_read a_t_track a_t_lead a_t_distance a_t_line : Nat) (v_t_isKept : Int32) (v_t_pasts : Int32) (v_t_typed : Int32) (v_t_ends : Int32) (v_t_many : Int32) (v_t_spot : Int32) (f_t_s : Nat → Int32) (f_t_cell : Nat → Int32) (f_t_other : Nat → Int32) (f_t_lead : Nat → Int32) (s1 : Int32) (s2 : Int32) (s3 : Int32) (sz : Nat) (R : Int32 × (Nat → Int32) × (Nat → Int32)) (hf : f_X11_moved s1 s2 s3 f_t_s f_t_cell f_t_other f_t_lead = some R) : Met l yX11_moved (ws_ yX11_moved cX11_moved 6 (some .int)) rm_X11_moved (va_Pc [.ref a_t, .int s1, .int s2, .int s3] (RW D Y sz [(a_t, .inr (8, [.ref a_t_s, .ref a_t_past, .ref a_t_kept, .int v_t_isKept, .int v_t_pasts, .ref a_t_pad, .int v_t_typed, .ref a_t_cell, .ref a_t_other, .ref a_t_rows, .int v_t_ends, .ref a_t_read, .int v_t_many, .int v_t_spot, .ref a_t_track, .ref a_t_lead, .ref a_t_distance, .ref a_t_line])), (a_t_s, .inl (Y.1, 41, .inl f_t_s)), (a_t_cell, .inl (Y.1, 7, .inl f_t_cell)), (a_t_other, .inl (Y.1, 7, .inl f_t_other)), (a_t_lead, .inl (Y.1, 21, .inl f_t_lead))])) (QI D R.1 [(a_t, .inr (8, [.ref a_t_s, .ref a_t_past, .ref a_t_kept, .int v_t_isKept, .int v_t_pasts, .ref a_t_pad, .int v_t_typed, .ref a_t_cell, .ref a_t_other, .ref a_t_rows, .int v_t_ends, .ref a_t_read, .int v_t_many, .int v_t_spot, .ref a_t_track, .ref a_t_lead, .ref a_t_distance, .ref a_t_line])), (a_t_s, .inl (Y.1, 41, .inl f_t_s)), (a_t_cell, .inl (Y.1, 7, .inl R.2.1)), (a_t_other, .inl (Y.1, 7, .inl R.2.2)), (a_t_lead, .inl (Y.1, 21, .inl f_t_lead))] (va_A [(a_t, .inr (8, [.ref a_t_s, .ref a_t_past, .ref a_t_kept, .int v_t_isKept, .int v_t_pasts, .ref a_t_pad, .int v_t_typed, .ref a_t_cell, .ref a_t_other, .ref a_t_rows, .int v_t_ends, .ref a_t_read, .int v_t_many, .int v_t_spot, .ref a_t_track, .ref a_t_lead, .ref a_t_distance, .ref a_t_line])), (a_t_s, .inl (Y.1, 41, .inl f_t_s)), (a_t_cell, .inl (Y.1, 7, .inl f_t_cell)), (a_t_other, .inl (Y.1, 7, .inl f_t_other)), (a_t_lead, .inl (Y.1, 21, .inl f_t_lead))] sz)) 0 0 (va_A [(a_t, .inr (8, [.ref a_t_s, .ref a_t_past, .ref a_t_kept, .int v_t_isKept, .int v_t_pasts, .ref a_t_pad, .int v_t_typed, .ref a_t_cell, .ref a_t_other, .ref a_t_rows, .int v_t_ends, .ref a_t_read, .int v_t_many, .int v_t_spot, .ref a_t_track, .ref a_t_lead, .ref a_t_distance, .ref a_t_line])), (a_t_s, .inl (Y.1, 41, .inl f_t_s)), (a_t_cell, .inl (Y.1, 7, .inl f_t_cell)), (a_t_other, .inl (Y.1, 7, .inl f_t_other)), (a_t_lead, .inl (Y.1, 21, .inl f_t_lead))] sz) := by
  refine rw_start (Qc := fun A => QI D R.1 [(a_t, .inr (8, [.ref a_t_s, .ref a_t_past, .ref a_t_kept, .int v_t_isKept, .int v_t_pasts, .ref a_t_pad, .int v_t_typed, .ref a_t_cell, .ref a_t_other, .ref a_t_rows, .int v_t_ends, .ref a_t_read, .int v_t_many, .int v_t_spot, .ref a_t_track, .ref a_t_lead, .ref a_t_distance, .ref a_t_line])), (a_t_s, .inl (Y.1, 41, .inl f_t_s)), (a_t_cell, .inl (Y.1, 7, .inl R.2.1)), (a_t_other, .inl (Y.1, 7, .inl R.2.2)), (a_t_lead, .inl (Y.1, 21, .inl f_t_lead))] A) (by decide) (Nat.le_of_ble_eq_true rfl) ?_
  intro p e s m below meth c ls A hx hb hml hr hlocks hown hts hnm hA hP hD hS hE hl
  generalize hargs : List.toArray _ = args at hts ⊢
  have hown : s.vm.findClass RX11 = some m.cls := hown
  have E : EN p m c cX11_moved 6 s args RX11 := ⟨hx, hb, hml, hown, hts⟩
  have hl : lv_has ls 6 [(0, .ref a_t), (1, .int s1), (2, .int s2), (3, .int s3)] := hl
  generalize hQ : MQ below _ args s 0 0 _ = Q
  unfold f_X11_moved at hf
  have L8 : ∀ (n : Nat) (k : Int32 → (Nat → Int32) → Option (Int32 × (Nat → Int32) × (Nat → Int32))) (s2 : Int32) (s3 : Int32) (f_t_cell : Nat → Int32) (s4 : Int32) (f_t_other : Nat → Int32) (H : Heap) (locs : List Loc) (ls : Array Slot), f_X11_moved_L8 k s2 s3 f_t_s f_t_cell f_t_lead n s4 f_t_other = some R → va_P D vwCl [(a_t, .inr (8, [.ref a_t_s, .ref a_t_past, .ref a_t_kept, .int v_t_isKept, .int v_t_pasts, .ref a_t_pad, .int v_t_typed, .ref a_t_cell, .ref a_t_other, .ref a_t_rows, .int v_t_ends, .ref a_t_read, .int v_t_many, .int v_t_spot, .ref a_t_track, .ref a_t_lead, .ref a_t_distance, .ref a_t_line])), (a_t_s, .inl (Y.1, 41, .inl f_t_s)), (a_t_cell, .inl (Y.1, 7, .inl f_t_cell)), (a_t_other, .inl (Y.1, 7, .inl f_t_other)), (a_t_lead, .inl (Y.1, 21, .inl f_t_lead))] H → va_D A [(a_t, .inr (8, [.ref a_t_s, .ref a_t_past, .ref a_t_kept, .int v_t_isKept, .int v_t_pasts, .ref a_t_pad, .int v_t_typed, .ref a_t_cell, .ref a_t_other, .ref a_t_rows, .int v_t_ends, .ref a_t_read, .int v_t_many, .int v_t_spot, .ref a_t_track, .ref a_t_lead, .ref a_t_distance, .ref a_t_line])), (a_t_s, .inl (Y.1, 41, .inl f_t_s)), (a_t_cell, .inl (Y.1, 7, .inl f_t_cell)), (a_t_other, .inl (Y.1, 7, .inl f_t_other)), (a_t_lead, .inl (Y.1, 21, .inl f_t_lead))] → va_S A s.heap H locs → lv_has ls 6 [(0, .ref a_t), (2, .int s2), (3, .int s3), (4, .int s4)] → (∀ (y_s4 : Int32) (y_f_t_other : Nat → Int32) (H : Heap) (locs : List Loc) (ls : Array Slot), k y_s4 y_f_t_other = some R → va_P D vwCl [(a_t, .inr (8, [.ref a_t_s, .ref a_t_past, .ref a_t_kept, .int v_t_isKept, .int v_t_pasts, .ref a_t_pad, .int v_t_typed, .ref a_t_cell, .ref a_t_other, .ref a_t_rows, .int v_t_ends, .ref a_t_read, .int v_t_many, .int v_t_spot, .ref a_t_track, .ref a_t_lead, .ref a_t_distance, .ref a_t_line])), (a_t_s, .inl (Y.1, 41, .inl f_t_s)), (a_t_cell, .inl (Y.1, 7, .inl f_t_cell)), (a_t_other, .inl (Y.1, 7, .inl y_f_t_other)), (a_t_lead, .inl (Y.1, 21, .inl f_t_lead))] H → va_D A [(a_t, .inr (8, [.ref a_t_s, .ref a_t_past, .ref a_t_kept, .int v_t_isKept, .int v_t_pasts, .ref a_t_pad, .int v_t_typed, .ref a_t_cell, .ref a_t_other, .ref a_t_rows, .int v_t_ends, .ref a_t_read, .int v_t_many, .int v_t_spot, .ref a_t_track, .ref a_t_lead, .ref a_t_distance, .ref a_t_line])), (a_t_s, .inl (Y.1, 41, .inl f_t_s)), (a_t_cell, .inl (Y.1, 7, .inl f_t_cell)), (a_t_other, .inl (Y.1, 7, .inl y_f_t_other)), (a_t_lead, .inl (Y.1, 21, .inl f_t_lead))] → va_S A s.heap H locs → lv_has ls 6 [(0, .ref a_t), (2, .int s2), (3, .int s3)] → W p l e rm_X11_moved s m args below meth c H locs 0 0 Q (F0 m 39 ls [])) → W p l e rm_X11_moved s m args below meth c H locs 0 0 Q (F0 m 8 ls []) := by
    intro n
    induction n with
    | zero =>
      intro k s2 s3 f_t_cell s4 f_t_other H locs ls hf
      cases hf
    | succ n ih =>
      intro k s2 s3 f_t_cell s4 f_t_other H locs ls hf hP hD hS hl hk
      unfold f_X11_moved_L8 at hf
      refine lv_iload hx hb dX11_moved_8 (lv_at hl 3 rfl) ?_
      refine lv_aload_n hx hb dX11_moved_10 rfl (lv_at hl 0 rfl) ?_
      refine va_get (D := D) (ci := 8) (v := .ref a_t_s) (C := RX11) (T := TX11) (N := 18) hx hb hts inX11 hown hE.1 hP 0 rfl rfl 0 (by decide) (hts _ qw761) (fun _ h9 => h9) rfl dX11_moved_11 ?_
      refine lv_iconst (v := 0) hx hb dX11_moved_14 (by decide) ?_
      refine va_iald hx hb hE.1 hP 1 0 rfl rfl (inb_in (by decide)) dX11_moved_15 ?_
      refine lv_icmp_ge (tgt := 39) hx hb dX11_moved_16 (by decide) (fun c3 => ?_) (fun c3 => ?_)
      · have hf := ite_t c3 hf
        exact hk _ _ _ _ _ hf hP hD hS (lv_sub hl [0, 1, 2] rfl)
      have hf := ite_f c3 hf
      refine lv_aload_n hx hb dX11_moved_19 rfl (lv_at hl 0 rfl) ?_
      refine va_get (D := D) (ci := 8) (v := .ref a_t_other) (C := RX11) (T := TX11) (N := 18) hx hb hts inX11 hown hE.1 hP 0 rfl rfl 8 (by decide) (hts _ qw769) (fun _ h9 => h9) rfl dX11_moved_20 ?_
      refine lv_iload hx hb dX11_moved_23 (lv_at hl 3 rfl) ?_
      refine lv_aload_n hx hb dX11_moved_25 rfl (lv_at hl 0 rfl) ?_
      refine va_get (D := D) (ci := 8) (v := .ref a_t_cell) (C := RX11) (T := TX11) (N := 18) hx hb hts inX11 hown hE.1 hP 0 rfl rfl 7 (by decide) (hts _ qw768) (fun _ h9 => h9) rfl dX11_moved_26 ?_
      refine lv_iload hx hb dX11_moved_29 (lv_at hl 3 rfl) ?_
      obtain ⟨g4, hf⟩ := gd_s hf
      refine va_iald hx hb hE.1 hP 2 0 rfl rfl (inb_in g4) dX11_moved_31 ?_
      refine va_iast hx hb hE.1 hP hD hS 3 0 rfl rfl (inb_in g4) dX11_moved_32 (fun H locs hP hD hS => ?_)
      have hP : va_P D vwCl [(a_t, .inr (8, [.ref a_t_s, .ref a_t_past, .ref a_t_kept, .int v_t_isKept, .int v_t_pasts, .ref a_t_pad, .int v_t_typed, .ref a_t_cell, .ref a_t_other, .ref a_t_rows, .int v_t_ends, .ref a_t_read, .int v_t_many, .int v_t_spot, .ref a_t_track, .ref a_t_lead, .ref a_t_distance, .ref a_t_line])), (a_t_s, .inl (Y.1, 41, .inl f_t_s)), (a_t_cell, .inl (Y.1, 7, .inl f_t_cell)), (a_t_other, .inl (Y.1, 7, .inl (upd f_t_other s4.toNatClampNeg (f_t_cell s4.toNatClampNeg)))), (a_t_lead, .inl (Y.1, 21, .inl f_t_lead))] H := hP
      have hD : va_D A [(a_t, .inr (8, [.ref a_t_s, .ref a_t_past, .ref a_t_kept, .int v_t_isKept, .int v_t_pasts, .ref a_t_pad, .int v_t_typed, .ref a_t_cell, .ref a_t_other, .ref a_t_rows, .int v_t_ends, .ref a_t_read, .int v_t_many, .int v_t_spot, .ref a_t_track, .ref a_t_lead, .ref a_t_distance, .ref a_t_line])), (a_t_s, .inl (Y.1, 41, .inl f_t_s)), (a_t_cell, .inl (Y.1, 7, .inl f_t_cell)), (a_t_other, .inl (Y.1, 7, .inl (upd f_t_other s4.toNatClampNeg (f_t_cell s4.toNatClampNeg)))), (a_t_lead, .inl (Y.1, 21, .inl f_t_lead))] := hD
      refine lv_iinc (v := (s4 + 1)) (lv' := [(4, .int (s4 + 1)), (0, .ref a_t), (2, .int s2), (3, .int s3)]) hx hb dX11_moved_33 hl (k := 3) rfl rfl (by decide) rfl (fun ls hl => ?_)
      refine lv_goto (tgt := 8) hx hb dX11_moved_36 (by decide) ?_
      exact ih _ _ _ _ _ _ _ _ _ hf hP hD hS (lv_sub hl [1, 2, 3, 0] rfl) hk
  have L42 : ∀ (n : Nat) (k : Int32 → (Nat → Int32) → Option (Int32 × (Nat → Int32) × (Nat → Int32))) (s2 : Int32) (s3 : Int32) (f_t_other : Nat → Int32) (s4 : Int32) (f_t_cell : Nat → Int32) (H : Heap) (locs : List Loc) (ls : Array Slot), f_X11_moved_L42 k s2 s3 f_t_s f_t_other f_t_lead n s4 f_t_cell = some R → va_P D vwCl [(a_t, .inr (8, [.ref a_t_s, .ref a_t_past, .ref a_t_kept, .int v_t_isKept, .int v_t_pasts, .ref a_t_pad, .int v_t_typed, .ref a_t_cell, .ref a_t_other, .ref a_t_rows, .int v_t_ends, .ref a_t_read, .int v_t_many, .int v_t_spot, .ref a_t_track, .ref a_t_lead, .ref a_t_distance, .ref a_t_line])), (a_t_s, .inl (Y.1, 41, .inl f_t_s)), (a_t_cell, .inl (Y.1, 7, .inl f_t_cell)), (a_t_other, .inl (Y.1, 7, .inl f_t_other)), (a_t_lead, .inl (Y.1, 21, .inl f_t_lead))] H → va_D A [(a_t, .inr (8, [.ref a_t_s, .ref a_t_past, .ref a_t_kept, .int v_t_isKept, .int v_t_pasts, .ref a_t_pad, .int v_t_typed, .ref a_t_cell, .ref a_t_other, .ref a_t_rows, .int v_t_ends, .ref a_t_read, .int v_t_many, .int v_t_spot, .ref a_t_track, .ref a_t_lead, .ref a_t_distance, .ref a_t_line])), (a_t_s, .inl (Y.1, 41, .inl f_t_s)), (a_t_cell, .inl (Y.1, 7, .inl f_t_cell)), (a_t_other, .inl (Y.1, 7, .inl f_t_other)), (a_t_lead, .inl (Y.1, 21, .inl f_t_lead))] → va_S A s.heap H locs → lv_has ls 6 [(0, .ref a_t), (2, .int s2), (3, .int s3), (4, .int s4)] → (∀ (y_s4 : Int32) (y_f_t_cell : Nat → Int32) (H : Heap) (locs : List Loc) (ls : Array Slot), k y_s4 y_f_t_cell = some R → va_P D vwCl [(a_t, .inr (8, [.ref a_t_s, .ref a_t_past, .ref a_t_kept, .int v_t_isKept, .int v_t_pasts, .ref a_t_pad, .int v_t_typed, .ref a_t_cell, .ref a_t_other, .ref a_t_rows, .int v_t_ends, .ref a_t_read, .int v_t_many, .int v_t_spot, .ref a_t_track, .ref a_t_lead, .ref a_t_distance, .ref a_t_line])), (a_t_s, .inl (Y.1, 41, .inl f_t_s)), (a_t_cell, .inl (Y.1, 7, .inl y_f_t_cell)), (a_t_other, .inl (Y.1, 7, .inl f_t_other)), (a_t_lead, .inl (Y.1, 21, .inl f_t_lead))] H → va_D A [(a_t, .inr (8, [.ref a_t_s, .ref a_t_past, .ref a_t_kept, .int v_t_isKept, .int v_t_pasts, .ref a_t_pad, .int v_t_typed, .ref a_t_cell, .ref a_t_other, .ref a_t_rows, .int v_t_ends, .ref a_t_read, .int v_t_many, .int v_t_spot, .ref a_t_track, .ref a_t_lead, .ref a_t_distance, .ref a_t_line])), (a_t_s, .inl (Y.1, 41, .inl f_t_s)), (a_t_cell, .inl (Y.1, 7, .inl y_f_t_cell)), (a_t_other, .inl (Y.1, 7, .inl f_t_other)), (a_t_lead, .inl (Y.1, 21, .inl f_t_lead))] → va_S A s.heap H locs → lv_has ls 6 [(0, .ref a_t)] → W p l e rm_X11_moved s m args below meth c H locs 0 0 Q (F0 m 108 ls [])) → W p l e rm_X11_moved s m args below meth c H locs 0 0 Q (F0 m 42 ls []) := by
    intro n
    induction n with
    | zero =>
      intro k s2 s3 f_t_other s4 f_t_cell H locs ls hf
      cases hf
    | succ n ih =>
      intro k s2 s3 f_t_other s4 f_t_cell H locs ls hf hP hD hS hl hk
      unfold f_X11_moved_L42 at hf
      refine lv_iload hx hb dX11_moved_42 (lv_at hl 3 rfl) ?_
      refine lv_aload_n hx hb dX11_moved_44 rfl (lv_at hl 0 rfl) ?_
      refine va_get (D := D) (ci := 8) (v := .ref a_t_s) (C := RX11) (T := TX11) (N := 18) hx hb hts inX11 hown hE.1 hP 0 rfl rfl 0 (by decide) (hts _ qw761) (fun _ h9 => h9) rfl dX11_moved_45 ?_
      refine lv_iconst (v := 0) hx hb dX11_moved_48 (by decide) ?_
      refine va_iald hx hb hE.1 hP 1 0 rfl rfl (inb_in (by decide)) dX11_moved_49 ?_
      refine lv_icmp_ge (tgt := 108) hx hb dX11_moved_50 (by decide) (fun c7 => ?_) (fun c7 => ?_)
      · have hf := ite_t c7 hf
        exact hk _ _ _ _ _ hf hP hD hS (lv_sub hl [0] rfl)
      have hf := ite_f c7 hf
      refine lv_aload_n hx hb dX11_moved_53 rfl (lv_at hl 0 rfl) ?_
      refine va_get (D := D) (ci := 8) (v := .ref a_t_lead) (C := RX11) (T := TX11) (N := 18) hx hb hts inX11 hown hE.1 hP 0 rfl rfl 15 (by decide) (hts _ qw776) (fun _ h9 => h9) rfl dX11_moved_54 ?_
      refine lv_bipush (v := 7) hx hb dX11_moved_57 (by decide) ?_
      refine lv_iload_n hx hb dX11_moved_59 rfl (lv_at hl 1 rfl) ?_
      refine lv_imul hx hb dX11_moved_60 ?_
      refine lv_iload hx hb dX11_moved_61 (lv_at hl 3 rfl) ?_
      refine lv_iadd hx hb dX11_moved_63 ?_
      obtain ⟨g8, hf⟩ := gd_s hf
      refine va_iald hx hb hE.1 hP 4 0 rfl rfl (inb_in g8) dX11_moved_64 ?_
      refine nm_W hf (fun x9 hf => ?_)
      refine lv_istore (lv' := [(5, .int x9), (0, .ref a_t), (2, .int s2), (3, .int s3), (4, .int s4)]) hx hb dX11_moved_65 hl (by decide) rfl (fun ls hl => ?_)
      refine lv_iload_n hx hb dX11_moved_67 rfl (lv_at hl 3 rfl) ?_
      refine lv_if_eq (tgt := 88) hx hb dX11_moved_68 (by decide) (fun c10 => ?_) (fun c10 => ?_)
      · have hf := ite_t c10 hf
        refine lv_aload_n hx hb dX11_moved_88 rfl (lv_at hl 1 rfl) ?_
        refine va_get (D := D) (ci := 8) (v := .ref a_t_cell) (C := RX11) (T := TX11) (N := 18) hx hb hts inX11 hown hE.1 hP 0 rfl rfl 7 (by decide) (hts _ qw768) (fun _ h9 => h9) rfl dX11_moved_89 ?_
        refine lv_iload hx hb dX11_moved_92 (lv_at hl 4 rfl) ?_
        refine lv_aload_n hx hb dX11_moved_94 rfl (lv_at hl 1 rfl) ?_
        refine va_get (D := D) (ci := 8) (v := .ref a_t_other) (C := RX11) (T := TX11) (N := 18) hx hb hts inX11 hown hE.1 hP 0 rfl rfl 8 (by decide) (hts _ qw769) (fun _ h9 => h9) rfl dX11_moved_95 ?_
        refine lv_iload hx hb dX11_moved_98 (lv_at hl 0 rfl) ?_
        obtain ⟨g11, hf⟩ := gd_s hf
        refine va_iald hx hb hE.1 hP 3 0 rfl rfl (inb_in g11) dX11_moved_100 ?_
        obtain ⟨g12, hf⟩ := gd_s hf
        refine va_iast hx hb hE.1 hP hD hS 2 0 rfl rfl (inb_in g12) dX11_moved_101 (fun H locs hP hD hS => ?_)
        have hP : va_P D vwCl [(a_t, .inr (8, [.ref a_t_s, .ref a_t_past, .ref a_t_kept, .int v_t_isKept, .int v_t_pasts, .ref a_t_pad, .int v_t_typed, .ref a_t_cell, .ref a_t_other, .ref a_t_rows, .int v_t_ends, .ref a_t_read, .int v_t_many, .int v_t_spot, .ref a_t_track, .ref a_t_lead, .ref a_t_distance, .ref a_t_line])), (a_t_s, .inl (Y.1, 41, .inl f_t_s)), (a_t_cell, .inl (Y.1, 7, .inl (upd f_t_cell s4.toNatClampNeg (f_t_other x9.toNatClampNeg)))), (a_t_other, .inl (Y.1, 7, .inl f_t_other)), (a_t_lead, .inl (Y.1, 21, .inl f_t_lead))] H := hP
        have hD : va_D A [(a_t, .inr (8, [.ref a_t_s, .ref a_t_past, .ref a_t_kept, .int v_t_isKept, .int v_t_pasts, .ref a_t_pad, .int v_t_typed, .ref a_t_cell, .ref a_t_other, .ref a_t_rows, .int v_t_ends, .ref a_t_read, .int v_t_many, .int v_t_spot, .ref a_t_track, .ref a_t_lead, .ref a_t_distance, .ref a_t_line])), (a_t_s, .inl (Y.1, 41, .inl f_t_s)), (a_t_cell, .inl (Y.1, 7, .inl (upd f_t_cell s4.toNatClampNeg (f_t_other x9.toNatClampNeg)))), (a_t_other, .inl (Y.1, 7, .inl f_t_other)), (a_t_lead, .inl (Y.1, 21, .inl f_t_lead))] := hD
        refine lv_iinc (v := (s4 + 1)) (lv' := [(4, .int (s4 + 1)), (5, .int x9), (0, .ref a_t), (2, .int s2), (3, .int s3)]) hx hb dX11_moved_102 hl (k := 4) rfl rfl (by decide) rfl (fun ls hl => ?_)
        refine lv_goto (tgt := 42) hx hb dX11_moved_105 (by decide) ?_
        exact ih _ _ _ _ _ _ _ _ _ hf hP hD hS (lv_sub hl [2, 3, 4, 0] rfl) hk
      have hf := ite_f c10 hf
      refine lv_aload_n hx hb dX11_moved_71 rfl (lv_at hl 1 rfl) ?_
      refine va_get (D := D) (ci := 8) (v := .ref a_t_cell) (C := RX11) (T := TX11) (N := 18) hx hb hts inX11 hown hE.1 hP 0 rfl rfl 7 (by decide) (hts _ qw768) (fun _ h9 => h9) rfl dX11_moved_72 ?_
      refine lv_iload hx hb dX11_moved_75 (lv_at hl 0 rfl) ?_
      refine lv_aload_n hx hb dX11_moved_77 rfl (lv_at hl 1 rfl) ?_
      refine va_get (D := D) (ci := 8) (v := .ref a_t_other) (C := RX11) (T := TX11) (N := 18) hx hb hts inX11 hown hE.1 hP 0 rfl rfl 8 (by decide) (hts _ qw769) (fun _ h9 => h9) rfl dX11_moved_78 ?_
      refine lv_iload hx hb dX11_moved_81 (lv_at hl 4 rfl) ?_
      obtain ⟨g13, hf⟩ := gd_s hf
      refine va_iald hx hb hE.1 hP 3 0 rfl rfl (inb_in g13) dX11_moved_83 ?_
      obtain ⟨g14, hf⟩ := gd_s hf
      refine va_iast hx hb hE.1 hP hD hS 2 0 rfl rfl (inb_in g14) dX11_moved_84 (fun H locs hP hD hS => ?_)
      have hP : va_P D vwCl [(a_t, .inr (8, [.ref a_t_s, .ref a_t_past, .ref a_t_kept, .int v_t_isKept, .int v_t_pasts, .ref a_t_pad, .int v_t_typed, .ref a_t_cell, .ref a_t_other, .ref a_t_rows, .int v_t_ends, .ref a_t_read, .int v_t_many, .int v_t_spot, .ref a_t_track, .ref a_t_lead, .ref a_t_distance, .ref a_t_line])), (a_t_s, .inl (Y.1, 41, .inl f_t_s)), (a_t_cell, .inl (Y.1, 7, .inl (upd f_t_cell x9.toNatClampNeg (f_t_other s4.toNatClampNeg)))), (a_t_other, .inl (Y.1, 7, .inl f_t_other)), (a_t_lead, .inl (Y.1, 21, .inl f_t_lead))] H := hP
      have hD : va_D A [(a_t, .inr (8, [.ref a_t_s, .ref a_t_past, .ref a_t_kept, .int v_t_isKept, .int v_t_pasts, .ref a_t_pad, .int v_t_typed, .ref a_t_cell, .ref a_t_other, .ref a_t_rows, .int v_t_ends, .ref a_t_read, .int v_t_many, .int v_t_spot, .ref a_t_track, .ref a_t_lead, .ref a_t_distance, .ref a_t_line])), (a_t_s, .inl (Y.1, 41, .inl f_t_s)), (a_t_cell, .inl (Y.1, 7, .inl (upd f_t_cell x9.toNatClampNeg (f_t_other s4.toNatClampNeg)))), (a_t_other, .inl (Y.1, 7, .inl f_t_other)), (a_t_lead, .inl (Y.1, 21, .inl f_t_lead))] := hD
      refine lv_goto (tgt := 102) hx hb dX11_moved_85 (by decide) ?_
      refine lv_iinc (v := (s4 + 1)) (lv' := [(4, .int (s4 + 1)), (5, .int x9), (0, .ref a_t), (2, .int s2), (3, .int s3)]) hx hb dX11_moved_102 hl (k := 4) rfl rfl (by decide) rfl (fun ls hl => ?_)
      refine lv_goto (tgt := 42) hx hb dX11_moved_105 (by decide) ?_
      exact ih _ _ _ _ _ _ _ _ _ hf hP hD hS (lv_sub hl [2, 3, 4, 0] rfl) hk
  refine lv_aload_n hx hb dX11_moved_0 rfl (lv_at hl 0 rfl) ?_
  refine lv_iload_n hx hb dX11_moved_1 rfl (lv_at hl 1 rfl) ?_
  obtain ⟨q1, h2, hf⟩ := bd_s hf
  refine af_v0 (wc := [(a_t, .inr (8, [.ref a_t_s, .ref a_t_past, .ref a_t_kept, .int v_t_isKept, .int v_t_pasts, .ref a_t_pad, .int v_t_typed, .ref a_t_cell, .ref a_t_other, .ref a_t_rows, .int v_t_ends, .ref a_t_read, .int v_t_many, .int v_t_spot, .ref a_t_track, .ref a_t_lead, .ref a_t_distance, .ref a_t_line])), (a_t_s, .inl (Y.1, 41, .inl f_t_s)), (a_t_cell, .inl (Y.1, 7, .inl f_t_cell))]) (wr := [(a_t_other, .inl (Y.1, 7, .inl f_t_other)), (a_t_lead, .inl (Y.1, 21, .inl f_t_lead))]) (wn := [(a_t, .inr (8, [.ref a_t_s, .ref a_t_past, .ref a_t_kept, .int v_t_isKept, .int v_t_pasts, .ref a_t_pad, .int v_t_typed, .ref a_t_cell, .ref a_t_other, .ref a_t_rows, .int v_t_ends, .ref a_t_read, .int v_t_many, .int v_t_spot, .ref a_t_track, .ref a_t_lead, .ref a_t_distance, .ref a_t_line])), (a_t_s, .inl (Y.1, 41, .inl f_t_s)), (a_t_cell, .inl (Y.1, 7, .inl q1)), (a_t_other, .inl (Y.1, 7, .inl f_t_other)), (a_t_lead, .inl (Y.1, 21, .inl f_t_lead))]) (run_V (As := [.int s1]) (rest := []) E (c_X11_unrank l D Y a_t a_t_s a_t_past a_t_kept a_t_pad a_t_cell a_t_other a_t_rows a_t_read a_t_track a_t_lead a_t_distance a_t_line v_t_isKept v_t_pasts v_t_typed v_t_ends v_t_many v_t_spot f_t_s f_t_cell s1 s.heap.size q1 h2) qw926 qw928 qw38 qw76 qw929 rfl rfl hd_X11_unrank ⟨Nat.le_of_ble_eq_true rfl, Nat.le_of_ble_eq_true rfl⟩ (pre_rwV hP hD hE [0, 1, 2] rfl (by decide) rfl (ci := 8) (q0 := 0) rfl rfl) rfl hl.1 rfl (Nat.le_of_ble_eq_true rfl) dX11_moved_2 ⟨Nat.zero_le _, Nat.zero_le _⟩) hP hD hS hA [0, 1, 2] [3, 4] [2, 3, 4, 0, 1] rfl rfl (by decide) (by decide) rfl rfl (by decide) (fun H locs  hP hD hS => ?_)
  refine lv_iconst (v := 0) hx hb dX11_moved_5 (by decide) ?_
  refine lv_istore (lv' := [(4, .int 0), (0, .ref a_t), (1, .int s1), (2, .int s2), (3, .int s3)]) hx hb dX11_moved_6 hl (by decide) rfl (fun ls hl => ?_)
  refine L8 _ _ _ _ _ _ _ _ _ _ hf hP hD hS (lv_sub hl [1, 3, 4, 0] rfl) ?_
  intro y5 y6 H locs ls hf hP hD hS hl
  refine lv_iconst (v := 0) hx hb dX11_moved_39 (by decide) ?_
  refine lv_istore (lv' := [(4, .int 0), (0, .ref a_t), (2, .int s2), (3, .int s3)]) hx hb dX11_moved_40 hl (by decide) rfl (fun ls hl => ?_)
  refine L42 _ _ _ _ _ _ _ _ _ _ hf hP hD hS (lv_sub hl [1, 2, 3, 0] rfl) ?_
  intro y15 y16 H locs ls hf hP hD hS hl
  refine lv_aload_n hx hb dX11_moved_108 rfl (lv_at hl 0 rfl) ?_
  obtain ⟨q17, h18, hf⟩ := bd_s hf
  refine af_oi (run_V (As := []) (rest := []) E (c_X11_rank l D Y a_t a_t_s a_t_past a_t_kept a_t_pad a_t_cell a_t_other a_t_rows a_t_read a_t_track a_t_lead a_t_distance a_t_line v_t_isKept v_t_pasts v_t_typed v_t_ends v_t_many v_t_spot f_t_s y16 q17 h18) qw922 qw924 qw37 qw76 qw925 rfl rfl hd_X11_rank ⟨Nat.le_of_ble_eq_true rfl, Nat.le_of_ble_eq_true rfl⟩ (pre_roV hP hE [0, 1, 2] rfl (ci := 8) (q0 := 0) rfl rfl) rfl hl.1 rfl (Nat.le_of_ble_eq_true rfl) dX11_moved_109 ⟨Nat.zero_le _, Nat.zero_le _⟩) ?_
  obtain rfl := Option.some.inj hf
  subst hQ
  exact en_i hx hb hr hlocks hP hD hS rfl dX11_moved_112

def f_X11_spreadsFrom_L6 (k : Int32 → (Nat → Int32) → Option ((Nat → Int32) × (Nat → Int32) × (Nat → Int32) × (Nat → Int32) × (Nat → Int32))) (s1 : Int32) (s2 : Int32) (f_t_s : Nat → Int32) (f_t_cell : Nat → Int32) (f_t_other : Nat → Int32) (f_t_lead : Nat → Int32) (f_t_line : Nat → Int32) : Nat → Int32 → (Nat → Int32) → Option ((Nat → Int32) × (Nat → Int32) × (Nat → Int32) × (Nat → Int32) × (Nat → Int32))
  | 0, _, _ => none
  | n + 1, s3, f_t_distance => (if (5040 : Int32) ≤ s3 then (k s3 f_t_distance) else gd (inb s3 5040) ((f_X11_spreadsFrom_L6 k s1 s2 f_t_s f_t_cell f_t_other f_t_lead f_t_line n (s3 + 1) (upd f_t_distance s3.toNatClampNeg (-4)))))
def f_X11_spreadsFrom_L55 (k : Int32 → Int32 → (Nat → Int32) → (Nat → Int32) → (Nat → Int32) → (Nat → Int32) → Option ((Nat → Int32) × (Nat → Int32) × (Nat → Int32) × (Nat → Int32) × (Nat → Int32))) (s2 : Int32) (s4 : Int32) (f_t_s : Nat → Int32) (f_t_lead : Nat → Int32) : Nat → Int32 → Int32 → (Nat → Int32) → (Nat → Int32) → (Nat → Int32) → (Nat → Int32) → Option ((Nat → Int32) × (Nat → Int32) × (Nat → Int32) × (Nat → Int32) × (Nat → Int32))
  | 0, _, _, _, _, _, _ => none
  | n + 1, s3, s5, f_t_cell, f_t_other, f_t_distance, f_t_line => (if (3 : Int32) ≤ s5 then (k s3 s5 f_t_cell f_t_other f_t_distance f_t_line) else gd (inb s4 5040) (bd (f_X11_moved (f_t_line s4.toNatClampNeg) s5 s2 f_t_s f_t_cell f_t_other f_t_lead) (fun q11 => gd (inb q11.1 5040) ((if (0 : Int32) ≤ (f_t_distance q11.1.toNatClampNeg) then (f_X11_spreadsFrom_L55 k s2 s4 f_t_s f_t_lead n s3 (s5 + 1) q11.2.1 q11.2.2 f_t_distance f_t_line) else gd (inb (f_t_line s4.toNatClampNeg) 5040) (gd (inb s3 5040) ((f_X11_spreadsFrom_L55 k s2 s4 f_t_s f_t_lead n (s3 + 1) (s5 + 1) q11.2.1 q11.2.2 (upd f_t_distance q11.1.toNatClampNeg ((f_t_distance (f_t_line s4.toNatClampNeg).toNatClampNeg) + 1)) (upd f_t_line s3.toNatClampNeg q11.1)))))))))
def f_X11_spreadsFrom_L46 (s2 : Int32) (f_t_s : Nat → Int32) (f_t_lead : Nat → Int32) : Nat → Int32 → Int32 → (Nat → Int32) → (Nat → Int32) → (Nat → Int32) → (Nat → Int32) → Option ((Nat → Int32) × (Nat → Int32) × (Nat → Int32) × (Nat → Int32) × (Nat → Int32))
  | 0, _, _, _, _, _, _ => none
  | n + 1, s3, s4, f_t_cell, f_t_other, f_t_distance, f_t_line => (if s3 ≤ s4 then some (f_t_cell, f_t_other, f_t_lead, f_t_distance, f_t_line) else (f_X11_spreadsFrom_L55 (fun (y17 : Int32) (y18 : Int32) (y19 : Nat → Int32) (y20 : Nat → Int32) (y21 : Nat → Int32) (y22 : Nat → Int32) => (f_X11_spreadsFrom_L46 s2 f_t_s f_t_lead n y17 (s4 + 1) y19 y20 y21 y22)) s2 s4 f_t_s f_t_lead fu s3 0 f_t_cell f_t_other f_t_distance f_t_line))
def f_X11_spreadsFrom (s1 : Int32) (s2 : Int32) (f_t_s : Nat → Int32) (f_t_cell : Nat → Int32) (f_t_other : Nat → Int32) (f_t_lead : Nat → Int32) (f_t_distance : Nat → Int32) (f_t_line : Nat → Int32) : Option ((Nat → Int32) × (Nat → Int32) × (Nat → Int32) × (Nat → Int32) × (Nat → Int32)) :=
  bd (f_X11_takesLeads f_t_s f_t_cell f_t_lead) (fun q1 => (f_X11_spreadsFrom_L6 (fun (y5 : Int32) (y6 : Nat → Int32) => gd (inb s1 5040) ((f_X11_spreadsFrom_L46 s2 f_t_s q1.2 fu 1 0 q1.1 f_t_other (upd y6 s1.toNatClampNeg 0) (upd f_t_line (0 : Int32).toNatClampNeg s1)))) s1 s2 f_t_s q1.1 f_t_other q1.2 f_t_line fu 0 f_t_distance))
abbrev rm_X11_spreadsFrom : Room := { frames := 3, cells := 0, slots := 0, locals := 74 }
set_option maxHeartbeats 4000000 in
set_option maxRecDepth 100000 in
theorem c_X11_spreadsFrom (l : Launch) (D : va_G) (Y : ClassId × ClassId × ClassId) (a_t a_t_s a_t_past a_t_kept a_t_pad a_t_cell a_t_other a_t_rows a_t_read a_t_track a_t_lead a_t_distance a_t_line : Nat) (v_t_isKept : Int32) (v_t_pasts : Int32) (v_t_typed : Int32) (v_t_ends : Int32) (v_t_many : Int32) (v_t_spot : Int32) (f_t_s : Nat → Int32) (f_t_cell : Nat → Int32) (f_t_other : Nat → Int32) (f_t_lead : Nat → Int32) (f_t_distance : Nat → Int32) (f_t_line : Nat → Int32) (s1 : Int32) (s2 : Int32) (sz : Nat) (R : (Nat → Int32) × (Nat → Int32) × (Nat → Int32) × (Nat → Int32) × (Nat → Int32)) (hf : f_X11_spreadsFrom s1 s2 f_t_s f_t_cell f_t_other f_t_lead f_t_distance f_t_line = some R) : Met l yX11_spreadsFrom (ws_ yX11_spreadsFrom cX11_spreadsFrom 7 none) rm_X11_spreadsFrom (va_Pc [.ref a_t, .int s1, .int s2] (RW D Y sz [(a_t, .inr (8, [.ref a_t_s, .ref a_t_past, .ref a_t_kept, .int v_t_isKept, .int v_t_pasts, .ref a_t_pad, .int v_t_typed, .ref a_t_cell, .ref a_t_other, .ref a_t_rows, .int v_t_ends, .ref a_t_read, .int v_t_many, .int v_t_spot, .ref a_t_track, .ref a_t_lead, .ref a_t_distance, .ref a_t_line])), (a_t_s, .inl (Y.1, 41, .inl f_t_s)), (a_t_cell, .inl (Y.1, 7, .inl f_t_cell)), (a_t_other, .inl (Y.1, 7, .inl f_t_other)), (a_t_lead, .inl (Y.1, 21, .inl f_t_lead)), (a_t_distance, .inl (Y.1, 5040, .inl f_t_distance)), (a_t_line, .inl (Y.1, 5040, .inl f_t_line))])) (QV D [(a_t, .inr (8, [.ref a_t_s, .ref a_t_past, .ref a_t_kept, .int v_t_isKept, .int v_t_pasts, .ref a_t_pad, .int v_t_typed, .ref a_t_cell, .ref a_t_other, .ref a_t_rows, .int v_t_ends, .ref a_t_read, .int v_t_many, .int v_t_spot, .ref a_t_track, .ref a_t_lead, .ref a_t_distance, .ref a_t_line])), (a_t_s, .inl (Y.1, 41, .inl f_t_s)), (a_t_cell, .inl (Y.1, 7, .inl R.1)), (a_t_other, .inl (Y.1, 7, .inl R.2.1)), (a_t_lead, .inl (Y.1, 21, .inl R.2.2.1)), (a_t_distance, .inl (Y.1, 5040, .inl R.2.2.2.1)), (a_t_line, .inl (Y.1, 5040, .inl R.2.2.2.2))] (va_A [(a_t, .inr (8, [.ref a_t_s, .ref a_t_past, .ref a_t_kept, .int v_t_isKept, .int v_t_pasts, .ref a_t_pad, .int v_t_typed, .ref a_t_cell, .ref a_t_other, .ref a_t_rows, .int v_t_ends, .ref a_t_read, .int v_t_many, .int v_t_spot, .ref a_t_track, .ref a_t_lead, .ref a_t_distance, .ref a_t_line])), (a_t_s, .inl (Y.1, 41, .inl f_t_s)), (a_t_cell, .inl (Y.1, 7, .inl f_t_cell)), (a_t_other, .inl (Y.1, 7, .inl f_t_other)), (a_t_lead, .inl (Y.1, 21, .inl f_t_lead)), (a_t_distance, .inl (Y.1, 5040, .inl f_t_distance)), (a_t_line, .inl (Y.1, 5040, .inl f_t_line))] sz)) 0 0 (va_A [(a_t, .inr (8, [.ref a_t_s, .ref a_t_past, .ref a_t_kept, .int v_t_isKept, .int v_t_pasts, .ref a_t_pad, .int v_t_typed, .ref a_t_cell, .ref a_t_other, .ref a_t_rows, .int v_t_ends, .ref a_t_read, .int v_t_many, .int v_t_spot, .ref a_t_track, .ref a_t_lead, .ref a_t_distance, .ref a_t_line])), (a_t_s, .inl (Y.1, 41, .inl f_t_s)), (a_t_cell, .inl (Y.1, 7, .inl f_t_cell)), (a_t_other, .inl (Y.1, 7, .inl f_t_other)), (a_t_lead, .inl (Y.1, 21, .inl f_t_lead)), (a_t_distance, .inl (Y.1, 5040, .inl f_t_distance)), (a_t_line, .inl (Y.1, 5040, .inl f_t_line))] sz) := by
  refine rw_start (Qc := fun A => QV D [(a_t, .inr (8, [.ref a_t_s, .ref a_t_past, .ref a_t_kept, .int v_t_isKept, .int v_t_pasts, .ref a_t_pad, .int v_t_typed, .ref a_t_cell, .ref a_t_other, .ref a_t_rows, .int v_t_ends, .ref a_t_read, .int v_t_many, .int v_t_spot, .ref a_t_track, .ref a_t_lead, .ref a_t_distance, .ref a_t_line])), (a_t_s, .inl (Y.1, 41, .inl f_t_s)), (a_t_cell, .inl (Y.1, 7, .inl R.1)), (a_t_other, .inl (Y.1, 7, .inl R.2.1)), (a_t_lead, .inl (Y.1, 21, .inl R.2.2.1)), (a_t_distance, .inl (Y.1, 5040, .inl R.2.2.2.1)), (a_t_line, .inl (Y.1, 5040, .inl R.2.2.2.2))] A) (by decide) (Nat.le_of_ble_eq_true rfl) ?_
  intro p e s m below meth c ls A hx hb hml hr hlocks hown hts hnm hA hP hD hS hE hl
  generalize hargs : List.toArray _ = args at hts ⊢
  have hown : s.vm.findClass RX11 = some m.cls := hown
  have E : EN p m c cX11_spreadsFrom 7 s args RX11 := ⟨hx, hb, hml, hown, hts⟩
  have hl : lv_has ls 7 [(0, .ref a_t), (1, .int s1), (2, .int s2)] := hl
  generalize hQ : MQ below _ args s 0 0 _ = Q
  unfold f_X11_spreadsFrom at hf
  have L6 : ∀ (n : Nat) (k : Int32 → (Nat → Int32) → Option ((Nat → Int32) × (Nat → Int32) × (Nat → Int32) × (Nat → Int32) × (Nat → Int32))) (s1 : Int32) (s2 : Int32) (f_t_cell : Nat → Int32) (f_t_other : Nat → Int32) (f_t_lead : Nat → Int32) (f_t_line : Nat → Int32) (s3 : Int32) (f_t_distance : Nat → Int32) (H : Heap) (locs : List Loc) (ls : Array Slot), f_X11_spreadsFrom_L6 k s1 s2 f_t_s f_t_cell f_t_other f_t_lead f_t_line n s3 f_t_distance = some R → va_P D vwCl [(a_t, .inr (8, [.ref a_t_s, .ref a_t_past, .ref a_t_kept, .int v_t_isKept, .int v_t_pasts, .ref a_t_pad, .int v_t_typed, .ref a_t_cell, .ref a_t_other, .ref a_t_rows, .int v_t_ends, .ref a_t_read, .int v_t_many, .int v_t_spot, .ref a_t_track, .ref a_t_lead, .ref a_t_distance, .ref a_t_line])), (a_t_s, .inl (Y.1, 41, .inl f_t_s)), (a_t_cell, .inl (Y.1, 7, .inl f_t_cell)), (a_t_other, .inl (Y.1, 7, .inl f_t_other)), (a_t_lead, .inl (Y.1, 21, .inl f_t_lead)), (a_t_distance, .inl (Y.1, 5040, .inl f_t_distance)), (a_t_line, .inl (Y.1, 5040, .inl f_t_line))] H → va_D A [(a_t, .inr (8, [.ref a_t_s, .ref a_t_past, .ref a_t_kept, .int v_t_isKept, .int v_t_pasts, .ref a_t_pad, .int v_t_typed, .ref a_t_cell, .ref a_t_other, .ref a_t_rows, .int v_t_ends, .ref a_t_read, .int v_t_many, .int v_t_spot, .ref a_t_track, .ref a_t_lead, .ref a_t_distance, .ref a_t_line])), (a_t_s, .inl (Y.1, 41, .inl f_t_s)), (a_t_cell, .inl (Y.1, 7, .inl f_t_cell)), (a_t_other, .inl (Y.1, 7, .inl f_t_other)), (a_t_lead, .inl (Y.1, 21, .inl f_t_lead)), (a_t_distance, .inl (Y.1, 5040, .inl f_t_distance)), (a_t_line, .inl (Y.1, 5040, .inl f_t_line))] → va_S A s.heap H locs → lv_has ls 7 [(0, .ref a_t), (1, .int s1), (2, .int s2), (3, .int s3)] → (∀ (y_s3 : Int32) (y_f_t_distance : Nat → Int32) (H : Heap) (locs : List Loc) (ls : Array Slot), k y_s3 y_f_t_distance = some R → va_P D vwCl [(a_t, .inr (8, [.ref a_t_s, .ref a_t_past, .ref a_t_kept, .int v_t_isKept, .int v_t_pasts, .ref a_t_pad, .int v_t_typed, .ref a_t_cell, .ref a_t_other, .ref a_t_rows, .int v_t_ends, .ref a_t_read, .int v_t_many, .int v_t_spot, .ref a_t_track, .ref a_t_lead, .ref a_t_distance, .ref a_t_line])), (a_t_s, .inl (Y.1, 41, .inl f_t_s)), (a_t_cell, .inl (Y.1, 7, .inl f_t_cell)), (a_t_other, .inl (Y.1, 7, .inl f_t_other)), (a_t_lead, .inl (Y.1, 21, .inl f_t_lead)), (a_t_distance, .inl (Y.1, 5040, .inl y_f_t_distance)), (a_t_line, .inl (Y.1, 5040, .inl f_t_line))] H → va_D A [(a_t, .inr (8, [.ref a_t_s, .ref a_t_past, .ref a_t_kept, .int v_t_isKept, .int v_t_pasts, .ref a_t_pad, .int v_t_typed, .ref a_t_cell, .ref a_t_other, .ref a_t_rows, .int v_t_ends, .ref a_t_read, .int v_t_many, .int v_t_spot, .ref a_t_track, .ref a_t_lead, .ref a_t_distance, .ref a_t_line])), (a_t_s, .inl (Y.1, 41, .inl f_t_s)), (a_t_cell, .inl (Y.1, 7, .inl f_t_cell)), (a_t_other, .inl (Y.1, 7, .inl f_t_other)), (a_t_lead, .inl (Y.1, 21, .inl f_t_lead)), (a_t_distance, .inl (Y.1, 5040, .inl y_f_t_distance)), (a_t_line, .inl (Y.1, 5040, .inl f_t_line))] → va_S A s.heap H locs → lv_has ls 7 [(0, .ref a_t), (1, .int s1), (2, .int s2)] → W p l e rm_X11_spreadsFrom s m args below meth c H locs 0 0 Q (F0 m 27 ls [])) → W p l e rm_X11_spreadsFrom s m args below meth c H locs 0 0 Q (F0 m 6 ls []) := by
    intro n
    induction n with
    | zero =>
      intro k s1 s2 f_t_cell f_t_other f_t_lead f_t_line s3 f_t_distance H locs ls hf
      cases hf
    | succ n ih =>
      intro k s1 s2 f_t_cell f_t_other f_t_lead f_t_line s3 f_t_distance H locs ls hf hP hD hS hl hk
      unfold f_X11_spreadsFrom_L6 at hf
      refine lv_iload_n hx hb dX11_spreadsFrom_6 rfl (lv_at hl 3 rfl) ?_
      refine lv_sipush (v := 5040) hx hb dX11_spreadsFrom_7 (by decide) ?_
      refine lv_icmp_ge (tgt := 27) hx hb dX11_spreadsFrom_10 (by decide) (fun c3 => ?_) (fun c3 => ?_)
      · have hf := ite_t c3 hf
        exact hk _ _ _ _ _ hf hP hD hS (lv_sub hl [0, 1, 2] rfl)
      have hf := ite_f c3 hf
      refine lv_aload_n hx hb dX11_spreadsFrom_13 rfl (lv_at hl 0 rfl) ?_
      refine va_get (D := D) (ci := 8) (v := .ref a_t_distance) (C := RX11) (T := TX11) (N := 18) hx hb hts inX11 hown hE.1 hP 0 rfl rfl 16 (by decide) (hts _ qw777) (fun _ h9 => h9) rfl dX11_spreadsFrom_14 ?_
      refine lv_iload_n hx hb dX11_spreadsFrom_17 rfl (lv_at hl 3 rfl) ?_
      refine lv_bipush (v := (-4)) hx hb dX11_spreadsFrom_18 (by decide) ?_
      obtain ⟨g4, hf⟩ := gd_s hf
      refine va_iast hx hb hE.1 hP hD hS 5 0 rfl rfl (inb_in g4) dX11_spreadsFrom_20 (fun H locs hP hD hS => ?_)
      have hP : va_P D vwCl [(a_t, .inr (8, [.ref a_t_s, .ref a_t_past, .ref a_t_kept, .int v_t_isKept, .int v_t_pasts, .ref a_t_pad, .int v_t_typed, .ref a_t_cell, .ref a_t_other, .ref a_t_rows, .int v_t_ends, .ref a_t_read, .int v_t_many, .int v_t_spot, .ref a_t_track, .ref a_t_lead, .ref a_t_distance, .ref a_t_line])), (a_t_s, .inl (Y.1, 41, .inl f_t_s)), (a_t_cell, .inl (Y.1, 7, .inl f_t_cell)), (a_t_other, .inl (Y.1, 7, .inl f_t_other)), (a_t_lead, .inl (Y.1, 21, .inl f_t_lead)), (a_t_distance, .inl (Y.1, 5040, .inl (upd f_t_distance s3.toNatClampNeg (-4)))), (a_t_line, .inl (Y.1, 5040, .inl f_t_line))] H := hP
      have hD : va_D A [(a_t, .inr (8, [.ref a_t_s, .ref a_t_past, .ref a_t_kept, .int v_t_isKept, .int v_t_pasts, .ref a_t_pad, .int v_t_typed, .ref a_t_cell, .ref a_t_other, .ref a_t_rows, .int v_t_ends, .ref a_t_read, .int v_t_many, .int v_t_spot, .ref a_t_track, .ref a_t_lead, .ref a_t_distance, .ref a_t_line])), (a_t_s, .inl (Y.1, 41, .inl f_t_s)), (a_t_cell, .inl (Y.1, 7, .inl f_t_cell)), (a_t_other, .inl (Y.1, 7, .inl f_t_other)), (a_t_lead, .inl (Y.1, 21, .inl f_t_lead)), (a_t_distance, .inl (Y.1, 5040, .inl (upd f_t_distance s3.toNatClampNeg (-4)))), (a_t_line, .inl (Y.1, 5040, .inl f_t_line))] := hD
      refine lv_iinc (v := (s3 + 1)) (lv' := [(3, .int (s3 + 1)), (0, .ref a_t), (1, .int s1), (2, .int s2)]) hx hb dX11_spreadsFrom_21 hl (k := 3) rfl rfl (by decide) rfl (fun ls hl => ?_)
      refine lv_goto (tgt := 6) hx hb dX11_spreadsFrom_24 (by decide) ?_
      exact ih _ _ _ _ _ _ _ _ _ _ _ _ hf hP hD hS (lv_sub hl [1, 2, 3, 0] rfl) hk
  have L55 : ∀ (n : Nat) (k : Int32 → Int32 → (Nat → Int32) → (Nat → Int32) → (Nat → Int32) → (Nat → Int32) → Option ((Nat → Int32) × (Nat → Int32) × (Nat → Int32) × (Nat → Int32) × (Nat → Int32))) (s2 : Int32) (s4 : Int32) (f_t_lead : Nat → Int32) (s3 : Int32) (s5 : Int32) (f_t_cell : Nat → Int32) (f_t_other : Nat → Int32) (f_t_distance : Nat → Int32) (f_t_line : Nat → Int32) (H : Heap) (locs : List Loc) (ls : Array Slot), f_X11_spreadsFrom_L55 k s2 s4 f_t_s f_t_lead n s3 s5 f_t_cell f_t_other f_t_distance f_t_line = some R → va_P D vwCl [(a_t, .inr (8, [.ref a_t_s, .ref a_t_past, .ref a_t_kept, .int v_t_isKept, .int v_t_pasts, .ref a_t_pad, .int v_t_typed, .ref a_t_cell, .ref a_t_other, .ref a_t_rows, .int v_t_ends, .ref a_t_read, .int v_t_many, .int v_t_spot, .ref a_t_track, .ref a_t_lead, .ref a_t_distance, .ref a_t_line])), (a_t_s, .inl (Y.1, 41, .inl f_t_s)), (a_t_cell, .inl (Y.1, 7, .inl f_t_cell)), (a_t_other, .inl (Y.1, 7, .inl f_t_other)), (a_t_lead, .inl (Y.1, 21, .inl f_t_lead)), (a_t_distance, .inl (Y.1, 5040, .inl f_t_distance)), (a_t_line, .inl (Y.1, 5040, .inl f_t_line))] H → va_D A [(a_t, .inr (8, [.ref a_t_s, .ref a_t_past, .ref a_t_kept, .int v_t_isKept, .int v_t_pasts, .ref a_t_pad, .int v_t_typed, .ref a_t_cell, .ref a_t_other, .ref a_t_rows, .int v_t_ends, .ref a_t_read, .int v_t_many, .int v_t_spot, .ref a_t_track, .ref a_t_lead, .ref a_t_distance, .ref a_t_line])), (a_t_s, .inl (Y.1, 41, .inl f_t_s)), (a_t_cell, .inl (Y.1, 7, .inl f_t_cell)), (a_t_other, .inl (Y.1, 7, .inl f_t_other)), (a_t_lead, .inl (Y.1, 21, .inl f_t_lead)), (a_t_distance, .inl (Y.1, 5040, .inl f_t_distance)), (a_t_line, .inl (Y.1, 5040, .inl f_t_line))] → va_S A s.heap H locs → lv_has ls 7 [(0, .ref a_t), (2, .int s2), (3, .int s3), (4, .int s4), (5, .int s5)] → (∀ (y_s3 : Int32) (y_s5 : Int32) (y_f_t_cell : Nat → Int32) (y_f_t_other : Nat → Int32) (y_f_t_distance : Nat → Int32) (y_f_t_line : Nat → Int32) (H : Heap) (locs : List Loc) (ls : Array Slot), k y_s3 y_s5 y_f_t_cell y_f_t_other y_f_t_distance y_f_t_line = some R → va_P D vwCl [(a_t, .inr (8, [.ref a_t_s, .ref a_t_past, .ref a_t_kept, .int v_t_isKept, .int v_t_pasts, .ref a_t_pad, .int v_t_typed, .ref a_t_cell, .ref a_t_other, .ref a_t_rows, .int v_t_ends, .ref a_t_read, .int v_t_many, .int v_t_spot, .ref a_t_track, .ref a_t_lead, .ref a_t_distance, .ref a_t_line])), (a_t_s, .inl (Y.1, 41, .inl f_t_s)), (a_t_cell, .inl (Y.1, 7, .inl y_f_t_cell)), (a_t_other, .inl (Y.1, 7, .inl y_f_t_other)), (a_t_lead, .inl (Y.1, 21, .inl f_t_lead)), (a_t_distance, .inl (Y.1, 5040, .inl y_f_t_distance)), (a_t_line, .inl (Y.1, 5040, .inl y_f_t_line))] H → va_D A [(a_t, .inr (8, [.ref a_t_s, .ref a_t_past, .ref a_t_kept, .int v_t_isKept, .int v_t_pasts, .ref a_t_pad, .int v_t_typed, .ref a_t_cell, .ref a_t_other, .ref a_t_rows, .int v_t_ends, .ref a_t_read, .int v_t_many, .int v_t_spot, .ref a_t_track, .ref a_t_lead, .ref a_t_distance, .ref a_t_line])), (a_t_s, .inl (Y.1, 41, .inl f_t_s)), (a_t_cell, .inl (Y.1, 7, .inl y_f_t_cell)), (a_t_other, .inl (Y.1, 7, .inl y_f_t_other)), (a_t_lead, .inl (Y.1, 21, .inl f_t_lead)), (a_t_distance, .inl (Y.1, 5040, .inl y_f_t_distance)), (a_t_line, .inl (Y.1, 5040, .inl y_f_t_line))] → va_S A s.heap H locs → lv_has ls 7 [(0, .ref a_t), (2, .int s2), (3, .int y_s3), (4, .int s4)] → W p l e rm_X11_spreadsFrom s m args below meth c H locs 0 0 Q (F0 m 125 ls [])) → W p l e rm_X11_spreadsFrom s m args below meth c H locs 0 0 Q (F0 m 55 ls []) := by
    intro n
    induction n with
    | zero =>
      intro k s2 s4 f_t_lead s3 s5 f_t_cell f_t_other f_t_distance f_t_line H locs ls hf
      cases hf
    | succ n ih =>
      intro k s2 s4 f_t_lead s3 s5 f_t_cell f_t_other f_t_distance f_t_line H locs ls hf hP hD hS hl hk
      unfold f_X11_spreadsFrom_L55 at hf
      refine lv_iload hx hb dX11_spreadsFrom_55 (lv_at hl 4 rfl) ?_
      refine lv_iconst (v := 3) hx hb dX11_spreadsFrom_57 (by decide) ?_
      refine lv_icmp_ge (tgt := 125) hx hb dX11_spreadsFrom_58 (by decide) (fun c9 => ?_) (fun c9 => ?_)
      · have hf := ite_t c9 hf
        exact hk _ _ _ _ _ _ _ _ _ hf hP hD hS (lv_sub hl [0, 1, 2, 3] rfl)
      have hf := ite_f c9 hf
      refine lv_aload_n hx hb dX11_spreadsFrom_61 rfl (lv_at hl 0 rfl) ?_
      refine lv_aload_n hx hb dX11_spreadsFrom_62 rfl (lv_at hl 0 rfl) ?_
      refine va_get (D := D) (ci := 8) (v := .ref a_t_line) (C := RX11) (T := TX11) (N := 18) hx hb hts inX11 hown hE.1 hP 0 rfl rfl 17 (by decide) (hts _ qw778) (fun _ h9 => h9) rfl dX11_spreadsFrom_63 ?_
      refine lv_iload hx hb dX11_spreadsFrom_66 (lv_at hl 3 rfl) ?_
      obtain ⟨g10, hf⟩ := gd_s hf
      refine va_iald hx hb hE.1 hP 6 0 rfl rfl (inb_in g10) dX11_spreadsFrom_68 ?_
      refine lv_iload hx hb dX11_spreadsFrom_69 (lv_at hl 4 rfl) ?_
      refine lv_iload_n hx hb dX11_spreadsFrom_71 rfl (lv_at hl 1 rfl) ?_
      obtain ⟨q11, h12, hf⟩ := bd_s hf
      refine af_i0 (wc := [(a_t, .inr (8, [.ref a_t_s, .ref a_t_past, .ref a_t_kept, .int v_t_isKept, .int v_t_pasts, .ref a_t_pad, .int v_t_typed, .ref a_t_cell, .ref a_t_other, .ref a_t_rows, .int v_t_ends, .ref a_t_read, .int v_t_many, .int v_t_spot, .ref a_t_track, .ref a_t_lead, .ref a_t_distance, .ref a_t_line])), (a_t_s, .inl (Y.1, 41, .inl f_t_s)), (a_t_cell, .inl (Y.1, 7, .inl f_t_cell)), (a_t_other, .inl (Y.1, 7, .inl f_t_other)), (a_t_lead, .inl (Y.1, 21, .inl f_t_lead))]) (wr := [(a_t_distance, .inl (Y.1, 5040, .inl f_t_distance)), (a_t_line, .inl (Y.1, 5040, .inl f_t_line))]) (wn := [(a_t, .inr (8, [.ref a_t_s, .ref a_t_past, .ref a_t_kept, .int v_t_isKept, .int v_t_pasts, .ref a_t_pad, .int v_t_typed, .ref a_t_cell, .ref a_t_other, .ref a_t_rows, .int v_t_ends, .ref a_t_read, .int v_t_many, .int v_t_spot, .ref a_t_track, .ref a_t_lead, .ref a_t_distance, .ref a_t_line])), (a_t_s, .inl (Y.1, 41, .inl f_t_s)), (a_t_cell, .inl (Y.1, 7, .inl q11.2.1)), (a_t_other, .inl (Y.1, 7, .inl q11.2.2)), (a_t_lead, .inl (Y.1, 21, .inl f_t_lead)), (a_t_distance, .inl (Y.1, 5040, .inl f_t_distance)), (a_t_line, .inl (Y.1, 5040, .inl f_t_line))]) (run_V (As := [.int (f_t_line s4.toNatClampNeg), .int s5, .int s2]) (rest := []) E (c_X11_moved l D Y a_t a_t_s a_t_past a_t_kept a_t_pad a_t_cell a_t_other a_t_rows a_t_read a_t_track a_t_lead a_t_distance a_t_line v_t_isKept v_t_pasts v_t_typed v_t_ends v_t_many v_t_spot f_t_s f_t_cell f_t_other f_t_lead (f_t_line s4.toNatClampNeg) s5 s2 H.size q11 h12) qw970 qw972 qw47 qw76 qw973 rfl rfl hd_X11_moved ⟨Nat.le_of_ble_eq_true rfl, Nat.le_of_ble_eq_true rfl⟩ (pre_rwV hP hD hE [0, 1, 2, 3, 4] rfl (by decide) rfl (ci := 8) (q0 := 0) rfl rfl) rfl hl.1 rfl (Nat.le_of_ble_eq_true rfl) dX11_spreadsFrom_72 ⟨Nat.zero_le _, Nat.zero_le _⟩) hP hD hS hA [0, 1, 2, 3, 4] [5, 6] [2, 3, 4, 5, 6, 0, 1] rfl rfl (by decide) (by decide) rfl rfl (by decide) (fun H locs  hP hD hS => ?_)
      refine lv_istore (lv' := [(6, .int q11.1), (0, .ref a_t), (2, .int s2), (3, .int s3), (4, .int s4), (5, .int s5)]) hx hb dX11_spreadsFrom_75 hl (by decide) rfl (fun ls hl => ?_)
      refine lv_aload_n hx hb dX11_spreadsFrom_77 rfl (lv_at hl 1 rfl) ?_
      refine va_get (D := D) (ci := 8) (v := .ref a_t_distance) (C := RX11) (T := TX11) (N := 18) hx hb hts inX11 hown hE.1 hP 0 rfl rfl 16 (by decide) (hts _ qw777) (fun _ h9 => h9) rfl dX11_spreadsFrom_78 ?_
      refine lv_iload hx hb dX11_spreadsFrom_81 (lv_at hl 0 rfl) ?_
      obtain ⟨g13, hf⟩ := gd_s hf
      refine va_iald hx hb hE.1 hP 5 0 rfl rfl (inb_in g13) dX11_spreadsFrom_83 ?_
      refine lv_if_ge (tgt := 119) hx hb dX11_spreadsFrom_84 (by decide) (fun c14 => ?_) (fun c14 => ?_)
      · have hf := ite_t c14 hf
        refine lv_iinc (v := (s5 + 1)) (lv' := [(5, .int (s5 + 1)), (6, .int q11.1), (0, .ref a_t), (2, .int s2), (3, .int s3), (4, .int s4)]) hx hb dX11_spreadsFrom_119 hl (k := 5) rfl rfl (by decide) rfl (fun ls hl => ?_)
        refine lv_goto (tgt := 55) hx hb dX11_spreadsFrom_122 (by decide) ?_
        exact ih _ _ _ _ _ _ _ _ _ _ _ _ _ hf hP hD hS (lv_sub hl [2, 3, 4, 5, 0] rfl) hk
      have hf := ite_f c14 hf
      refine lv_aload_n hx hb dX11_spreadsFrom_87 rfl (lv_at hl 1 rfl) ?_
      refine va_get (D := D) (ci := 8) (v := .ref a_t_distance) (C := RX11) (T := TX11) (N := 18) hx hb hts inX11 hown hE.1 hP 0 rfl rfl 16 (by decide) (hts _ qw777) (fun _ h9 => h9) rfl dX11_spreadsFrom_88 ?_
      refine lv_iload hx hb dX11_spreadsFrom_91 (lv_at hl 0 rfl) ?_
      refine lv_aload_n hx hb dX11_spreadsFrom_93 rfl (lv_at hl 1 rfl) ?_
      refine va_get (D := D) (ci := 8) (v := .ref a_t_distance) (C := RX11) (T := TX11) (N := 18) hx hb hts inX11 hown hE.1 hP 0 rfl rfl 16 (by decide) (hts _ qw777) (fun _ h9 => h9) rfl dX11_spreadsFrom_94 ?_
      refine lv_aload_n hx hb dX11_spreadsFrom_97 rfl (lv_at hl 1 rfl) ?_
      refine va_get (D := D) (ci := 8) (v := .ref a_t_line) (C := RX11) (T := TX11) (N := 18) hx hb hts inX11 hown hE.1 hP 0 rfl rfl 17 (by decide) (hts _ qw778) (fun _ h9 => h9) rfl dX11_spreadsFrom_98 ?_
      refine lv_iload hx hb dX11_spreadsFrom_101 (lv_at hl 4 rfl) ?_
      refine va_iald hx hb hE.1 hP 6 0 rfl rfl (inb_in g10) dX11_spreadsFrom_103 ?_
      obtain ⟨g15, hf⟩ := gd_s hf
      refine va_iald hx hb hE.1 hP 5 0 rfl rfl (inb_in g15) dX11_spreadsFrom_104 ?_
      refine lv_iconst (v := 1) hx hb dX11_spreadsFrom_105 (by decide) ?_
      refine lv_iadd hx hb dX11_spreadsFrom_106 ?_
      refine va_iast hx hb hE.1 hP hD hS 5 0 rfl rfl (inb_in g13) dX11_spreadsFrom_107 (fun H locs hP hD hS => ?_)
      have hP : va_P D vwCl [(a_t, .inr (8, [.ref a_t_s, .ref a_t_past, .ref a_t_kept, .int v_t_isKept, .int v_t_pasts, .ref a_t_pad, .int v_t_typed, .ref a_t_cell, .ref a_t_other, .ref a_t_rows, .int v_t_ends, .ref a_t_read, .int v_t_many, .int v_t_spot, .ref a_t_track, .ref a_t_lead, .ref a_t_distance, .ref a_t_line])), (a_t_s, .inl (Y.1, 41, .inl f_t_s)), (a_t_cell, .inl (Y.1, 7, .inl q11.2.1)), (a_t_other, .inl (Y.1, 7, .inl q11.2.2)), (a_t_lead, .inl (Y.1, 21, .inl f_t_lead)), (a_t_distance, .inl (Y.1, 5040, .inl (upd f_t_distance q11.1.toNatClampNeg ((f_t_distance (f_t_line s4.toNatClampNeg).toNatClampNeg) + 1)))), (a_t_line, .inl (Y.1, 5040, .inl f_t_line))] H := hP
      have hD : va_D A [(a_t, .inr (8, [.ref a_t_s, .ref a_t_past, .ref a_t_kept, .int v_t_isKept, .int v_t_pasts, .ref a_t_pad, .int v_t_typed, .ref a_t_cell, .ref a_t_other, .ref a_t_rows, .int v_t_ends, .ref a_t_read, .int v_t_many, .int v_t_spot, .ref a_t_track, .ref a_t_lead, .ref a_t_distance, .ref a_t_line])), (a_t_s, .inl (Y.1, 41, .inl f_t_s)), (a_t_cell, .inl (Y.1, 7, .inl q11.2.1)), (a_t_other, .inl (Y.1, 7, .inl q11.2.2)), (a_t_lead, .inl (Y.1, 21, .inl f_t_lead)), (a_t_distance, .inl (Y.1, 5040, .inl (upd f_t_distance q11.1.toNatClampNeg ((f_t_distance (f_t_line s4.toNatClampNeg).toNatClampNeg) + 1)))), (a_t_line, .inl (Y.1, 5040, .inl f_t_line))] := hD
      refine lv_aload_n hx hb dX11_spreadsFrom_108 rfl (lv_at hl 1 rfl) ?_
      refine va_get (D := D) (ci := 8) (v := .ref a_t_line) (C := RX11) (T := TX11) (N := 18) hx hb hts inX11 hown hE.1 hP 0 rfl rfl 17 (by decide) (hts _ qw778) (fun _ h9 => h9) rfl dX11_spreadsFrom_109 ?_
      refine lv_iload_n hx hb dX11_spreadsFrom_112 rfl (lv_at hl 3 rfl) ?_
      refine lv_iload hx hb dX11_spreadsFrom_113 (lv_at hl 0 rfl) ?_
      obtain ⟨g16, hf⟩ := gd_s hf
      refine va_iast hx hb hE.1 hP hD hS 6 0 rfl rfl (inb_in g16) dX11_spreadsFrom_115 (fun H locs hP hD hS => ?_)
      have hP : va_P D vwCl [(a_t, .inr (8, [.ref a_t_s, .ref a_t_past, .ref a_t_kept, .int v_t_isKept, .int v_t_pasts, .ref a_t_pad, .int v_t_typed, .ref a_t_cell, .ref a_t_other, .ref a_t_rows, .int v_t_ends, .ref a_t_read, .int v_t_many, .int v_t_spot, .ref a_t_track, .ref a_t_lead, .ref a_t_distance, .ref a_t_line])), (a_t_s, .inl (Y.1, 41, .inl f_t_s)), (a_t_cell, .inl (Y.1, 7, .inl q11.2.1)), (a_t_other, .inl (Y.1, 7, .inl q11.2.2)), (a_t_lead, .inl (Y.1, 21, .inl f_t_lead)), (a_t_distance, .inl (Y.1, 5040, .inl (upd f_t_distance q11.1.toNatClampNeg ((f_t_distance (f_t_line s4.toNatClampNeg).toNatClampNeg) + 1)))), (a_t_line, .inl (Y.1, 5040, .inl (upd f_t_line s3.toNatClampNeg q11.1)))] H := hP
      have hD : va_D A [(a_t, .inr (8, [.ref a_t_s, .ref a_t_past, .ref a_t_kept, .int v_t_isKept, .int v_t_pasts, .ref a_t_pad, .int v_t_typed, .ref a_t_cell, .ref a_t_other, .ref a_t_rows, .int v_t_ends, .ref a_t_read, .int v_t_many, .int v_t_spot, .ref a_t_track, .ref a_t_lead, .ref a_t_distance, .ref a_t_line])), (a_t_s, .inl (Y.1, 41, .inl f_t_s)), (a_t_cell, .inl (Y.1, 7, .inl q11.2.1)), (a_t_other, .inl (Y.1, 7, .inl q11.2.2)), (a_t_lead, .inl (Y.1, 21, .inl f_t_lead)), (a_t_distance, .inl (Y.1, 5040, .inl (upd f_t_distance q11.1.toNatClampNeg ((f_t_distance (f_t_line s4.toNatClampNeg).toNatClampNeg) + 1)))), (a_t_line, .inl (Y.1, 5040, .inl (upd f_t_line s3.toNatClampNeg q11.1)))] := hD
      refine lv_iinc (v := (s3 + 1)) (lv' := [(3, .int (s3 + 1)), (6, .int q11.1), (0, .ref a_t), (2, .int s2), (4, .int s4), (5, .int s5)]) hx hb dX11_spreadsFrom_116 hl (k := 3) rfl rfl (by decide) rfl (fun ls hl => ?_)
      refine lv_iinc (v := (s5 + 1)) (lv' := [(5, .int (s5 + 1)), (3, .int (s3 + 1)), (6, .int q11.1), (0, .ref a_t), (2, .int s2), (4, .int s4)]) hx hb dX11_spreadsFrom_119 hl (k := 5) rfl rfl (by decide) rfl (fun ls hl => ?_)
      refine lv_goto (tgt := 55) hx hb dX11_spreadsFrom_122 (by decide) ?_
      exact ih _ _ _ _ _ _ _ _ _ _ _ _ _ hf hP hD hS (lv_sub hl [3, 4, 1, 5, 0] rfl) hk
  have L46 : ∀ (n : Nat) (s2 : Int32) (f_t_lead : Nat → Int32) (s3 : Int32) (s4 : Int32) (f_t_cell : Nat → Int32) (f_t_other : Nat → Int32) (f_t_distance : Nat → Int32) (f_t_line : Nat → Int32) (H : Heap) (locs : List Loc) (ls : Array Slot), f_X11_spreadsFrom_L46 s2 f_t_s f_t_lead n s3 s4 f_t_cell f_t_other f_t_distance f_t_line = some R → va_P D vwCl [(a_t, .inr (8, [.ref a_t_s, .ref a_t_past, .ref a_t_kept, .int v_t_isKept, .int v_t_pasts, .ref a_t_pad, .int v_t_typed, .ref a_t_cell, .ref a_t_other, .ref a_t_rows, .int v_t_ends, .ref a_t_read, .int v_t_many, .int v_t_spot, .ref a_t_track, .ref a_t_lead, .ref a_t_distance, .ref a_t_line])), (a_t_s, .inl (Y.1, 41, .inl f_t_s)), (a_t_cell, .inl (Y.1, 7, .inl f_t_cell)), (a_t_other, .inl (Y.1, 7, .inl f_t_other)), (a_t_lead, .inl (Y.1, 21, .inl f_t_lead)), (a_t_distance, .inl (Y.1, 5040, .inl f_t_distance)), (a_t_line, .inl (Y.1, 5040, .inl f_t_line))] H → va_D A [(a_t, .inr (8, [.ref a_t_s, .ref a_t_past, .ref a_t_kept, .int v_t_isKept, .int v_t_pasts, .ref a_t_pad, .int v_t_typed, .ref a_t_cell, .ref a_t_other, .ref a_t_rows, .int v_t_ends, .ref a_t_read, .int v_t_many, .int v_t_spot, .ref a_t_track, .ref a_t_lead, .ref a_t_distance, .ref a_t_line])), (a_t_s, .inl (Y.1, 41, .inl f_t_s)), (a_t_cell, .inl (Y.1, 7, .inl f_t_cell)), (a_t_other, .inl (Y.1, 7, .inl f_t_other)), (a_t_lead, .inl (Y.1, 21, .inl f_t_lead)), (a_t_distance, .inl (Y.1, 5040, .inl f_t_distance)), (a_t_line, .inl (Y.1, 5040, .inl f_t_line))] → va_S A s.heap H locs → lv_has ls 7 [(0, .ref a_t), (2, .int s2), (3, .int s3), (4, .int s4)] → W p l e rm_X11_spreadsFrom s m args below meth c H locs 0 0 Q (F0 m 46 ls []) := by
    intro n
    induction n with
    | zero =>
      intro s2 f_t_lead s3 s4 f_t_cell f_t_other f_t_distance f_t_line H locs ls hf
      cases hf
    | succ n ih =>
      intro s2 f_t_lead s3 s4 f_t_cell f_t_other f_t_distance f_t_line H locs ls hf hP hD hS hl
      unfold f_X11_spreadsFrom_L46 at hf
      refine lv_iload hx hb dX11_spreadsFrom_46 (lv_at hl 3 rfl) ?_
      refine lv_iload_n hx hb dX11_spreadsFrom_48 rfl (lv_at hl 2 rfl) ?_
      refine lv_icmp_ge (tgt := 131) hx hb dX11_spreadsFrom_49 (by decide) (fun c8 => ?_) (fun c8 => ?_)
      · have hf := ite_t c8 hf
        obtain rfl := Option.some.inj hf
        subst hQ
        exact en_v hx hb hr hlocks hP hD hS dX11_spreadsFrom_131
      have hf := ite_f c8 hf
      refine lv_iconst (v := 0) hx hb dX11_spreadsFrom_52 (by decide) ?_
      refine lv_istore (lv' := [(5, .int 0), (0, .ref a_t), (2, .int s2), (3, .int s3), (4, .int s4)]) hx hb dX11_spreadsFrom_53 hl (by decide) rfl (fun ls hl => ?_)
      refine L55 _ _ _ _ _ _ _ _ _ _ _ _ _ _ hf hP hD hS (lv_sub hl [1, 2, 3, 4, 0] rfl) ?_
      intro y17 y18 y19 y20 y21 y22 H locs ls hf hP hD hS hl
      refine lv_iinc (v := (s4 + 1)) (lv' := [(4, .int (s4 + 1)), (0, .ref a_t), (2, .int s2), (3, .int y17)]) hx hb dX11_spreadsFrom_125 hl (k := 3) rfl rfl (by decide) rfl (fun ls hl => ?_)
      refine lv_goto (tgt := 46) hx hb dX11_spreadsFrom_128 (by decide) ?_
      exact ih _ _ _ _ _ _ _ _ _ _ _ hf hP hD hS (lv_sub hl [1, 2, 3, 0] rfl)
  refine lv_aload_n hx hb dX11_spreadsFrom_0 rfl (lv_at hl 0 rfl) ?_
  obtain ⟨q1, h2, hf⟩ := bd_s hf
  refine af_v0 (wc := [(a_t, .inr (8, [.ref a_t_s, .ref a_t_past, .ref a_t_kept, .int v_t_isKept, .int v_t_pasts, .ref a_t_pad, .int v_t_typed, .ref a_t_cell, .ref a_t_other, .ref a_t_rows, .int v_t_ends, .ref a_t_read, .int v_t_many, .int v_t_spot, .ref a_t_track, .ref a_t_lead, .ref a_t_distance, .ref a_t_line])), (a_t_s, .inl (Y.1, 41, .inl f_t_s)), (a_t_cell, .inl (Y.1, 7, .inl f_t_cell)), (a_t_lead, .inl (Y.1, 21, .inl f_t_lead))]) (wr := [(a_t_other, .inl (Y.1, 7, .inl f_t_other)), (a_t_distance, .inl (Y.1, 5040, .inl f_t_distance)), (a_t_line, .inl (Y.1, 5040, .inl f_t_line))]) (wn := [(a_t, .inr (8, [.ref a_t_s, .ref a_t_past, .ref a_t_kept, .int v_t_isKept, .int v_t_pasts, .ref a_t_pad, .int v_t_typed, .ref a_t_cell, .ref a_t_other, .ref a_t_rows, .int v_t_ends, .ref a_t_read, .int v_t_many, .int v_t_spot, .ref a_t_track, .ref a_t_lead, .ref a_t_distance, .ref a_t_line])), (a_t_s, .inl (Y.1, 41, .inl f_t_s)), (a_t_cell, .inl (Y.1, 7, .inl q1.1)), (a_t_other, .inl (Y.1, 7, .inl f_t_other)), (a_t_lead, .inl (Y.1, 21, .inl q1.2)), (a_t_distance, .inl (Y.1, 5040, .inl f_t_distance)), (a_t_line, .inl (Y.1, 5040, .inl f_t_line))]) (run_V (As := []) (rest := []) E (c_X11_takesLeads l D Y a_t a_t_s a_t_past a_t_kept a_t_pad a_t_cell a_t_other a_t_rows a_t_read a_t_track a_t_lead a_t_distance a_t_line v_t_isKept v_t_pasts v_t_typed v_t_ends v_t_many v_t_spot f_t_s f_t_cell f_t_lead s.heap.size q1 h2) qw966 qw968 qw46 qw76 qw969 rfl rfl hd_X11_takesLeads ⟨Nat.le_of_ble_eq_true rfl, Nat.le_of_ble_eq_true rfl⟩ (pre_rwV hP hD hE [0, 1, 2, 4] rfl (by decide) rfl (ci := 8) (q0 := 0) rfl rfl) rfl hl.1 rfl (Nat.le_of_ble_eq_true rfl) dX11_spreadsFrom_1 ⟨Nat.zero_le _, Nat.zero_le _⟩) hP hD hS hA [0, 1, 2, 4] [3, 5, 6] [3, 4, 5, 0, 6, 1, 2] rfl rfl (by decide) (by decide) rfl rfl (by decide) (fun H locs  hP hD hS => ?_)
  refine lv_iconst (v := 0) hx hb dX11_spreadsFrom_4 (by decide) ?_
  refine lv_istore_n (lv' := [(3, .int 0), (0, .ref a_t), (1, .int s1), (2, .int s2)]) hx hb dX11_spreadsFrom_5 rfl hl (by decide) rfl (fun ls hl => ?_)
  refine L6 _ _ _ _ _ _ _ _ _ _ _ _ _ hf hP hD hS (lv_sub hl [1, 2, 3, 0] rfl) ?_
  intro y5 y6 H locs ls hf hP hD hS hl
  refine lv_aload_n hx hb dX11_spreadsFrom_27 rfl (lv_at hl 0 rfl) ?_
  refine va_get (D := D) (ci := 8) (v := .ref a_t_distance) (C := RX11) (T := TX11) (N := 18) hx hb hts inX11 hown hE.1 hP 0 rfl rfl 16 (by decide) (hts _ qw777) (fun _ h9 => h9) rfl dX11_spreadsFrom_28 ?_
  refine lv_iload_n hx hb dX11_spreadsFrom_31 rfl (lv_at hl 1 rfl) ?_
  refine lv_iconst (v := 0) hx hb dX11_spreadsFrom_32 (by decide) ?_
  obtain ⟨g7, hf⟩ := gd_s hf
  refine va_iast hx hb hE.1 hP hD hS 5 0 rfl rfl (inb_in g7) dX11_spreadsFrom_33 (fun H locs hP hD hS => ?_)
  have hP : va_P D vwCl [(a_t, .inr (8, [.ref a_t_s, .ref a_t_past, .ref a_t_kept, .int v_t_isKept, .int v_t_pasts, .ref a_t_pad, .int v_t_typed, .ref a_t_cell, .ref a_t_other, .ref a_t_rows, .int v_t_ends, .ref a_t_read, .int v_t_many, .int v_t_spot, .ref a_t_track, .ref a_t_lead, .ref a_t_distance, .ref a_t_line])), (a_t_s, .inl (Y.1, 41, .inl f_t_s)), (a_t_cell, .inl (Y.1, 7, .inl q1.1)), (a_t_other, .inl (Y.1, 7, .inl f_t_other)), (a_t_lead, .inl (Y.1, 21, .inl q1.2)), (a_t_distance, .inl (Y.1, 5040, .inl (upd y6 s1.toNatClampNeg 0))), (a_t_line, .inl (Y.1, 5040, .inl f_t_line))] H := hP
  have hD : va_D A [(a_t, .inr (8, [.ref a_t_s, .ref a_t_past, .ref a_t_kept, .int v_t_isKept, .int v_t_pasts, .ref a_t_pad, .int v_t_typed, .ref a_t_cell, .ref a_t_other, .ref a_t_rows, .int v_t_ends, .ref a_t_read, .int v_t_many, .int v_t_spot, .ref a_t_track, .ref a_t_lead, .ref a_t_distance, .ref a_t_line])), (a_t_s, .inl (Y.1, 41, .inl f_t_s)), (a_t_cell, .inl (Y.1, 7, .inl q1.1)), (a_t_other, .inl (Y.1, 7, .inl f_t_other)), (a_t_lead, .inl (Y.1, 21, .inl q1.2)), (a_t_distance, .inl (Y.1, 5040, .inl (upd y6 s1.toNatClampNeg 0))), (a_t_line, .inl (Y.1, 5040, .inl f_t_line))] := hD
  refine lv_aload_n hx hb dX11_spreadsFrom_34 rfl (lv_at hl 0 rfl) ?_
  refine va_get (D := D) (ci := 8) (v := .ref a_t_line) (C := RX11) (T := TX11) (N := 18) hx hb hts inX11 hown hE.1 hP 0 rfl rfl 17 (by decide) (hts _ qw778) (fun _ h9 => h9) rfl dX11_spreadsFrom_35 ?_
  refine lv_iconst (v := 0) hx hb dX11_spreadsFrom_38 (by decide) ?_
  refine lv_iload_n hx hb dX11_spreadsFrom_39 rfl (lv_at hl 1 rfl) ?_
  refine va_iast hx hb hE.1 hP hD hS 6 0 rfl rfl (inb_in (by decide)) dX11_spreadsFrom_40 (fun H locs hP hD hS => ?_)
  have hP : va_P D vwCl [(a_t, .inr (8, [.ref a_t_s, .ref a_t_past, .ref a_t_kept, .int v_t_isKept, .int v_t_pasts, .ref a_t_pad, .int v_t_typed, .ref a_t_cell, .ref a_t_other, .ref a_t_rows, .int v_t_ends, .ref a_t_read, .int v_t_many, .int v_t_spot, .ref a_t_track, .ref a_t_lead, .ref a_t_distance, .ref a_t_line])), (a_t_s, .inl (Y.1, 41, .inl f_t_s)), (a_t_cell, .inl (Y.1, 7, .inl q1.1)), (a_t_other, .inl (Y.1, 7, .inl f_t_other)), (a_t_lead, .inl (Y.1, 21, .inl q1.2)), (a_t_distance, .inl (Y.1, 5040, .inl (upd y6 s1.toNatClampNeg 0))), (a_t_line, .inl (Y.1, 5040, .inl (upd f_t_line (0 : Int32).toNatClampNeg s1)))] H := hP
  have hD : va_D A [(a_t, .inr (8, [.ref a_t_s, .ref a_t_past, .ref a_t_kept, .int v_t_isKept, .int v_t_pasts, .ref a_t_pad, .int v_t_typed, .ref a_t_cell, .ref a_t_other, .ref a_t_rows, .int v_t_ends, .ref a_t_read, .int v_t_many, .int v_t_spot, .ref a_t_track, .ref a_t_lead, .ref a_t_distance, .ref a_t_line])), (a_t_s, .inl (Y.1, 41, .inl f_t_s)), (a_t_cell, .inl (Y.1, 7, .inl q1.1)), (a_t_other, .inl (Y.1, 7, .inl f_t_other)), (a_t_lead, .inl (Y.1, 21, .inl q1.2)), (a_t_distance, .inl (Y.1, 5040, .inl (upd y6 s1.toNatClampNeg 0))), (a_t_line, .inl (Y.1, 5040, .inl (upd f_t_line (0 : Int32).toNatClampNeg s1)))] := hD
  refine lv_iconst (v := 1) hx hb dX11_spreadsFrom_41 (by decide) ?_
  refine lv_istore_n (lv' := [(3, .int 1), (0, .ref a_t), (1, .int s1), (2, .int s2)]) hx hb dX11_spreadsFrom_42 rfl hl (by decide) rfl (fun ls hl => ?_)
  refine lv_iconst (v := 0) hx hb dX11_spreadsFrom_43 (by decide) ?_
  refine lv_istore (lv' := [(4, .int 0), (3, .int 1), (0, .ref a_t), (1, .int s1), (2, .int s2)]) hx hb dX11_spreadsFrom_44 hl (by decide) rfl (fun ls hl => ?_)
  exact L46 _ _ _ _ _ _ _ _ _ _ _ _ hf hP hD hS (lv_sub hl [2, 4, 1, 0] rfl)
