def f_X11_count (s1 : Int32) (v_t_pasts : Int32) (v_t_typed : Int32) (v_t_ends : Int32) (f_t_s : Nat → Int32) (f_t_cell : Nat → Int32) (f_t_rows : Nat → Int32) : Option (Int32 × Int32 × (Nat → Int32) × (Nat → Int32)) :=
  bd (f_X11_ringsAll (-4) v_t_ends f_t_s f_t_cell f_t_rows) (fun q1 => (if s1 = 0 then gd (inb s1 41) (some ((f_t_s s1.toNatClampNeg), q1.1, q1.2.1, q1.2.2)) else (if s1 = 1 then gd (inb s1 41) (some ((f_t_s s1.toNatClampNeg), q1.1, q1.2.1, q1.2.2)) else (if s1 = 2 then gd (inb s1 41) (some ((f_t_s s1.toNatClampNeg), q1.1, q1.2.1, q1.2.2)) else (if s1 = 3 then bd (f_X11_last f_t_s) (fun q10 => some (q10, q1.1, q1.2.1, q1.2.2)) else (if s1 = 4 then bd (f_X11_roundAt q1.1 q1.2.2) (fun q13 => some (q13, q1.1, q1.2.1, q1.2.2)) else (if s1 = 5 then bd (f_X11_firstTwice q1.1 q1.2.2) (fun q16 => (if (0 : Int32) ≤ q16 then some (0, q1.1, q1.2.1, q1.2.2) else some (1, q1.1, q1.2.1, q1.2.2))) else (if s1 = 6 then bd (f_X11_firstTwice q1.1 q1.2.2) (fun q20 => some (q20, q1.1, q1.2.1, q1.2.2)) else (if s1 = 7 then bd (f_X11_unlike q1.1 q1.2.2) (fun q23 => some (q23, q1.1, q1.2.1, q1.2.2)) else (if s1 = 8 then bd (f_X11_falsePairs f_t_s q1.2.2) (fun q26 => some (q26, q1.1, q1.2.1, q1.2.2)) else (if s1 = 9 then bd (f_X11_musical q1.1 f_t_s q1.2.1 q1.2.2) (fun q29 => some (q29.1, q1.1, q29.2, q1.2.2)) else (if s1 = 10 then bd (f_X11_called f_t_s) (fun q32 => some (q32, q1.1, q1.2.1, q1.2.2)) else (if s1 = 11 then bd (f_X11_plainCourse f_t_s q1.2.1) (fun q35 => some (q35.1, q1.1, q35.2, q1.2.2)) else (if s1 = 12 then gd (inb (((2 : Int32) + s1) - 11) 41) (some ((f_t_s (((2 : Int32) + s1) - 11).toNatClampNeg), q1.1, q1.2.1, q1.2.2)) else (if s1 = 13 then gd (inb (((2 : Int32) + s1) - 11) 41) (some ((f_t_s (((2 : Int32) + s1) - 11).toNatClampNeg), q1.1, q1.2.1, q1.2.2)) else (if s1 = 14 then some (v_t_typed, q1.1, q1.2.1, q1.2.2) else (if s1 = 15 then some (v_t_pasts, q1.1, q1.2.1, q1.2.2) else some ((-1), q1.1, q1.2.1, q1.2.2))))))))))))))))))
abbrev rm_X11_count : Room := { frames := 4, cells := 0, slots := 0, locals := 93 }
set_option maxHeartbeats 4000000 in
set_option maxRecDepth 100000 in
theorem c_X11_count (l : Launch) (D : va_G) (Y : ClassId × ClassId × ClassId) (a_t a_t_s a_t_past a_t_kept a_t_pad a_t_cell a_t_other a_t_rows a_t_read a_t_track a_t_lead a_t_distance a_t_line : Nat) (v_t_isKept : Int32) (v_t_pasts : Int32) (v_t_typed : Int32) (v_t_ends : Int32) (v_t_many : Int32) (v_t_spot : Int32) (f_t_s : Nat → Int32) (f_t_cell : Nat → Int32) (f_t_rows : Nat → Int32) (s1 : Int32) (sz : Nat) (R : Int32 × Int32 × (Nat → Int32) × (Nat → Int32)) (hf : f_X11_count s1 v_t_pasts v_t_typed v_t_ends f_t_s f_t_cell f_t_rows = some R) : Met l yX11_count (ws_ yX11_count cX11_count 2 (some .int)) rm_X11_count (va_Pc [.ref a_t, .int s1] (RW D Y sz [(a_t, .inr (8, [.ref a_t_s, .ref a_t_past, .ref a_t_kept, .int v_t_isKept, .int v_t_pasts, .ref a_t_pad, .int v_t_typed, .ref a_t_cell, .ref a_t_other, .ref a_t_rows, .int v_t_ends, .ref a_t_read, .int v_t_many, .int v_t_spot, .ref a_t_track, .ref a_t_lead, .ref a_t_distance, .ref a_t_line])), (a_t_s, .inl (Y.1, 41, .inl f_t_s)), (a_t_cell, .inl (Y.1, 7, .inl f_t_cell)), (a_t_rows, .inl (Y.1, 341, .inl f_t_rows))])) (QI D R.1 [(a_t, .inr (8, [.ref a_t_s, .ref a_t_past, .ref a_t_kept, .int v_t_isKept, .int v_t_pasts, .ref a_t_pad, .int v_t_typed, .ref a_t_cell, .ref a_t_other, .ref a_t_rows, .int R.2.1, .ref a_t_read, .int v_t_many, .int v_t_spot, .ref a_t_track, .ref a_t_lead, .ref a_t_distance, .ref a_t_line])), (a_t_s, .inl (Y.1, 41, .inl f_t_s)), (a_t_cell, .inl (Y.1, 7, .inl R.2.2.1)), (a_t_rows, .inl (Y.1, 341, .inl R.2.2.2))] (va_A [(a_t, .inr (8, [.ref a_t_s, .ref a_t_past, .ref a_t_kept, .int v_t_isKept, .int v_t_pasts, .ref a_t_pad, .int v_t_typed, .ref a_t_cell, .ref a_t_other, .ref a_t_rows, .int v_t_ends, .ref a_t_read, .int v_t_many, .int v_t_spot, .ref a_t_track, .ref a_t_lead, .ref a_t_distance, .ref a_t_line])), (a_t_s, .inl (Y.1, 41, .inl f_t_s)), (a_t_cell, .inl (Y.1, 7, .inl f_t_cell)), (a_t_rows, .inl (Y.1, 341, .inl f_t_rows))] sz)) 0 0 (va_A [(a_t, .inr (8, [.ref a_t_s, .ref a_t_past, .ref a_t_kept, .int v_t_isKept, .int v_t_pasts, .ref a_t_pad, .int v_t_typed, .ref a_t_cell, .ref a_t_other, .ref a_t_rows, .int v_t_ends, .ref a_t_read, .int v_t_many, .int v_t_spot, .ref a_t_track, .ref a_t_lead, .ref a_t_distance, .ref a_t_line])), (a_t_s, .inl (Y.1, 41, .inl f_t_s)), (a_t_cell, .inl (Y.1, 7, .inl f_t_cell)), (a_t_rows, .inl (Y.1, 341, .inl f_t_rows))] sz) := by
  refine rw_start (Qc := fun A => QI D R.1 [(a_t, .inr (8, [.ref a_t_s, .ref a_t_past, .ref a_t_kept, .int v_t_isKept, .int v_t_pasts, .ref a_t_pad, .int v_t_typed, .ref a_t_cell, .ref a_t_other, .ref a_t_rows, .int R.2.1, .ref a_t_read, .int v_t_many, .int v_t_spot, .ref a_t_track, .ref a_t_lead, .ref a_t_distance, .ref a_t_line])), (a_t_s, .inl (Y.1, 41, .inl f_t_s)), (a_t_cell, .inl (Y.1, 7, .inl R.2.2.1)), (a_t_rows, .inl (Y.1, 341, .inl R.2.2.2))] A) (by decide) (Nat.le_of_ble_eq_true rfl) ?_
  intro p e s m below meth c ls A hx hb hml hr hlocks hown hts hnm hA hP hD hS hE hl
  generalize hargs : List.toArray _ = args at hts ⊢
  have hown : s.vm.findClass RX11 = some m.cls := hown
  have E : EN p m c cX11_count 2 s args RX11 := ⟨hx, hb, hml, hown, hts⟩
  have hl : lv_has ls 2 [(0, .ref a_t), (1, .int s1)] := hl
  generalize hQ : MQ below _ args s 0 0 _ = Q
  unfold f_X11_count at hf
  refine lv_aload_n hx hb dX11_count_0 rfl (lv_at hl 0 rfl) ?_
  refine lv_bipush (v := (-4)) hx hb dX11_count_1 (by decide) ?_
  obtain ⟨q1, h2, hf⟩ := bd_s hf
  refine af_v0 (wc := [(a_t, .inr (8, [.ref a_t_s, .ref a_t_past, .ref a_t_kept, .int v_t_isKept, .int v_t_pasts, .ref a_t_pad, .int v_t_typed, .ref a_t_cell, .ref a_t_other, .ref a_t_rows, .int v_t_ends, .ref a_t_read, .int v_t_many, .int v_t_spot, .ref a_t_track, .ref a_t_lead, .ref a_t_distance, .ref a_t_line])), (a_t_s, .inl (Y.1, 41, .inl f_t_s)), (a_t_cell, .inl (Y.1, 7, .inl f_t_cell)), (a_t_rows, .inl (Y.1, 341, .inl f_t_rows))]) (wr := []) (wn := [(a_t, .inr (8, [.ref a_t_s, .ref a_t_past, .ref a_t_kept, .int v_t_isKept, .int v_t_pasts, .ref a_t_pad, .int v_t_typed, .ref a_t_cell, .ref a_t_other, .ref a_t_rows, .int q1.1, .ref a_t_read, .int v_t_many, .int v_t_spot, .ref a_t_track, .ref a_t_lead, .ref a_t_distance, .ref a_t_line])), (a_t_s, .inl (Y.1, 41, .inl f_t_s)), (a_t_cell, .inl (Y.1, 7, .inl q1.2.1)), (a_t_rows, .inl (Y.1, 341, .inl q1.2.2))]) (run_V (As := [.int (-4)]) (rest := []) E (c_X11_ringsAll l D Y a_t a_t_s a_t_past a_t_kept a_t_pad a_t_cell a_t_other a_t_rows a_t_read a_t_track a_t_lead a_t_distance a_t_line v_t_isKept v_t_pasts v_t_typed v_t_ends v_t_many v_t_spot f_t_s f_t_cell f_t_rows (-4) s.heap.size q1 h2) qw902 qw904 qw32 qw76 qw905 rfl rfl hd_X11_ringsAll ⟨Nat.le_of_ble_eq_true rfl, Nat.le_of_ble_eq_true rfl⟩ (pre_rwV hP hD hE [0, 1, 2, 3] rfl (by decide) rfl (ci := 8) (q0 := 0) rfl rfl) rfl hl.1 rfl (Nat.le_of_ble_eq_true rfl) dX11_count_3 ⟨Nat.zero_le _, Nat.zero_le _⟩) hP hD hS hA [0, 1, 2, 3] [] [0, 1, 2, 3] rfl rfl (by decide) (by decide) rfl rfl (by decide) (fun H locs  hP hD hS => ?_)
  refine lv_iload_n hx hb dX11_count_6 rfl (lv_at hl 1 rfl) ?_
  by_cases c3 : s1 = 0
  · have hf := ite_t c3 hf
    refine lv_tableIn (tgt := 84) (off := 77) hx hb dX11_count_7 (by rw [c3]; decide) (by rw [c3]; decide) (by rw [c3]; rfl) (by decide) ?_
    refine lv_aload_n hx hb dX11_count_84 rfl (lv_at hl 0 rfl) ?_
    refine va_get (D := D) (ci := 8) (v := .ref a_t_s) (C := RX11) (T := TX11) (N := 18) hx hb hts inX11 hown hE.1 hP 0 rfl rfl 0 (by decide) (hts _ qw761) (fun _ h9 => h9) rfl dX11_count_85 ?_
    refine lv_iload_n hx hb dX11_count_88 rfl (lv_at hl 1 rfl) ?_
    obtain ⟨g4, hf⟩ := gd_s hf
    refine va_iald hx hb hE.1 hP 1 0 rfl rfl (inb_in g4) dX11_count_89 ?_
    obtain rfl := Option.some.inj hf
    subst hQ
    exact en_i hx hb hr hlocks hP hD hS rfl dX11_count_90
  have hf := ite_f c3 hf
  by_cases c5 : s1 = 1
  · have hf := ite_t c5 hf
    refine lv_tableIn (tgt := 84) (off := 77) hx hb dX11_count_7 (by rw [c5]; decide) (by rw [c5]; decide) (by rw [c5]; rfl) (by decide) ?_
    refine lv_aload_n hx hb dX11_count_84 rfl (lv_at hl 0 rfl) ?_
    refine va_get (D := D) (ci := 8) (v := .ref a_t_s) (C := RX11) (T := TX11) (N := 18) hx hb hts inX11 hown hE.1 hP 0 rfl rfl 0 (by decide) (hts _ qw761) (fun _ h9 => h9) rfl dX11_count_85 ?_
    refine lv_iload_n hx hb dX11_count_88 rfl (lv_at hl 1 rfl) ?_
    obtain ⟨g6, hf⟩ := gd_s hf
    refine va_iald hx hb hE.1 hP 1 0 rfl rfl (inb_in g6) dX11_count_89 ?_
    obtain rfl := Option.some.inj hf
    subst hQ
    exact en_i hx hb hr hlocks hP hD hS rfl dX11_count_90
  have hf := ite_f c5 hf
  by_cases c7 : s1 = 2
  · have hf := ite_t c7 hf
    refine lv_tableIn (tgt := 84) (off := 77) hx hb dX11_count_7 (by rw [c7]; decide) (by rw [c7]; decide) (by rw [c7]; rfl) (by decide) ?_
    refine lv_aload_n hx hb dX11_count_84 rfl (lv_at hl 0 rfl) ?_
    refine va_get (D := D) (ci := 8) (v := .ref a_t_s) (C := RX11) (T := TX11) (N := 18) hx hb hts inX11 hown hE.1 hP 0 rfl rfl 0 (by decide) (hts _ qw761) (fun _ h9 => h9) rfl dX11_count_85 ?_
    refine lv_iload_n hx hb dX11_count_88 rfl (lv_at hl 1 rfl) ?_
    obtain ⟨g8, hf⟩ := gd_s hf
    refine va_iald hx hb hE.1 hP 1 0 rfl rfl (inb_in g8) dX11_count_89 ?_
    obtain rfl := Option.some.inj hf
    subst hQ
    exact en_i hx hb hr hlocks hP hD hS rfl dX11_count_90
  have hf := ite_f c7 hf
  by_cases c9 : s1 = 3
  · have hf := ite_t c9 hf
    refine lv_tableIn (tgt := 91) (off := 84) hx hb dX11_count_7 (by rw [c9]; decide) (by rw [c9]; decide) (by rw [c9]; rfl) (by decide) ?_
    refine lv_aload_n hx hb dX11_count_91 rfl (lv_at hl 0 rfl) ?_
    obtain ⟨q10, h11, hf⟩ := bd_s hf
    refine af_oi (run_V (As := []) (rest := []) E (c_X11_last l D Y a_t a_t_s a_t_past a_t_kept a_t_pad a_t_cell a_t_other a_t_rows a_t_read a_t_track a_t_lead a_t_distance a_t_line v_t_isKept v_t_pasts v_t_typed q1.1 v_t_many v_t_spot f_t_s q10 h11) qw894 qw896 qw30 qw76 qw897 rfl rfl hd_X11_last ⟨Nat.le_of_ble_eq_true rfl, Nat.le_of_ble_eq_true rfl⟩ (pre_roV hP hE [0, 1] rfl (ci := 8) (q0 := 0) rfl rfl) rfl hl.1 rfl (Nat.le_of_ble_eq_true rfl) dX11_count_92 ⟨Nat.zero_le _, Nat.zero_le _⟩) ?_
    obtain rfl := Option.some.inj hf
    subst hQ
    exact en_i hx hb hr hlocks hP hD hS rfl dX11_count_95
  have hf := ite_f c9 hf
  by_cases c12 : s1 = 4
  · have hf := ite_t c12 hf
    refine lv_tableIn (tgt := 96) (off := 89) hx hb dX11_count_7 (by rw [c12]; decide) (by rw [c12]; decide) (by rw [c12]; rfl) (by decide) ?_
    refine lv_aload_n hx hb dX11_count_96 rfl (lv_at hl 0 rfl) ?_
    obtain ⟨q13, h14, hf⟩ := bd_s hf
    refine af_oi (run_V (As := []) (rest := []) E (c_X11_roundAt l D Y a_t a_t_s a_t_past a_t_kept a_t_pad a_t_cell a_t_other a_t_rows a_t_read a_t_track a_t_lead a_t_distance a_t_line v_t_isKept v_t_pasts v_t_typed q1.1 v_t_many v_t_spot q1.2.2 q13 h14) qw1002 qw1004 qw52 qw76 qw1005 rfl rfl hd_X11_roundAt ⟨Nat.le_of_ble_eq_true rfl, Nat.le_of_ble_eq_true rfl⟩ (pre_roV hP hE [0, 3] rfl (ci := 8) (q0 := 0) rfl rfl) rfl hl.1 rfl (Nat.le_of_ble_eq_true rfl) dX11_count_97 ⟨Nat.zero_le _, Nat.zero_le _⟩) ?_
    obtain rfl := Option.some.inj hf
    subst hQ
    exact en_i hx hb hr hlocks hP hD hS rfl dX11_count_100
  have hf := ite_f c12 hf
  by_cases c15 : s1 = 5
  · have hf := ite_t c15 hf
    refine lv_tableIn (tgt := 101) (off := 94) hx hb dX11_count_7 (by rw [c15]; decide) (by rw [c15]; decide) (by rw [c15]; rfl) (by decide) ?_
    refine lv_aload_n hx hb dX11_count_101 rfl (lv_at hl 0 rfl) ?_
    obtain ⟨q16, h17, hf⟩ := bd_s hf
    refine af_oi (run_V (As := []) (rest := []) E (c_X11_firstTwice l D Y a_t a_t_s a_t_past a_t_kept a_t_pad a_t_cell a_t_other a_t_rows a_t_read a_t_track a_t_lead a_t_distance a_t_line v_t_isKept v_t_pasts v_t_typed q1.1 v_t_many v_t_spot q1.2.2 q16 h17) qw1006 qw1008 qw53 qw76 qw1009 rfl rfl hd_X11_firstTwice ⟨Nat.le_of_ble_eq_true rfl, Nat.le_of_ble_eq_true rfl⟩ (pre_roV hP hE [0, 3] rfl (ci := 8) (q0 := 0) rfl rfl) rfl hl.1 rfl (Nat.le_of_ble_eq_true rfl) dX11_count_102 ⟨Nat.zero_le _, Nat.zero_le _⟩) ?_
    refine lv_if_ge (tgt := 112) hx hb dX11_count_105 (by decide) (fun c18 => ?_) (fun c18 => ?_)
    · have hf := ite_t c18 hf
      refine lv_iconst (v := 0) hx hb dX11_count_112 (by decide) ?_
      obtain rfl := Option.some.inj hf
      subst hQ
      exact en_i hx hb hr hlocks hP hD hS rfl dX11_count_113
    have hf := ite_f c18 hf
    refine lv_iconst (v := 1) hx hb dX11_count_108 (by decide) ?_
    refine lv_goto (tgt := 113) hx hb dX11_count_109 (by decide) ?_
    obtain rfl := Option.some.inj hf
    subst hQ
    exact en_i hx hb hr hlocks hP hD hS rfl dX11_count_113
  have hf := ite_f c15 hf
  by_cases c19 : s1 = 6
  · have hf := ite_t c19 hf
    refine lv_tableIn (tgt := 114) (off := 107) hx hb dX11_count_7 (by rw [c19]; decide) (by rw [c19]; decide) (by rw [c19]; rfl) (by decide) ?_
    refine lv_aload_n hx hb dX11_count_114 rfl (lv_at hl 0 rfl) ?_
    obtain ⟨q20, h21, hf⟩ := bd_s hf
    refine af_oi (run_V (As := []) (rest := []) E (c_X11_firstTwice l D Y a_t a_t_s a_t_past a_t_kept a_t_pad a_t_cell a_t_other a_t_rows a_t_read a_t_track a_t_lead a_t_distance a_t_line v_t_isKept v_t_pasts v_t_typed q1.1 v_t_many v_t_spot q1.2.2 q20 h21) qw1006 qw1008 qw53 qw76 qw1009 rfl rfl hd_X11_firstTwice ⟨Nat.le_of_ble_eq_true rfl, Nat.le_of_ble_eq_true rfl⟩ (pre_roV hP hE [0, 3] rfl (ci := 8) (q0 := 0) rfl rfl) rfl hl.1 rfl (Nat.le_of_ble_eq_true rfl) dX11_count_115 ⟨Nat.zero_le _, Nat.zero_le _⟩) ?_
    obtain rfl := Option.some.inj hf
    subst hQ
    exact en_i hx hb hr hlocks hP hD hS rfl dX11_count_118
  have hf := ite_f c19 hf
  by_cases c22 : s1 = 7
  · have hf := ite_t c22 hf
    refine lv_tableIn (tgt := 119) (off := 112) hx hb dX11_count_7 (by rw [c22]; decide) (by rw [c22]; decide) (by rw [c22]; rfl) (by decide) ?_
    refine lv_aload_n hx hb dX11_count_119 rfl (lv_at hl 0 rfl) ?_
    obtain ⟨q23, h24, hf⟩ := bd_s hf
    refine af_oi (run_V (As := []) (rest := []) E (c_X11_unlike l D Y a_t a_t_s a_t_past a_t_kept a_t_pad a_t_cell a_t_other a_t_rows a_t_read a_t_track a_t_lead a_t_distance a_t_line v_t_isKept v_t_pasts v_t_typed q1.1 v_t_many v_t_spot q1.2.2 q23 h24) qw1010 qw1012 qw54 qw76 qw1013 rfl rfl hd_X11_unlike ⟨Nat.le_of_ble_eq_true rfl, Nat.le_of_ble_eq_true rfl⟩ (pre_roV hP hE [0, 3] rfl (ci := 8) (q0 := 0) rfl rfl) rfl hl.1 rfl (Nat.le_of_ble_eq_true rfl) dX11_count_120 ⟨Nat.zero_le _, Nat.zero_le _⟩) ?_
    obtain rfl := Option.some.inj hf
    subst hQ
    exact en_i hx hb hr hlocks hP hD hS rfl dX11_count_123
  have hf := ite_f c22 hf
  by_cases c25 : s1 = 8
  · have hf := ite_t c25 hf
    refine lv_tableIn (tgt := 124) (off := 117) hx hb dX11_count_7 (by rw [c25]; decide) (by rw [c25]; decide) (by rw [c25]; rfl) (by decide) ?_
    refine lv_aload_n hx hb dX11_count_124 rfl (lv_at hl 0 rfl) ?_
    obtain ⟨q26, h27, hf⟩ := bd_s hf
    refine af_oi (run_V (As := []) (rest := []) E (c_X11_falsePairs l D Y a_t a_t_s a_t_past a_t_kept a_t_pad a_t_cell a_t_other a_t_rows a_t_read a_t_track a_t_lead a_t_distance a_t_line v_t_isKept v_t_pasts v_t_typed q1.1 v_t_many v_t_spot f_t_s q1.2.2 q26 h27) qw1014 qw1016 qw55 qw76 qw1017 rfl rfl hd_X11_falsePairs ⟨Nat.le_of_ble_eq_true rfl, Nat.le_of_ble_eq_true rfl⟩ (pre_roV hP hE [0, 1, 3] rfl (ci := 8) (q0 := 0) rfl rfl) rfl hl.1 rfl (Nat.le_of_ble_eq_true rfl) dX11_count_125 ⟨Nat.zero_le _, Nat.zero_le _⟩) ?_
    obtain rfl := Option.some.inj hf
    subst hQ
    exact en_i hx hb hr hlocks hP hD hS rfl dX11_count_128
  have hf := ite_f c25 hf
  by_cases c28 : s1 = 9
  · have hf := ite_t c28 hf
    refine lv_tableIn (tgt := 129) (off := 122) hx hb dX11_count_7 (by rw [c28]; decide) (by rw [c28]; decide) (by rw [c28]; rfl) (by decide) ?_
    refine lv_aload_n hx hb dX11_count_129 rfl (lv_at hl 0 rfl) ?_
    obtain ⟨q29, h30, hf⟩ := bd_s hf
    refine af_i0 (wc := [(a_t, .inr (8, [.ref a_t_s, .ref a_t_past, .ref a_t_kept, .int v_t_isKept, .int v_t_pasts, .ref a_t_pad, .int v_t_typed, .ref a_t_cell, .ref a_t_other, .ref a_t_rows, .int q1.1, .ref a_t_read, .int v_t_many, .int v_t_spot, .ref a_t_track, .ref a_t_lead, .ref a_t_distance, .ref a_t_line])), (a_t_s, .inl (Y.1, 41, .inl f_t_s)), (a_t_cell, .inl (Y.1, 7, .inl q1.2.1)), (a_t_rows, .inl (Y.1, 341, .inl q1.2.2))]) (wr := []) (wn := [(a_t, .inr (8, [.ref a_t_s, .ref a_t_past, .ref a_t_kept, .int v_t_isKept, .int v_t_pasts, .ref a_t_pad, .int v_t_typed, .ref a_t_cell, .ref a_t_other, .ref a_t_rows, .int q1.1, .ref a_t_read, .int v_t_many, .int v_t_spot, .ref a_t_track, .ref a_t_lead, .ref a_t_distance, .ref a_t_line])), (a_t_s, .inl (Y.1, 41, .inl f_t_s)), (a_t_cell, .inl (Y.1, 7, .inl q29.2)), (a_t_rows, .inl (Y.1, 341, .inl q1.2.2))]) (run_V (As := []) (rest := []) E (c_X11_musical l D Y a_t a_t_s a_t_past a_t_kept a_t_pad a_t_cell a_t_other a_t_rows a_t_read a_t_track a_t_lead a_t_distance a_t_line v_t_isKept v_t_pasts v_t_typed q1.1 v_t_many v_t_spot f_t_s q1.2.1 q1.2.2 H.size q29 h30) qw1022 qw1024 qw57 qw76 qw1025 rfl rfl hd_X11_musical ⟨Nat.le_of_ble_eq_true rfl, Nat.le_of_ble_eq_true rfl⟩ (pre_rwV hP hD hE [0, 1, 2, 3] rfl (by decide) rfl (ci := 8) (q0 := 0) rfl rfl) rfl hl.1 rfl (Nat.le_of_ble_eq_true rfl) dX11_count_130 ⟨Nat.zero_le _, Nat.zero_le _⟩) hP hD hS hA [0, 1, 2, 3] [] [0, 1, 2, 3] rfl rfl (by decide) (by decide) rfl rfl (by decide) (fun H locs  hP hD hS => ?_)
    obtain rfl := Option.some.inj hf
    subst hQ
    exact en_i hx hb hr hlocks hP hD hS rfl dX11_count_133
  have hf := ite_f c28 hf
  by_cases c31 : s1 = 10
  · have hf := ite_t c31 hf
    refine lv_tableIn (tgt := 134) (off := 127) hx hb dX11_count_7 (by rw [c31]; decide) (by rw [c31]; decide) (by rw [c31]; rfl) (by decide) ?_
    refine lv_aload_n hx hb dX11_count_134 rfl (lv_at hl 0 rfl) ?_
    obtain ⟨q32, h33, hf⟩ := bd_s hf
    refine af_oi (run_V (As := []) (rest := []) E (c_X11_called l D Y a_t a_t_s a_t_past a_t_kept a_t_pad a_t_cell a_t_other a_t_rows a_t_read a_t_track a_t_lead a_t_distance a_t_line v_t_isKept v_t_pasts v_t_typed q1.1 v_t_many v_t_spot f_t_s q32 h33) qw1026 qw1028 qw58 qw76 qw1029 rfl rfl hd_X11_called ⟨Nat.le_of_ble_eq_true rfl, Nat.le_of_ble_eq_true rfl⟩ (pre_roV hP hE [0, 1] rfl (ci := 8) (q0 := 0) rfl rfl) rfl hl.1 rfl (Nat.le_of_ble_eq_true rfl) dX11_count_135 ⟨Nat.zero_le _, Nat.zero_le _⟩) ?_
    obtain rfl := Option.some.inj hf
    subst hQ
    exact en_i hx hb hr hlocks hP hD hS rfl dX11_count_138
  have hf := ite_f c31 hf
  by_cases c34 : s1 = 11
  · have hf := ite_t c34 hf
    refine lv_tableIn (tgt := 139) (off := 132) hx hb dX11_count_7 (by rw [c34]; decide) (by rw [c34]; decide) (by rw [c34]; rfl) (by decide) ?_
    refine lv_aload_n hx hb dX11_count_139 rfl (lv_at hl 0 rfl) ?_
    obtain ⟨q35, h36, hf⟩ := bd_s hf
    refine af_i0 (wc := [(a_t, .inr (8, [.ref a_t_s, .ref a_t_past, .ref a_t_kept, .int v_t_isKept, .int v_t_pasts, .ref a_t_pad, .int v_t_typed, .ref a_t_cell, .ref a_t_other, .ref a_t_rows, .int q1.1, .ref a_t_read, .int v_t_many, .int v_t_spot, .ref a_t_track, .ref a_t_lead, .ref a_t_distance, .ref a_t_line])), (a_t_s, .inl (Y.1, 41, .inl f_t_s)), (a_t_cell, .inl (Y.1, 7, .inl q1.2.1))]) (wr := [(a_t_rows, .inl (Y.1, 341, .inl q1.2.2))]) (wn := [(a_t, .inr (8, [.ref a_t_s, .ref a_t_past, .ref a_t_kept, .int v_t_isKept, .int v_t_pasts, .ref a_t_pad, .int v_t_typed, .ref a_t_cell, .ref a_t_other, .ref a_t_rows, .int q1.1, .ref a_t_read, .int v_t_many, .int v_t_spot, .ref a_t_track, .ref a_t_lead, .ref a_t_distance, .ref a_t_line])), (a_t_s, .inl (Y.1, 41, .inl f_t_s)), (a_t_cell, .inl (Y.1, 7, .inl q35.2)), (a_t_rows, .inl (Y.1, 341, .inl q1.2.2))]) (run_V (As := []) (rest := []) E (c_X11_plainCourse l D Y a_t a_t_s a_t_past a_t_kept a_t_pad a_t_cell a_t_other a_t_rows a_t_read a_t_track a_t_lead a_t_distance a_t_line v_t_isKept v_t_pasts v_t_typed q1.1 v_t_many v_t_spot f_t_s q1.2.1 H.size q35 h36) qw1030 qw1032 qw59 qw76 qw1033 rfl rfl hd_X11_plainCourse ⟨Nat.le_of_ble_eq_true rfl, Nat.le_of_ble_eq_true rfl⟩ (pre_rwV hP hD hE [0, 1, 2] rfl (by decide) rfl (ci := 8) (q0 := 0) rfl rfl) rfl hl.1 rfl (Nat.le_of_ble_eq_true rfl) dX11_count_140 ⟨Nat.zero_le _, Nat.zero_le _⟩) hP hD hS hA [0, 1, 2] [3] [1, 2, 3, 0] rfl rfl (by decide) (by decide) rfl rfl (by decide) (fun H locs  hP hD hS => ?_)
    obtain rfl := Option.some.inj hf
    subst hQ
    exact en_i hx hb hr hlocks hP hD hS rfl dX11_count_143
  have hf := ite_f c34 hf
  by_cases c37 : s1 = 12
  · have hf := ite_t c37 hf
    refine lv_tableIn (tgt := 144) (off := 137) hx hb dX11_count_7 (by rw [c37]; decide) (by rw [c37]; decide) (by rw [c37]; rfl) (by decide) ?_
    refine lv_aload_n hx hb dX11_count_144 rfl (lv_at hl 0 rfl) ?_
    refine va_get (D := D) (ci := 8) (v := .ref a_t_s) (C := RX11) (T := TX11) (N := 18) hx hb hts inX11 hown hE.1 hP 0 rfl rfl 0 (by decide) (hts _ qw761) (fun _ h9 => h9) rfl dX11_count_145 ?_
    refine lv_iconst (v := 2) hx hb dX11_count_148 (by decide) ?_
    refine lv_iload_n hx hb dX11_count_149 rfl (lv_at hl 1 rfl) ?_
    refine lv_iadd hx hb dX11_count_150 ?_
    refine lv_bipush (v := 11) hx hb dX11_count_151 (by decide) ?_
    refine lv_isub hx hb dX11_count_153 ?_
    obtain ⟨g38, hf⟩ := gd_s hf
    refine va_iald hx hb hE.1 hP 1 0 rfl rfl (inb_in g38) dX11_count_154 ?_
    obtain rfl := Option.some.inj hf
    subst hQ
    exact en_i hx hb hr hlocks hP hD hS rfl dX11_count_155
  have hf := ite_f c37 hf
  by_cases c39 : s1 = 13
  · have hf := ite_t c39 hf
    refine lv_tableIn (tgt := 144) (off := 137) hx hb dX11_count_7 (by rw [c39]; decide) (by rw [c39]; decide) (by rw [c39]; rfl) (by decide) ?_
    refine lv_aload_n hx hb dX11_count_144 rfl (lv_at hl 0 rfl) ?_
    refine va_get (D := D) (ci := 8) (v := .ref a_t_s) (C := RX11) (T := TX11) (N := 18) hx hb hts inX11 hown hE.1 hP 0 rfl rfl 0 (by decide) (hts _ qw761) (fun _ h9 => h9) rfl dX11_count_145 ?_
    refine lv_iconst (v := 2) hx hb dX11_count_148 (by decide) ?_
    refine lv_iload_n hx hb dX11_count_149 rfl (lv_at hl 1 rfl) ?_
    refine lv_iadd hx hb dX11_count_150 ?_
    refine lv_bipush (v := 11) hx hb dX11_count_151 (by decide) ?_
    refine lv_isub hx hb dX11_count_153 ?_
    obtain ⟨g40, hf⟩ := gd_s hf
    refine va_iald hx hb hE.1 hP 1 0 rfl rfl (inb_in g40) dX11_count_154 ?_
    obtain rfl := Option.some.inj hf
    subst hQ
    exact en_i hx hb hr hlocks hP hD hS rfl dX11_count_155
  have hf := ite_f c39 hf
  by_cases c41 : s1 = 14
  · have hf := ite_t c41 hf
    refine lv_tableIn (tgt := 156) (off := 149) hx hb dX11_count_7 (by rw [c41]; decide) (by rw [c41]; decide) (by rw [c41]; rfl) (by decide) ?_
    refine lv_aload_n hx hb dX11_count_156 rfl (lv_at hl 0 rfl) ?_
    refine va_get (D := D) (ci := 8) (v := .int v_t_typed) (C := RX11) (T := TX11) (N := 18) hx hb hts inX11 hown hE.1 hP 0 rfl rfl 6 (by decide) (hts _ qw767) (fun _ h9 => h9) rfl dX11_count_157 ?_
    obtain rfl := Option.some.inj hf
    subst hQ
    exact en_i hx hb hr hlocks hP hD hS rfl dX11_count_160
  have hf := ite_f c41 hf
  by_cases c42 : s1 = 15
  · have hf := ite_t c42 hf
    refine lv_tableIn (tgt := 161) (off := 154) hx hb dX11_count_7 (by rw [c42]; decide) (by rw [c42]; decide) (by rw [c42]; rfl) (by decide) ?_
    refine lv_aload_n hx hb dX11_count_161 rfl (lv_at hl 0 rfl) ?_
    refine va_get (D := D) (ci := 8) (v := .int v_t_pasts) (C := RX11) (T := TX11) (N := 18) hx hb hts inX11 hown hE.1 hP 0 rfl rfl 4 (by decide) (hts _ qw765) (fun _ h9 => h9) rfl dX11_count_162 ?_
    obtain rfl := Option.some.inj hf
    subst hQ
    exact en_i hx hb hr hlocks hP hD hS rfl dX11_count_165
  have hf := ite_f c42 hf
  have nc3 := sw_ne (k := 0) (z := 0) rfl c3
  have nc5 := sw_ne (k := 1) (z := 1) rfl c5
  have nc7 := sw_ne (k := 2) (z := 2) rfl c7
  have nc9 := sw_ne (k := 3) (z := 3) rfl c9
  have nc12 := sw_ne (k := 4) (z := 4) rfl c12
  have nc15 := sw_ne (k := 5) (z := 5) rfl c15
  have nc19 := sw_ne (k := 6) (z := 6) rfl c19
  have nc22 := sw_ne (k := 7) (z := 7) rfl c22
  have nc25 := sw_ne (k := 8) (z := 8) rfl c25
  have nc28 := sw_ne (k := 9) (z := 9) rfl c28
  have nc31 := sw_ne (k := 10) (z := 10) rfl c31
  have nc34 := sw_ne (k := 11) (z := 11) rfl c34
  have nc37 := sw_ne (k := 12) (z := 12) rfl c37
  have nc39 := sw_ne (k := 13) (z := 13) rfl c39
  have nc41 := sw_ne (k := 14) (z := 14) rfl c41
  have nc42 := sw_ne (k := 15) (z := 15) rfl c42
  refine lv_tableOut (tgt := 166) hx hb dX11_count_7 (by omega) (by decide) ?_
  refine lv_iconst (v := (-1)) hx hb dX11_count_166 (by decide) ?_
  obtain rfl := Option.some.inj hf
  subst hQ
  exact en_i hx hb hr hlocks hP hD hS rfl dX11_count_167

def f_X11_music (v_t_ends : Int32) (f_t_s : Nat → Int32) (f_t_cell : Nat → Int32) (f_t_rows : Nat → Int32) : Option (UInt64 × Int32 × (Nat → Int32) × (Nat → Int32)) :=
  bd (f_X11_ringsAll (-4) v_t_ends f_t_s f_t_cell f_t_rows) (fun q1 => bd (f_X11_musical q1.1 f_t_s q1.2.1 q1.2.2) (fun q3 => (if q1.1 = 0 then some (FP.dconst0, q1.1, q3.2, q1.2.2) else gd (nnb (FP.ddiv (FP.i2d q3.1) (FP.i2d q1.1))) (some ((FP.ddiv (FP.i2d q3.1) (FP.i2d q1.1)), q1.1, q3.2, q1.2.2)))))
abbrev rm_X11_music : Room := { frames := 4, cells := 0, slots := 0, locals := 93 }
set_option maxHeartbeats 4000000 in
set_option maxRecDepth 100000 in
theorem c_X11_music (l : Launch) (D : va_G) (Y : ClassId × ClassId × ClassId) (a_t a_t_s a_t_past a_t_kept a_t_pad a_t_cell a_t_other a_t_rows a_t_read a_t_track a_t_lead a_t_distance a_t_line : Nat) (v_t_isKept : Int32) (v_t_pasts : Int32) (v_t_typed : Int32) (v_t_ends : Int32) (v_t_many : Int32) (v_t_spot : Int32) (f_t_s : Nat → Int32) (f_t_cell : Nat → Int32) (f_t_rows : Nat → Int32) (sz : Nat) (R : UInt64 × Int32 × (Nat → Int32) × (Nat → Int32)) (hf : f_X11_music v_t_ends f_t_s f_t_cell f_t_rows = some R) : Met l yX11_music (ws_ yX11_music cX11_music 3 (some .double)) rm_X11_music (va_Pc [.ref a_t] (RW D Y sz [(a_t, .inr (8, [.ref a_t_s, .ref a_t_past, .ref a_t_kept, .int v_t_isKept, .int v_t_pasts, .ref a_t_pad, .int v_t_typed, .ref a_t_cell, .ref a_t_other, .ref a_t_rows, .int v_t_ends, .ref a_t_read, .int v_t_many, .int v_t_spot, .ref a_t_track, .ref a_t_lead, .ref a_t_distance, .ref a_t_line])), (a_t_s, .inl (Y.1, 41, .inl f_t_s)), (a_t_cell, .inl (Y.1, 7, .inl f_t_cell)), (a_t_rows, .inl (Y.1, 341, .inl f_t_rows))])) (QD D R.1 [(a_t, .inr (8, [.ref a_t_s, .ref a_t_past, .ref a_t_kept, .int v_t_isKept, .int v_t_pasts, .ref a_t_pad, .int v_t_typed, .ref a_t_cell, .ref a_t_other, .ref a_t_rows, .int R.2.1, .ref a_t_read, .int v_t_many, .int v_t_spot, .ref a_t_track, .ref a_t_lead, .ref a_t_distance, .ref a_t_line])), (a_t_s, .inl (Y.1, 41, .inl f_t_s)), (a_t_cell, .inl (Y.1, 7, .inl R.2.2.1)), (a_t_rows, .inl (Y.1, 341, .inl R.2.2.2))] (va_A [(a_t, .inr (8, [.ref a_t_s, .ref a_t_past, .ref a_t_kept, .int v_t_isKept, .int v_t_pasts, .ref a_t_pad, .int v_t_typed, .ref a_t_cell, .ref a_t_other, .ref a_t_rows, .int v_t_ends, .ref a_t_read, .int v_t_many, .int v_t_spot, .ref a_t_track, .ref a_t_lead, .ref a_t_distance, .ref a_t_line])), (a_t_s, .inl (Y.1, 41, .inl f_t_s)), (a_t_cell, .inl (Y.1, 7, .inl f_t_cell)), (a_t_rows, .inl (Y.1, 341, .inl f_t_rows))] sz)) 0 0 (va_A [(a_t, .inr (8, [.ref a_t_s, .ref a_t_past, .ref a_t_kept, .int v_t_isKept, .int v_t_pasts, .ref a_t_pad, .int v_t_typed, .ref a_t_cell, .ref a_t_other, .ref a_t_rows, .int v_t_ends, .ref a_t_read, .int v_t_many, .int v_t_spot, .ref a_t_track, .ref a_t_lead, .ref a_t_distance, .ref a_t_line])), (a_t_s, .inl (Y.1, 41, .inl f_t_s)), (a_t_cell, .inl (Y.1, 7, .inl f_t_cell)), (a_t_rows, .inl (Y.1, 341, .inl f_t_rows))] sz) := by
  refine rw_start (Qc := fun A => QD D R.1 [(a_t, .inr (8, [.ref a_t_s, .ref a_t_past, .ref a_t_kept, .int v_t_isKept, .int v_t_pasts, .ref a_t_pad, .int v_t_typed, .ref a_t_cell, .ref a_t_other, .ref a_t_rows, .int R.2.1, .ref a_t_read, .int v_t_many, .int v_t_spot, .ref a_t_track, .ref a_t_lead, .ref a_t_distance, .ref a_t_line])), (a_t_s, .inl (Y.1, 41, .inl f_t_s)), (a_t_cell, .inl (Y.1, 7, .inl R.2.2.1)), (a_t_rows, .inl (Y.1, 341, .inl R.2.2.2))] A) (by decide) (Nat.le_of_ble_eq_true rfl) ?_
  intro p e s m below meth c ls A hx hb hml hr hlocks hown hts hnm hA hP hD hS hE hl
  generalize hargs : List.toArray _ = args at hts ⊢
  have hown : s.vm.findClass RX11 = some m.cls := hown
  have E : EN p m c cX11_music 3 s args RX11 := ⟨hx, hb, hml, hown, hts⟩
  have hl : lv_has ls 3 [(0, .ref a_t)] := hl
  generalize hQ : MQ below _ args s 0 0 _ = Q
  unfold f_X11_music at hf
  refine lv_aload_n hx hb dX11_music_0 rfl (lv_at hl 0 rfl) ?_
  refine lv_bipush (v := (-4)) hx hb dX11_music_1 (by decide) ?_
  obtain ⟨q1, h2, hf⟩ := bd_s hf
  refine af_v0 (wc := [(a_t, .inr (8, [.ref a_t_s, .ref a_t_past, .ref a_t_kept, .int v_t_isKept, .int v_t_pasts, .ref a_t_pad, .int v_t_typed, .ref a_t_cell, .ref a_t_other, .ref a_t_rows, .int v_t_ends, .ref a_t_read, .int v_t_many, .int v_t_spot, .ref a_t_track, .ref a_t_lead, .ref a_t_distance, .ref a_t_line])), (a_t_s, .inl (Y.1, 41, .inl f_t_s)), (a_t_cell, .inl (Y.1, 7, .inl f_t_cell)), (a_t_rows, .inl (Y.1, 341, .inl f_t_rows))]) (wr := []) (wn := [(a_t, .inr (8, [.ref a_t_s, .ref a_t_past, .ref a_t_kept, .int v_t_isKept, .int v_t_pasts, .ref a_t_pad, .int v_t_typed, .ref a_t_cell, .ref a_t_other, .ref a_t_rows, .int q1.1, .ref a_t_read, .int v_t_many, .int v_t_spot, .ref a_t_track, .ref a_t_lead, .ref a_t_distance, .ref a_t_line])), (a_t_s, .inl (Y.1, 41, .inl f_t_s)), (a_t_cell, .inl (Y.1, 7, .inl q1.2.1)), (a_t_rows, .inl (Y.1, 341, .inl q1.2.2))]) (run_V (As := [.int (-4)]) (rest := []) E (c_X11_ringsAll l D Y a_t a_t_s a_t_past a_t_kept a_t_pad a_t_cell a_t_other a_t_rows a_t_read a_t_track a_t_lead a_t_distance a_t_line v_t_isKept v_t_pasts v_t_typed v_t_ends v_t_many v_t_spot f_t_s f_t_cell f_t_rows (-4) s.heap.size q1 h2) qw902 qw904 qw32 qw76 qw905 rfl rfl hd_X11_ringsAll ⟨Nat.le_of_ble_eq_true rfl, Nat.le_of_ble_eq_true rfl⟩ (pre_rwV hP hD hE [0, 1, 2, 3] rfl (by decide) rfl (ci := 8) (q0 := 0) rfl rfl) rfl hl.1 rfl (Nat.le_of_ble_eq_true rfl) dX11_music_3 ⟨Nat.zero_le _, Nat.zero_le _⟩) hP hD hS hA [0, 1, 2, 3] [] [0, 1, 2, 3] rfl rfl (by decide) (by decide) rfl rfl (by decide) (fun H locs  hP hD hS => ?_)
  refine lv_aload_n hx hb dX11_music_6 rfl (lv_at hl 0 rfl) ?_
  obtain ⟨q3, h4, hf⟩ := bd_s hf
  refine af_i0 (wc := [(a_t, .inr (8, [.ref a_t_s, .ref a_t_past, .ref a_t_kept, .int v_t_isKept, .int v_t_pasts, .ref a_t_pad, .int v_t_typed, .ref a_t_cell, .ref a_t_other, .ref a_t_rows, .int q1.1, .ref a_t_read, .int v_t_many, .int v_t_spot, .ref a_t_track, .ref a_t_lead, .ref a_t_distance, .ref a_t_line])), (a_t_s, .inl (Y.1, 41, .inl f_t_s)), (a_t_cell, .inl (Y.1, 7, .inl q1.2.1)), (a_t_rows, .inl (Y.1, 341, .inl q1.2.2))]) (wr := []) (wn := [(a_t, .inr (8, [.ref a_t_s, .ref a_t_past, .ref a_t_kept, .int v_t_isKept, .int v_t_pasts, .ref a_t_pad, .int v_t_typed, .ref a_t_cell, .ref a_t_other, .ref a_t_rows, .int q1.1, .ref a_t_read, .int v_t_many, .int v_t_spot, .ref a_t_track, .ref a_t_lead, .ref a_t_distance, .ref a_t_line])), (a_t_s, .inl (Y.1, 41, .inl f_t_s)), (a_t_cell, .inl (Y.1, 7, .inl q3.2)), (a_t_rows, .inl (Y.1, 341, .inl q1.2.2))]) (run_V (As := []) (rest := []) E (c_X11_musical l D Y a_t a_t_s a_t_past a_t_kept a_t_pad a_t_cell a_t_other a_t_rows a_t_read a_t_track a_t_lead a_t_distance a_t_line v_t_isKept v_t_pasts v_t_typed q1.1 v_t_many v_t_spot f_t_s q1.2.1 q1.2.2 H.size q3 h4) qw1022 qw1024 qw57 qw76 qw1025 rfl rfl hd_X11_musical ⟨Nat.le_of_ble_eq_true rfl, Nat.le_of_ble_eq_true rfl⟩ (pre_rwV hP hD hE [0, 1, 2, 3] rfl (by decide) rfl (ci := 8) (q0 := 0) rfl rfl) rfl hl.1 rfl (Nat.le_of_ble_eq_true rfl) dX11_music_7 ⟨Nat.zero_le _, Nat.zero_le _⟩) hP hD hS hA [0, 1, 2, 3] [] [0, 1, 2, 3] rfl rfl (by decide) (by decide) rfl rfl (by decide) (fun H locs  hP hD hS => ?_)
  refine lv_i2d hx hb dX11_music_10 ?_
  refine lv_dstore_n (lv' := [(1, .double (FP.i2d q3.1)), (0, .ref a_t)]) hx hb dX11_music_11 rfl hl (by decide) rfl (fun ls hl => ?_)
  refine lv_aload_n hx hb dX11_music_12 rfl (lv_at hl 1 rfl) ?_
  refine va_get (D := D) (ci := 8) (v := .int q1.1) (C := RX11) (T := TX11) (N := 18) hx hb hts inX11 hown hE.1 hP 0 rfl rfl 10 (by decide) (hts _ qw771) (fun _ h9 => h9) rfl dX11_music_13 ?_
  refine lv_if_ne (tgt := 23) hx hb dX11_music_16 (by decide) (fun c5 => ?_) (fun c5 => ?_)
  · have hf := ite_f c5 hf
    refine lv_dload_n hx hb dX11_music_23 rfl (lv_at hl 0 rfl) ?_
    refine lv_aload_n hx hb dX11_music_24 rfl (lv_at hl 1 rfl) ?_
    refine va_get (D := D) (ci := 8) (v := .int q1.1) (C := RX11) (T := TX11) (N := 18) hx hb hts inX11 hown hE.1 hP 0 rfl rfl 10 (by decide) (hts _ qw771) (fun _ h9 => h9) rfl dX11_music_25 ?_
    refine lv_i2d hx hb dX11_music_28 ?_
    obtain ⟨g6, hf⟩ := gd_s hf
    refine lv_ddiv hx hb dX11_music_29 (nnb_n g6) ?_
    obtain rfl := Option.some.inj hf
    subst hQ
    exact en_d hx hb hr hlocks hP hD hS rfl dX11_music_30
  have hf := ite_t c5 hf
  refine lv_dconst0 hx hb dX11_music_19 ?_
  refine lv_goto (tgt := 30) hx hb dX11_music_20 (by decide) ?_
  obtain rfl := Option.some.inj hf
  subst hQ
  exact en_d hx hb hr hlocks hP hD hS rfl dX11_music_30

def f_X11_home (s1 : Int32) (v_t_ends : Int32) (f_t_s : Nat → Int32) (f_t_cell : Nat → Int32) (f_t_other : Nat → Int32) (f_t_rows : Nat → Int32) (f_t_lead : Nat → Int32) (f_t_distance : Nat → Int32) (f_t_line : Nat → Int32) : Option (Int32 × Int32 × (Nat → Int32) × (Nat → Int32) × (Nat → Int32) × (Nat → Int32) × (Nat → Int32) × (Nat → Int32)) :=
  (if (f_X11_in s1 0 1) = 0 then some ((-1), v_t_ends, f_t_cell, f_t_other, f_t_rows, f_t_lead, f_t_distance, f_t_line) else bd (f_X11_ringsAll (-4) v_t_ends f_t_s f_t_cell f_t_rows) (fun q3 => gd (inb q3.1 341) (nm (q3.2.2 q3.1.toNatClampNeg) (fun (x6 : Int32) => nm (if s1 = 0 then (0 : Int32) else x6) (fun (w7 : Int32) => nm (if s1 = 0 then (1 : Int32) else (0 : Int32)) (fun (w8 : Int32) => bd (f_X11_spreadsFrom w7 w8 f_t_s q3.2.1 f_t_other f_t_lead f_t_distance f_t_line) (fun q9 => nm (if s1 = 0 then x6 else (0 : Int32)) (fun (w11 : Int32) => gd (inb w11 5040) (some ((q9.2.2.2.1 w11.toNatClampNeg), q3.1, q9.1, q9.2.1, q3.2.2, q9.2.2.1, q9.2.2.2.1, q9.2.2.2.2))))))))))
abbrev rm_X11_home : Room := { frames := 4, cells := 0, slots := 0, locals := 100 }
set_option maxHeartbeats 4000000 in
set_option maxRecDepth 100000 in
theorem c_X11_home (l : Launch) (D : va_G) (Y : ClassId × ClassId × ClassId) (a_t a_t_s a_t_past a_t_kept a_t_pad a_t_cell a_t_other a_t_rows a_t_read a_t_track a_t_lead a_t_distance a_t_line : Nat) (v_t_isKept : Int32) (v_t_pasts : Int32) (v_t_typed : Int32) (v_t_ends : Int32) (v_t_many : Int32) (v_t_spot : Int32) (f_t_s : Nat → Int32) (f_t_cell : Nat → Int32) (f_t_other : Nat → Int32) (f_t_rows : Nat → Int32) (f_t_lead : Nat → Int32) (f_t_distance : Nat → Int32) (f_t_line : Nat → Int32) (s1 : Int32) (sz : Nat) (R : Int32 × Int32 × (Nat → Int32) × (Nat → Int32) × (Nat → Int32) × (Nat → Int32) × (Nat → Int32) × (Nat → Int32)) (hf : f_X11_home s1 v_t_ends f_t_s f_t_cell f_t_other f_t_rows f_t_lead f_t_distance f_t_line = some R) : Met l yX11_home (ws_ yX11_home cX11_home 3 (some .int)) rm_X11_home (va_Pc [.ref a_t, .int s1] (RW D Y sz [(a_t, .inr (8, [.ref a_t_s, .ref a_t_past, .ref a_t_kept, .int v_t_isKept, .int v_t_pasts, .ref a_t_pad, .int v_t_typed, .ref a_t_cell, .ref a_t_other, .ref a_t_rows, .int v_t_ends, .ref a_t_read, .int v_t_many, .int v_t_spot, .ref a_t_track, .ref a_t_lead, .ref a_t_distance, .ref a_t_line])), (a_t_s, .inl (Y.1, 41, .inl f_t_s)), (a_t_cell, .inl (Y.1, 7, .inl f_t_cell)), (a_t_other, .inl (Y.1, 7, .inl f_t_other)), (a_t_rows, .inl (Y.1, 341, .inl f_t_rows)), (a_t_lead, .inl (Y.1, 21, .inl f_t_lead)), (a_t_distance, .inl (Y.1, 5040, .inl f_t_distance)), (a_t_line, .inl (Y.1, 5040, .inl f_t_line))])) (QI D R.1 [(a_t, .inr (8, [.ref a_t_s, .ref a_t_past, .ref a_t_kept, .int v_t_isKept, .int v_t_pasts, .ref a_t_pad, .int v_t_typed, .ref a_t_cell, .ref a_t_other, .ref a_t_rows, .int R.2.1, .ref a_t_read, .int v_t_many, .int v_t_spot, .ref a_t_track, .ref a_t_lead, .ref a_t_distance, .ref a_t_line])), (a_t_s, .inl (Y.1, 41, .inl f_t_s)), (a_t_cell, .inl (Y.1, 7, .inl R.2.2.1)), (a_t_other, .inl (Y.1, 7, .inl R.2.2.2.1)), (a_t_rows, .inl (Y.1, 341, .inl R.2.2.2.2.1)), (a_t_lead, .inl (Y.1, 21, .inl R.2.2.2.2.2.1)), (a_t_distance, .inl (Y.1, 5040, .inl R.2.2.2.2.2.2.1)), (a_t_line, .inl (Y.1, 5040, .inl R.2.2.2.2.2.2.2))] (va_A [(a_t, .inr (8, [.ref a_t_s, .ref a_t_past, .ref a_t_kept, .int v_t_isKept, .int v_t_pasts, .ref a_t_pad, .int v_t_typed, .ref a_t_cell, .ref a_t_other, .ref a_t_rows, .int v_t_ends, .ref a_t_read, .int v_t_many, .int v_t_spot, .ref a_t_track, .ref a_t_lead, .ref a_t_distance, .ref a_t_line])), (a_t_s, .inl (Y.1, 41, .inl f_t_s)), (a_t_cell, .inl (Y.1, 7, .inl f_t_cell)), (a_t_other, .inl (Y.1, 7, .inl f_t_other)), (a_t_rows, .inl (Y.1, 341, .inl f_t_rows)), (a_t_lead, .inl (Y.1, 21, .inl f_t_lead)), (a_t_distance, .inl (Y.1, 5040, .inl f_t_distance)), (a_t_line, .inl (Y.1, 5040, .inl f_t_line))] sz)) 0 0 (va_A [(a_t, .inr (8, [.ref a_t_s, .ref a_t_past, .ref a_t_kept, .int v_t_isKept, .int v_t_pasts, .ref a_t_pad, .int v_t_typed, .ref a_t_cell, .ref a_t_other, .ref a_t_rows, .int v_t_ends, .ref a_t_read, .int v_t_many, .int v_t_spot, .ref a_t_track, .ref a_t_lead, .ref a_t_distance, .ref a_t_line])), (a_t_s, .inl (Y.1, 41, .inl f_t_s)), (a_t_cell, .inl (Y.1, 7, .inl f_t_cell)), (a_t_other, .inl (Y.1, 7, .inl f_t_other)), (a_t_rows, .inl (Y.1, 341, .inl f_t_rows)), (a_t_lead, .inl (Y.1, 21, .inl f_t_lead)), (a_t_distance, .inl (Y.1, 5040, .inl f_t_distance)), (a_t_line, .inl (Y.1, 5040, .inl f_t_line))] sz) := by
  refine rw_start (Qc := fun A => QI D R.1 [(a_t, .inr (8, [.ref a_t_s, .ref a_t_past, .ref a_t_kept, .int v_t_isKept, .int v_t_pasts, .ref a_t_pad, .int v_t_typed, .ref a_t_cell, .ref a_t_other, .ref a_t_rows, .int R.2.1, .ref a_t_read, .int v_t_many, .int v_t_spot, .ref a_t_track, .ref a_t_lead, .ref a_t_distance, .ref a_t_line])), (a_t_s, .inl (Y.1, 41, .inl f_t_s)), (a_t_cell, .inl (Y.1, 7, .inl R.2.2.1)), (a_t_other, .inl (Y.1, 7, .inl R.2.2.2.1)), (a_t_rows, .inl (Y.1, 341, .inl R.2.2.2.2.1)), (a_t_lead, .inl (Y.1, 21, .inl R.2.2.2.2.2.1)), (a_t_distance, .inl (Y.1, 5040, .inl R.2.2.2.2.2.2.1)), (a_t_line, .inl (Y.1, 5040, .inl R.2.2.2.2.2.2.2))] A) (by decide) (Nat.le_of_ble_eq_true rfl) ?_
  intro p e s m below meth c ls A hx hb hml hr hlocks hown hts hnm hA hP hD hS hE hl
  generalize hargs : List.toArray _ = args at hts ⊢
  have hown : s.vm.findClass RX11 = some m.cls := hown
  have E : EN p m c cX11_home 3 s args RX11 := ⟨hx, hb, hml, hown, hts⟩
  have hl : lv_has ls 3 [(0, .ref a_t), (1, .int s1)] := hl
  generalize hQ : MQ below _ args s 0 0 _ = Q
  unfold f_X11_home at hf
  refine lv_iload_n hx hb dX11_home_0 rfl (lv_at hl 1 rfl) ?_
  refine lv_iconst (v := 0) hx hb dX11_home_1 (by decide) ?_
  refine lv_iconst (v := 1) hx hb dX11_home_2 (by decide) ?_
  refine af_oz (run_S (As := [.int s1, .int 0, .int 1]) (rest := []) E (c_X11_in l D Y s1 0 1 (f_X11_in s1 0 1) rfl) qw820 qw821 qw76 qw822 rfl rfl hd_X11_in ⟨Nat.le_of_ble_eq_true rfl, Nat.le_of_ble_eq_true rfl⟩ (pre_roS hP hE [] rfl) rfl hl.1 rfl (Nat.le_of_ble_eq_true rfl) dX11_home_3 ⟨Nat.zero_le _, Nat.zero_le _⟩) (fun z1 => ?_)
  refine lv_if_ne (tgt := 11) hx hb dX11_home_6 (by decide) (fun c2 => ?_) (fun c2 => ?_)
  · have hf := ite_f c2 hf
    refine lv_aload_n hx hb dX11_home_11 rfl (lv_at hl 0 rfl) ?_
    refine lv_bipush (v := (-4)) hx hb dX11_home_12 (by decide) ?_
    obtain ⟨q3, h4, hf⟩ := bd_s hf
    refine af_v0 (wc := [(a_t, .inr (8, [.ref a_t_s, .ref a_t_past, .ref a_t_kept, .int v_t_isKept, .int v_t_pasts, .ref a_t_pad, .int v_t_typed, .ref a_t_cell, .ref a_t_other, .ref a_t_rows, .int v_t_ends, .ref a_t_read, .int v_t_many, .int v_t_spot, .ref a_t_track, .ref a_t_lead, .ref a_t_distance, .ref a_t_line])), (a_t_s, .inl (Y.1, 41, .inl f_t_s)), (a_t_cell, .inl (Y.1, 7, .inl f_t_cell)), (a_t_rows, .inl (Y.1, 341, .inl f_t_rows))]) (wr := [(a_t_other, .inl (Y.1, 7, .inl f_t_other)), (a_t_lead, .inl (Y.1, 21, .inl f_t_lead)), (a_t_distance, .inl (Y.1, 5040, .inl f_t_distance)), (a_t_line, .inl (Y.1, 5040, .inl f_t_line))]) (wn := [(a_t, .inr (8, [.ref a_t_s, .ref a_t_past, .ref a_t_kept, .int v_t_isKept, .int v_t_pasts, .ref a_t_pad, .int v_t_typed, .ref a_t_cell, .ref a_t_other, .ref a_t_rows, .int q3.1, .ref a_t_read, .int v_t_many, .int v_t_spot, .ref a_t_track, .ref a_t_lead, .ref a_t_distance, .ref a_t_line])), (a_t_s, .inl (Y.1, 41, .inl f_t_s)), (a_t_cell, .inl (Y.1, 7, .inl q3.2.1)), (a_t_other, .inl (Y.1, 7, .inl f_t_other)), (a_t_rows, .inl (Y.1, 341, .inl q3.2.2)), (a_t_lead, .inl (Y.1, 21, .inl f_t_lead)), (a_t_distance, .inl (Y.1, 5040, .inl f_t_distance)), (a_t_line, .inl (Y.1, 5040, .inl f_t_line))]) (run_V (As := [.int (-4)]) (rest := []) E (c_X11_ringsAll l D Y a_t a_t_s a_t_past a_t_kept a_t_pad a_t_cell a_t_other a_t_rows a_t_read a_t_track a_t_lead a_t_distance a_t_line v_t_isKept v_t_pasts v_t_typed v_t_ends v_t_many v_t_spot f_t_s f_t_cell f_t_rows (-4) s.heap.size q3 h4) qw902 qw904 qw32 qw76 qw905 rfl rfl hd_X11_ringsAll ⟨Nat.le_of_ble_eq_true rfl, Nat.le_of_ble_eq_true rfl⟩ (pre_rwV hP hD hE [0, 1, 2, 4] rfl (by decide) rfl (ci := 8) (q0 := 0) rfl rfl) rfl hl.1 rfl (Nat.le_of_ble_eq_true rfl) dX11_home_14 ⟨Nat.zero_le _, Nat.zero_le _⟩) hP hD hS hA [0, 1, 2, 4] [3, 5, 6, 7] [4, 5, 6, 0, 7, 1, 2, 3] rfl rfl (by decide) (by decide) rfl rfl (by decide) (fun H locs  hP hD hS => ?_)
    refine lv_aload_n hx hb dX11_home_17 rfl (lv_at hl 0 rfl) ?_
    refine va_get (D := D) (ci := 8) (v := .ref a_t_rows) (C := RX11) (T := TX11) (N := 18) hx hb hts inX11 hown hE.1 hP 0 rfl rfl 9 (by decide) (hts _ qw770) (fun _ h9 => h9) rfl dX11_home_18 ?_
    refine lv_aload_n hx hb dX11_home_21 rfl (lv_at hl 0 rfl) ?_
    refine va_get (D := D) (ci := 8) (v := .int q3.1) (C := RX11) (T := TX11) (N := 18) hx hb hts inX11 hown hE.1 hP 0 rfl rfl 10 (by decide) (hts _ qw771) (fun _ h9 => h9) rfl dX11_home_22 ?_
    obtain ⟨g5, hf⟩ := gd_s hf
    refine va_iald hx hb hE.1 hP 4 0 rfl rfl (inb_in g5) dX11_home_25 ?_
    refine nm_W hf (fun x6 hf => ?_)
    refine lv_istore_n (lv' := [(2, .int x6), (0, .ref a_t), (1, .int s1)]) hx hb dX11_home_26 rfl hl (by decide) rfl (fun ls hl => ?_)
    refine lv_aload_n hx hb dX11_home_27 rfl (lv_at hl 1 rfl) ?_
    refine lv_iload_n hx hb dX11_home_28 rfl (lv_at hl 2 rfl) ?_
    refine mg (P := fun (w7 : Int32) => ∀ (ls : Array Slot), lv_has ls 3 [(0, .ref a_t), (1, .int s1), (2, .int x6)] → W p l e rm_X11_home s m args below meth c H locs 0 0 Q (F0 m 37 ls [.int w7, .ref a_t])) hf (fun w7 hf ls hl => ?_) (fun hJ => ?_)
    · refine lv_iload_n hx hb dX11_home_37 rfl (lv_at hl 1 rfl) ?_
      refine mg (P := fun (w8 : Int32) => ∀ (ls : Array Slot), lv_has ls 3 [(0, .ref a_t), (1, .int s1), (2, .int x6)] → W p l e rm_X11_home s m args below meth c H locs 0 0 Q (F0 m 46 ls [.int w8, .int w7, .ref a_t])) hf (fun w8 hf ls hl => ?_) (fun hJ => ?_)
      · obtain ⟨q9, h10, hf⟩ := bd_s hf
        refine af_v0 (wc := [(a_t, .inr (8, [.ref a_t_s, .ref a_t_past, .ref a_t_kept, .int v_t_isKept, .int v_t_pasts, .ref a_t_pad, .int v_t_typed, .ref a_t_cell, .ref a_t_other, .ref a_t_rows, .int q3.1, .ref a_t_read, .int v_t_many, .int v_t_spot, .ref a_t_track, .ref a_t_lead, .ref a_t_distance, .ref a_t_line])), (a_t_s, .inl (Y.1, 41, .inl f_t_s)), (a_t_cell, .inl (Y.1, 7, .inl q3.2.1)), (a_t_other, .inl (Y.1, 7, .inl f_t_other)), (a_t_lead, .inl (Y.1, 21, .inl f_t_lead)), (a_t_distance, .inl (Y.1, 5040, .inl f_t_distance)), (a_t_line, .inl (Y.1, 5040, .inl f_t_line))]) (wr := [(a_t_rows, .inl (Y.1, 341, .inl q3.2.2))]) (wn := [(a_t, .inr (8, [.ref a_t_s, .ref a_t_past, .ref a_t_kept, .int v_t_isKept, .int v_t_pasts, .ref a_t_pad, .int v_t_typed, .ref a_t_cell, .ref a_t_other, .ref a_t_rows, .int q3.1, .ref a_t_read, .int v_t_many, .int v_t_spot, .ref a_t_track, .ref a_t_lead, .ref a_t_distance, .ref a_t_line])), (a_t_s, .inl (Y.1, 41, .inl f_t_s)), (a_t_cell, .inl (Y.1, 7, .inl q9.1)), (a_t_other, .inl (Y.1, 7, .inl q9.2.1)), (a_t_rows, .inl (Y.1, 341, .inl q3.2.2)), (a_t_lead, .inl (Y.1, 21, .inl q9.2.2.1)), (a_t_distance, .inl (Y.1, 5040, .inl q9.2.2.2.1)), (a_t_line, .inl (Y.1, 5040, .inl q9.2.2.2.2))]) (run_V (As := [.int w7, .int w8]) (rest := []) E (c_X11_spreadsFrom l D Y a_t a_t_s a_t_past a_t_kept a_t_pad a_t_cell a_t_other a_t_rows a_t_read a_t_track a_t_lead a_t_distance a_t_line v_t_isKept v_t_pasts v_t_typed q3.1 v_t_many v_t_spot f_t_s q3.2.1 f_t_other f_t_lead f_t_distance f_t_line w7 w8 H.size q9 h10) qw962 qw964 qw45 qw76 qw965 rfl rfl hd_X11_spreadsFrom ⟨Nat.le_of_ble_eq_true rfl, Nat.le_of_ble_eq_true rfl⟩ (pre_rwV hP hD hE [0, 1, 2, 3, 5, 6, 7] rfl (by decide) rfl (ci := 8) (q0 := 0) rfl rfl) rfl hl.1 rfl (Nat.le_of_ble_eq_true rfl) dX11_home_46 ⟨Nat.zero_le _, Nat.zero_le _⟩) hP hD hS hA [0, 1, 2, 3, 5, 6, 7] [4] [1, 2, 3, 4, 0, 5, 6, 7] rfl rfl (by decide) (by decide) rfl rfl (by decide) (fun H locs  hP hD hS => ?_)
        refine lv_aload_n hx hb dX11_home_49 rfl (lv_at hl 0 rfl) ?_
        refine va_get (D := D) (ci := 8) (v := .ref a_t_distance) (C := RX11) (T := TX11) (N := 18) hx hb hts inX11 hown hE.1 hP 0 rfl rfl 16 (by decide) (hts _ qw777) (fun _ h9 => h9) rfl dX11_home_50 ?_
        refine lv_iload_n hx hb dX11_home_53 rfl (lv_at hl 1 rfl) ?_
        refine mg (P := fun (w11 : Int32) => ∀ (ls : Array Slot), lv_has ls 3 [] → W p l e rm_X11_home s m args below meth c H locs 0 0 Q (F0 m 62 ls [.int w11, .ref a_t_distance])) hf (fun w11 hf ls hl => ?_) (fun hJ => ?_)
        · obtain ⟨g12, hf⟩ := gd_s hf
          refine va_iald hx hb hE.1 hP 6 0 rfl rfl (inb_in g12) dX11_home_62 ?_
          obtain rfl := Option.some.inj hf
          subst hQ
          exact en_i hx hb hr hlocks hP hD hS rfl dX11_home_63
        refine lv_if_ne (tgt := 61) hx hb dX11_home_54 (by decide) (fun c13 => ?_) (fun c13 => ?_)
        · have hf := nmi_f c13 hf
          refine lv_iconst (v := 0) hx hb dX11_home_61 (by decide) ?_
          exact hJ _ (nm_b hf) _ (lv_sub hl [] rfl)
        have hf := nmi_t c13 hf
        refine lv_iload_n hx hb dX11_home_57 rfl (lv_at hl 2 rfl) ?_
        refine lv_goto (tgt := 62) hx hb dX11_home_58 (by decide) ?_
        exact hJ _ (nm_b hf) _ (lv_sub hl [] rfl)
      refine lv_if_ne (tgt := 45) hx hb dX11_home_38 (by decide) (fun c14 => ?_) (fun c14 => ?_)
      · have hf := nmi_f c14 hf
        refine lv_iconst (v := 0) hx hb dX11_home_45 (by decide) ?_
        exact hJ _ (nm_b hf) _ (lv_sub hl [0, 1, 2] rfl)
      have hf := nmi_t c14 hf
      refine lv_iconst (v := 1) hx hb dX11_home_41 (by decide) ?_
      refine lv_goto (tgt := 46) hx hb dX11_home_42 (by decide) ?_
      exact hJ _ (nm_b hf) _ (lv_sub hl [0, 1, 2] rfl)
    refine lv_if_ne (tgt := 36) hx hb dX11_home_29 (by decide) (fun c15 => ?_) (fun c15 => ?_)
    · have hf := nmi_f c15 hf
      refine lv_iload_n hx hb dX11_home_36 rfl (lv_at hl 0 rfl) ?_
      exact hJ _ (nm_b hf) _ (lv_sub hl [1, 2, 0] rfl)
    have hf := nmi_t c15 hf
    refine lv_iconst (v := 0) hx hb dX11_home_32 (by decide) ?_
    refine lv_goto (tgt := 37) hx hb dX11_home_33 (by decide) ?_
    exact hJ _ (nm_b hf) _ (lv_sub hl [1, 2, 0] rfl)
  have hf := ite_t c2 hf
  refine lv_iconst (v := (-1)) hx hb dX11_home_9 (by decide) ?_
  obtain rfl := Option.some.inj hf
  subst hQ
  exact en_i hx hb hr hlocks hP hD hS rfl dX11_home_10

def f_X11_homeCall_L61 (k : Int32 → Int32 → (Nat → Int32) → (Nat → Int32) → Option (Int32 × Int32 × (Nat → Int32) × (Nat → Int32) × (Nat → Int32) × (Nat → Int32) × (Nat → Int32) × (Nat → Int32))) (s1 : Int32) (s2 : Int32) (s4 : Int32) (v_t_ends : Int32) (f_t_s : Nat → Int32) (f_t_rows : Nat → Int32) (f_t_lead : Nat → Int32) (f_t_distance : Nat → Int32) (f_t_line : Nat → Int32) : Nat → Int32 → Int32 → (Nat → Int32) → (Nat → Int32) → Option (Int32 × Int32 × (Nat → Int32) × (Nat → Int32) × (Nat → Int32) × (Nat → Int32) × (Nat → Int32) × (Nat → Int32))
  | 0, _, _, _, _ => none
  | n + 1, s3, s5, f_t_cell, f_t_other => gd (inb s5 5040) (gd (inb s2 5040) ((if (f_t_distance s5.toNatClampNeg) = ((f_t_distance s2.toNatClampNeg) - 1) then (k s3 s5 f_t_cell f_t_other) else bd (f_X11_moved s2 (s3 + 1) 0 f_t_s f_t_cell f_t_other f_t_lead) (fun q16 => (f_X11_homeCall_L61 k s1 s2 s4 v_t_ends f_t_s f_t_rows f_t_lead f_t_distance f_t_line n (s3 + 1) q16.1 q16.2.1 q16.2.2)))))
def f_X11_homeCall_L44 (s1 : Int32) (v_t_ends : Int32) (f_t_s : Nat → Int32) (f_t_rows : Nat → Int32) (f_t_lead : Nat → Int32) (f_t_distance : Nat → Int32) (f_t_line : Nat → Int32) : Nat → Int32 → Int32 → Int32 → (Nat → Int32) → (Nat → Int32) → Option (Int32 × Int32 × (Nat → Int32) × (Nat → Int32) × (Nat → Int32) × (Nat → Int32) × (Nat → Int32) × (Nat → Int32))
  | 0, _, _, _, _, _ => none
  | n + 1, s2, s3, s4, f_t_cell, f_t_other => (if s1 < s4 then some (s3, v_t_ends, f_t_cell, f_t_other, f_t_rows, f_t_lead, f_t_distance, f_t_line) else bd (f_X11_moved s2 0 0 f_t_s f_t_cell f_t_other f_t_lead) (fun q11 => (f_X11_homeCall_L61 (fun (y18 : Int32) (y19 : Int32) (y20 : Nat → Int32) (y21 : Nat → Int32) => (f_X11_homeCall_L44 s1 v_t_ends f_t_s f_t_rows f_t_lead f_t_distance f_t_line n y19 y18 (s4 + 1) y20 y21)) s1 s2 s4 v_t_ends f_t_s f_t_rows f_t_lead f_t_distance f_t_line fu 0 q11.1 q11.2.1 q11.2.2)))
def f_X11_homeCall (s1 : Int32) (v_t_ends : Int32) (f_t_s : Nat → Int32) (f_t_cell : Nat → Int32) (f_t_other : Nat → Int32) (f_t_rows : Nat → Int32) (f_t_lead : Nat → Int32) (f_t_distance : Nat → Int32) (f_t_line : Nat → Int32) : Option (Int32 × Int32 × (Nat → Int32) × (Nat → Int32) × (Nat → Int32) × (Nat → Int32) × (Nat → Int32) × (Nat → Int32)) :=
  (if (0 : Int32) ≤ s1 then bd (f_X11_ringsAll (-4) v_t_ends f_t_s f_t_cell f_t_rows) (fun q2 => bd (f_X11_spreads f_t_s q2.2.1 f_t_other f_t_lead f_t_distance f_t_line) (fun q4 => gd (inb q2.1 341) (nm (q2.2.2 q2.1.toNatClampNeg) (fun (x7 : Int32) => gd (inb x7 5040) ((if s1 < (q4.2.2.2.1 x7.toNatClampNeg) then (f_X11_homeCall_L44 s1 q2.1 f_t_s q2.2.2 q4.2.2.1 q4.2.2.2.1 q4.2.2.2.2 fu x7 0 0 q4.1 q4.2.1) else some ((-4), q2.1, q4.1, q4.2.1, q2.2.2, q4.2.2.1, q4.2.2.2.1, q4.2.2.2.2))))))) else some ((-1), v_t_ends, f_t_cell, f_t_other, f_t_rows, f_t_lead, f_t_distance, f_t_line))
abbrev rm_X11_homeCall : Room := { frames := 5, cells := 0, slots := 0, locals := 120 }
set_option maxHeartbeats 4000000 in
set_option maxRecDepth 100000 in
theorem c_X11_homeCall (l : Launch) (D : va_G) (Y : ClassId × ClassId × ClassId) (a_t a_t_s a_t_past a_t_kept a_t_pad a_t_cell a_t_other a_t_rows a_t_read a_t_track a_t_lead a_t_distance a_t_line : Nat) (v_t_isKept : Int32) (v_t_pasts : Int32) (v_t_typed : Int32) (v_t_ends : Int32) (v_t_many : Int32) (v_t_spot : Int32) (f_t_s : Nat → Int32) (f_t_cell : Nat → Int32) (f_t_other : Nat → Int32) (f_t_rows : Nat → Int32) (f_t_lead : Nat → Int32) (f_t_distance : Nat → Int32) (f_t_line : Nat → Int32) (s1 : Int32) (sz : Nat) (R : Int32 × Int32 × (Nat → Int32) × (Nat → Int32) × (Nat → Int32) × (Nat → Int32) × (Nat → Int32) × (Nat → Int32)) (hf : f_X11_homeCall s1 v_t_ends f_t_s f_t_cell f_t_other f_t_rows f_t_lead f_t_distance f_t_line = some R) : Met l yX11_homeCall (ws_ yX11_homeCall cX11_homeCall 6 (some .int)) rm_X11_homeCall (va_Pc [.ref a_t, .int s1] (RW D Y sz [(a_t, .inr (8, [.ref a_t_s, .ref a_t_past, .ref a_t_kept, .int v_t_isKept, .int v_t_pasts, .ref a_t_pad, .int v_t_typed, .ref a_t_cell, .ref a_t_other, .ref a_t_rows, .int v_t_ends, .ref a_t_read, .int v_t_many, .int v_t_spot, .ref a_t_track, .ref a_t_lead, .ref a_t_distance, .ref a_t_line])), (a_t_s, .inl (Y.1, 41, .inl f_t_s)), (a_t_cell, .inl (Y.1, 7, .inl f_t_cell)), (a_t_other, .inl (Y.1, 7, .inl f_t_other)), (a_t_rows, .inl (Y.1, 341, .inl f_t_rows)), (a_t_lead, .inl (Y.1, 21, .inl f_t_lead)), (a_t_distance, .inl (Y.1, 5040, .inl f_t_distance)), (a_t_line, .inl (Y.1, 5040, .inl f_t_line))])) (QI D R.1 [(a_t, .inr (8, [.ref a_t_s, .ref a_t_past, .ref a_t_kept, .int v_t_isKept, .int v_t_pasts, .ref a_t_pad, .int v_t_typed, .ref a_t_cell, .ref a_t_other, .ref a_t_rows, .int R.2.1, .ref a_t_read, .int v_t_many, .int v_t_spot, .ref a_t_track, .ref a_t_lead, .ref a_t_distance, .ref a_t_line])), (a_t_s, .inl (Y.1, 41, .inl f_t_s)), (a_t_cell, .inl (Y.1, 7, .inl R.2.2.1)), (a_t_other, .inl (Y.1, 7, .inl R.2.2.2.1)), (a_t_rows, .inl (Y.1, 341, .inl R.2.2.2.2.1)), (a_t_lead, .inl (Y.1, 21, .inl R.2.2.2.2.2.1)), (a_t_distance, .inl (Y.1, 5040, .inl R.2.2.2.2.2.2.1)), (a_t_line, .inl (Y.1, 5040, .inl R.2.2.2.2.2.2.2))] (va_A [(a_t, .inr (8, [.ref a_t_s, .ref a_t_past, .ref a_t_kept, .int v_t_isKept, .int v_t_pasts, .ref a_t_pad, .int v_t_typed, .ref a_t_cell, .ref a_t_other, .ref a_t_rows, .int v_t_ends, .ref a_t_read, .int v_t_many, .int v_t_spot, .ref a_t_track, .ref a_t_lead, .ref a_t_distance, .ref a_t_line])), (a_t_s, .inl (Y.1, 41, .inl f_t_s)), (a_t_cell, .inl (Y.1, 7, .inl f_t_cell)), (a_t_other, .inl (Y.1, 7, .inl f_t_other)), (a_t_rows, .inl (Y.1, 341, .inl f_t_rows)), (a_t_lead, .inl (Y.1, 21, .inl f_t_lead)), (a_t_distance, .inl (Y.1, 5040, .inl f_t_distance)), (a_t_line, .inl (Y.1, 5040, .inl f_t_line))] sz)) 0 0 (va_A [(a_t, .inr (8, [.ref a_t_s, .ref a_t_past, .ref a_t_kept, .int v_t_isKept, .int v_t_pasts, .ref a_t_pad, .int v_t_typed, .ref a_t_cell, .ref a_t_other, .ref a_t_rows, .int v_t_ends, .ref a_t_read, .int v_t_many, .int v_t_spot, .ref a_t_track, .ref a_t_lead, .ref a_t_distance, .ref a_t_line])), (a_t_s, .inl (Y.1, 41, .inl f_t_s)), (a_t_cell, .inl (Y.1, 7, .inl f_t_cell)), (a_t_other, .inl (Y.1, 7, .inl f_t_other)), (a_t_rows, .inl (Y.1, 341, .inl f_t_rows)), (a_t_lead, .inl (Y.1, 21, .inl f_t_lead)), (a_t_distance, .inl (Y.1, 5040, .inl f_t_distance)), (a_t_line, .inl (Y.1, 5040, .inl f_t_line))] sz) := by
  refine rw_start (Qc := fun A => QI D R.1 [(a_t, .inr (8, [.ref a_t_s, .ref a_t_past, .ref a_t_kept, .int v_t_isKept, .int v_t_pasts, .ref a_t_pad, .int v_t_typed, .ref a_t_cell, .ref a_t_other, .ref a_t_rows, .int R.2.1, .ref a_t_read, .int v_t_many, .int v_t_spot, .ref a_t_track, .ref a_t_lead, .ref a_t_distance, .ref a_t_line])), (a_t_s, .inl (Y.1, 41, .inl f_t_s)), (a_t_cell, .inl (Y.1, 7, .inl R.2.2.1)), (a_t_other, .inl (Y.1, 7, .inl R.2.2.2.1)), (a_t_rows, .inl (Y.1, 341, .inl R.2.2.2.2.1)), (a_t_lead, .inl (Y.1, 21, .inl R.2.2.2.2.2.1)), (a_t_distance, .inl (Y.1, 5040, .inl R.2.2.2.2.2.2.1)), (a_t_line, .inl (Y.1, 5040, .inl R.2.2.2.2.2.2.2))] A) (by decide) (Nat.le_of_ble_eq_true rfl) ?_
  intro p e s m below meth c ls A hx hb hml hr hlocks hown hts hnm hA hP hD hS hE hl
  generalize hargs : List.toArray _ = args at hts ⊢
  have hown : s.vm.findClass RX11 = some m.cls := hown
  have E : EN p m c cX11_homeCall 6 s args RX11 := ⟨hx, hb, hml, hown, hts⟩
  have hl : lv_has ls 6 [(0, .ref a_t), (1, .int s1)] := hl
  generalize hQ : MQ below _ args s 0 0 _ = Q
  unfold f_X11_homeCall at hf
  have L61 : ∀ (n : Nat) (k : Int32 → Int32 → (Nat → Int32) → (Nat → Int32) → Option (Int32 × Int32 × (Nat → Int32) × (Nat → Int32) × (Nat → Int32) × (Nat → Int32) × (Nat → Int32) × (Nat → Int32))) (s1 : Int32) (s2 : Int32) (s4 : Int32) (v_t_ends : Int32) (f_t_rows : Nat → Int32) (f_t_lead : Nat → Int32) (f_t_distance : Nat → Int32) (f_t_line : Nat → Int32) (s3 : Int32) (s5 : Int32) (f_t_cell : Nat → Int32) (f_t_other : Nat → Int32) (H : Heap) (locs : List Loc) (ls : Array Slot), f_X11_homeCall_L61 k s1 s2 s4 v_t_ends f_t_s f_t_rows f_t_lead f_t_distance f_t_line n s3 s5 f_t_cell f_t_other = some R → va_P D vwCl [(a_t, .inr (8, [.ref a_t_s, .ref a_t_past, .ref a_t_kept, .int v_t_isKept, .int v_t_pasts, .ref a_t_pad, .int v_t_typed, .ref a_t_cell, .ref a_t_other, .ref a_t_rows, .int v_t_ends, .ref a_t_read, .int v_t_many, .int v_t_spot, .ref a_t_track, .ref a_t_lead, .ref a_t_distance, .ref a_t_line])), (a_t_s, .inl (Y.1, 41, .inl f_t_s)), (a_t_cell, .inl (Y.1, 7, .inl f_t_cell)), (a_t_other, .inl (Y.1, 7, .inl f_t_other)), (a_t_rows, .inl (Y.1, 341, .inl f_t_rows)), (a_t_lead, .inl (Y.1, 21, .inl f_t_lead)), (a_t_distance, .inl (Y.1, 5040, .inl f_t_distance)), (a_t_line, .inl (Y.1, 5040, .inl f_t_line))] H → va_D A [(a_t, .inr (8, [.ref a_t_s, .ref a_t_past, .ref a_t_kept, .int v_t_isKept, .int v_t_pasts, .ref a_t_pad, .int v_t_typed, .ref a_t_cell, .ref a_t_other, .ref a_t_rows, .int v_t_ends, .ref a_t_read, .int v_t_many, .int v_t_spot, .ref a_t_track, .ref a_t_lead, .ref a_t_distance, .ref a_t_line])), (a_t_s, .inl (Y.1, 41, .inl f_t_s)), (a_t_cell, .inl (Y.1, 7, .inl f_t_cell)), (a_t_other, .inl (Y.1, 7, .inl f_t_other)), (a_t_rows, .inl (Y.1, 341, .inl f_t_rows)), (a_t_lead, .inl (Y.1, 21, .inl f_t_lead)), (a_t_distance, .inl (Y.1, 5040, .inl f_t_distance)), (a_t_line, .inl (Y.1, 5040, .inl f_t_line))] → va_S A s.heap H locs → lv_has ls 6 [(0, .ref a_t), (1, .int s1), (2, .int s2), (3, .int s3), (4, .int s4), (5, .int s5)] → (∀ (y_s3 : Int32) (y_s5 : Int32) (y_f_t_cell : Nat → Int32) (y_f_t_other : Nat → Int32) (H : Heap) (locs : List Loc) (ls : Array Slot), k y_s3 y_s5 y_f_t_cell y_f_t_other = some R → va_P D vwCl [(a_t, .inr (8, [.ref a_t_s, .ref a_t_past, .ref a_t_kept, .int v_t_isKept, .int v_t_pasts, .ref a_t_pad, .int v_t_typed, .ref a_t_cell, .ref a_t_other, .ref a_t_rows, .int v_t_ends, .ref a_t_read, .int v_t_many, .int v_t_spot, .ref a_t_track, .ref a_t_lead, .ref a_t_distance, .ref a_t_line])), (a_t_s, .inl (Y.1, 41, .inl f_t_s)), (a_t_cell, .inl (Y.1, 7, .inl y_f_t_cell)), (a_t_other, .inl (Y.1, 7, .inl y_f_t_other)), (a_t_rows, .inl (Y.1, 341, .inl f_t_rows)), (a_t_lead, .inl (Y.1, 21, .inl f_t_lead)), (a_t_distance, .inl (Y.1, 5040, .inl f_t_distance)), (a_t_line, .inl (Y.1, 5040, .inl f_t_line))] H → va_D A [(a_t, .inr (8, [.ref a_t_s, .ref a_t_past, .ref a_t_kept, .int v_t_isKept, .int v_t_pasts, .ref a_t_pad, .int v_t_typed, .ref a_t_cell, .ref a_t_other, .ref a_t_rows, .int v_t_ends, .ref a_t_read, .int v_t_many, .int v_t_spot, .ref a_t_track, .ref a_t_lead, .ref a_t_distance, .ref a_t_line])), (a_t_s, .inl (Y.1, 41, .inl f_t_s)), (a_t_cell, .inl (Y.1, 7, .inl y_f_t_cell)), (a_t_other, .inl (Y.1, 7, .inl y_f_t_other)), (a_t_rows, .inl (Y.1, 341, .inl f_t_rows)), (a_t_lead, .inl (Y.1, 21, .inl f_t_lead)), (a_t_distance, .inl (Y.1, 5040, .inl f_t_distance)), (a_t_line, .inl (Y.1, 5040, .inl f_t_line))] → va_S A s.heap H locs → lv_has ls 6 [(0, .ref a_t), (1, .int s1), (3, .int y_s3), (4, .int s4), (5, .int y_s5)] → W p l e rm_X11_homeCall s m args below meth c H locs 0 0 Q (F0 m 94 ls [])) → W p l e rm_X11_homeCall s m args below meth c H locs 0 0 Q (F0 m 61 ls []) := by
    intro n
    induction n with
    | zero =>
      intro k s1 s2 s4 v_t_ends f_t_rows f_t_lead f_t_distance f_t_line s3 s5 f_t_cell f_t_other H locs ls hf
      cases hf
    | succ n ih =>
      intro k s1 s2 s4 v_t_ends f_t_rows f_t_lead f_t_distance f_t_line s3 s5 f_t_cell f_t_other H locs ls hf hP hD hS hl hk
      unfold f_X11_homeCall_L61 at hf
      refine lv_aload_n hx hb dX11_homeCall_61 rfl (lv_at hl 0 rfl) ?_
      refine va_get (D := D) (ci := 8) (v := .ref a_t_distance) (C := RX11) (T := TX11) (N := 18) hx hb hts inX11 hown hE.1 hP 0 rfl rfl 16 (by decide) (hts _ qw777) (fun _ h9 => h9) rfl dX11_homeCall_62 ?_
      refine lv_iload hx hb dX11_homeCall_65 (lv_at hl 5 rfl) ?_
      obtain ⟨g13, hf⟩ := gd_s hf
      refine va_iald hx hb hE.1 hP 6 0 rfl rfl (inb_in g13) dX11_homeCall_67 ?_
      refine lv_aload_n hx hb dX11_homeCall_68 rfl (lv_at hl 0 rfl) ?_
      refine va_get (D := D) (ci := 8) (v := .ref a_t_distance) (C := RX11) (T := TX11) (N := 18) hx hb hts inX11 hown hE.1 hP 0 rfl rfl 16 (by decide) (hts _ qw777) (fun _ h9 => h9) rfl dX11_homeCall_69 ?_
      refine lv_iload_n hx hb dX11_homeCall_72 rfl (lv_at hl 2 rfl) ?_
      obtain ⟨g14, hf⟩ := gd_s hf
      refine va_iald hx hb hE.1 hP 6 0 rfl rfl (inb_in g14) dX11_homeCall_73 ?_
      refine lv_iconst (v := 1) hx hb dX11_homeCall_74 (by decide) ?_
      refine lv_isub hx hb dX11_homeCall_75 ?_
      refine lv_icmp_eq (tgt := 94) hx hb dX11_homeCall_76 (by decide) (fun c15 => ?_) (fun c15 => ?_)
      · have hf := ite_t c15 hf
        exact hk _ _ _ _ _ _ _ hf hP hD hS (lv_sub hl [0, 1, 3, 4, 5] rfl)
      have hf := ite_f c15 hf
      refine lv_iinc (v := (s3 + 1)) (lv' := [(3, .int (s3 + 1)), (0, .ref a_t), (1, .int s1), (2, .int s2), (4, .int s4), (5, .int s5)]) hx hb dX11_homeCall_79 hl (k := 3) rfl rfl (by decide) rfl (fun ls hl => ?_)
      refine lv_aload_n hx hb dX11_homeCall_82 rfl (lv_at hl 1 rfl) ?_
      refine lv_iload_n hx hb dX11_homeCall_83 rfl (lv_at hl 3 rfl) ?_
      refine lv_iload_n hx hb dX11_homeCall_84 rfl (lv_at hl 0 rfl) ?_
      refine lv_iconst (v := 0) hx hb dX11_homeCall_85 (by decide) ?_
      obtain ⟨q16, h17, hf⟩ := bd_s hf
      refine af_i0 (wc := [(a_t, .inr (8, [.ref a_t_s, .ref a_t_past, .ref a_t_kept, .int v_t_isKept, .int v_t_pasts, .ref a_t_pad, .int v_t_typed, .ref a_t_cell, .ref a_t_other, .ref a_t_rows, .int v_t_ends, .ref a_t_read, .int v_t_many, .int v_t_spot, .ref a_t_track, .ref a_t_lead, .ref a_t_distance, .ref a_t_line])), (a_t_s, .inl (Y.1, 41, .inl f_t_s)), (a_t_cell, .inl (Y.1, 7, .inl f_t_cell)), (a_t_other, .inl (Y.1, 7, .inl f_t_other)), (a_t_lead, .inl (Y.1, 21, .inl f_t_lead))]) (wr := [(a_t_rows, .inl (Y.1, 341, .inl f_t_rows)), (a_t_distance, .inl (Y.1, 5040, .inl f_t_distance)), (a_t_line, .inl (Y.1, 5040, .inl f_t_line))]) (wn := [(a_t, .inr (8, [.ref a_t_s, .ref a_t_past, .ref a_t_kept, .int v_t_isKept, .int v_t_pasts, .ref a_t_pad, .int v_t_typed, .ref a_t_cell, .ref a_t_other, .ref a_t_rows, .int v_t_ends, .ref a_t_read, .int v_t_many, .int v_t_spot, .ref a_t_track, .ref a_t_lead, .ref a_t_distance, .ref a_t_line])), (a_t_s, .inl (Y.1, 41, .inl f_t_s)), (a_t_cell, .inl (Y.1, 7, .inl q16.2.1)), (a_t_other, .inl (Y.1, 7, .inl q16.2.2)), (a_t_rows, .inl (Y.1, 341, .inl f_t_rows)), (a_t_lead, .inl (Y.1, 21, .inl f_t_lead)), (a_t_distance, .inl (Y.1, 5040, .inl f_t_distance)), (a_t_line, .inl (Y.1, 5040, .inl f_t_line))]) (run_V (As := [.int s2, .int (s3 + 1), .int 0]) (rest := []) E (c_X11_moved l D Y a_t a_t_s a_t_past a_t_kept a_t_pad a_t_cell a_t_other a_t_rows a_t_read a_t_track a_t_lead a_t_distance a_t_line v_t_isKept v_t_pasts v_t_typed v_t_ends v_t_many v_t_spot f_t_s f_t_cell f_t_other f_t_lead s2 (s3 + 1) 0 H.size q16 h17) qw970 qw972 qw47 qw76 qw973 rfl rfl hd_X11_moved ⟨Nat.le_of_ble_eq_true rfl, Nat.le_of_ble_eq_true rfl⟩ (pre_rwV hP hD hE [0, 1, 2, 3, 5] rfl (by decide) rfl (ci := 8) (q0 := 0) rfl rfl) rfl hl.1 rfl (Nat.le_of_ble_eq_true rfl) dX11_homeCall_86 ⟨Nat.zero_le _, Nat.zero_le _⟩) hP hD hS hA [0, 1, 2, 3, 5] [4, 6, 7] [3, 4, 5, 6, 0, 7, 1, 2] rfl rfl (by decide) (by decide) rfl rfl (by decide) (fun H locs  hP hD hS => ?_)
      refine lv_istore (lv' := [(5, .int q16.1), (3, .int (s3 + 1)), (0, .ref a_t), (1, .int s1), (2, .int s2), (4, .int s4)]) hx hb dX11_homeCall_89 hl (by decide) rfl (fun ls hl => ?_)
      refine lv_goto (tgt := 61) hx hb dX11_homeCall_91 (by decide) ?_
      exact ih _ _ _ _ _ _ _ _ _ _ _ _ _ _ _ _ hf hP hD hS (lv_sub hl [2, 3, 4, 1, 5, 0] rfl) hk
  have L44 : ∀ (n : Nat) (s1 : Int32) (v_t_ends : Int32) (f_t_rows : Nat → Int32) (f_t_lead : Nat → Int32) (f_t_distance : Nat → Int32) (f_t_line : Nat → Int32) (s2 : Int32) (s3 : Int32) (s4 : Int32) (f_t_cell : Nat → Int32) (f_t_other : Nat → Int32) (H : Heap) (locs : List Loc) (ls : Array Slot), f_X11_homeCall_L44 s1 v_t_ends f_t_s f_t_rows f_t_lead f_t_distance f_t_line n s2 s3 s4 f_t_cell f_t_other = some R → va_P D vwCl [(a_t, .inr (8, [.ref a_t_s, .ref a_t_past, .ref a_t_kept, .int v_t_isKept, .int v_t_pasts, .ref a_t_pad, .int v_t_typed, .ref a_t_cell, .ref a_t_other, .ref a_t_rows, .int v_t_ends, .ref a_t_read, .int v_t_many, .int v_t_spot, .ref a_t_track, .ref a_t_lead, .ref a_t_distance, .ref a_t_line])), (a_t_s, .inl (Y.1, 41, .inl f_t_s)), (a_t_cell, .inl (Y.1, 7, .inl f_t_cell)), (a_t_other, .inl (Y.1, 7, .inl f_t_other)), (a_t_rows, .inl (Y.1, 341, .inl f_t_rows)), (a_t_lead, .inl (Y.1, 21, .inl f_t_lead)), (a_t_distance, .inl (Y.1, 5040, .inl f_t_distance)), (a_t_line, .inl (Y.1, 5040, .inl f_t_line))] H → va_D A [(a_t, .inr (8, [.ref a_t_s, .ref a_t_past, .ref a_t_kept, .int v_t_isKept, .int v_t_pasts, .ref a_t_pad, .int v_t_typed, .ref a_t_cell, .ref a_t_other, .ref a_t_rows, .int v_t_ends, .ref a_t_read, .int v_t_many, .int v_t_spot, .ref a_t_track, .ref a_t_lead, .ref a_t_distance, .ref a_t_line])), (a_t_s, .inl (Y.1, 41, .inl f_t_s)), (a_t_cell, .inl (Y.1, 7, .inl f_t_cell)), (a_t_other, .inl (Y.1, 7, .inl f_t_other)), (a_t_rows, .inl (Y.1, 341, .inl f_t_rows)), (a_t_lead, .inl (Y.1, 21, .inl f_t_lead)), (a_t_distance, .inl (Y.1, 5040, .inl f_t_distance)), (a_t_line, .inl (Y.1, 5040, .inl f_t_line))] → va_S A s.heap H locs → lv_has ls 6 [(0, .ref a_t), (1, .int s1), (2, .int s2), (3, .int s3), (4, .int s4)] → W p l e rm_X11_homeCall s m args below meth c H locs 0 0 Q (F0 m 44 ls []) := by
    intro n
    induction n with
    | zero =>
      intro s1 v_t_ends f_t_rows f_t_lead f_t_distance f_t_line s2 s3 s4 f_t_cell f_t_other H locs ls hf
      cases hf
    | succ n ih =>
      intro s1 v_t_ends f_t_rows f_t_lead f_t_distance f_t_line s2 s3 s4 f_t_cell f_t_other H locs ls hf hP hD hS hl
      unfold f_X11_homeCall_L44 at hf
      refine lv_iload hx hb dX11_homeCall_44 (lv_at hl 4 rfl) ?_
      refine lv_iload_n hx hb dX11_homeCall_46 rfl (lv_at hl 1 rfl) ?_
      refine lv_icmp_gt (tgt := 103) hx hb dX11_homeCall_47 (by decide) (fun c10 => ?_) (fun c10 => ?_)
      · have hf := ite_t c10 hf
        refine lv_iload_n hx hb dX11_homeCall_103 rfl (lv_at hl 3 rfl) ?_
        obtain rfl := Option.some.inj hf
        subst hQ
        exact en_i hx hb hr hlocks hP hD hS rfl dX11_homeCall_104
      have hf := ite_f c10 hf
      refine lv_iconst (v := 0) hx hb dX11_homeCall_50 (by decide) ?_
      refine lv_istore_n (lv' := [(3, .int 0), (0, .ref a_t), (1, .int s1), (2, .int s2), (4, .int s4)]) hx hb dX11_homeCall_51 rfl hl (by decide) rfl (fun ls hl => ?_)
      refine lv_aload_n hx hb dX11_homeCall_52 rfl (lv_at hl 1 rfl) ?_
      refine lv_iload_n hx hb dX11_homeCall_53 rfl (lv_at hl 3 rfl) ?_
      refine lv_iload_n hx hb dX11_homeCall_54 rfl (lv_at hl 0 rfl) ?_
      refine lv_iconst (v := 0) hx hb dX11_homeCall_55 (by decide) ?_
      obtain ⟨q11, h12, hf⟩ := bd_s hf
      refine af_i0 (wc := [(a_t, .inr (8, [.ref a_t_s, .ref a_t_past, .ref a_t_kept, .int v_t_isKept, .int v_t_pasts, .ref a_t_pad, .int v_t_typed, .ref a_t_cell, .ref a_t_other, .ref a_t_rows, .int v_t_ends, .ref a_t_read, .int v_t_many, .int v_t_spot, .ref a_t_track, .ref a_t_lead, .ref a_t_distance, .ref a_t_line])), (a_t_s, .inl (Y.1, 41, .inl f_t_s)), (a_t_cell, .inl (Y.1, 7, .inl f_t_cell)), (a_t_other, .inl (Y.1, 7, .inl f_t_other)), (a_t_lead, .inl (Y.1, 21, .inl f_t_lead))]) (wr := [(a_t_rows, .inl (Y.1, 341, .inl f_t_rows)), (a_t_distance, .inl (Y.1, 5040, .inl f_t_distance)), (a_t_line, .inl (Y.1, 5040, .inl f_t_line))]) (wn := [(a_t, .inr (8, [.ref a_t_s, .ref a_t_past, .ref a_t_kept, .int v_t_isKept, .int v_t_pasts, .ref a_t_pad, .int v_t_typed, .ref a_t_cell, .ref a_t_other, .ref a_t_rows, .int v_t_ends, .ref a_t_read, .int v_t_many, .int v_t_spot, .ref a_t_track, .ref a_t_lead, .ref a_t_distance, .ref a_t_line])), (a_t_s, .inl (Y.1, 41, .inl f_t_s)), (a_t_cell, .inl (Y.1, 7, .inl q11.2.1)), (a_t_other, .inl (Y.1, 7, .inl q11.2.2)), (a_t_rows, .inl (Y.1, 341, .inl f_t_rows)), (a_t_lead, .inl (Y.1, 21, .inl f_t_lead)), (a_t_distance, .inl (Y.1, 5040, .inl f_t_distance)), (a_t_line, .inl (Y.1, 5040, .inl f_t_line))]) (run_V (As := [.int s2, .int 0, .int 0]) (rest := []) E (c_X11_moved l D Y a_t a_t_s a_t_past a_t_kept a_t_pad a_t_cell a_t_other a_t_rows a_t_read a_t_track a_t_lead a_t_distance a_t_line v_t_isKept v_t_pasts v_t_typed v_t_ends v_t_many v_t_spot f_t_s f_t_cell f_t_other f_t_lead s2 0 0 H.size q11 h12) qw970 qw972 qw47 qw76 qw973 rfl rfl hd_X11_moved ⟨Nat.le_of_ble_eq_true rfl, Nat.le_of_ble_eq_true rfl⟩ (pre_rwV hP hD hE [0, 1, 2, 3, 5] rfl (by decide) rfl (ci := 8) (q0 := 0) rfl rfl) rfl hl.1 rfl (Nat.le_of_ble_eq_true rfl) dX11_homeCall_56 ⟨Nat.zero_le _, Nat.zero_le _⟩) hP hD hS hA [0, 1, 2, 3, 5] [4, 6, 7] [3, 4, 5, 6, 0, 7, 1, 2] rfl rfl (by decide) (by decide) rfl rfl (by decide) (fun H locs  hP hD hS => ?_)
      refine lv_istore (lv' := [(5, .int q11.1), (3, .int 0), (0, .ref a_t), (1, .int s1), (2, .int s2), (4, .int s4)]) hx hb dX11_homeCall_59 hl (by decide) rfl (fun ls hl => ?_)
      refine L61 _ _ _ _ _ _ _ _ _ _ _ _ _ _ _ _ _ hf hP hD hS (lv_sub hl [2, 3, 4, 1, 5, 0] rfl) ?_
      intro y18 y19 y20 y21 H locs ls hf hP hD hS hl
      refine lv_iload hx hb dX11_homeCall_94 (lv_at hl 4 rfl) ?_
      refine lv_istore_n (lv' := [(2, .int y19), (0, .ref a_t), (1, .int s1), (3, .int y18), (4, .int s4), (5, .int y19)]) hx hb dX11_homeCall_96 rfl hl (by decide) rfl (fun ls hl => ?_)
      refine lv_iinc (v := (s4 + 1)) (lv' := [(4, .int (s4 + 1)), (2, .int y19), (0, .ref a_t), (1, .int s1), (3, .int y18), (5, .int y19)]) hx hb dX11_homeCall_97 hl (k := 4) rfl rfl (by decide) rfl (fun ls hl => ?_)
      refine lv_goto (tgt := 44) hx hb dX11_homeCall_100 (by decide) ?_
      exact ih _ _ _ _ _ _ _ _ _ _ _ _ _ _ hf hP hD hS (lv_sub hl [2, 3, 1, 4, 0] rfl)
  refine lv_iload_n hx hb dX11_homeCall_0 rfl (lv_at hl 1 rfl) ?_
  refine lv_if_ge (tgt := 6) hx hb dX11_homeCall_1 (by decide) (fun c1 => ?_) (fun c1 => ?_)
  · have hf := ite_t c1 hf
    refine lv_aload_n hx hb dX11_homeCall_6 rfl (lv_at hl 0 rfl) ?_
    refine lv_bipush (v := (-4)) hx hb dX11_homeCall_7 (by decide) ?_
    obtain ⟨q2, h3, hf⟩ := bd_s hf
    refine af_v0 (wc := [(a_t, .inr (8, [.ref a_t_s, .ref a_t_past, .ref a_t_kept, .int v_t_isKept, .int v_t_pasts, .ref a_t_pad, .int v_t_typed, .ref a_t_cell, .ref a_t_other, .ref a_t_rows, .int v_t_ends, .ref a_t_read, .int v_t_many, .int v_t_spot, .ref a_t_track, .ref a_t_lead, .ref a_t_distance, .ref a_t_line])), (a_t_s, .inl (Y.1, 41, .inl f_t_s)), (a_t_cell, .inl (Y.1, 7, .inl f_t_cell)), (a_t_rows, .inl (Y.1, 341, .inl f_t_rows))]) (wr := [(a_t_other, .inl (Y.1, 7, .inl f_t_other)), (a_t_lead, .inl (Y.1, 21, .inl f_t_lead)), (a_t_distance, .inl (Y.1, 5040, .inl f_t_distance)), (a_t_line, .inl (Y.1, 5040, .inl f_t_line))]) (wn := [(a_t, .inr (8, [.ref a_t_s, .ref a_t_past, .ref a_t_kept, .int v_t_isKept, .int v_t_pasts, .ref a_t_pad, .int v_t_typed, .ref a_t_cell, .ref a_t_other, .ref a_t_rows, .int q2.1, .ref a_t_read, .int v_t_many, .int v_t_spot, .ref a_t_track, .ref a_t_lead, .ref a_t_distance, .ref a_t_line])), (a_t_s, .inl (Y.1, 41, .inl f_t_s)), (a_t_cell, .inl (Y.1, 7, .inl q2.2.1)), (a_t_other, .inl (Y.1, 7, .inl f_t_other)), (a_t_rows, .inl (Y.1, 341, .inl q2.2.2)), (a_t_lead, .inl (Y.1, 21, .inl f_t_lead)), (a_t_distance, .inl (Y.1, 5040, .inl f_t_distance)), (a_t_line, .inl (Y.1, 5040, .inl f_t_line))]) (run_V (As := [.int (-4)]) (rest := []) E (c_X11_ringsAll l D Y a_t a_t_s a_t_past a_t_kept a_t_pad a_t_cell a_t_other a_t_rows a_t_read a_t_track a_t_lead a_t_distance a_t_line v_t_isKept v_t_pasts v_t_typed v_t_ends v_t_many v_t_spot f_t_s f_t_cell f_t_rows (-4) s.heap.size q2 h3) qw902 qw904 qw32 qw76 qw905 rfl rfl hd_X11_ringsAll ⟨Nat.le_of_ble_eq_true rfl, Nat.le_of_ble_eq_true rfl⟩ (pre_rwV hP hD hE [0, 1, 2, 4] rfl (by decide) rfl (ci := 8) (q0 := 0) rfl rfl) rfl hl.1 rfl (Nat.le_of_ble_eq_true rfl) dX11_homeCall_9 ⟨Nat.zero_le _, Nat.zero_le _⟩) hP hD hS hA [0, 1, 2, 4] [3, 5, 6, 7] [4, 5, 6, 0, 7, 1, 2, 3] rfl rfl (by decide) (by decide) rfl rfl (by decide) (fun H locs  hP hD hS => ?_)
    refine lv_aload_n hx hb dX11_homeCall_12 rfl (lv_at hl 0 rfl) ?_
    obtain ⟨q4, h5, hf⟩ := bd_s hf
    refine af_v0 (wc := [(a_t, .inr (8, [.ref a_t_s, .ref a_t_past, .ref a_t_kept, .int v_t_isKept, .int v_t_pasts, .ref a_t_pad, .int v_t_typed, .ref a_t_cell, .ref a_t_other, .ref a_t_rows, .int q2.1, .ref a_t_read, .int v_t_many, .int v_t_spot, .ref a_t_track, .ref a_t_lead, .ref a_t_distance, .ref a_t_line])), (a_t_s, .inl (Y.1, 41, .inl f_t_s)), (a_t_cell, .inl (Y.1, 7, .inl q2.2.1)), (a_t_other, .inl (Y.1, 7, .inl f_t_other)), (a_t_lead, .inl (Y.1, 21, .inl f_t_lead)), (a_t_distance, .inl (Y.1, 5040, .inl f_t_distance)), (a_t_line, .inl (Y.1, 5040, .inl f_t_line))]) (wr := [(a_t_rows, .inl (Y.1, 341, .inl q2.2.2))]) (wn := [(a_t, .inr (8, [.ref a_t_s, .ref a_t_past, .ref a_t_kept, .int v_t_isKept, .int v_t_pasts, .ref a_t_pad, .int v_t_typed, .ref a_t_cell, .ref a_t_other, .ref a_t_rows, .int q2.1, .ref a_t_read, .int v_t_many, .int v_t_spot, .ref a_t_track, .ref a_t_lead, .ref a_t_distance, .ref a_t_line])), (a_t_s, .inl (Y.1, 41, .inl f_t_s)), (a_t_cell, .inl (Y.1, 7, .inl q4.1)), (a_t_other, .inl (Y.1, 7, .inl q4.2.1)), (a_t_rows, .inl (Y.1, 341, .inl q2.2.2)), (a_t_lead, .inl (Y.1, 21, .inl q4.2.2.1)), (a_t_distance, .inl (Y.1, 5040, .inl q4.2.2.2.1)), (a_t_line, .inl (Y.1, 5040, .inl q4.2.2.2.2))]) (run_V (As := []) (rest := []) E (c_X11_spreads l D Y a_t a_t_s a_t_past a_t_kept a_t_pad a_t_cell a_t_other a_t_rows a_t_read a_t_track a_t_lead a_t_distance a_t_line v_t_isKept v_t_pasts v_t_typed q2.1 v_t_many v_t_spot f_t_s q2.2.1 f_t_other f_t_lead f_t_distance f_t_line H.size q4 h5) qw958 qw960 qw44 qw76 qw961 rfl rfl hd_X11_spreads ⟨Nat.le_of_ble_eq_true rfl, Nat.le_of_ble_eq_true rfl⟩ (pre_rwV hP hD hE [0, 1, 2, 3, 5, 6, 7] rfl (by decide) rfl (ci := 8) (q0 := 0) rfl rfl) rfl hl.1 rfl (Nat.le_of_ble_eq_true rfl) dX11_homeCall_13 ⟨Nat.zero_le _, Nat.zero_le _⟩) hP hD hS hA [0, 1, 2, 3, 5, 6, 7] [4] [1, 2, 3, 4, 0, 5, 6, 7] rfl rfl (by decide) (by decide) rfl rfl (by decide) (fun H locs  hP hD hS => ?_)
    refine lv_aload_n hx hb dX11_homeCall_16 rfl (lv_at hl 0 rfl) ?_
    refine va_get (D := D) (ci := 8) (v := .ref a_t_rows) (C := RX11) (T := TX11) (N := 18) hx hb hts inX11 hown hE.1 hP 0 rfl rfl 9 (by decide) (hts _ qw770) (fun _ h9 => h9) rfl dX11_homeCall_17 ?_
    refine lv_aload_n hx hb dX11_homeCall_20 rfl (lv_at hl 0 rfl) ?_
    refine va_get (D := D) (ci := 8) (v := .int q2.1) (C := RX11) (T := TX11) (N := 18) hx hb hts inX11 hown hE.1 hP 0 rfl rfl 10 (by decide) (hts _ qw771) (fun _ h9 => h9) rfl dX11_homeCall_21 ?_
    obtain ⟨g6, hf⟩ := gd_s hf
    refine va_iald hx hb hE.1 hP 4 0 rfl rfl (inb_in g6) dX11_homeCall_24 ?_
    refine nm_W hf (fun x7 hf => ?_)
    refine lv_istore_n (lv' := [(2, .int x7), (0, .ref a_t), (1, .int s1)]) hx hb dX11_homeCall_25 rfl hl (by decide) rfl (fun ls hl => ?_)
    refine lv_iload_n hx hb dX11_homeCall_26 rfl (lv_at hl 2 rfl) ?_
    refine lv_aload_n hx hb dX11_homeCall_27 rfl (lv_at hl 1 rfl) ?_
    refine va_get (D := D) (ci := 8) (v := .ref a_t_distance) (C := RX11) (T := TX11) (N := 18) hx hb hts inX11 hown hE.1 hP 0 rfl rfl 16 (by decide) (hts _ qw777) (fun _ h9 => h9) rfl dX11_homeCall_28 ?_
    refine lv_iload_n hx hb dX11_homeCall_31 rfl (lv_at hl 0 rfl) ?_
    obtain ⟨g8, hf⟩ := gd_s hf
    refine va_iald hx hb hE.1 hP 6 0 rfl rfl (inb_in g8) dX11_homeCall_32 ?_
    refine lv_icmp_lt (tgt := 39) hx hb dX11_homeCall_33 (by decide) (fun c9 => ?_) (fun c9 => ?_)
    · have hf := ite_t c9 hf
      refine lv_iconst (v := 0) hx hb dX11_homeCall_39 (by decide) ?_
      refine lv_istore_n (lv' := [(3, .int 0), (2, .int x7), (0, .ref a_t), (1, .int s1)]) hx hb dX11_homeCall_40 rfl hl (by decide) rfl (fun ls hl => ?_)
      refine lv_iconst (v := 0) hx hb dX11_homeCall_41 (by decide) ?_
      refine lv_istore (lv' := [(4, .int 0), (3, .int 0), (2, .int x7), (0, .ref a_t), (1, .int s1)]) hx hb dX11_homeCall_42 hl (by decide) rfl (fun ls hl => ?_)
      exact L44 _ _ _ _ _ _ _ _ _ _ _ _ _ _ _ hf hP hD hS (lv_sub hl [3, 4, 2, 1, 0] rfl)
    have hf := ite_f c9 hf
    refine lv_bipush (v := (-4)) hx hb dX11_homeCall_36 (by decide) ?_
    obtain rfl := Option.some.inj hf
    subst hQ
    exact en_i hx hb hr hlocks hP hD hS rfl dX11_homeCall_38
  have hf := ite_f c1 hf
  refine lv_iconst (v := (-1)) hx hb dX11_homeCall_4 (by decide) ?_
  obtain rfl := Option.some.inj hf
  subst hQ
  exact en_i hx hb hr hlocks hP hD hS rfl dX11_homeCall_5

def f_X11_ifCalled (s1 : Int32) (s2 : Int32) (s3 : Int32) (v_t_ends : Int32) (f_t_s : Nat → Int32) (f_t_cell : Nat → Int32) (f_t_rows : Nat → Int32) : Option (Int32 × Int32 × (Nat → Int32) × (Nat → Int32) × (Nat → Int32)) :=
  (if (f_X11_in s1 0 ((f_t_s (2 : Int32).toNatClampNeg) - 1)) = 0 then some ((-1), v_t_ends, f_t_s, f_t_cell, f_t_rows) else (if (f_X11_in s2 0 2) = 0 then some ((-1), v_t_ends, f_t_s, f_t_cell, f_t_rows) else (if (f_X11_in s3 0 2) = 0 then some ((-1), v_t_ends, f_t_s, f_t_cell, f_t_rows) else gd (inb ((25 : Int32) + s1) 41) (nm (f_t_s ((25 : Int32) + s1).toNatClampNeg) (fun (x8 : Int32) => bd (f_X11_ringsAll (-4) v_t_ends (upd f_t_s ((25 : Int32) + s1).toNatClampNeg s2) f_t_cell f_t_rows) (fun q9 => (if s3 = 0 then bd (f_X11_firstTwice q9.1 q9.2.2) (fun q17 => nm (if (0 : Int32) ≤ q17 then (0 : Int32) else (1 : Int32)) (fun (w19 : Int32) => some (w19, q9.1, (upd (upd f_t_s ((25 : Int32) + s1).toNatClampNeg s2) ((25 : Int32) + s1).toNatClampNeg x8), q9.2.1, q9.2.2))) else (if s3 = 1 then bd (f_X11_roundAt q9.1 q9.2.2) (fun q15 => some (q15, q9.1, (upd (upd f_t_s ((25 : Int32) + s1).toNatClampNeg s2) ((25 : Int32) + s1).toNatClampNeg x8), q9.2.1, q9.2.2)) else bd (f_X11_musical q9.1 (upd f_t_s ((25 : Int32) + s1).toNatClampNeg s2) q9.2.1 q9.2.2) (fun q13 => some (q13.1, q9.1, (upd (upd f_t_s ((25 : Int32) + s1).toNatClampNeg s2) ((25 : Int32) + s1).toNatClampNeg x8), q13.2, q9.2.2))))))))))
abbrev rm_X11_ifCalled : Room := { frames := 4, cells := 0, slots := 0, locals := 93 }
set_option maxHeartbeats 4000000 in
set_option maxRecDepth 100000 in
theorem c_X11_ifCalled (l : Launch) (D : va_G) (Y : ClassId × ClassId × ClassId) (a_t a_t_s a_t_past a_t_kept a_t_pad a_t_cell a_t_other a_t_rows a_t_read a_t_track a_t_lead a_t_distance a_t_line : Nat) (v_t_isKept : Int32) (v_t_pasts : Int32) (v_t_typed : Int32) (v_t_ends : Int32) (v_t_many : Int32) (v_t_spot : Int32) (f_t_s : Nat → Int32) (f_t_cell : Nat → Int32) (f_t_rows : Nat → Int32) (s1 : Int32) (s2 : Int32) (s3 : Int32) (sz : Nat) (R : Int32 × Int32 × (Nat → Int32) × (Nat → Int32) × (Nat → Int32)) (hf : f_X11_ifCalled s1 s2 s3 v_t_ends f_t_s f_t_cell f_t_rows = some R) : Met l yX11_ifCalled (ws_ yX11_ifCalled cX11_ifCalled 6 (some .int)) rm_X11_ifCalled (va_Pc [.ref a_t, .int s1, .int s2, .int s3] (RW D Y sz [(a_t, .inr (8, [.ref a_t_s, .ref a_t_past, .ref a_t_kept, .int v_t_isKept, .int v_t_pasts, .ref a_t_pad, .int v_t_typed, .ref a_t_cell, .ref a_t_other, .ref a_t_rows, .int v_t_ends, .ref a_t_read, .int v_t_many, .int v_t_spot, .ref a_t_track, .ref a_t_lead, .ref a_t_distance, .ref a_t_line])), (a_t_s, .inl (Y.1, 41, .inl f_t_s)), (a_t_cell, .inl (Y.1, 7, .inl f_t_cell)), (a_t_rows, .inl (Y.1, 341, .inl f_t_rows))])) (QI D R.1 [(a_t, .inr (8, [.ref a_t_s, .ref a_t_past, .ref a_t_kept, .int v_t_isKept, .int v_t_pasts, .ref a_t_pad, .int v_t_typed, .ref a_t_cell, .ref a_t_other, .ref a_t_rows, .int R.2.1, .ref a_t_read, .int v_t_many, .int v_t_spot, .ref a_t_track, .ref a_t_lead, .ref a_t_distance, .ref a_t_line])), (a_t_s, .inl (Y.1, 41, .inl R.2.2.1)), (a_t_cell, .inl (Y.1, 7, .inl R.2.2.2.1)), (a_t_rows, .inl (Y.1, 341, .inl R.2.2.2.2))] (va_A [(a_t, .inr (8, [.ref a_t_s, .ref a_t_past, .ref a_t_kept, .int v_t_isKept, .int v_t_pasts, .ref a_t_pad, .int v_t_typed, .ref a_t_cell, .ref a_t_other, .ref a_t_rows, .int v_t_ends, .ref a_t_read, .int v_t_many, .int v_t_spot, .ref a_t_track, .ref a_t_lead, .ref a_t_distance, .ref a_t_line])), (a_t_s, .inl (Y.1, 41, .inl f_t_s)), (a_t_cell, .inl (Y.1, 7, .inl f_t_cell)), (a_t_rows, .inl (Y.1, 341, .inl f_t_rows))] sz)) 0 0 (va_A [(a_t, .inr (8, [.ref a_t_s, .ref a_t_past, .ref a_t_kept, .int v_t_isKept, .int v_t_pasts, .ref a_t_pad, .int v_t_typed, .ref a_t_cell, .ref a_t_other, .ref a_t_rows, .int v_t_ends, .ref a_t_read, .int v_t_many, .int v_t_spot, .ref a_t_track, .ref a_t_lead, .ref a_t_distance, .ref a_t_line])), (a_t_s, .inl (Y.1, 41, .inl f_t_s)), (a_t_cell, .inl (Y.1, 7, .inl f_t_cell)), (a_t_rows, .inl (Y.1, 341, .inl f_t_rows))] sz) := by
  refine rw_start (Qc := fun A => QI D R.1 [(a_t, .inr (8, [.ref a_t_s, .ref a_t_past, .ref a_t_kept, .int v_t_isKept, .int v_t_pasts, .ref a_t_pad, .int v_t_typed, .ref a_t_cell, .ref a_t_other, .ref a_t_rows, .int R.2.1, .ref a_t_read, .int v_t_many, .int v_t_spot, .ref a_t_track, .ref a_t_lead, .ref a_t_distance, .ref a_t_line])), (a_t_s, .inl (Y.1, 41, .inl R.2.2.1)), (a_t_cell, .inl (Y.1, 7, .inl R.2.2.2.1)), (a_t_rows, .inl (Y.1, 341, .inl R.2.2.2.2))] A) (by decide) (Nat.le_of_ble_eq_true rfl) ?_
  intro p e s m below meth c ls A hx hb hml hr hlocks hown hts hnm hA hP hD hS hE hl
  generalize hargs : List.toArray _ = args at hts ⊢
  have hown : s.vm.findClass RX11 = some m.cls := hown
  have E : EN p m c cX11_ifCalled 6 s args RX11 := ⟨hx, hb, hml, hown, hts⟩
  have hl : lv_has ls 6 [(0, .ref a_t), (1, .int s1), (2, .int s2), (3, .int s3)] := hl
  generalize hQ : MQ below _ args s 0 0 _ = Q
  unfold f_X11_ifCalled at hf
  refine lv_iload_n hx hb dX11_ifCalled_0 rfl (lv_at hl 1 rfl) ?_
  refine lv_iconst (v := 0) hx hb dX11_ifCalled_1 (by decide) ?_
  refine lv_aload_n hx hb dX11_ifCalled_2 rfl (lv_at hl 0 rfl) ?_
  refine va_get (D := D) (ci := 8) (v := .ref a_t_s) (C := RX11) (T := TX11) (N := 18) hx hb hts inX11 hown hE.1 hP 0 rfl rfl 0 (by decide) (hts _ qw761) (fun _ h9 => h9) rfl dX11_ifCalled_3 ?_
  refine lv_iconst (v := 2) hx hb dX11_ifCalled_6 (by decide) ?_
  refine va_iald hx hb hE.1 hP 1 0 rfl rfl (inb_in (by decide)) dX11_ifCalled_7 ?_
  refine lv_iconst (v := 1) hx hb dX11_ifCalled_8 (by decide) ?_
  refine lv_isub hx hb dX11_ifCalled_9 ?_
  refine af_oz (run_S (As := [.int s1, .int 0, .int ((f_t_s (2 : Int32).toNatClampNeg) - 1)]) (rest := []) E (c_X11_in l D Y s1 0 ((f_t_s (2 : Int32).toNatClampNeg) - 1) (f_X11_in s1 0 ((f_t_s (2 : Int32).toNatClampNeg) - 1)) rfl) qw820 qw821 qw76 qw822 rfl rfl hd_X11_in ⟨Nat.le_of_ble_eq_true rfl, Nat.le_of_ble_eq_true rfl⟩ (pre_roS hP hE [] rfl) rfl hl.1 rfl (Nat.le_of_ble_eq_true rfl) dX11_ifCalled_10 ⟨Nat.zero_le _, Nat.zero_le _⟩) (fun z1 => ?_)
  refine lv_if_eq (tgt := 34) hx hb dX11_ifCalled_13 (by decide) (fun c2 => ?_) (fun c2 => ?_)
  · have hf := ite_t c2 hf
    refine lv_iconst (v := (-1)) hx hb dX11_ifCalled_34 (by decide) ?_
    obtain rfl := Option.some.inj hf
    subst hQ
    exact en_i hx hb hr hlocks hP hD hS rfl dX11_ifCalled_35
  have hf := ite_f c2 hf
  refine lv_iload_n hx hb dX11_ifCalled_16 rfl (lv_at hl 2 rfl) ?_
  refine lv_iconst (v := 0) hx hb dX11_ifCalled_17 (by decide) ?_
  refine lv_iconst (v := 2) hx hb dX11_ifCalled_18 (by decide) ?_
  refine af_oz (run_S (As := [.int s2, .int 0, .int 2]) (rest := []) E (c_X11_in l D Y s2 0 2 (f_X11_in s2 0 2) rfl) qw820 qw821 qw76 qw822 rfl rfl hd_X11_in ⟨Nat.le_of_ble_eq_true rfl, Nat.le_of_ble_eq_true rfl⟩ (pre_roS hP hE [] rfl) rfl hl.1 rfl (Nat.le_of_ble_eq_true rfl) dX11_ifCalled_19 ⟨Nat.zero_le _, Nat.zero_le _⟩) (fun z3 => ?_)
  refine lv_if_eq (tgt := 34) hx hb dX11_ifCalled_22 (by decide) (fun c4 => ?_) (fun c4 => ?_)
  · have hf := ite_t c4 hf
    refine lv_iconst (v := (-1)) hx hb dX11_ifCalled_34 (by decide) ?_
    obtain rfl := Option.some.inj hf
    subst hQ
    exact en_i hx hb hr hlocks hP hD hS rfl dX11_ifCalled_35
  have hf := ite_f c4 hf
  refine lv_iload_n hx hb dX11_ifCalled_25 rfl (lv_at hl 3 rfl) ?_
  refine lv_iconst (v := 0) hx hb dX11_ifCalled_26 (by decide) ?_
  refine lv_iconst (v := 2) hx hb dX11_ifCalled_27 (by decide) ?_
  refine af_oz (run_S (As := [.int s3, .int 0, .int 2]) (rest := []) E (c_X11_in l D Y s3 0 2 (f_X11_in s3 0 2) rfl) qw820 qw821 qw76 qw822 rfl rfl hd_X11_in ⟨Nat.le_of_ble_eq_true rfl, Nat.le_of_ble_eq_true rfl⟩ (pre_roS hP hE [] rfl) rfl hl.1 rfl (Nat.le_of_ble_eq_true rfl) dX11_ifCalled_28 ⟨Nat.zero_le _, Nat.zero_le _⟩) (fun z5 => ?_)
  refine lv_if_ne (tgt := 36) hx hb dX11_ifCalled_31 (by decide) (fun c6 => ?_) (fun c6 => ?_)
  · have hf := ite_f c6 hf
    refine lv_aload_n hx hb dX11_ifCalled_36 rfl (lv_at hl 0 rfl) ?_
    refine va_get (D := D) (ci := 8) (v := .ref a_t_s) (C := RX11) (T := TX11) (N := 18) hx hb hts inX11 hown hE.1 hP 0 rfl rfl 0 (by decide) (hts _ qw761) (fun _ h9 => h9) rfl dX11_ifCalled_37 ?_
    refine lv_bipush (v := 25) hx hb dX11_ifCalled_40 (by decide) ?_
    refine lv_iload_n hx hb dX11_ifCalled_42 rfl (lv_at hl 1 rfl) ?_
    refine lv_iadd hx hb dX11_ifCalled_43 ?_
    obtain ⟨g7, hf⟩ := gd_s hf
    refine va_iald hx hb hE.1 hP 1 0 rfl rfl (inb_in g7) dX11_ifCalled_44 ?_
    refine nm_W hf (fun x8 hf => ?_)
    refine lv_istore (lv' := [(4, .int x8), (0, .ref a_t), (1, .int s1), (2, .int s2), (3, .int s3)]) hx hb dX11_ifCalled_45 hl (by decide) rfl (fun ls hl => ?_)
    refine lv_aload_n hx hb dX11_ifCalled_47 rfl (lv_at hl 1 rfl) ?_
    refine va_get (D := D) (ci := 8) (v := .ref a_t_s) (C := RX11) (T := TX11) (N := 18) hx hb hts inX11 hown hE.1 hP 0 rfl rfl 0 (by decide) (hts _ qw761) (fun _ h9 => h9) rfl dX11_ifCalled_48 ?_
    refine lv_bipush (v := 25) hx hb dX11_ifCalled_51 (by decide) ?_
    refine lv_iload_n hx hb dX11_ifCalled_53 rfl (lv_at hl 2 rfl) ?_
    refine lv_iadd hx hb dX11_ifCalled_54 ?_
    refine lv_iload_n hx hb dX11_ifCalled_55 rfl (lv_at hl 3 rfl) ?_
    refine va_iast hx hb hE.1 hP hD hS 1 0 rfl rfl (inb_in g7) dX11_ifCalled_56 (fun H locs hP hD hS => ?_)
    have hP : va_P D vwCl [(a_t, .inr (8, [.ref a_t_s, .ref a_t_past, .ref a_t_kept, .int v_t_isKept, .int v_t_pasts, .ref a_t_pad, .int v_t_typed, .ref a_t_cell, .ref a_t_other, .ref a_t_rows, .int v_t_ends, .ref a_t_read, .int v_t_many, .int v_t_spot, .ref a_t_track, .ref a_t_lead, .ref a_t_distance, .ref a_t_line])), (a_t_s, .inl (Y.1, 41, .inl (upd f_t_s ((25 : Int32) + s1).toNatClampNeg s2))), (a_t_cell, .inl (Y.1, 7, .inl f_t_cell)), (a_t_rows, .inl (Y.1, 341, .inl f_t_rows))] H := hP
    have hD : va_D A [(a_t, .inr (8, [.ref a_t_s, .ref a_t_past, .ref a_t_kept, .int v_t_isKept, .int v_t_pasts, .ref a_t_pad, .int v_t_typed, .ref a_t_cell, .ref a_t_other, .ref a_t_rows, .int v_t_ends, .ref a_t_read, .int v_t_many, .int v_t_spot, .ref a_t_track, .ref a_t_lead, .ref a_t_distance, .ref a_t_line])), (a_t_s, .inl (Y.1, 41, .inl (upd f_t_s ((25 : Int32) + s1).toNatClampNeg s2))), (a_t_cell, .inl (Y.1, 7, .inl f_t_cell)), (a_t_rows, .inl (Y.1, 341, .inl f_t_rows))] := hD
    refine lv_aload_n hx hb dX11_ifCalled_57 rfl (lv_at hl 1 rfl) ?_
    refine lv_bipush (v := (-4)) hx hb dX11_ifCalled_58 (by decide) ?_
    obtain ⟨q9, h10, hf⟩ := bd_s hf
    refine af_v0 (wc := [(a_t, .inr (8, [.ref a_t_s, .ref a_t_past, .ref a_t_kept, .int v_t_isKept, .int v_t_pasts, .ref a_t_pad, .int v_t_typed, .ref a_t_cell, .ref a_t_other, .ref a_t_rows, .int v_t_ends, .ref a_t_read, .int v_t_many, .int v_t_spot, .ref a_t_track, .ref a_t_lead, .ref a_t_distance, .ref a_t_line])), (a_t_s, .inl (Y.1, 41, .inl (upd f_t_s ((25 : Int32) + s1).toNatClampNeg s2))), (a_t_cell, .inl (Y.1, 7, .inl f_t_cell)), (a_t_rows, .inl (Y.1, 341, .inl f_t_rows))]) (wr := []) (wn := [(a_t, .inr (8, [.ref a_t_s, .ref a_t_past, .ref a_t_kept, .int v_t_isKept, .int v_t_pasts, .ref a_t_pad, .int v_t_typed, .ref a_t_cell, .ref a_t_other, .ref a_t_rows, .int q9.1, .ref a_t_read, .int v_t_many, .int v_t_spot, .ref a_t_track, .ref a_t_lead, .ref a_t_distance, .ref a_t_line])), (a_t_s, .inl (Y.1, 41, .inl (upd f_t_s ((25 : Int32) + s1).toNatClampNeg s2))), (a_t_cell, .inl (Y.1, 7, .inl q9.2.1)), (a_t_rows, .inl (Y.1, 341, .inl q9.2.2))]) (run_V (As := [.int (-4)]) (rest := []) E (c_X11_ringsAll l D Y a_t a_t_s a_t_past a_t_kept a_t_pad a_t_cell a_t_other a_t_rows a_t_read a_t_track a_t_lead a_t_distance a_t_line v_t_isKept v_t_pasts v_t_typed v_t_ends v_t_many v_t_spot (upd f_t_s ((25 : Int32) + s1).toNatClampNeg s2) f_t_cell f_t_rows (-4) H.size q9 h10) qw902 qw904 qw32 qw76 qw905 rfl rfl hd_X11_ringsAll ⟨Nat.le_of_ble_eq_true rfl, Nat.le_of_ble_eq_true rfl⟩ (pre_rwV hP hD hE [0, 1, 2, 3] rfl (by decide) rfl (ci := 8) (q0 := 0) rfl rfl) rfl hl.1 rfl (Nat.le_of_ble_eq_true rfl) dX11_ifCalled_60 ⟨Nat.zero_le _, Nat.zero_le _⟩) hP hD hS hA [0, 1, 2, 3] [] [0, 1, 2, 3] rfl rfl (by decide) (by decide) rfl rfl (by decide) (fun H locs  hP hD hS => ?_)
    refine lv_iload_n hx hb dX11_ifCalled_63 rfl (lv_at hl 4 rfl) ?_
    refine lv_if_ne (tgt := 82) hx hb dX11_ifCalled_64 (by decide) (fun c11 => ?_) (fun c11 => ?_)
    · have hf := ite_f c11 hf
      refine lv_iload_n hx hb dX11_ifCalled_82 rfl (lv_at hl 4 rfl) ?_
      refine lv_iconst (v := 1) hx hb dX11_ifCalled_83 (by decide) ?_
      refine lv_icmp_ne (tgt := 94) hx hb dX11_ifCalled_84 (by decide) (fun c12 => ?_) (fun c12 => ?_)
      · have hf := ite_f c12 hf
        refine lv_aload_n hx hb dX11_ifCalled_94 rfl (lv_at hl 1 rfl) ?_
        obtain ⟨q13, h14, hf⟩ := bd_s hf
        refine af_i0 (wc := [(a_t, .inr (8, [.ref a_t_s, .ref a_t_past, .ref a_t_kept, .int v_t_isKept, .int v_t_pasts, .ref a_t_pad, .int v_t_typed, .ref a_t_cell, .ref a_t_other, .ref a_t_rows, .int q9.1, .ref a_t_read, .int v_t_many, .int v_t_spot, .ref a_t_track, .ref a_t_lead, .ref a_t_distance, .ref a_t_line])), (a_t_s, .inl (Y.1, 41, .inl (upd f_t_s ((25 : Int32) + s1).toNatClampNeg s2))), (a_t_cell, .inl (Y.1, 7, .inl q9.2.1)), (a_t_rows, .inl (Y.1, 341, .inl q9.2.2))]) (wr := []) (wn := [(a_t, .inr (8, [.ref a_t_s, .ref a_t_past, .ref a_t_kept, .int v_t_isKept, .int v_t_pasts, .ref a_t_pad, .int v_t_typed, .ref a_t_cell, .ref a_t_other, .ref a_t_rows, .int q9.1, .ref a_t_read, .int v_t_many, .int v_t_spot, .ref a_t_track, .ref a_t_lead, .ref a_t_distance, .ref a_t_line])), (a_t_s, .inl (Y.1, 41, .inl (upd f_t_s ((25 : Int32) + s1).toNatClampNeg s2))), (a_t_cell, .inl (Y.1, 7, .inl q13.2)), (a_t_rows, .inl (Y.1, 341, .inl q9.2.2))]) (run_V (As := []) (rest := []) E (c_X11_musical l D Y a_t a_t_s a_t_past a_t_kept a_t_pad a_t_cell a_t_other a_t_rows a_t_read a_t_track a_t_lead a_t_distance a_t_line v_t_isKept v_t_pasts v_t_typed q9.1 v_t_many v_t_spot (upd f_t_s ((25 : Int32) + s1).toNatClampNeg s2) q9.2.1 q9.2.2 H.size q13 h14) qw1022 qw1024 qw57 qw76 qw1025 rfl rfl hd_X11_musical ⟨Nat.le_of_ble_eq_true rfl, Nat.le_of_ble_eq_true rfl⟩ (pre_rwV hP hD hE [0, 1, 2, 3] rfl (by decide) rfl (ci := 8) (q0 := 0) rfl rfl) rfl hl.1 rfl (Nat.le_of_ble_eq_true rfl) dX11_ifCalled_95 ⟨Nat.zero_le _, Nat.zero_le _⟩) hP hD hS hA [0, 1, 2, 3] [] [0, 1, 2, 3] rfl rfl (by decide) (by decide) rfl rfl (by decide) (fun H locs  hP hD hS => ?_)
        refine lv_istore (lv' := [(5, .int q13.1), (4, .int x8), (0, .ref a_t), (1, .int s1), (2, .int s2), (3, .int s3)]) hx hb dX11_ifCalled_98 hl (by decide) rfl (fun ls hl => ?_)
        refine lv_aload_n hx hb dX11_ifCalled_100 rfl (lv_at hl 2 rfl) ?_
        refine va_get (D := D) (ci := 8) (v := .ref a_t_s) (C := RX11) (T := TX11) (N := 18) hx hb hts inX11 hown hE.1 hP 0 rfl rfl 0 (by decide) (hts _ qw761) (fun _ h9 => h9) rfl dX11_ifCalled_101 ?_
        refine lv_bipush (v := 25) hx hb dX11_ifCalled_104 (by decide) ?_
        refine lv_iload_n hx hb dX11_ifCalled_106 rfl (lv_at hl 3 rfl) ?_
        refine lv_iadd hx hb dX11_ifCalled_107 ?_
        refine lv_iload hx hb dX11_ifCalled_108 (lv_at hl 1 rfl) ?_
        refine va_iast hx hb hE.1 hP hD hS 1 0 rfl rfl (inb_in g7) dX11_ifCalled_110 (fun H locs hP hD hS => ?_)
        have hP : va_P D vwCl [(a_t, .inr (8, [.ref a_t_s, .ref a_t_past, .ref a_t_kept, .int v_t_isKept, .int v_t_pasts, .ref a_t_pad, .int v_t_typed, .ref a_t_cell, .ref a_t_other, .ref a_t_rows, .int q9.1, .ref a_t_read, .int v_t_many, .int v_t_spot, .ref a_t_track, .ref a_t_lead, .ref a_t_distance, .ref a_t_line])), (a_t_s, .inl (Y.1, 41, .inl (upd (upd f_t_s ((25 : Int32) + s1).toNatClampNeg s2) ((25 : Int32) + s1).toNatClampNeg x8))), (a_t_cell, .inl (Y.1, 7, .inl q13.2)), (a_t_rows, .inl (Y.1, 341, .inl q9.2.2))] H := hP
        have hD : va_D A [(a_t, .inr (8, [.ref a_t_s, .ref a_t_past, .ref a_t_kept, .int v_t_isKept, .int v_t_pasts, .ref a_t_pad, .int v_t_typed, .ref a_t_cell, .ref a_t_other, .ref a_t_rows, .int q9.1, .ref a_t_read, .int v_t_many, .int v_t_spot, .ref a_t_track, .ref a_t_lead, .ref a_t_distance, .ref a_t_line])), (a_t_s, .inl (Y.1, 41, .inl (upd (upd f_t_s ((25 : Int32) + s1).toNatClampNeg s2) ((25 : Int32) + s1).toNatClampNeg x8))), (a_t_cell, .inl (Y.1, 7, .inl q13.2)), (a_t_rows, .inl (Y.1, 341, .inl q9.2.2))] := hD
        refine lv_iload hx hb dX11_ifCalled_111 (lv_at hl 0 rfl) ?_
        obtain rfl := Option.some.inj hf
        subst hQ
        exact en_i hx hb hr hlocks hP hD hS rfl dX11_ifCalled_113
      have hf := ite_t c12 hf
      refine lv_aload_n hx hb dX11_ifCalled_87 rfl (lv_at hl 1 rfl) ?_
      obtain ⟨q15, h16, hf⟩ := bd_s hf
      refine af_oi (run_V (As := []) (rest := []) E (c_X11_roundAt l D Y a_t a_t_s a_t_past a_t_kept a_t_pad a_t_cell a_t_other a_t_rows a_t_read a_t_track a_t_lead a_t_distance a_t_line v_t_isKept v_t_pasts v_t_typed q9.1 v_t_many v_t_spot q9.2.2 q15 h16) qw1002 qw1004 qw52 qw76 qw1005 rfl rfl hd_X11_roundAt ⟨Nat.le_of_ble_eq_true rfl, Nat.le_of_ble_eq_true rfl⟩ (pre_roV hP hE [0, 3] rfl (ci := 8) (q0 := 0) rfl rfl) rfl hl.1 rfl (Nat.le_of_ble_eq_true rfl) dX11_ifCalled_88 ⟨Nat.zero_le _, Nat.zero_le _⟩) ?_
      refine lv_goto (tgt := 98) hx hb dX11_ifCalled_91 (by decide) ?_
      refine lv_istore (lv' := [(5, .int q15), (4, .int x8), (0, .ref a_t), (1, .int s1), (2, .int s2), (3, .int s3)]) hx hb dX11_ifCalled_98 hl (by decide) rfl (fun ls hl => ?_)
      refine lv_aload_n hx hb dX11_ifCalled_100 rfl (lv_at hl 2 rfl) ?_
      refine va_get (D := D) (ci := 8) (v := .ref a_t_s) (C := RX11) (T := TX11) (N := 18) hx hb hts inX11 hown hE.1 hP 0 rfl rfl 0 (by decide) (hts _ qw761) (fun _ h9 => h9) rfl dX11_ifCalled_101 ?_
      refine lv_bipush (v := 25) hx hb dX11_ifCalled_104 (by decide) ?_
      refine lv_iload_n hx hb dX11_ifCalled_106 rfl (lv_at hl 3 rfl) ?_
      refine lv_iadd hx hb dX11_ifCalled_107 ?_
      refine lv_iload hx hb dX11_ifCalled_108 (lv_at hl 1 rfl) ?_
      refine va_iast hx hb hE.1 hP hD hS 1 0 rfl rfl (inb_in g7) dX11_ifCalled_110 (fun H locs hP hD hS => ?_)
      have hP : va_P D vwCl [(a_t, .inr (8, [.ref a_t_s, .ref a_t_past, .ref a_t_kept, .int v_t_isKept, .int v_t_pasts, .ref a_t_pad, .int v_t_typed, .ref a_t_cell, .ref a_t_other, .ref a_t_rows, .int q9.1, .ref a_t_read, .int v_t_many, .int v_t_spot, .ref a_t_track, .ref a_t_lead, .ref a_t_distance, .ref a_t_line])), (a_t_s, .inl (Y.1, 41, .inl (upd (upd f_t_s ((25 : Int32) + s1).toNatClampNeg s2) ((25 : Int32) + s1).toNatClampNeg x8))), (a_t_cell, .inl (Y.1, 7, .inl q9.2.1)), (a_t_rows, .inl (Y.1, 341, .inl q9.2.2))] H := hP
      have hD : va_D A [(a_t, .inr (8, [.ref a_t_s, .ref a_t_past, .ref a_t_kept, .int v_t_isKept, .int v_t_pasts, .ref a_t_pad, .int v_t_typed, .ref a_t_cell, .ref a_t_other, .ref a_t_rows, .int q9.1, .ref a_t_read, .int v_t_many, .int v_t_spot, .ref a_t_track, .ref a_t_lead, .ref a_t_distance, .ref a_t_line])), (a_t_s, .inl (Y.1, 41, .inl (upd (upd f_t_s ((25 : Int32) + s1).toNatClampNeg s2) ((25 : Int32) + s1).toNatClampNeg x8))), (a_t_cell, .inl (Y.1, 7, .inl q9.2.1)), (a_t_rows, .inl (Y.1, 341, .inl q9.2.2))] := hD
      refine lv_iload hx hb dX11_ifCalled_111 (lv_at hl 0 rfl) ?_
      obtain rfl := Option.some.inj hf
      subst hQ
      exact en_i hx hb hr hlocks hP hD hS rfl dX11_ifCalled_113
    have hf := ite_t c11 hf
    refine lv_aload_n hx hb dX11_ifCalled_67 rfl (lv_at hl 1 rfl) ?_
    obtain ⟨q17, h18, hf⟩ := bd_s hf
    refine af_oi (run_V (As := []) (rest := []) E (c_X11_firstTwice l D Y a_t a_t_s a_t_past a_t_kept a_t_pad a_t_cell a_t_other a_t_rows a_t_read a_t_track a_t_lead a_t_distance a_t_line v_t_isKept v_t_pasts v_t_typed q9.1 v_t_many v_t_spot q9.2.2 q17 h18) qw1006 qw1008 qw53 qw76 qw1009 rfl rfl hd_X11_firstTwice ⟨Nat.le_of_ble_eq_true rfl, Nat.le_of_ble_eq_true rfl⟩ (pre_roV hP hE [0, 3] rfl (ci := 8) (q0 := 0) rfl rfl) rfl hl.1 rfl (Nat.le_of_ble_eq_true rfl) dX11_ifCalled_68 ⟨Nat.zero_le _, Nat.zero_le _⟩) ?_
    refine mg (P := fun (w19 : Int32) => ∀ (ls : Array Slot), lv_has ls 6 [(0, .ref a_t), (1, .int s1), (4, .int x8)] → W p l e rm_X11_ifCalled s m args below meth c H locs 0 0 Q (F0 m 98 ls [.int w19])) hf (fun w19 hf ls hl => ?_) (fun hJ => ?_)
    · refine lv_istore (lv' := [(5, .int w19), (0, .ref a_t), (1, .int s1), (4, .int x8)]) hx hb dX11_ifCalled_98 hl (by decide) rfl (fun ls hl => ?_)
      refine lv_aload_n hx hb dX11_ifCalled_100 rfl (lv_at hl 1 rfl) ?_
      refine va_get (D := D) (ci := 8) (v := .ref a_t_s) (C := RX11) (T := TX11) (N := 18) hx hb hts inX11 hown hE.1 hP 0 rfl rfl 0 (by decide) (hts _ qw761) (fun _ h9 => h9) rfl dX11_ifCalled_101 ?_
      refine lv_bipush (v := 25) hx hb dX11_ifCalled_104 (by decide) ?_
      refine lv_iload_n hx hb dX11_ifCalled_106 rfl (lv_at hl 2 rfl) ?_
      refine lv_iadd hx hb dX11_ifCalled_107 ?_
      refine lv_iload hx hb dX11_ifCalled_108 (lv_at hl 3 rfl) ?_
      refine va_iast hx hb hE.1 hP hD hS 1 0 rfl rfl (inb_in g7) dX11_ifCalled_110 (fun H locs hP hD hS => ?_)
      have hP : va_P D vwCl [(a_t, .inr (8, [.ref a_t_s, .ref a_t_past, .ref a_t_kept, .int v_t_isKept, .int v_t_pasts, .ref a_t_pad, .int v_t_typed, .ref a_t_cell, .ref a_t_other, .ref a_t_rows, .int q9.1, .ref a_t_read, .int v_t_many, .int v_t_spot, .ref a_t_track, .ref a_t_lead, .ref a_t_distance, .ref a_t_line])), (a_t_s, .inl (Y.1, 41, .inl (upd (upd f_t_s ((25 : Int32) + s1).toNatClampNeg s2) ((25 : Int32) + s1).toNatClampNeg x8))), (a_t_cell, .inl (Y.1, 7, .inl q9.2.1)), (a_t_rows, .inl (Y.1, 341, .inl q9.2.2))] H := hP
      have hD : va_D A [(a_t, .inr (8, [.ref a_t_s, .ref a_t_past, .ref a_t_kept, .int v_t_isKept, .int v_t_pasts, .ref a_t_pad, .int v_t_typed, .ref a_t_cell, .ref a_t_other, .ref a_t_rows, .int q9.1, .ref a_t_read, .int v_t_many, .int v_t_spot, .ref a_t_track, .ref a_t_lead, .ref a_t_distance, .ref a_t_line])), (a_t_s, .inl (Y.1, 41, .inl (upd (upd f_t_s ((25 : Int32) + s1).toNatClampNeg s2) ((25 : Int32) + s1).toNatClampNeg x8))), (a_t_cell, .inl (Y.1, 7, .inl q9.2.1)), (a_t_rows, .inl (Y.1, 341, .inl q9.2.2))] := hD
      refine lv_iload hx hb dX11_ifCalled_111 (lv_at hl 0 rfl) ?_
      obtain rfl := Option.some.inj hf
      subst hQ
      exact en_i hx hb hr hlocks hP hD hS rfl dX11_ifCalled_113
    refine lv_if_ge (tgt := 78) hx hb dX11_ifCalled_71 (by decide) (fun c20 => ?_) (fun c20 => ?_)
    · have hf := nmi_t c20 hf
      refine lv_iconst (v := 0) hx hb dX11_ifCalled_78 (by decide) ?_
      refine lv_goto (tgt := 98) hx hb dX11_ifCalled_79 (by decide) ?_
      exact hJ _ (nm_b hf) _ (lv_sub hl [1, 2, 0] rfl)
    have hf := nmi_f c20 hf
    refine lv_iconst (v := 1) hx hb dX11_ifCalled_74 (by decide) ?_
    refine lv_goto (tgt := 98) hx hb dX11_ifCalled_75 (by decide) ?_
    exact hJ _ (nm_b hf) _ (lv_sub hl [1, 2, 0] rfl)
  have hf := ite_t c6 hf
  refine lv_iconst (v := (-1)) hx hb dX11_ifCalled_34 (by decide) ?_
  obtain rfl := Option.some.inj hf
  subst hQ
  exact en_i hx hb hr hlocks hP hD hS rfl dX11_ifCalled_35

def f_X11_best_L6 (f_t_s : Nat → Int32) : Nat → Int32 → Int32 → Int32 → Int32 → (Nat → Int32) → (Nat → Int32) → Option (Int32 × Int32 × (Nat → Int32) × (Nat → Int32))
  | 0, _, _, _, _, _, _ => none
  | n + 1, s1, s2, s3, v_t_ends, f_t_cell, f_t_rows => (if (3 : Int32) ≤ s3 then some (s1, v_t_ends, f_t_cell, f_t_rows) else bd (f_X11_ringsAll s3 v_t_ends f_t_s f_t_cell f_t_rows) (fun q2 => bd (f_X11_unlike q2.1 q2.2.2) (fun q4 => nm (if q4 ≤ s2 then s1 else s3) (fun (w6 : Int32) => nm (if q4 ≤ s2 then s2 else q4) (fun (w7 : Int32) => (f_X11_best_L6 f_t_s n w6 w7 (s3 + 1) q2.1 q2.2.1 q2.2.2))))))
def f_X11_best (v_t_ends : Int32) (f_t_s : Nat → Int32) (f_t_cell : Nat → Int32) (f_t_rows : Nat → Int32) : Option (Int32 × Int32 × (Nat → Int32) × (Nat → Int32)) :=
  (f_X11_best_L6 f_t_s fu 0 0 0 v_t_ends f_t_cell f_t_rows)
abbrev rm_X11_best : Room := { frames := 4, cells := 0, slots := 0, locals := 93 }
set_option maxHeartbeats 4000000 in
set_option maxRecDepth 100000 in
theorem c_X11_best (l : Launch) (D : va_G) (Y : ClassId × ClassId × ClassId) (a_t a_t_s a_t_past a_t_kept a_t_pad a_t_cell a_t_other a_t_rows a_t_read a_t_track a_t_lead a_t_distance a_t_line : Nat) (v_t_isKept : Int32) (v_t_pasts : Int32) (v_t_typed : Int32) (v_t_ends : Int32) (v_t_many : Int32) (v_t_spot : Int32) (f_t_s : Nat → Int32) (f_t_cell : Nat → Int32) (f_t_rows : Nat → Int32) (sz : Nat) (R : Int32 × Int32 × (Nat → Int32) × (Nat → Int32)) (hf : f_X11_best v_t_ends f_t_s f_t_cell f_t_rows = some R) : Met l yX11_best (ws_ yX11_best cX11_best 5 (some .int)) rm_X11_best (va_Pc [.ref a_t] (RW D Y sz [(a_t, .inr (8, [.ref a_t_s, .ref a_t_past, .ref a_t_kept, .int v_t_isKept, .int v_t_pasts, .ref a_t_pad, .int v_t_typed, .ref a_t_cell, .ref a_t_other, .ref a_t_rows, .int v_t_ends, .ref a_t_read, .int v_t_many, .int v_t_spot, .ref a_t_track, .ref a_t_lead, .ref a_t_distance, .ref a_t_line])), (a_t_s, .inl (Y.1, 41, .inl f_t_s)), (a_t_cell, .inl (Y.1, 7, .inl f_t_cell)), (a_t_rows, .inl (Y.1, 341, .inl f_t_rows))])) (QI D R.1 [(a_t, .inr (8, [.ref a_t_s, .ref a_t_past, .ref a_t_kept, .int v_t_isKept, .int v_t_pasts, .ref a_t_pad, .int v_t_typed, .ref a_t_cell, .ref a_t_other, .ref a_t_rows, .int R.2.1, .ref a_t_read, .int v_t_many, .int v_t_spot, .ref a_t_track, .ref a_t_lead, .ref a_t_distance, .ref a_t_line])), (a_t_s, .inl (Y.1, 41, .inl f_t_s)), (a_t_cell, .inl (Y.1, 7, .inl R.2.2.1)), (a_t_rows, .inl (Y.1, 341, .inl R.2.2.2))] (va_A [(a_t, .inr (8, [.ref a_t_s, .ref a_t_past, .ref a_t_kept, .int v_t_isKept, .int v_t_pasts, .ref a_t_pad, .int v_t_typed, .ref a_t_cell, .ref a_t_other, .ref a_t_rows, .int v_t_ends, .ref a_t_read, .int v_t_many, .int v_t_spot, .ref a_t_track, .ref a_t_lead, .ref a_t_distance, .ref a_t_line])), (a_t_s, .inl (Y.1, 41, .inl f_t_s)), (a_t_cell, .inl (Y.1, 7, .inl f_t_cell)), (a_t_rows, .inl (Y.1, 341, .inl f_t_rows))] sz)) 0 0 (va_A [(a_t, .inr (8, [.ref a_t_s, .ref a_t_past, .ref a_t_kept, .int v_t_isKept, .int v_t_pasts, .ref a_t_pad, .int v_t_typed, .ref a_t_cell, .ref a_t_other, .ref a_t_rows, .int v_t_ends, .ref a_t_read, .int v_t_many, .int v_t_spot, .ref a_t_track, .ref a_t_lead, .ref a_t_distance, .ref a_t_line])), (a_t_s, .inl (Y.1, 41, .inl f_t_s)), (a_t_cell, .inl (Y.1, 7, .inl f_t_cell)), (a_t_rows, .inl (Y.1, 341, .inl f_t_rows))] sz) := by
  refine rw_start (Qc := fun A => QI D R.1 [(a_t, .inr (8, [.ref a_t_s, .ref a_t_past, .ref a_t_kept, .int v_t_isKept, .int v_t_pasts, .ref a_t_pad, .int v_t_typed, .ref a_t_cell, .ref a_t_other, .ref a_t_rows, .int R.2.1, .ref a_t_read, .int v_t_many, .int v_t_spot, .ref a_t_track, .ref a_t_lead, .ref a_t_distance, .ref a_t_line])), (a_t_s, .inl (Y.1, 41, .inl f_t_s)), (a_t_cell, .inl (Y.1, 7, .inl R.2.2.1)), (a_t_rows, .inl (Y.1, 341, .inl R.2.2.2))] A) (by decide) (Nat.le_of_ble_eq_true rfl) ?_
  intro p e s m below meth c ls A hx hb hml hr hlocks hown hts hnm hA hP hD hS hE hl
  generalize hargs : List.toArray _ = args at hts ⊢
  have hown : s.vm.findClass RX11 = some m.cls := hown
  have E : EN p m c cX11_best 5 s args RX11 := ⟨hx, hb, hml, hown, hts⟩
  have hl : lv_has ls 5 [(0, .ref a_t)] := hl
  generalize hQ : MQ below _ args s 0 0 _ = Q
  unfold f_X11_best at hf
  have L6 : ∀ (n : Nat) (s1 : Int32) (s2 : Int32) (s3 : Int32) (v_t_ends : Int32) (f_t_cell : Nat → Int32) (f_t_rows : Nat → Int32) (H : Heap) (locs : List Loc) (ls : Array Slot), f_X11_best_L6 f_t_s n s1 s2 s3 v_t_ends f_t_cell f_t_rows = some R → va_P D vwCl [(a_t, .inr (8, [.ref a_t_s, .ref a_t_past, .ref a_t_kept, .int v_t_isKept, .int v_t_pasts, .ref a_t_pad, .int v_t_typed, .ref a_t_cell, .ref a_t_other, .ref a_t_rows, .int v_t_ends, .ref a_t_read, .int v_t_many, .int v_t_spot, .ref a_t_track, .ref a_t_lead, .ref a_t_distance, .ref a_t_line])), (a_t_s, .inl (Y.1, 41, .inl f_t_s)), (a_t_cell, .inl (Y.1, 7, .inl f_t_cell)), (a_t_rows, .inl (Y.1, 341, .inl f_t_rows))] H → va_D A [(a_t, .inr (8, [.ref a_t_s, .ref a_t_past, .ref a_t_kept, .int v_t_isKept, .int v_t_pasts, .ref a_t_pad, .int v_t_typed, .ref a_t_cell, .ref a_t_other, .ref a_t_rows, .int v_t_ends, .ref a_t_read, .int v_t_many, .int v_t_spot, .ref a_t_track, .ref a_t_lead, .ref a_t_distance, .ref a_t_line])), (a_t_s, .inl (Y.1, 41, .inl f_t_s)), (a_t_cell, .inl (Y.1, 7, .inl f_t_cell)), (a_t_rows, .inl (Y.1, 341, .inl f_t_rows))] → va_S A s.heap H locs → lv_has ls 5 [(0, .ref a_t), (1, .int s1), (2, .int s2), (3, .int s3)] → W p l e rm_X11_best s m args below meth c H locs 0 0 Q (F0 m 6 ls []) := by
    intro n
    induction n with
    | zero =>
      intro s1 s2 s3 v_t_ends f_t_cell f_t_rows H locs ls hf
      cases hf
    | succ n ih =>
      intro s1 s2 s3 v_t_ends f_t_cell f_t_rows H locs ls hf hP hD hS hl
      unfold f_X11_best_L6 at hf
      refine lv_iload_n hx hb dX11_best_6 rfl (lv_at hl 3 rfl) ?_
      refine lv_iconst (v := 3) hx hb dX11_best_7 (by decide) ?_
      refine lv_icmp_ge (tgt := 53) hx hb dX11_best_8 (by decide) (fun c1 => ?_) (fun c1 => ?_)
      · have hf := ite_t c1 hf
        refine lv_iload_n hx hb dX11_best_53 rfl (lv_at hl 1 rfl) ?_
        obtain rfl := Option.some.inj hf
        subst hQ
        exact en_i hx hb hr hlocks hP hD hS rfl dX11_best_54
      have hf := ite_f c1 hf
      refine lv_aload_n hx hb dX11_best_11 rfl (lv_at hl 0 rfl) ?_
      refine lv_iload_n hx hb dX11_best_12 rfl (lv_at hl 3 rfl) ?_
      obtain ⟨q2, h3, hf⟩ := bd_s hf
      refine af_v0 (wc := [(a_t, .inr (8, [.ref a_t_s, .ref a_t_past, .ref a_t_kept, .int v_t_isKept, .int v_t_pasts, .ref a_t_pad, .int v_t_typed, .ref a_t_cell, .ref a_t_other, .ref a_t_rows, .int v_t_ends, .ref a_t_read, .int v_t_many, .int v_t_spot, .ref a_t_track, .ref a_t_lead, .ref a_t_distance, .ref a_t_line])), (a_t_s, .inl (Y.1, 41, .inl f_t_s)), (a_t_cell, .inl (Y.1, 7, .inl f_t_cell)), (a_t_rows, .inl (Y.1, 341, .inl f_t_rows))]) (wr := []) (wn := [(a_t, .inr (8, [.ref a_t_s, .ref a_t_past, .ref a_t_kept, .int v_t_isKept, .int v_t_pasts, .ref a_t_pad, .int v_t_typed, .ref a_t_cell, .ref a_t_other, .ref a_t_rows, .int q2.1, .ref a_t_read, .int v_t_many, .int v_t_spot, .ref a_t_track, .ref a_t_lead, .ref a_t_distance, .ref a_t_line])), (a_t_s, .inl (Y.1, 41, .inl f_t_s)), (a_t_cell, .inl (Y.1, 7, .inl q2.2.1)), (a_t_rows, .inl (Y.1, 341, .inl q2.2.2))]) (run_V (As := [.int s3]) (rest := []) E (c_X11_ringsAll l D Y a_t a_t_s a_t_past a_t_kept a_t_pad a_t_cell a_t_other a_t_rows a_t_read a_t_track a_t_lead a_t_distance a_t_line v_t_isKept v_t_pasts v_t_typed v_t_ends v_t_many v_t_spot f_t_s f_t_cell f_t_rows s3 H.size q2 h3) qw902 qw904 qw32 qw76 qw905 rfl rfl hd_X11_ringsAll ⟨Nat.le_of_ble_eq_true rfl, Nat.le_of_ble_eq_true rfl⟩ (pre_rwV hP hD hE [0, 1, 2, 3] rfl (by decide) rfl (ci := 8) (q0 := 0) rfl rfl) rfl hl.1 rfl (Nat.le_of_ble_eq_true rfl) dX11_best_13 ⟨Nat.zero_le _, Nat.zero_le _⟩) hP hD hS hA [0, 1, 2, 3] [] [0, 1, 2, 3] rfl rfl (by decide) (by decide) rfl rfl (by decide) (fun H locs  hP hD hS => ?_)
      refine lv_aload_n hx hb dX11_best_16 rfl (lv_at hl 0 rfl) ?_
      obtain ⟨q4, h5, hf⟩ := bd_s hf
      refine af_oi (run_V (As := []) (rest := []) E (c_X11_unlike l D Y a_t a_t_s a_t_past a_t_kept a_t_pad a_t_cell a_t_other a_t_rows a_t_read a_t_track a_t_lead a_t_distance a_t_line v_t_isKept v_t_pasts v_t_typed q2.1 v_t_many v_t_spot q2.2.2 q4 h5) qw1010 qw1012 qw54 qw76 qw1013 rfl rfl hd_X11_unlike ⟨Nat.le_of_ble_eq_true rfl, Nat.le_of_ble_eq_true rfl⟩ (pre_roV hP hE [0, 3] rfl (ci := 8) (q0 := 0) rfl rfl) rfl hl.1 rfl (Nat.le_of_ble_eq_true rfl) dX11_best_17 ⟨Nat.zero_le _, Nat.zero_le _⟩) ?_
      refine lv_istore (lv' := [(4, .int q4), (0, .ref a_t), (1, .int s1), (2, .int s2), (3, .int s3)]) hx hb dX11_best_20 hl (by decide) rfl (fun ls hl => ?_)
      refine lv_iload hx hb dX11_best_22 (lv_at hl 0 rfl) ?_
      refine lv_iload_n hx hb dX11_best_24 rfl (lv_at hl 3 rfl) ?_
      refine mg (P := fun (w6 : Int32) => ∀ (ls : Array Slot), lv_has ls 5 [(0, .ref a_t), (2, .int s2), (3, .int s3), (4, .int q4)] → W p l e rm_X11_best s m args below meth c H locs 0 0 Q (F0 m 33 ls [.int w6])) hf (fun w6 hf ls hl => ?_) (fun hJ => ?_)
      · refine lv_istore_n (lv' := [(1, .int w6), (0, .ref a_t), (2, .int s2), (3, .int s3), (4, .int q4)]) hx hb dX11_best_33 rfl hl (by decide) rfl (fun ls hl => ?_)
        refine lv_iload hx hb dX11_best_34 (lv_at hl 4 rfl) ?_
        refine lv_iload_n hx hb dX11_best_36 rfl (lv_at hl 2 rfl) ?_
        refine mg (P := fun (w7 : Int32) => ∀ (ls : Array Slot), lv_has ls 5 [(0, .ref a_t), (1, .int w6), (3, .int s3)] → W p l e rm_X11_best s m args below meth c H locs 0 0 Q (F0 m 46 ls [.int w7])) hf (fun w7 hf ls hl => ?_) (fun hJ => ?_)
        · refine lv_istore_n (lv' := [(2, .int w7), (0, .ref a_t), (1, .int w6), (3, .int s3)]) hx hb dX11_best_46 rfl hl (by decide) rfl (fun ls hl => ?_)
          refine lv_iinc (v := (s3 + 1)) (lv' := [(3, .int (s3 + 1)), (2, .int w7), (0, .ref a_t), (1, .int w6)]) hx hb dX11_best_47 hl (k := 3) rfl rfl (by decide) rfl (fun ls hl => ?_)
          refine lv_goto (tgt := 6) hx hb dX11_best_50 (by decide) ?_
          exact ih _ _ _ _ _ _ _ _ _ hf hP hD hS (lv_sub hl [2, 3, 1, 0] rfl)
        refine lv_icmp_le (tgt := 45) hx hb dX11_best_37 (by decide) (fun c8 => ?_) (fun c8 => ?_)
        · have hf := nmi_t c8 hf
          refine lv_iload_n hx hb dX11_best_45 rfl (lv_at hl 2 rfl) ?_
          exact hJ _ (nm_b hf) _ (lv_sub hl [1, 0, 3] rfl)
        have hf := nmi_f c8 hf
        refine lv_iload hx hb dX11_best_40 (lv_at hl 4 rfl) ?_
        refine lv_goto (tgt := 46) hx hb dX11_best_42 (by decide) ?_
        exact hJ _ (nm_b hf) _ (lv_sub hl [1, 0, 3] rfl)
      refine lv_icmp_le (tgt := 32) hx hb dX11_best_25 (by decide) (fun c9 => ?_) (fun c9 => ?_)
      · have hf := nmi_t c9 hf
        refine lv_iload_n hx hb dX11_best_32 rfl (lv_at hl 2 rfl) ?_
        exact hJ _ (nm_b hf) _ (lv_sub hl [1, 3, 4, 0] rfl)
      have hf := nmi_f c9 hf
      refine lv_iload_n hx hb dX11_best_28 rfl (lv_at hl 4 rfl) ?_
      refine lv_goto (tgt := 33) hx hb dX11_best_29 (by decide) ?_
      exact hJ _ (nm_b hf) _ (lv_sub hl [1, 3, 4, 0] rfl)
  refine lv_iconst (v := 0) hx hb dX11_best_0 (by decide) ?_
  refine lv_istore_n (lv' := [(1, .int 0), (0, .ref a_t)]) hx hb dX11_best_1 rfl hl (by decide) rfl (fun ls hl => ?_)
  refine lv_iconst (v := 0) hx hb dX11_best_2 (by decide) ?_
  refine lv_istore_n (lv' := [(2, .int 0), (1, .int 0), (0, .ref a_t)]) hx hb dX11_best_3 rfl hl (by decide) rfl (fun ls hl => ?_)
  refine lv_iconst (v := 0) hx hb dX11_best_4 (by decide) ?_
  refine lv_istore_n (lv' := [(3, .int 0), (2, .int 0), (1, .int 0), (0, .ref a_t)]) hx hb dX11_best_5 rfl hl (by decide) rfl (fun ls hl => ?_)
  exact L6 _ _ _ _ _ _ _ _ _ _ hf hP hD hS (lv_sub hl [3, 2, 1, 0] rfl)

def f_X11_undo_L22 (v_t_pasts : Int32) (f_t_past : Nat → Int32) : Nat → Int32 → (Nat → Int32) → Option (Int32 × Int32 × (Nat → Int32))
  | 0, _, _ => none
  | n + 1, s1, f_t_s => (if (41 : Int32) ≤ s1 then some (v_t_pasts, v_t_pasts, f_t_s) else gd (inb (((41 : Int32) * v_t_pasts) + s1) 164) (gd (inb s1 41) ((f_X11_undo_L22 v_t_pasts f_t_past n (s1 + 1) (upd f_t_s s1.toNatClampNeg (f_t_past (((41 : Int32) * v_t_pasts) + s1).toNatClampNeg))))))
def f_X11_undo (v_t_pasts : Int32) (f_t_s : Nat → Int32) (f_t_past : Nat → Int32) : Option (Int32 × Int32 × (Nat → Int32)) :=
  (if v_t_pasts = 0 then some ((-2), v_t_pasts, f_t_s) else nm (v_t_pasts - 1) (fun (x2 : Int32) => (f_X11_undo_L22 x2 f_t_past fu 0 f_t_s)))
abbrev rm_X11_undo : Room := { frames := 1, cells := 0, slots := 0, locals := 24 }
set_option maxHeartbeats 4000000 in
set_option maxRecDepth 100000 in
theorem c_X11_undo (l : Launch) (D : va_G) (Y : ClassId × ClassId × ClassId) (a_t a_t_s a_t_past a_t_kept a_t_pad a_t_cell a_t_other a_t_rows a_t_read a_t_track a_t_lead a_t_distance a_t_line : Nat) (v_t_isKept : Int32) (v_t_pasts : Int32) (v_t_typed : Int32) (v_t_ends : Int32) (v_t_many : Int32) (v_t_spot : Int32) (f_t_s : Nat → Int32) (f_t_past : Nat → Int32) (sz : Nat) (R : Int32 × Int32 × (Nat → Int32)) (hf : f_X11_undo v_t_pasts f_t_s f_t_past = some R) : Met l yX11_undo (ws_ yX11_undo cX11_undo 2 (some .int)) rm_X11_undo (va_Pc [.ref a_t] (RW D Y sz [(a_t, .inr (8, [.ref a_t_s, .ref a_t_past, .ref a_t_kept, .int v_t_isKept, .int v_t_pasts, .ref a_t_pad, .int v_t_typed, .ref a_t_cell, .ref a_t_other, .ref a_t_rows, .int v_t_ends, .ref a_t_read, .int v_t_many, .int v_t_spot, .ref a_t_track, .ref a_t_lead, .ref a_t_distance, .ref a_t_line])), (a_t_s, .inl (Y.1, 41, .inl f_t_s)), (a_t_past, .inl (Y.1, 164, .inl f_t_past))])) (QI D R.1 [(a_t, .inr (8, [.ref a_t_s, .ref a_t_past, .ref a_t_kept, .int v_t_isKept, .int R.2.1, .ref a_t_pad, .int v_t_typed, .ref a_t_cell, .ref a_t_other, .ref a_t_rows, .int v_t_ends, .ref a_t_read, .int v_t_many, .int v_t_spot, .ref a_t_track, .ref a_t_lead, .ref a_t_distance, .ref a_t_line])), (a_t_s, .inl (Y.1, 41, .inl R.2.2)), (a_t_past, .inl (Y.1, 164, .inl f_t_past))] (va_A [(a_t, .inr (8, [.ref a_t_s, .ref a_t_past, .ref a_t_kept, .int v_t_isKept, .int v_t_pasts, .ref a_t_pad, .int v_t_typed, .ref a_t_cell, .ref a_t_other, .ref a_t_rows, .int v_t_ends, .ref a_t_read, .int v_t_many, .int v_t_spot, .ref a_t_track, .ref a_t_lead, .ref a_t_distance, .ref a_t_line])), (a_t_s, .inl (Y.1, 41, .inl f_t_s)), (a_t_past, .inl (Y.1, 164, .inl f_t_past))] sz)) 0 0 (va_A [(a_t, .inr (8, [.ref a_t_s, .ref a_t_past, .ref a_t_kept, .int v_t_isKept, .int v_t_pasts, .ref a_t_pad, .int v_t_typed, .ref a_t_cell, .ref a_t_other, .ref a_t_rows, .int v_t_ends, .ref a_t_read, .int v_t_many, .int v_t_spot, .ref a_t_track, .ref a_t_lead, .ref a_t_distance, .ref a_t_line])), (a_t_s, .inl (Y.1, 41, .inl f_t_s)), (a_t_past, .inl (Y.1, 164, .inl f_t_past))] sz) := by
  refine rw_start (Qc := fun A => QI D R.1 [(a_t, .inr (8, [.ref a_t_s, .ref a_t_past, .ref a_t_kept, .int v_t_isKept, .int R.2.1, .ref a_t_pad, .int v_t_typed, .ref a_t_cell, .ref a_t_other, .ref a_t_rows, .int v_t_ends, .ref a_t_read, .int v_t_many, .int v_t_spot, .ref a_t_track, .ref a_t_lead, .ref a_t_distance, .ref a_t_line])), (a_t_s, .inl (Y.1, 41, .inl R.2.2)), (a_t_past, .inl (Y.1, 164, .inl f_t_past))] A) (by decide) (Nat.le_of_ble_eq_true rfl) ?_
  intro p e s m below meth c ls A hx hb hml hr hlocks hown hts hnm hA hP hD hS hE hl
  generalize hargs : List.toArray _ = args at hts ⊢
  have hown : s.vm.findClass RX11 = some m.cls := hown
  have E : EN p m c cX11_undo 2 s args RX11 := ⟨hx, hb, hml, hown, hts⟩
  have hl : lv_has ls 2 [(0, .ref a_t)] := hl
  generalize hQ : MQ below _ args s 0 0 _ = Q
  unfold f_X11_undo at hf
  have L22 : ∀ (n : Nat) (v_t_pasts : Int32) (s1 : Int32) (f_t_s : Nat → Int32) (H : Heap) (locs : List Loc) (ls : Array Slot), f_X11_undo_L22 v_t_pasts f_t_past n s1 f_t_s = some R → va_P D vwCl [(a_t, .inr (8, [.ref a_t_s, .ref a_t_past, .ref a_t_kept, .int v_t_isKept, .int v_t_pasts, .ref a_t_pad, .int v_t_typed, .ref a_t_cell, .ref a_t_other, .ref a_t_rows, .int v_t_ends, .ref a_t_read, .int v_t_many, .int v_t_spot, .ref a_t_track, .ref a_t_lead, .ref a_t_distance, .ref a_t_line])), (a_t_s, .inl (Y.1, 41, .inl f_t_s)), (a_t_past, .inl (Y.1, 164, .inl f_t_past))] H → va_D A [(a_t, .inr (8, [.ref a_t_s, .ref a_t_past, .ref a_t_kept, .int v_t_isKept, .int v_t_pasts, .ref a_t_pad, .int v_t_typed, .ref a_t_cell, .ref a_t_other, .ref a_t_rows, .int v_t_ends, .ref a_t_read, .int v_t_many, .int v_t_spot, .ref a_t_track, .ref a_t_lead, .ref a_t_distance, .ref a_t_line])), (a_t_s, .inl (Y.1, 41, .inl f_t_s)), (a_t_past, .inl (Y.1, 164, .inl f_t_past))] → va_S A s.heap H locs → lv_has ls 2 [(0, .ref a_t), (1, .int s1)] → W p l e rm_X11_undo s m args below meth c H locs 0 0 Q (F0 m 22 ls []) := by
    intro n
    induction n with
    | zero =>
      intro v_t_pasts s1 f_t_s H locs ls hf
      cases hf
    | succ n ih =>
      intro v_t_pasts s1 f_t_s H locs ls hf hP hD hS hl
      unfold f_X11_undo_L22 at hf
      refine lv_iload_n hx hb dX11_undo_22 rfl (lv_at hl 1 rfl) ?_
      refine lv_bipush (v := 41) hx hb dX11_undo_23 (by decide) ?_
      refine lv_icmp_ge (tgt := 54) hx hb dX11_undo_25 (by decide) (fun c3 => ?_) (fun c3 => ?_)
      · have hf := ite_t c3 hf
        refine lv_aload_n hx hb dX11_undo_54 rfl (lv_at hl 0 rfl) ?_
        refine va_get (D := D) (ci := 8) (v := .int v_t_pasts) (C := RX11) (T := TX11) (N := 18) hx hb hts inX11 hown hE.1 hP 0 rfl rfl 4 (by decide) (hts _ qw765) (fun _ h9 => h9) rfl dX11_undo_55 ?_
        obtain rfl := Option.some.inj hf
        subst hQ
        exact en_i hx hb hr hlocks hP hD hS rfl dX11_undo_58
      have hf := ite_f c3 hf
      refine lv_aload_n hx hb dX11_undo_28 rfl (lv_at hl 0 rfl) ?_
      refine va_get (D := D) (ci := 8) (v := .ref a_t_s) (C := RX11) (T := TX11) (N := 18) hx hb hts inX11 hown hE.1 hP 0 rfl rfl 0 (by decide) (hts _ qw761) (fun _ h9 => h9) rfl dX11_undo_29 ?_
      refine lv_iload_n hx hb dX11_undo_32 rfl (lv_at hl 1 rfl) ?_
      refine lv_aload_n hx hb dX11_undo_33 rfl (lv_at hl 0 rfl) ?_
      refine va_get (D := D) (ci := 8) (v := .ref a_t_past) (C := RX11) (T := TX11) (N := 18) hx hb hts inX11 hown hE.1 hP 0 rfl rfl 1 (by decide) (hts _ qw762) (fun _ h9 => h9) rfl dX11_undo_34 ?_
      refine lv_bipush (v := 41) hx hb dX11_undo_37 (by decide) ?_
      refine lv_aload_n hx hb dX11_undo_39 rfl (lv_at hl 0 rfl) ?_
      refine va_get (D := D) (ci := 8) (v := .int v_t_pasts) (C := RX11) (T := TX11) (N := 18) hx hb hts inX11 hown hE.1 hP 0 rfl rfl 4 (by decide) (hts _ qw765) (fun _ h9 => h9) rfl dX11_undo_40 ?_
      refine lv_imul hx hb dX11_undo_43 ?_
      refine lv_iload_n hx hb dX11_undo_44 rfl (lv_at hl 1 rfl) ?_
      refine lv_iadd hx hb dX11_undo_45 ?_
      obtain ⟨g4, hf⟩ := gd_s hf
      refine va_iald hx hb hE.1 hP 2 0 rfl rfl (inb_in g4) dX11_undo_46 ?_
      obtain ⟨g5, hf⟩ := gd_s hf
      refine va_iast hx hb hE.1 hP hD hS 1 0 rfl rfl (inb_in g5) dX11_undo_47 (fun H locs hP hD hS => ?_)
      have hP : va_P D vwCl [(a_t, .inr (8, [.ref a_t_s, .ref a_t_past, .ref a_t_kept, .int v_t_isKept, .int v_t_pasts, .ref a_t_pad, .int v_t_typed, .ref a_t_cell, .ref a_t_other, .ref a_t_rows, .int v_t_ends, .ref a_t_read, .int v_t_many, .int v_t_spot, .ref a_t_track, .ref a_t_lead, .ref a_t_distance, .ref a_t_line])), (a_t_s, .inl (Y.1, 41, .inl (upd f_t_s s1.toNatClampNeg (f_t_past (((41 : Int32) * v_t_pasts) + s1).toNatClampNeg)))), (a_t_past, .inl (Y.1, 164, .inl f_t_past))] H := hP
      have hD : va_D A [(a_t, .inr (8, [.ref a_t_s, .ref a_t_past, .ref a_t_kept, .int v_t_isKept, .int v_t_pasts, .ref a_t_pad, .int v_t_typed, .ref a_t_cell, .ref a_t_other, .ref a_t_rows, .int v_t_ends, .ref a_t_read, .int v_t_many, .int v_t_spot, .ref a_t_track, .ref a_t_lead, .ref a_t_distance, .ref a_t_line])), (a_t_s, .inl (Y.1, 41, .inl (upd f_t_s s1.toNatClampNeg (f_t_past (((41 : Int32) * v_t_pasts) + s1).toNatClampNeg)))), (a_t_past, .inl (Y.1, 164, .inl f_t_past))] := hD
      refine lv_iinc (v := (s1 + 1)) (lv' := [(1, .int (s1 + 1)), (0, .ref a_t)]) hx hb dX11_undo_48 hl (k := 1) rfl rfl (by decide) rfl (fun ls hl => ?_)
      refine lv_goto (tgt := 22) hx hb dX11_undo_51 (by decide) ?_
      exact ih _ _ _ _ _ _ hf hP hD hS (lv_sub hl [1, 0] rfl)
  refine lv_aload_n hx hb dX11_undo_0 rfl (lv_at hl 0 rfl) ?_
  refine va_get (D := D) (ci := 8) (v := .int v_t_pasts) (C := RX11) (T := TX11) (N := 18) hx hb hts inX11 hown hE.1 hP 0 rfl rfl 4 (by decide) (hts _ qw765) (fun _ h9 => h9) rfl dX11_undo_1 ?_
  refine lv_if_ne (tgt := 10) hx hb dX11_undo_4 (by decide) (fun c1 => ?_) (fun c1 => ?_)
  · have hf := ite_f c1 hf
    refine lv_aload_n hx hb dX11_undo_10 rfl (lv_at hl 0 rfl) ?_
    refine lv_dup hx hb dX11_undo_11 rfl ?_
    refine va_get (D := D) (ci := 8) (v := .int v_t_pasts) (C := RX11) (T := TX11) (N := 18) hx hb hts inX11 hown hE.1 hP 0 rfl rfl 4 (by decide) (hts _ qw765) (fun _ h9 => h9) rfl dX11_undo_12 ?_
    refine lv_iconst (v := 1) hx hb dX11_undo_15 (by decide) ?_
    refine lv_isub hx hb dX11_undo_16 ?_
    refine nm_W hf (fun x2 hf => ?_)
    refine va_put (D := D) (ci := 8) (v := .int x2) (ty := .int) (C := RX11) (T := TX11) (N := 18) hx hb hts inX11 tyX11 tyX11_ok nmX11 hown hE.1 hP hD hS 0 rfl rfl 4 (by decide) (hts _ qw765) (fun _ h9 => h9) rfl (tyX11_ok 4 (by decide)) rfl rfl (Nat.le_of_ble_eq_true rfl) dX11_undo_17 (fun H locs hP hD hS => ?_)
    have hP : va_P D vwCl [(a_t, .inr (8, [.ref a_t_s, .ref a_t_past, .ref a_t_kept, .int v_t_isKept, .int x2, .ref a_t_pad, .int v_t_typed, .ref a_t_cell, .ref a_t_other, .ref a_t_rows, .int v_t_ends, .ref a_t_read, .int v_t_many, .int v_t_spot, .ref a_t_track, .ref a_t_lead, .ref a_t_distance, .ref a_t_line])), (a_t_s, .inl (Y.1, 41, .inl f_t_s)), (a_t_past, .inl (Y.1, 164, .inl f_t_past))] H := hP
    have hD : va_D A [(a_t, .inr (8, [.ref a_t_s, .ref a_t_past, .ref a_t_kept, .int v_t_isKept, .int x2, .ref a_t_pad, .int v_t_typed, .ref a_t_cell, .ref a_t_other, .ref a_t_rows, .int v_t_ends, .ref a_t_read, .int v_t_many, .int v_t_spot, .ref a_t_track, .ref a_t_lead, .ref a_t_distance, .ref a_t_line])), (a_t_s, .inl (Y.1, 41, .inl f_t_s)), (a_t_past, .inl (Y.1, 164, .inl f_t_past))] := hD
    refine lv_iconst (v := 0) hx hb dX11_undo_20 (by decide) ?_
    refine lv_istore_n (lv' := [(1, .int 0), (0, .ref a_t)]) hx hb dX11_undo_21 rfl hl (by decide) rfl (fun ls hl => ?_)
    exact L22 _ _ _ _ _ _ _ hf hP hD hS (lv_sub hl [1, 0] rfl)
  have hf := ite_t c1 hf
  refine lv_bipush (v := (-2)) hx hb dX11_undo_7 (by decide) ?_
  obtain rfl := Option.some.inj hf
  subst hQ
  exact en_i hx hb hr hlocks hP hD hS rfl dX11_undo_9

def f_X11_save_L7 (k : Int32 → (Nat → Int32) → Option (Int32 × Int32 × (Nat → Int32))) (v_t_isKept : Int32) (f_t_s : Nat → Int32) : Nat → Int32 → (Nat → Int32) → Option (Int32 × Int32 × (Nat → Int32))
  | 0, _, _ => none
  | n + 1, s1, f_t_kept => (if (41 : Int32) ≤ s1 then (k s1 f_t_kept) else gd (inb s1 41) ((f_X11_save_L7 k v_t_isKept f_t_s n (s1 + 1) (upd f_t_kept s1.toNatClampNeg (f_t_s s1.toNatClampNeg)))))
def f_X11_save (v_t_isKept : Int32) (f_t_s : Nat → Int32) (f_t_kept : Nat → Int32) : Option (Int32 × Int32 × (Nat → Int32)) :=
  (f_X11_save_L7 (fun (y3 : Int32) (y4 : Nat → Int32) => some ((f_t_s (2 : Int32).toNatClampNeg), 1, y4)) 1 f_t_s fu 0 f_t_kept)
abbrev rm_X11_save : Room := { frames := 1, cells := 0, slots := 0, locals := 24 }
set_option maxHeartbeats 4000000 in
set_option maxRecDepth 100000 in
theorem c_X11_save (l : Launch) (D : va_G) (Y : ClassId × ClassId × ClassId) (a_t a_t_s a_t_past a_t_kept a_t_pad a_t_cell a_t_other a_t_rows a_t_read a_t_track a_t_lead a_t_distance a_t_line : Nat) (v_t_isKept : Int32) (v_t_pasts : Int32) (v_t_typed : Int32) (v_t_ends : Int32) (v_t_many : Int32) (v_t_spot : Int32) (f_t_s : Nat → Int32) (f_t_kept : Nat → Int32) (sz : Nat) (R : Int32 × Int32 × (Nat → Int32)) (hf : f_X11_save v_t_isKept f_t_s f_t_kept = some R) : Met l yX11_save (ws_ yX11_save cX11_save 2 (some .int)) rm_X11_save (va_Pc [.ref a_t] (RW D Y sz [(a_t, .inr (8, [.ref a_t_s, .ref a_t_past, .ref a_t_kept, .int v_t_isKept, .int v_t_pasts, .ref a_t_pad, .int v_t_typed, .ref a_t_cell, .ref a_t_other, .ref a_t_rows, .int v_t_ends, .ref a_t_read, .int v_t_many, .int v_t_spot, .ref a_t_track, .ref a_t_lead, .ref a_t_distance, .ref a_t_line])), (a_t_s, .inl (Y.1, 41, .inl f_t_s)), (a_t_kept, .inl (Y.1, 41, .inl f_t_kept))])) (QI D R.1 [(a_t, .inr (8, [.ref a_t_s, .ref a_t_past, .ref a_t_kept, .int R.2.1, .int v_t_pasts, .ref a_t_pad, .int v_t_typed, .ref a_t_cell, .ref a_t_other, .ref a_t_rows, .int v_t_ends, .ref a_t_read, .int v_t_many, .int v_t_spot, .ref a_t_track, .ref a_t_lead, .ref a_t_distance, .ref a_t_line])), (a_t_s, .inl (Y.1, 41, .inl f_t_s)), (a_t_kept, .inl (Y.1, 41, .inl R.2.2))] (va_A [(a_t, .inr (8, [.ref a_t_s, .ref a_t_past, .ref a_t_kept, .int v_t_isKept, .int v_t_pasts, .ref a_t_pad, .int v_t_typed, .ref a_t_cell, .ref a_t_other, .ref a_t_rows, .int v_t_ends, .ref a_t_read, .int v_t_many, .int v_t_spot, .ref a_t_track, .ref a_t_lead, .ref a_t_distance, .ref a_t_line])), (a_t_s, .inl (Y.1, 41, .inl f_t_s)), (a_t_kept, .inl (Y.1, 41, .inl f_t_kept))] sz)) 0 0 (va_A [(a_t, .inr (8, [.ref a_t_s, .ref a_t_past, .ref a_t_kept, .int v_t_isKept, .int v_t_pasts, .ref a_t_pad, .int v_t_typed, .ref a_t_cell, .ref a_t_other, .ref a_t_rows, .int v_t_ends, .ref a_t_read, .int v_t_many, .int v_t_spot, .ref a_t_track, .ref a_t_lead, .ref a_t_distance, .ref a_t_line])), (a_t_s, .inl (Y.1, 41, .inl f_t_s)), (a_t_kept, .inl (Y.1, 41, .inl f_t_kept))] sz) := by
  refine rw_start (Qc := fun A => QI D R.1 [(a_t, .inr (8, [.ref a_t_s, .ref a_t_past, .ref a_t_kept, .int R.2.1, .int v_t_pasts, .ref a_t_pad, .int v_t_typed, .ref a_t_cell, .ref a_t_other, .ref a_t_rows, .int v_t_ends, .ref a_t_read, .int v_t_many, .int v_t_spot, .ref a_t_track, .ref a_t_lead, .ref a_t_distance, .ref a_t_line])), (a_t_s, .inl (Y.1, 41, .inl f_t_s)), (a_t_kept, .inl (Y.1, 41, .inl R.2.2))] A) (by decide) (Nat.le_of_ble_eq_true rfl) ?_
  intro p e s m below meth c ls A hx hb hml hr hlocks hown hts hnm hA hP hD hS hE hl
  generalize hargs : List.toArray _ = args at hts ⊢
  have hown : s.vm.findClass RX11 = some m.cls := hown
  have E : EN p m c cX11_save 2 s args RX11 := ⟨hx, hb, hml, hown, hts⟩
  have hl : lv_has ls 2 [(0, .ref a_t)] := hl
  generalize hQ : MQ below _ args s 0 0 _ = Q
  unfold f_X11_save at hf
  have L7 : ∀ (n : Nat) (k : Int32 → (Nat → Int32) → Option (Int32 × Int32 × (Nat → Int32))) (v_t_isKept : Int32) (s1 : Int32) (f_t_kept : Nat → Int32) (H : Heap) (locs : List Loc) (ls : Array Slot), f_X11_save_L7 k v_t_isKept f_t_s n s1 f_t_kept = some R → va_P D vwCl [(a_t, .inr (8, [.ref a_t_s, .ref a_t_past, .ref a_t_kept, .int v_t_isKept, .int v_t_pasts, .ref a_t_pad, .int v_t_typed, .ref a_t_cell, .ref a_t_other, .ref a_t_rows, .int v_t_ends, .ref a_t_read, .int v_t_many, .int v_t_spot, .ref a_t_track, .ref a_t_lead, .ref a_t_distance, .ref a_t_line])), (a_t_s, .inl (Y.1, 41, .inl f_t_s)), (a_t_kept, .inl (Y.1, 41, .inl f_t_kept))] H → va_D A [(a_t, .inr (8, [.ref a_t_s, .ref a_t_past, .ref a_t_kept, .int v_t_isKept, .int v_t_pasts, .ref a_t_pad, .int v_t_typed, .ref a_t_cell, .ref a_t_other, .ref a_t_rows, .int v_t_ends, .ref a_t_read, .int v_t_many, .int v_t_spot, .ref a_t_track, .ref a_t_lead, .ref a_t_distance, .ref a_t_line])), (a_t_s, .inl (Y.1, 41, .inl f_t_s)), (a_t_kept, .inl (Y.1, 41, .inl f_t_kept))] → va_S A s.heap H locs → lv_has ls 2 [(0, .ref a_t), (1, .int s1)] → (∀ (y_s1 : Int32) (y_f_t_kept : Nat → Int32) (H : Heap) (locs : List Loc) (ls : Array Slot), k y_s1 y_f_t_kept = some R → va_P D vwCl [(a_t, .inr (8, [.ref a_t_s, .ref a_t_past, .ref a_t_kept, .int v_t_isKept, .int v_t_pasts, .ref a_t_pad, .int v_t_typed, .ref a_t_cell, .ref a_t_other, .ref a_t_rows, .int v_t_ends, .ref a_t_read, .int v_t_many, .int v_t_spot, .ref a_t_track, .ref a_t_lead, .ref a_t_distance, .ref a_t_line])), (a_t_s, .inl (Y.1, 41, .inl f_t_s)), (a_t_kept, .inl (Y.1, 41, .inl y_f_t_kept))] H → va_D A [(a_t, .inr (8, [.ref a_t_s, .ref a_t_past, .ref a_t_kept, .int v_t_isKept, .int v_t_pasts, .ref a_t_pad, .int v_t_typed, .ref a_t_cell, .ref a_t_other, .ref a_t_rows, .int v_t_ends, .ref a_t_read, .int v_t_many, .int v_t_spot, .ref a_t_track, .ref a_t_lead, .ref a_t_distance, .ref a_t_line])), (a_t_s, .inl (Y.1, 41, .inl f_t_s)), (a_t_kept, .inl (Y.1, 41, .inl y_f_t_kept))] → va_S A s.heap H locs → lv_has ls 2 [(0, .ref a_t)] → W p l e rm_X11_save s m args below meth c H locs 0 0 Q (F0 m 31 ls [])) → W p l e rm_X11_save s m args below meth c H locs 0 0 Q (F0 m 7 ls []) := by
    intro n
    induction n with
    | zero =>
      intro k v_t_isKept s1 f_t_kept H locs ls hf
      cases hf
    | succ n ih =>
      intro k v_t_isKept s1 f_t_kept H locs ls hf hP hD hS hl hk
      unfold f_X11_save_L7 at hf
      refine lv_iload_n hx hb dX11_save_7 rfl (lv_at hl 1 rfl) ?_
      refine lv_bipush (v := 41) hx hb dX11_save_8 (by decide) ?_
      refine lv_icmp_ge (tgt := 31) hx hb dX11_save_10 (by decide) (fun c1 => ?_) (fun c1 => ?_)
      · have hf := ite_t c1 hf
        exact hk _ _ _ _ _ hf hP hD hS (lv_sub hl [0] rfl)
      have hf := ite_f c1 hf
      refine lv_aload_n hx hb dX11_save_13 rfl (lv_at hl 0 rfl) ?_
      refine va_get (D := D) (ci := 8) (v := .ref a_t_kept) (C := RX11) (T := TX11) (N := 18) hx hb hts inX11 hown hE.1 hP 0 rfl rfl 2 (by decide) (hts _ qw763) (fun _ h9 => h9) rfl dX11_save_14 ?_
      refine lv_iload_n hx hb dX11_save_17 rfl (lv_at hl 1 rfl) ?_
      refine lv_aload_n hx hb dX11_save_18 rfl (lv_at hl 0 rfl) ?_
      refine va_get (D := D) (ci := 8) (v := .ref a_t_s) (C := RX11) (T := TX11) (N := 18) hx hb hts inX11 hown hE.1 hP 0 rfl rfl 0 (by decide) (hts _ qw761) (fun _ h9 => h9) rfl dX11_save_19 ?_
      refine lv_iload_n hx hb dX11_save_22 rfl (lv_at hl 1 rfl) ?_
      obtain ⟨g2, hf⟩ := gd_s hf
      refine va_iald hx hb hE.1 hP 1 0 rfl rfl (inb_in g2) dX11_save_23 ?_
      refine va_iast hx hb hE.1 hP hD hS 2 0 rfl rfl (inb_in g2) dX11_save_24 (fun H locs hP hD hS => ?_)
      have hP : va_P D vwCl [(a_t, .inr (8, [.ref a_t_s, .ref a_t_past, .ref a_t_kept, .int v_t_isKept, .int v_t_pasts, .ref a_t_pad, .int v_t_typed, .ref a_t_cell, .ref a_t_other, .ref a_t_rows, .int v_t_ends, .ref a_t_read, .int v_t_many, .int v_t_spot, .ref a_t_track, .ref a_t_lead, .ref a_t_distance, .ref a_t_line])), (a_t_s, .inl (Y.1, 41, .inl f_t_s)), (a_t_kept, .inl (Y.1, 41, .inl (upd f_t_kept s1.toNatClampNeg (f_t_s s1.toNatClampNeg))))] H := hP
      have hD : va_D A [(a_t, .inr (8, [.ref a_t_s, .ref a_t_past, .ref a_t_kept, .int v_t_isKept, .int v_t_pasts, .ref a_t_pad, .int v_t_typed, .ref a_t_cell, .ref a_t_other, .ref a_t_rows, .int v_t_ends, .ref a_t_read, .int v_t_many, .int v_t_spot, .ref a_t_track, .ref a_t_lead, .ref a_t_distance, .ref a_t_line])), (a_t_s, .inl (Y.1, 41, .inl f_t_s)), (a_t_kept, .inl (Y.1, 41, .inl (upd f_t_kept s1.toNatClampNeg (f_t_s s1.toNatClampNeg))))] := hD
      refine lv_iinc (v := (s1 + 1)) (lv' := [(1, .int (s1 + 1)), (0, .ref a_t)]) hx hb dX11_save_25 hl (k := 1) rfl rfl (by decide) rfl (fun ls hl => ?_)
      refine lv_goto (tgt := 7) hx hb dX11_save_28 (by decide) ?_
      exact ih _ _ _ _ _ _ _ hf hP hD hS (lv_sub hl [1, 0] rfl) hk
  refine lv_aload_n hx hb dX11_save_0 rfl (lv_at hl 0 rfl) ?_
  refine lv_iconst (v := 1) hx hb dX11_save_1 (by decide) ?_
  refine va_put (D := D) (ci := 8) (v := .int 1) (ty := .boolean) (C := RX11) (T := TX11) (N := 18) hx hb hts inX11 tyX11 tyX11_ok nmX11 hown hE.1 hP hD hS 0 rfl rfl 3 (by decide) (hts _ qw764) (fun _ h9 => h9) rfl (tyX11_ok 3 (by decide)) (by decide) (by decide) (Nat.le_of_ble_eq_true rfl) dX11_save_2 (fun H locs hP hD hS => ?_)
  have hP : va_P D vwCl [(a_t, .inr (8, [.ref a_t_s, .ref a_t_past, .ref a_t_kept, .int 1, .int v_t_pasts, .ref a_t_pad, .int v_t_typed, .ref a_t_cell, .ref a_t_other, .ref a_t_rows, .int v_t_ends, .ref a_t_read, .int v_t_many, .int v_t_spot, .ref a_t_track, .ref a_t_lead, .ref a_t_distance, .ref a_t_line])), (a_t_s, .inl (Y.1, 41, .inl f_t_s)), (a_t_kept, .inl (Y.1, 41, .inl f_t_kept))] H := hP
  have hD : va_D A [(a_t, .inr (8, [.ref a_t_s, .ref a_t_past, .ref a_t_kept, .int 1, .int v_t_pasts, .ref a_t_pad, .int v_t_typed, .ref a_t_cell, .ref a_t_other, .ref a_t_rows, .int v_t_ends, .ref a_t_read, .int v_t_many, .int v_t_spot, .ref a_t_track, .ref a_t_lead, .ref a_t_distance, .ref a_t_line])), (a_t_s, .inl (Y.1, 41, .inl f_t_s)), (a_t_kept, .inl (Y.1, 41, .inl f_t_kept))] := hD
  refine lv_iconst (v := 0) hx hb dX11_save_5 (by decide) ?_
  refine lv_istore_n (lv' := [(1, .int 0), (0, .ref a_t)]) hx hb dX11_save_6 rfl hl (by decide) rfl (fun ls hl => ?_)
  refine L7 _ _ _ _ _ _ _ _ hf hP hD hS (lv_sub hl [1, 0] rfl) ?_
  intro y3 y4 H locs ls hf hP hD hS hl
  refine lv_aload_n hx hb dX11_save_31 rfl (lv_at hl 0 rfl) ?_
  refine va_get (D := D) (ci := 8) (v := .ref a_t_s) (C := RX11) (T := TX11) (N := 18) hx hb hts inX11 hown hE.1 hP 0 rfl rfl 0 (by decide) (hts _ qw761) (fun _ h9 => h9) rfl dX11_save_32 ?_
  refine lv_iconst (v := 2) hx hb dX11_save_35 (by decide) ?_
  refine va_iald hx hb hE.1 hP 1 0 rfl rfl (inb_in (by decide)) dX11_save_36 ?_
  obtain rfl := Option.some.inj hf
  subst hQ
  exact en_i hx hb hr hlocks hP hD hS rfl dX11_save_37

def f_X11_restore_L16 (k : Int32 → (Nat → Int32) → Option (Int32 × Int32 × (Nat → Int32) × (Nat → Int32))) (v_t_isKept : Int32) (v_t_pasts : Int32) (f_t_past : Nat → Int32) (f_t_kept : Nat → Int32) : Nat → Int32 → (Nat → Int32) → Option (Int32 × Int32 × (Nat → Int32) × (Nat → Int32))
  | 0, _, _ => none
  | n + 1, s1, f_t_s => (if (41 : Int32) ≤ s1 then (k s1 f_t_s) else gd (inb s1 41) ((f_X11_restore_L16 k v_t_isKept v_t_pasts f_t_past f_t_kept n (s1 + 1) (upd f_t_s s1.toNatClampNeg (f_t_kept s1.toNatClampNeg)))))
def f_X11_restore (v_t_isKept : Int32) (v_t_pasts : Int32) (f_t_s : Nat → Int32) (f_t_past : Nat → Int32) (f_t_kept : Nat → Int32) : Option (Int32 × Int32 × (Nat → Int32) × (Nat → Int32)) :=
  (if v_t_isKept = 0 then some ((-2), v_t_pasts, f_t_s, f_t_past) else bd (f_X11_changes v_t_pasts f_t_s f_t_past) (fun q2 => (f_X11_restore_L16 (fun (y6 : Int32) (y7 : Nat → Int32) => some ((y7 (2 : Int32).toNatClampNeg), q2.1, y7, q2.2)) v_t_isKept q2.1 q2.2 f_t_kept fu 0 f_t_s)))
abbrev rm_X11_restore : Room := { frames := 2, cells := 0, slots := 0, locals := 45 }
set_option maxHeartbeats 4000000 in
set_option maxRecDepth 100000 in
theorem c_X11_restore (l : Launch) (D : va_G) (Y : ClassId × ClassId × ClassId) (a_t a_t_s a_t_past a_t_kept a_t_pad a_t_cell a_t_other a_t_rows a_t_read a_t_track a_t_lead a_t_distance a_t_line : Nat) (v_t_isKept : Int32) (v_t_pasts : Int32) (v_t_typed : Int32) (v_t_ends : Int32) (v_t_many : Int32) (v_t_spot : Int32) (f_t_s : Nat → Int32) (f_t_past : Nat → Int32) (f_t_kept : Nat → Int32) (sz : Nat) (R : Int32 × Int32 × (Nat → Int32) × (Nat → Int32)) (hf : f_X11_restore v_t_isKept v_t_pasts f_t_s f_t_past f_t_kept = some R) : Met l yX11_restore (ws_ yX11_restore cX11_restore 2 (some .int)) rm_X11_restore (va_Pc [.ref a_t] (RW D Y sz [(a_t, .inr (8, [.ref a_t_s, .ref a_t_past, .ref a_t_kept, .int v_t_isKept, .int v_t_pasts, .ref a_t_pad, .int v_t_typed, .ref a_t_cell, .ref a_t_other, .ref a_t_rows, .int v_t_ends, .ref a_t_read, .int v_t_many, .int v_t_spot, .ref a_t_track, .ref a_t_lead, .ref a_t_distance, .ref a_t_line])), (a_t_s, .inl (Y.1, 41, .inl f_t_s)), (a_t_past, .inl (Y.1, 164, .inl f_t_past)), (a_t_kept, .inl (Y.1, 41, .inl f_t_kept))])) (QI D R.1 [(a_t, .inr (8, [.ref a_t_s, .ref a_t_past, .ref a_t_kept, .int v_t_isKept, .int R.2.1, .ref a_t_pad, .int v_t_typed, .ref a_t_cell, .ref a_t_other, .ref a_t_rows, .int v_t_ends, .ref a_t_read, .int v_t_many, .int v_t_spot, .ref a_t_track, .ref a_t_lead, .ref a_t_distance, .ref a_t_line])), (a_t_s, .inl (Y.1, 41, .inl R.2.2.1)), (a_t_past, .inl (Y.1, 164, .inl R.2.2.2)), (a_t_kept, .inl (Y.1, 41, .inl f_t_kept))] (va_A [(a_t, .inr (8, [.ref a_t_s, .ref a_t_past, .ref a_t_kept, .int v_t_isKept, .int v_t_pasts, .ref a_t_pad, .int v_t_typed, .ref a_t_cell, .ref a_t_other, .ref a_t_rows, .int v_t_ends, .ref a_t_read, .int v_t_many, .int v_t_spot, .ref a_t_track, .ref a_t_lead, .ref a_t_distance, .ref a_t_line])), (a_t_s, .inl (Y.1, 41, .inl f_t_s)), (a_t_past, .inl (Y.1, 164, .inl f_t_past)), (a_t_kept, .inl (Y.1, 41, .inl f_t_kept))] sz)) 0 0 (va_A [(a_t, .inr (8, [.ref a_t_s, .ref a_t_past, .ref a_t_kept, .int v_t_isKept, .int v_t_pasts, .ref a_t_pad, .int v_t_typed, .ref a_t_cell, .ref a_t_other, .ref a_t_rows, .int v_t_ends, .ref a_t_read, .int v_t_many, .int v_t_spot, .ref a_t_track, .ref a_t_lead, .ref a_t_distance, .ref a_t_line])), (a_t_s, .inl (Y.1, 41, .inl f_t_s)), (a_t_past, .inl (Y.1, 164, .inl f_t_past)), (a_t_kept, .inl (Y.1, 41, .inl f_t_kept))] sz) := by
  refine rw_start (Qc := fun A => QI D R.1 [(a_t, .inr (8, [.ref a_t_s, .ref a_t_past, .ref a_t_kept, .int v_t_isKept, .int R.2.1, .ref a_t_pad, .int v_t_typed, .ref a_t_cell, .ref a_t_other, .ref a_t_rows, .int v_t_ends, .ref a_t_read, .int v_t_many, .int v_t_spot, .ref a_t_track, .ref a_t_lead, .ref a_t_distance, .ref a_t_line])), (a_t_s, .inl (Y.1, 41, .inl R.2.2.1)), (a_t_past, .inl (Y.1, 164, .inl R.2.2.2)), (a_t_kept, .inl (Y.1, 41, .inl f_t_kept))] A) (by decide) (Nat.le_of_ble_eq_true rfl) ?_
  intro p e s m below meth c ls A hx hb hml hr hlocks hown hts hnm hA hP hD hS hE hl
  generalize hargs : List.toArray _ = args at hts ⊢
  have hown : s.vm.findClass RX11 = some m.cls := hown
  have E : EN p m c cX11_restore 2 s args RX11 := ⟨hx, hb, hml, hown, hts⟩
  have hl : lv_has ls 2 [(0, .ref a_t)] := hl
  generalize hQ : MQ below _ args s 0 0 _ = Q
  unfold f_X11_restore at hf
  have L16 : ∀ (n : Nat) (k : Int32 → (Nat → Int32) → Option (Int32 × Int32 × (Nat → Int32) × (Nat → Int32))) (v_t_pasts : Int32) (f_t_past : Nat → Int32) (s1 : Int32) (f_t_s : Nat → Int32) (H : Heap) (locs : List Loc) (ls : Array Slot), f_X11_restore_L16 k v_t_isKept v_t_pasts f_t_past f_t_kept n s1 f_t_s = some R → va_P D vwCl [(a_t, .inr (8, [.ref a_t_s, .ref a_t_past, .ref a_t_kept, .int v_t_isKept, .int v_t_pasts, .ref a_t_pad, .int v_t_typed, .ref a_t_cell, .ref a_t_other, .ref a_t_rows, .int v_t_ends, .ref a_t_read, .int v_t_many, .int v_t_spot, .ref a_t_track, .ref a_t_lead, .ref a_t_distance, .ref a_t_line])), (a_t_s, .inl (Y.1, 41, .inl f_t_s)), (a_t_past, .inl (Y.1, 164, .inl f_t_past)), (a_t_kept, .inl (Y.1, 41, .inl f_t_kept))] H → va_D A [(a_t, .inr (8, [.ref a_t_s, .ref a_t_past, .ref a_t_kept, .int v_t_isKept, .int v_t_pasts, .ref a_t_pad, .int v_t_typed, .ref a_t_cell, .ref a_t_other, .ref a_t_rows, .int v_t_ends, .ref a_t_read, .int v_t_many, .int v_t_spot, .ref a_t_track, .ref a_t_lead, .ref a_t_distance, .ref a_t_line])), (a_t_s, .inl (Y.1, 41, .inl f_t_s)), (a_t_past, .inl (Y.1, 164, .inl f_t_past)), (a_t_kept, .inl (Y.1, 41, .inl f_t_kept))] → va_S A s.heap H locs → lv_has ls 2 [(0, .ref a_t), (1, .int s1)] → (∀ (y_s1 : Int32) (y_f_t_s : Nat → Int32) (H : Heap) (locs : List Loc) (ls : Array Slot), k y_s1 y_f_t_s = some R → va_P D vwCl [(a_t, .inr (8, [.ref a_t_s, .ref a_t_past, .ref a_t_kept, .int v_t_isKept, .int v_t_pasts, .ref a_t_pad, .int v_t_typed, .ref a_t_cell, .ref a_t_other, .ref a_t_rows, .int v_t_ends, .ref a_t_read, .int v_t_many, .int v_t_spot, .ref a_t_track, .ref a_t_lead, .ref a_t_distance, .ref a_t_line])), (a_t_s, .inl (Y.1, 41, .inl y_f_t_s)), (a_t_past, .inl (Y.1, 164, .inl f_t_past)), (a_t_kept, .inl (Y.1, 41, .inl f_t_kept))] H → va_D A [(a_t, .inr (8, [.ref a_t_s, .ref a_t_past, .ref a_t_kept, .int v_t_isKept, .int v_t_pasts, .ref a_t_pad, .int v_t_typed, .ref a_t_cell, .ref a_t_other, .ref a_t_rows, .int v_t_ends, .ref a_t_read, .int v_t_many, .int v_t_spot, .ref a_t_track, .ref a_t_lead, .ref a_t_distance, .ref a_t_line])), (a_t_s, .inl (Y.1, 41, .inl y_f_t_s)), (a_t_past, .inl (Y.1, 164, .inl f_t_past)), (a_t_kept, .inl (Y.1, 41, .inl f_t_kept))] → va_S A s.heap H locs → lv_has ls 2 [(0, .ref a_t)] → W p l e rm_X11_restore s m args below meth c H locs 0 0 Q (F0 m 40 ls [])) → W p l e rm_X11_restore s m args below meth c H locs 0 0 Q (F0 m 16 ls []) := by
    intro n
    induction n with
    | zero =>
      intro k v_t_pasts f_t_past s1 f_t_s H locs ls hf
      cases hf
    | succ n ih =>
      intro k v_t_pasts f_t_past s1 f_t_s H locs ls hf hP hD hS hl hk
      unfold f_X11_restore_L16 at hf
      refine lv_iload_n hx hb dX11_restore_16 rfl (lv_at hl 1 rfl) ?_
      refine lv_bipush (v := 41) hx hb dX11_restore_17 (by decide) ?_
      refine lv_icmp_ge (tgt := 40) hx hb dX11_restore_19 (by decide) (fun c4 => ?_) (fun c4 => ?_)
      · have hf := ite_t c4 hf
        exact hk _ _ _ _ _ hf hP hD hS (lv_sub hl [0] rfl)
      have hf := ite_f c4 hf
      refine lv_aload_n hx hb dX11_restore_22 rfl (lv_at hl 0 rfl) ?_
      refine va_get (D := D) (ci := 8) (v := .ref a_t_s) (C := RX11) (T := TX11) (N := 18) hx hb hts inX11 hown hE.1 hP 0 rfl rfl 0 (by decide) (hts _ qw761) (fun _ h9 => h9) rfl dX11_restore_23 ?_
      refine lv_iload_n hx hb dX11_restore_26 rfl (lv_at hl 1 rfl) ?_
      refine lv_aload_n hx hb dX11_restore_27 rfl (lv_at hl 0 rfl) ?_
      refine va_get (D := D) (ci := 8) (v := .ref a_t_kept) (C := RX11) (T := TX11) (N := 18) hx hb hts inX11 hown hE.1 hP 0 rfl rfl 2 (by decide) (hts _ qw763) (fun _ h9 => h9) rfl dX11_restore_28 ?_
      refine lv_iload_n hx hb dX11_restore_31 rfl (lv_at hl 1 rfl) ?_
      obtain ⟨g5, hf⟩ := gd_s hf
      refine va_iald hx hb hE.1 hP 3 0 rfl rfl (inb_in g5) dX11_restore_32 ?_
      refine va_iast hx hb hE.1 hP hD hS 1 0 rfl rfl (inb_in g5) dX11_restore_33 (fun H locs hP hD hS => ?_)
      have hP : va_P D vwCl [(a_t, .inr (8, [.ref a_t_s, .ref a_t_past, .ref a_t_kept, .int v_t_isKept, .int v_t_pasts, .ref a_t_pad, .int v_t_typed, .ref a_t_cell, .ref a_t_other, .ref a_t_rows, .int v_t_ends, .ref a_t_read, .int v_t_many, .int v_t_spot, .ref a_t_track, .ref a_t_lead, .ref a_t_distance, .ref a_t_line])), (a_t_s, .inl (Y.1, 41, .inl (upd f_t_s s1.toNatClampNeg (f_t_kept s1.toNatClampNeg)))), (a_t_past, .inl (Y.1, 164, .inl f_t_past)), (a_t_kept, .inl (Y.1, 41, .inl f_t_kept))] H := hP
      have hD : va_D A [(a_t, .inr (8, [.ref a_t_s, .ref a_t_past, .ref a_t_kept, .int v_t_isKept, .int v_t_pasts, .ref a_t_pad, .int v_t_typed, .ref a_t_cell, .ref a_t_other, .ref a_t_rows, .int v_t_ends, .ref a_t_read, .int v_t_many, .int v_t_spot, .ref a_t_track, .ref a_t_lead, .ref a_t_distance, .ref a_t_line])), (a_t_s, .inl (Y.1, 41, .inl (upd f_t_s s1.toNatClampNeg (f_t_kept s1.toNatClampNeg)))), (a_t_past, .inl (Y.1, 164, .inl f_t_past)), (a_t_kept, .inl (Y.1, 41, .inl f_t_kept))] := hD
      refine lv_iinc (v := (s1 + 1)) (lv' := [(1, .int (s1 + 1)), (0, .ref a_t)]) hx hb dX11_restore_34 hl (k := 1) rfl rfl (by decide) rfl (fun ls hl => ?_)
      refine lv_goto (tgt := 16) hx hb dX11_restore_37 (by decide) ?_
      exact ih _ _ _ _ _ _ _ _ hf hP hD hS (lv_sub hl [1, 0] rfl) hk
  refine lv_aload_n hx hb dX11_restore_0 rfl (lv_at hl 0 rfl) ?_
  refine va_get (D := D) (ci := 8) (v := .int v_t_isKept) (C := RX11) (T := TX11) (N := 18) hx hb hts inX11 hown hE.1 hP 0 rfl rfl 3 (by decide) (hts _ qw764) (fun _ h9 => h9) rfl dX11_restore_1 ?_
  refine lv_if_ne (tgt := 10) hx hb dX11_restore_4 (by decide) (fun c1 => ?_) (fun c1 => ?_)
  · have hf := ite_f c1 hf
    refine lv_aload_n hx hb dX11_restore_10 rfl (lv_at hl 0 rfl) ?_
    obtain ⟨q2, h3, hf⟩ := bd_s hf
    refine af_v0 (wc := [(a_t, .inr (8, [.ref a_t_s, .ref a_t_past, .ref a_t_kept, .int v_t_isKept, .int v_t_pasts, .ref a_t_pad, .int v_t_typed, .ref a_t_cell, .ref a_t_other, .ref a_t_rows, .int v_t_ends, .ref a_t_read, .int v_t_many, .int v_t_spot, .ref a_t_track, .ref a_t_lead, .ref a_t_distance, .ref a_t_line])), (a_t_s, .inl (Y.1, 41, .inl f_t_s)), (a_t_past, .inl (Y.1, 164, .inl f_t_past))]) (wr := [(a_t_kept, .inl (Y.1, 41, .inl f_t_kept))]) (wn := [(a_t, .inr (8, [.ref a_t_s, .ref a_t_past, .ref a_t_kept, .int v_t_isKept, .int q2.1, .ref a_t_pad, .int v_t_typed, .ref a_t_cell, .ref a_t_other, .ref a_t_rows, .int v_t_ends, .ref a_t_read, .int v_t_many, .int v_t_spot, .ref a_t_track, .ref a_t_lead, .ref a_t_distance, .ref a_t_line])), (a_t_s, .inl (Y.1, 41, .inl f_t_s)), (a_t_past, .inl (Y.1, 164, .inl q2.2)), (a_t_kept, .inl (Y.1, 41, .inl f_t_kept))]) (run_V (As := []) (rest := []) E (c_X11_changes l D Y a_t a_t_s a_t_past a_t_kept a_t_pad a_t_cell a_t_other a_t_rows a_t_read a_t_track a_t_lead a_t_distance a_t_line v_t_isKept v_t_pasts v_t_typed v_t_ends v_t_many v_t_spot f_t_s f_t_past s.heap.size q2 h3) qw823 qw825 qw22 qw76 qw826 rfl rfl hd_X11_changes ⟨Nat.le_of_ble_eq_true rfl, Nat.le_of_ble_eq_true rfl⟩ (pre_rwV hP hD hE [0, 1, 2] rfl (by decide) rfl (ci := 8) (q0 := 0) rfl rfl) rfl hl.1 rfl (Nat.le_of_ble_eq_true rfl) dX11_restore_11 ⟨Nat.zero_le _, Nat.zero_le _⟩) hP hD hS hA [0, 1, 2] [3] [1, 2, 3, 0] rfl rfl (by decide) (by decide) rfl rfl (by decide) (fun H locs  hP hD hS => ?_)
    refine lv_iconst (v := 0) hx hb dX11_restore_14 (by decide) ?_
    refine lv_istore_n (lv' := [(1, .int 0), (0, .ref a_t)]) hx hb dX11_restore_15 rfl hl (by decide) rfl (fun ls hl => ?_)
    refine L16 _ _ _ _ _ _ _ _ _ hf hP hD hS (lv_sub hl [1, 0] rfl) ?_
    intro y6 y7 H locs ls hf hP hD hS hl
    refine lv_aload_n hx hb dX11_restore_40 rfl (lv_at hl 0 rfl) ?_
    refine va_get (D := D) (ci := 8) (v := .ref a_t_s) (C := RX11) (T := TX11) (N := 18) hx hb hts inX11 hown hE.1 hP 0 rfl rfl 0 (by decide) (hts _ qw761) (fun _ h9 => h9) rfl dX11_restore_41 ?_
    refine lv_iconst (v := 2) hx hb dX11_restore_44 (by decide) ?_
    refine va_iald hx hb hE.1 hP 1 0 rfl rfl (inb_in (by decide)) dX11_restore_45 ?_
    obtain rfl := Option.some.inj hf
    subst hQ
    exact en_i hx hb hr hlocks hP hD hS rfl dX11_restore_46
  have hf := ite_t c1 hf
  refine lv_bipush (v := (-2)) hx hb dX11_restore_7 (by decide) ?_
  obtain rfl := Option.some.inj hf
  subst hQ
  exact en_i hx hb hr hlocks hP hD hS rfl dX11_restore_9
