def f_X11_spreads (f_t_s : Nat → Int32) (f_t_cell : Nat → Int32) (f_t_other : Nat → Int32) (f_t_lead : Nat → Int32) (f_t_distance : Nat → Int32) (f_t_line : Nat → Int32) : Option ((Nat → Int32) × (Nat → Int32) × (Nat → Int32) × (Nat → Int32) × (Nat → Int32)) :=
  bd (f_X11_spreadsFrom 0 1 f_t_s f_t_cell f_t_other f_t_lead f_t_distance f_t_line) (fun q1 => some (q1.1, q1.2.1, q1.2.2.1, q1.2.2.2.1, q1.2.2.2.2))
abbrev rm_X11_spreads : Room := { frames := 4, cells := 0, slots := 0, locals := 100 }
set_option maxHeartbeats 4000000 in
set_option maxRecDepth 100000 in
theorem c_X11_spreads (l : Launch) (D : va_G) (Y : ClassId × ClassId × ClassId) (a_t a_t_s a_t_past a_t_kept a_t_pad a_t_cell a_t_other a_t_rows a_t_read a_t_track a_t_lead a_t_distance a_t_line : Nat) (v_t_isKept : Int32) (v_t_pasts : Int32) (v_t_typed : Int32) (v_t_ends : Int32) (v_t_many : Int32) (v_t_spot : Int32) (f_t_s : Nat → Int32) (f_t_cell : Nat → Int32) (f_t_other : Nat → Int32) (f_t_lead : Nat → Int32) (f_t_distance : Nat → Int32) (f_t_line : Nat → Int32) (sz : Nat) (R : (Nat → Int32) × (Nat → Int32) × (Nat → Int32) × (Nat → Int32) × (Nat → Int32)) (hf : f_X11_spreads f_t_s f_t_cell f_t_other f_t_lead f_t_distance f_t_line = some R) : Met l yX11_spreads (ws_ yX11_spreads cX11_spreads 1 none) rm_X11_spreads (va_Pc [.ref a_t] (RW D Y sz [(a_t, .inr (8, [.ref a_t_s, .ref a_t_past, .ref a_t_kept, .int v_t_isKept, .int v_t_pasts, .ref a_t_pad, .int v_t_typed, .ref a_t_cell, .ref a_t_other, .ref a_t_rows, .int v_t_ends, .ref a_t_read, .int v_t_many, .int v_t_spot, .ref a_t_track, .ref a_t_lead, .ref a_t_distance, .ref a_t_line])), (a_t_s, .inl (Y.1, 41, .inl f_t_s)), (a_t_cell, .inl (Y.1, 7, .inl f_t_cell)), (a_t_other, .inl (Y.1, 7, .inl f_t_other)), (a_t_lead, .inl (Y.1, 21, .inl f_t_lead)), (a_t_distance, .inl (Y.1, 5040, .inl f_t_distance)), (a_t_line, .inl (Y.1, 5040, .inl f_t_line))])) (QV D [(a_t, .inr (8, [.ref a_t_s, .ref a_t_past, .ref a_t_kept, .int v_t_isKept, .int v_t_pasts, .ref a_t_pad, .int v_t_typed, .ref a_t_cell, .ref a_t_other, .ref a_t_rows, .int v_t_ends, .ref a_t_read, .int v_t_many, .int v_t_spot, .ref a_t_track, .ref a_t_lead, .ref a_t_distance, .ref a_t_line])), (a_t_s, .inl (Y.1, 41, .inl f_t_s)), (a_t_cell, .inl (Y.1, 7, .inl R.1)), (a_t_other, .inl (Y.1, 7, .inl R.2.1)), (a_t_lead, .inl (Y.1, 21, .inl R.2.2.1)), (a_t_distance, .inl (Y.1, 5040, .inl R.2.2.2.1)), (a_t_line, .inl (Y.1, 5040, .inl R.2.2.2.2))] (va_A [(a_t, .inr (8, [.ref a_t_s, .ref a_t_past, .ref a_t_kept, .int v_t_isKept, .int v_t_pasts, .ref a_t_pad, .int v_t_typed, .ref a_t_cell, .ref a_t_other, .ref a_t_rows, .int v_t_ends, .ref a_t_read, .int v_t_many, .int v_t_spot, .ref a_t_track, .ref a_t_lead, .ref a_t_distance, .ref a_t_line])), (a_t_s, .inl (Y.1, 41, .inl f_t_s)), (a_t_cell, .inl (Y.1, 7, .inl f_t_cell)), (a_t_other, .inl (Y.1, 7, .inl f_t_other)), (a_t_lead, .inl (Y.1, 21, .inl f_t_lead)), (a_t_distance, .inl (Y.1, 5040, .inl f_t_distance)), (a_t_line, .inl (Y.1, 5040, .inl f_t_line))] sz)) 0 0 (va_A [(a_t, .inr (8, [.ref a_t_s, .ref a_t_past, .ref a_t_kept, .int v_t_isKept, .int v_t_pasts, .ref a_t_pad, .int v_t_typed, .ref a_t_cell, .ref a_t_other, .ref a_t_rows, .int v_t_ends, .ref a_t_read, .int v_t_many, .int v_t_spot, .ref a_t_track, .ref a_t_lead, .ref a_t_distance, .ref a_t_line])), (a_t_s, .inl (Y.1, 41, .inl f_t_s)), (a_t_cell, .inl (Y.1, 7, .inl f_t_cell)), (a_t_other, .inl (Y.1, 7, .inl f_t_other)), (a_t_lead, .inl (Y.1, 21, .inl f_t_lead)), (a_t_distance, .inl (Y.1, 5040, .inl f_t_distance)), (a_t_line, .inl (Y.1, 5040, .inl f_t_line))] sz) := by
  refine rw_start (Qc := fun A => QV D [(a_t, .inr (8, [.ref a_t_s, .ref a_t_past, .ref a_t_kept, .int v_t_isKept, .int v_t_pasts, .ref a_t_pad, .int v_t_typed, .ref a_t_cell, .ref a_t_other, .ref a_t_rows, .int v_t_ends, .ref a_t_read, .int v_t_many, .int v_t_spot, .ref a_t_track, .ref a_t_lead, .ref a_t_distance, .ref a_t_line])), (a_t_s, .inl (Y.1, 41, .inl f_t_s)), (a_t_cell, .inl (Y.1, 7, .inl R.1)), (a_t_other, .inl (Y.1, 7, .inl R.2.1)), (a_t_lead, .inl (Y.1, 21, .inl R.2.2.1)), (a_t_distance, .inl (Y.1, 5040, .inl R.2.2.2.1)), (a_t_line, .inl (Y.1, 5040, .inl R.2.2.2.2))] A) (by decide) (Nat.le_of_ble_eq_true rfl) ?_
  intro p e s m below meth c ls A hx hb hml hr hlocks hown hts hnm hA hP hD hS hE hl
  generalize hargs : List.toArray _ = args at hts ⊢
  have hown : s.vm.findClass RX11 = some m.cls := hown
  have E : EN p m c cX11_spreads 1 s args RX11 := ⟨hx, hb, hml, hown, hts⟩
  have hl : lv_has ls 1 [(0, .ref a_t)] := hl
  generalize hQ : MQ below _ args s 0 0 _ = Q
  unfold f_X11_spreads at hf
  refine lv_aload_n hx hb dX11_spreads_0 rfl (lv_at hl 0 rfl) ?_
  refine lv_iconst (v := 0) hx hb dX11_spreads_1 (by decide) ?_
  refine lv_iconst (v := 1) hx hb dX11_spreads_2 (by decide) ?_
  obtain ⟨q1, h2, hf⟩ := bd_s hf
  refine af_v0 (wc := [(a_t, .inr (8, [.ref a_t_s, .ref a_t_past, .ref a_t_kept, .int v_t_isKept, .int v_t_pasts, .ref a_t_pad, .int v_t_typed, .ref a_t_cell, .ref a_t_other, .ref a_t_rows, .int v_t_ends, .ref a_t_read, .int v_t_many, .int v_t_spot, .ref a_t_track, .ref a_t_lead, .ref a_t_distance, .ref a_t_line])), (a_t_s, .inl (Y.1, 41, .inl f_t_s)), (a_t_cell, .inl (Y.1, 7, .inl f_t_cell)), (a_t_other, .inl (Y.1, 7, .inl f_t_other)), (a_t_lead, .inl (Y.1, 21, .inl f_t_lead)), (a_t_distance, .inl (Y.1, 5040, .inl f_t_distance)), (a_t_line, .inl (Y.1, 5040, .inl f_t_line))]) (wr := []) (wn := [(a_t, .inr (8, [.ref a_t_s, .ref a_t_past, .ref a_t_kept, .int v_t_isKept, .int v_t_pasts, .ref a_t_pad, .int v_t_typed, .ref a_t_cell, .ref a_t_other, .ref a_t_rows, .int v_t_ends, .ref a_t_read, .int v_t_many, .int v_t_spot, .ref a_t_track, .ref a_t_lead, .ref a_t_distance, .ref a_t_line])), (a_t_s, .inl (Y.1, 41, .inl f_t_s)), (a_t_cell, .inl (Y.1, 7, .inl q1.1)), (a_t_other, .inl (Y.1, 7, .inl q1.2.1)), (a_t_lead, .inl (Y.1, 21, .inl q1.2.2.1)), (a_t_distance, .inl (Y.1, 5040, .inl q1.2.2.2.1)), (a_t_line, .inl (Y.1, 5040, .inl q1.2.2.2.2))]) (run_V (As := [.int 0, .int 1]) (rest := []) E (c_X11_spreadsFrom l D Y a_t a_t_s a_t_past a_t_kept a_t_pad a_t_cell a_t_other a_t_rows a_t_read a_t_track a_t_lead a_t_distance a_t_line v_t_isKept v_t_pasts v_t_typed v_t_ends v_t_many v_t_spot f_t_s f_t_cell f_t_other f_t_lead f_t_distance f_t_line 0 1 s.heap.size q1 h2) qw962 qw964 qw45 qw76 qw965 rfl rfl hd_X11_spreadsFrom ⟨Nat.le_of_ble_eq_true rfl, Nat.le_of_ble_eq_true rfl⟩ (pre_rwV hP hD hE [0, 1, 2, 3, 4, 5, 6] rfl (by decide) rfl (ci := 8) (q0 := 0) rfl rfl) rfl hl.1 rfl (Nat.le_of_ble_eq_true rfl) dX11_spreads_3 ⟨Nat.zero_le _, Nat.zero_le _⟩) hP hD hS hA [0, 1, 2, 3, 4, 5, 6] [] [0, 1, 2, 3, 4, 5, 6] rfl rfl (by decide) (by decide) rfl rfl (by decide) (fun H locs  hP hD hS => ?_)
  obtain rfl := Option.some.inj hf
  subst hQ
  exact en_v hx hb hr hlocks hP hD hS dX11_spreads_6

def f_X11_row (s1 : Int32) (s2 : Int32) (v_t_ends : Int32) (f_t_s : Nat → Int32) (f_t_cell : Nat → Int32) (f_t_other : Nat → Int32) (f_t_rows : Nat → Int32) (f_t_lead : Nat → Int32) (f_t_distance : Nat → Int32) (f_t_line : Nat → Int32) : Option (Int32 × Int32 × (Nat → Int32) × (Nat → Int32) × (Nat → Int32) × (Nat → Int32) × (Nat → Int32) × (Nat → Int32)) :=
  bd (f_X11_isRow s1 f_t_s) (fun q1 => (if q1 = 0 then some ((-1), v_t_ends, f_t_cell, f_t_other, f_t_rows, f_t_lead, f_t_distance, f_t_line) else (if (f_X11_in s2 0 5) = 0 then some ((-1), v_t_ends, f_t_cell, f_t_other, f_t_rows, f_t_lead, f_t_distance, f_t_line) else bd (f_X11_ringsAll (-4) v_t_ends f_t_s f_t_cell f_t_rows) (fun q7 => gd (inb s1 341) (nm (q7.2.2 s1.toNatClampNeg) (fun (x10 : Int32) => bd (f_X11_unrank x10 f_t_s q7.2.1) (fun q11 => (if s2 = 0 then bd (f_X11_signByPairs f_t_s q11) (fun q14 => some (q14, q7.1, q11, f_t_other, q7.2.2, f_t_lead, f_t_distance, f_t_line)) else (if s2 = 1 then bd (f_X11_signByRings f_t_s q11) (fun q17 => some (q17, q7.1, q11, f_t_other, q7.2.2, f_t_lead, f_t_distance, f_t_line)) else (if s2 = 2 then bd (f_X11_soundsWell f_t_s q11) (fun q20 => (if q20 = 0 then some (0, q7.1, q11, f_t_other, q7.2.2, f_t_lead, f_t_distance, f_t_line) else some (1, q7.1, q11, f_t_other, q7.2.2, f_t_lead, f_t_distance, f_t_line))) else (if s2 = 3 then bd (f_X11_atHome f_t_s q11) (fun q25 => some (q25, q7.1, q11, f_t_other, q7.2.2, f_t_lead, f_t_distance, f_t_line)) else (if s2 = 4 then bd (f_X11_firstSame s1 0 q7.2.2) (fun q28 => some (q28, q7.1, q11, f_t_other, q7.2.2, f_t_lead, f_t_distance, f_t_line)) else bd (f_X11_spreads f_t_s q11 f_t_other f_t_lead f_t_distance f_t_line) (fun q30 => gd (inb x10 5040) (some ((q30.2.2.2.1 x10.toNatClampNeg), q7.1, q30.1, q30.2.1, q7.2.2, q30.2.2.1, q30.2.2.2.1, q30.2.2.2.2)))))))))))))))
abbrev rm_X11_row : Room := { frames := 5, cells := 0, slots := 0, locals := 120 }
set_option maxHeartbeats 4000000 in
set_option maxRecDepth 100000 in
theorem c_X11_row (l : Launch) (D : va_G) (Y : ClassId × ClassId × ClassId) (a_t a_t_s a_t_past a_t_kept a_t_pad a_t_cell a_t_other a_t_rows a_t_read a_t_track a_t_lead a_t_distance a_t_line : Nat) (v_t_isKept : Int32) (v_t_pasts : Int32) (v_t_typed : Int32) (v_t_ends : Int32) (v_t_many : Int32) (v_t_spot : Int32) (f_t_s : Nat → Int32) (f_t_cell : Nat → Int32) (f_t_other : Nat → Int32) (f_t_rows : Nat → Int32) (f_t_lead : Nat → Int32) (f_t_distance : Nat → Int32) (f_t_line : Nat → Int32) (s1 : Int32) (s2 : Int32) (sz : Nat) (R : Int32 × Int32 × (Nat → Int32) × (Nat → Int32) × (Nat → Int32) × (Nat → Int32) × (Nat → Int32) × (Nat → Int32)) (hf : f_X11_row s1 s2 v_t_ends f_t_s f_t_cell f_t_other f_t_rows f_t_lead f_t_distance f_t_line = some R) : Met l yX11_row (ws_ yX11_row cX11_row 4 (some .int)) rm_X11_row (va_Pc [.ref a_t, .int s1, .int s2] (RW D Y sz [(a_t, .inr (8, [.ref a_t_s, .ref a_t_past, .ref a_t_kept, .int v_t_isKept, .int v_t_pasts, .ref a_t_pad, .int v_t_typed, .ref a_t_cell, .ref a_t_other, .ref a_t_rows, .int v_t_ends, .ref a_t_read, .int v_t_many, .int v_t_spot, .ref a_t_track, .ref a_t_lead, .ref a_t_distance, .ref a_t_line])), (a_t_s, .inl (Y.1, 41, .inl f_t_s)), (a_t_cell, .inl (Y.1, 7, .inl f_t_cell)), (a_t_other, .inl (Y.1, 7, .inl f_t_other)), (a_t_rows, .inl (Y.1, 341, .inl f_t_rows)), (a_t_lead, .inl (Y.1, 21, .inl f_t_lead)), (a_t_distance, .inl (Y.1, 5040, .inl f_t_distance)), (a_t_line, .inl (Y.1, 5040, .inl f_t_line))])) (QI D R.1 [(a_t, .inr (8, [.ref a_t_s, .ref a_t_past, .ref a_t_kept, .int v_t_isKept, .int v_t_pasts, .ref a_t_pad, .int v_t_typed, .ref a_t_cell, .ref a_t_other, .ref a_t_rows, .int R.2.1, .ref a_t_read, .int v_t_many, .int v_t_spot, .ref a_t_track, .ref a_t_lead, .ref a_t_distance, .ref a_t_line])), (a_t_s, .inl (Y.1, 41, .inl f_t_s)), (a_t_cell, .inl (Y.1, 7, .inl R.2.2.1)), (a_t_other, .inl (Y.1, 7, .inl R.2.2.2.1)), (a_t_rows, .inl (Y.1, 341, .inl R.2.2.2.2.1)), (a_t_lead, .inl (Y.1, 21, .inl R.2.2.2.2.2.1)), (a_t_distance, .inl (Y.1, 5040, .inl R.2.2.2.2.2.2.1)), (a_t_line, .inl (Y.1, 5040, .inl R.2.2.2.2.2.2.2))] (va_A [(a_t, .inr (8, [.ref a_t_s, .ref a_t_past, .ref a_t_kept, .int v_t_isKept, .int v_t_pasts, .ref a_t_pad, .int v_t_typed, .ref a_t_cell, .ref a_t_other, .ref a_t_rows, .int v_t_ends, .ref a_t_read, .int v_t_many, .int v_t_spot, .ref a_t_track, .ref a_t_lead, .ref a_t_distance, .ref a_t_line])), (a_t_s, .inl (Y.1, 41, .inl f_t_s)), (a_t_cell, .inl (Y.1, 7, .inl f_t_cell)), (a_t_other, .inl (Y.1, 7, .inl f_t_other)), (a_t_rows, .inl (Y.1, 341, .inl f_t_rows)), (a_t_lead, .inl (Y.1, 21, .inl f_t_lead)), (a_t_distance, .inl (Y.1, 5040, .inl f_t_distance)), (a_t_line, .inl (Y.1, 5040, .inl f_t_line))] sz)) 0 0 (va_A [(a_t, .inr (8, [.ref a_t_s, .ref a_t_past, .ref a_t_kept, .int v_t_isKept, .int v_t_pasts, .ref a_t_pad, .int v_t_typed, .ref a_t_cell, .ref a_t_other, .ref a_t_rows, .int v_t_ends, .ref a_t_read, .int v_t_many, .int v_t_spot, .ref a_t_track, .ref a_t_lead, .ref a_t_distance, .ref a_t_line])), (a_t_s, .inl (Y.1, 41, .inl f_t_s)), (a_t_cell, .inl (Y.1, 7, .inl f_t_cell)), (a_t_other, .inl (Y.1, 7, .inl f_t_other)), (a_t_rows, .inl (Y.1, 341, .inl f_t_rows)), (a_t_lead, .inl (Y.1, 21, .inl f_t_lead)), (a_t_distance, .inl (Y.1, 5040, .inl f_t_distance)), (a_t_line, .inl (Y.1, 5040, .inl f_t_line))] sz) := by
  refine rw_start (Qc := fun A => QI D R.1 [(a_t, .inr (8, [.ref a_t_s, .ref a_t_past, .ref a_t_kept, .int v_t_isKept, .int v_t_pasts, .ref a_t_pad, .int v_t_typed, .ref a_t_cell, .ref a_t_other, .ref a_t_rows, .int R.2.1, .ref a_t_read, .int v_t_many, .int v_t_spot, .ref a_t_track, .ref a_t_lead, .ref a_t_distance, .ref a_t_line])), (a_t_s, .inl (Y.1, 41, .inl f_t_s)), (a_t_cell, .inl (Y.1, 7, .inl R.2.2.1)), (a_t_other, .inl (Y.1, 7, .inl R.2.2.2.1)), (a_t_rows, .inl (Y.1, 341, .inl R.2.2.2.2.1)), (a_t_lead, .inl (Y.1, 21, .inl R.2.2.2.2.2.1)), (a_t_distance, .inl (Y.1, 5040, .inl R.2.2.2.2.2.2.1)), (a_t_line, .inl (Y.1, 5040, .inl R.2.2.2.2.2.2.2))] A) (by decide) (Nat.le_of_ble_eq_true rfl) ?_
  intro p e s m below meth c ls A hx hb hml hr hlocks hown hts hnm hA hP hD hS hE hl
  generalize hargs : List.toArray _ = args at hts ⊢
  have hown : s.vm.findClass RX11 = some m.cls := hown
  have E : EN p m c cX11_row 4 s args RX11 := ⟨hx, hb, hml, hown, hts⟩
  have hl : lv_has ls 4 [(0, .ref a_t), (1, .int s1), (2, .int s2)] := hl
  generalize hQ : MQ below _ args s 0 0 _ = Q
  unfold f_X11_row at hf
  refine lv_aload_n hx hb dX11_row_0 rfl (lv_at hl 0 rfl) ?_
  refine lv_iload_n hx hb dX11_row_1 rfl (lv_at hl 1 rfl) ?_
  obtain ⟨q1, h2, hf⟩ := bd_s hf
  refine af_oz (run_V (As := [.int s1]) (rest := []) E (c_X11_isRow l D Y a_t a_t_s a_t_past a_t_kept a_t_pad a_t_cell a_t_other a_t_rows a_t_read a_t_track a_t_lead a_t_distance a_t_line v_t_isKept v_t_pasts v_t_typed v_t_ends v_t_many v_t_spot f_t_s s1 q1 h2) qw890 qw892 qw29 qw76 qw893 rfl rfl hd_X11_isRow ⟨Nat.le_of_ble_eq_true rfl, Nat.le_of_ble_eq_true rfl⟩ (pre_roV hP hE [0, 1] rfl (ci := 8) (q0 := 0) rfl rfl) rfl hl.1 rfl (Nat.le_of_ble_eq_true rfl) dX11_row_2 ⟨Nat.zero_le _, Nat.zero_le _⟩) (fun z3 => ?_)
  refine lv_if_eq (tgt := 17) hx hb dX11_row_5 (by decide) (fun c4 => ?_) (fun c4 => ?_)
  · have hf := ite_t c4 hf
    refine lv_iconst (v := (-1)) hx hb dX11_row_17 (by decide) ?_
    obtain rfl := Option.some.inj hf
    subst hQ
    exact en_i hx hb hr hlocks hP hD hS rfl dX11_row_18
  have hf := ite_f c4 hf
  refine lv_iload_n hx hb dX11_row_8 rfl (lv_at hl 2 rfl) ?_
  refine lv_iconst (v := 0) hx hb dX11_row_9 (by decide) ?_
  refine lv_iconst (v := 5) hx hb dX11_row_10 (by decide) ?_
  refine af_oz (run_S (As := [.int s2, .int 0, .int 5]) (rest := []) E (c_X11_in l D Y s2 0 5 (f_X11_in s2 0 5) rfl) qw820 qw821 qw76 qw822 rfl rfl hd_X11_in ⟨Nat.le_of_ble_eq_true rfl, Nat.le_of_ble_eq_true rfl⟩ (pre_roS hP hE [] rfl) rfl hl.1 rfl (Nat.le_of_ble_eq_true rfl) dX11_row_11 ⟨Nat.zero_le _, Nat.zero_le _⟩) (fun z5 => ?_)
  refine lv_if_ne (tgt := 19) hx hb dX11_row_14 (by decide) (fun c6 => ?_) (fun c6 => ?_)
  · have hf := ite_f c6 hf
    refine lv_aload_n hx hb dX11_row_19 rfl (lv_at hl 0 rfl) ?_
    refine lv_bipush (v := (-4)) hx hb dX11_row_20 (by decide) ?_
    obtain ⟨q7, h8, hf⟩ := bd_s hf
    refine af_v0 (wc := [(a_t, .inr (8, [.ref a_t_s, .ref a_t_past, .ref a_t_kept, .int v_t_isKept, .int v_t_pasts, .ref a_t_pad, .int v_t_typed, .ref a_t_cell, .ref a_t_other, .ref a_t_rows, .int v_t_ends, .ref a_t_read, .int v_t_many, .int v_t_spot, .ref a_t_track, .ref a_t_lead, .ref a_t_distance, .ref a_t_line])), (a_t_s, .inl (Y.1, 41, .inl f_t_s)), (a_t_cell, .inl (Y.1, 7, .inl f_t_cell)), (a_t_rows, .inl (Y.1, 341, .inl f_t_rows))]) (wr := [(a_t_other, .inl (Y.1, 7, .inl f_t_other)), (a_t_lead, .inl (Y.1, 21, .inl f_t_lead)), (a_t_distance, .inl (Y.1, 5040, .inl f_t_distance)), (a_t_line, .inl (Y.1, 5040, .inl f_t_line))]) (wn := [(a_t, .inr (8, [.ref a_t_s, .ref a_t_past, .ref a_t_kept, .int v_t_isKept, .int v_t_pasts, .ref a_t_pad, .int v_t_typed, .ref a_t_cell, .ref a_t_other, .ref a_t_rows, .int q7.1, .ref a_t_read, .int v_t_many, .int v_t_spot, .ref a_t_track, .ref a_t_lead, .ref a_t_distance, .ref a_t_line])), (a_t_s, .inl (Y.1, 41, .inl f_t_s)), (a_t_cell, .inl (Y.1, 7, .inl q7.2.1)), (a_t_other, .inl (Y.1, 7, .inl f_t_other)), (a_t_rows, .inl (Y.1, 341, .inl q7.2.2)), (a_t_lead, .inl (Y.1, 21, .inl f_t_lead)), (a_t_distance, .inl (Y.1, 5040, .inl f_t_distance)), (a_t_line, .inl (Y.1, 5040, .inl f_t_line))]) (run_V (As := [.int (-4)]) (rest := []) E (c_X11_ringsAll l D Y a_t a_t_s a_t_past a_t_kept a_t_pad a_t_cell a_t_other a_t_rows a_t_read a_t_track a_t_lead a_t_distance a_t_line v_t_isKept v_t_pasts v_t_typed v_t_ends v_t_many v_t_spot f_t_s f_t_cell f_t_rows (-4) s.heap.size q7 h8) qw902 qw904 qw32 qw76 qw905 rfl rfl hd_X11_ringsAll ⟨Nat.le_of_ble_eq_true rfl, Nat.le_of_ble_eq_true rfl⟩ (pre_rwV hP hD hE [0, 1, 2, 4] rfl (by decide) rfl (ci := 8) (q0 := 0) rfl rfl) rfl hl.1 rfl (Nat.le_of_ble_eq_true rfl) dX11_row_22 ⟨Nat.zero_le _, Nat.zero_le _⟩) hP hD hS hA [0, 1, 2, 4] [3, 5, 6, 7] [4, 5, 6, 0, 7, 1, 2, 3] rfl rfl (by decide) (by decide) rfl rfl (by decide) (fun H locs  hP hD hS => ?_)
    refine lv_aload_n hx hb dX11_row_25 rfl (lv_at hl 0 rfl) ?_
    refine va_get (D := D) (ci := 8) (v := .ref a_t_rows) (C := RX11) (T := TX11) (N := 18) hx hb hts inX11 hown hE.1 hP 0 rfl rfl 9 (by decide) (hts _ qw770) (fun _ h9 => h9) rfl dX11_row_26 ?_
    refine lv_iload_n hx hb dX11_row_29 rfl (lv_at hl 1 rfl) ?_
    obtain ⟨g9, hf⟩ := gd_s hf
    refine va_iald hx hb hE.1 hP 4 0 rfl rfl (inb_in g9) dX11_row_30 ?_
    refine nm_W hf (fun x10 hf => ?_)
    refine lv_istore_n (lv' := [(3, .int x10), (0, .ref a_t), (1, .int s1), (2, .int s2)]) hx hb dX11_row_31 rfl hl (by decide) rfl (fun ls hl => ?_)
    refine lv_aload_n hx hb dX11_row_32 rfl (lv_at hl 1 rfl) ?_
    refine lv_iload_n hx hb dX11_row_33 rfl (lv_at hl 0 rfl) ?_
    obtain ⟨q11, h12, hf⟩ := bd_s hf
    refine af_v0 (wc := [(a_t, .inr (8, [.ref a_t_s, .ref a_t_past, .ref a_t_kept, .int v_t_isKept, .int v_t_pasts, .ref a_t_pad, .int v_t_typed, .ref a_t_cell, .ref a_t_other, .ref a_t_rows, .int q7.1, .ref a_t_read, .int v_t_many, .int v_t_spot, .ref a_t_track, .ref a_t_lead, .ref a_t_distance, .ref a_t_line])), (a_t_s, .inl (Y.1, 41, .inl f_t_s)), (a_t_cell, .inl (Y.1, 7, .inl q7.2.1))]) (wr := [(a_t_other, .inl (Y.1, 7, .inl f_t_other)), (a_t_rows, .inl (Y.1, 341, .inl q7.2.2)), (a_t_lead, .inl (Y.1, 21, .inl f_t_lead)), (a_t_distance, .inl (Y.1, 5040, .inl f_t_distance)), (a_t_line, .inl (Y.1, 5040, .inl f_t_line))]) (wn := [(a_t, .inr (8, [.ref a_t_s, .ref a_t_past, .ref a_t_kept, .int v_t_isKept, .int v_t_pasts, .ref a_t_pad, .int v_t_typed, .ref a_t_cell, .ref a_t_other, .ref a_t_rows, .int q7.1, .ref a_t_read, .int v_t_many, .int v_t_spot, .ref a_t_track, .ref a_t_lead, .ref a_t_distance, .ref a_t_line])), (a_t_s, .inl (Y.1, 41, .inl f_t_s)), (a_t_cell, .inl (Y.1, 7, .inl q11)), (a_t_other, .inl (Y.1, 7, .inl f_t_other)), (a_t_rows, .inl (Y.1, 341, .inl q7.2.2)), (a_t_lead, .inl (Y.1, 21, .inl f_t_lead)), (a_t_distance, .inl (Y.1, 5040, .inl f_t_distance)), (a_t_line, .inl (Y.1, 5040, .inl f_t_line))]) (run_V (As := [.int x10]) (rest := []) E (c_X11_unrank l D Y a_t a_t_s a_t_past a_t_kept a_t_pad a_t_cell a_t_other a_t_rows a_t_read a_t_track a_t_lead a_t_distance a_t_line v_t_isKept v_t_pasts v_t_typed q7.1 v_t_many v_t_spot f_t_s q7.2.1 x10 H.size q11 h12) qw926 qw928 qw38 qw76 qw929 rfl rfl hd_X11_unrank ⟨Nat.le_of_ble_eq_true rfl, Nat.le_of_ble_eq_true rfl⟩ (pre_rwV hP hD hE [0, 1, 2] rfl (by decide) rfl (ci := 8) (q0 := 0) rfl rfl) rfl hl.1 rfl (Nat.le_of_ble_eq_true rfl) dX11_row_34 ⟨Nat.zero_le _, Nat.zero_le _⟩) hP hD hS hA [0, 1, 2] [3, 4, 5, 6, 7] [5, 6, 7, 0, 1, 2, 3, 4] rfl rfl (by decide) (by decide) rfl rfl (by decide) (fun H locs  hP hD hS => ?_)
    refine lv_iload_n hx hb dX11_row_37 rfl (lv_at hl 3 rfl) ?_
    by_cases c13 : s2 = 0
    · have hf := ite_t c13 hf
      refine lv_tableIn (tgt := 72) (off := 34) hx hb dX11_row_38 (by rw [c13]; decide) (by rw [c13]; decide) (by rw [c13]; rfl) (by decide) ?_
      refine lv_aload_n hx hb dX11_row_72 rfl (lv_at hl 1 rfl) ?_
      obtain ⟨q14, h15, hf⟩ := bd_s hf
      refine af_oi (run_V (As := []) (rest := []) E (c_X11_signByPairs l D Y a_t a_t_s a_t_past a_t_kept a_t_pad a_t_cell a_t_other a_t_rows a_t_read a_t_track a_t_lead a_t_distance a_t_line v_t_isKept v_t_pasts v_t_typed q7.1 v_t_many v_t_spot f_t_s q11 q14 h15) qw938 qw940 qw39 qw76 qw941 rfl rfl hd_X11_signByPairs ⟨Nat.le_of_ble_eq_true rfl, Nat.le_of_ble_eq_true rfl⟩ (pre_roV hP hE [0, 1, 2] rfl (ci := 8) (q0 := 0) rfl rfl) rfl hl.1 rfl (Nat.le_of_ble_eq_true rfl) dX11_row_73 ⟨Nat.zero_le _, Nat.zero_le _⟩) ?_
      obtain rfl := Option.some.inj hf
      subst hQ
      exact en_i hx hb hr hlocks hP hD hS rfl dX11_row_76
    have hf := ite_f c13 hf
    by_cases c16 : s2 = 1
    · have hf := ite_t c16 hf
      refine lv_tableIn (tgt := 77) (off := 39) hx hb dX11_row_38 (by rw [c16]; decide) (by rw [c16]; decide) (by rw [c16]; rfl) (by decide) ?_
      refine lv_aload_n hx hb dX11_row_77 rfl (lv_at hl 1 rfl) ?_
      obtain ⟨q17, h18, hf⟩ := bd_s hf
      refine af_oi (run_V (As := []) (rest := []) E (c_X11_signByRings l D Y a_t a_t_s a_t_past a_t_kept a_t_pad a_t_cell a_t_other a_t_rows a_t_read a_t_track a_t_lead a_t_distance a_t_line v_t_isKept v_t_pasts v_t_typed q7.1 v_t_many v_t_spot f_t_s q11 q17 h18) qw942 qw944 qw40 qw76 qw945 rfl rfl hd_X11_signByRings ⟨Nat.le_of_ble_eq_true rfl, Nat.le_of_ble_eq_true rfl⟩ (pre_roV hP hE [0, 1, 2] rfl (ci := 8) (q0 := 0) rfl rfl) rfl hl.1 rfl (Nat.le_of_ble_eq_true rfl) dX11_row_78 ⟨Nat.zero_le _, Nat.zero_le _⟩) ?_
      obtain rfl := Option.some.inj hf
      subst hQ
      exact en_i hx hb hr hlocks hP hD hS rfl dX11_row_81
    have hf := ite_f c16 hf
    by_cases c19 : s2 = 2
    · have hf := ite_t c19 hf
      refine lv_tableIn (tgt := 82) (off := 44) hx hb dX11_row_38 (by rw [c19]; decide) (by rw [c19]; decide) (by rw [c19]; rfl) (by decide) ?_
      refine lv_aload_n hx hb dX11_row_82 rfl (lv_at hl 1 rfl) ?_
      obtain ⟨q20, h21, hf⟩ := bd_s hf
      refine af_oz (run_V (As := []) (rest := []) E (c_X11_soundsWell l D Y a_t a_t_s a_t_past a_t_kept a_t_pad a_t_cell a_t_other a_t_rows a_t_read a_t_track a_t_lead a_t_distance a_t_line v_t_isKept v_t_pasts v_t_typed q7.1 v_t_many v_t_spot f_t_s q11 q20 h21) qw946 qw948 qw41 qw76 qw949 rfl rfl hd_X11_soundsWell ⟨Nat.le_of_ble_eq_true rfl, Nat.le_of_ble_eq_true rfl⟩ (pre_roV hP hE [0, 1, 2] rfl (ci := 8) (q0 := 0) rfl rfl) rfl hl.1 rfl (Nat.le_of_ble_eq_true rfl) dX11_row_83 ⟨Nat.zero_le _, Nat.zero_le _⟩) (fun z22 => ?_)
      refine lv_if_eq (tgt := 93) hx hb dX11_row_86 (by decide) (fun c23 => ?_) (fun c23 => ?_)
      · have hf := ite_t c23 hf
        refine lv_iconst (v := 0) hx hb dX11_row_93 (by decide) ?_
        obtain rfl := Option.some.inj hf
        subst hQ
        exact en_i hx hb hr hlocks hP hD hS rfl dX11_row_94
      have hf := ite_f c23 hf
      refine lv_iconst (v := 1) hx hb dX11_row_89 (by decide) ?_
      refine lv_goto (tgt := 94) hx hb dX11_row_90 (by decide) ?_
      obtain rfl := Option.some.inj hf
      subst hQ
      exact en_i hx hb hr hlocks hP hD hS rfl dX11_row_94
    have hf := ite_f c19 hf
    by_cases c24 : s2 = 3
    · have hf := ite_t c24 hf
      refine lv_tableIn (tgt := 95) (off := 57) hx hb dX11_row_38 (by rw [c24]; decide) (by rw [c24]; decide) (by rw [c24]; rfl) (by decide) ?_
      refine lv_aload_n hx hb dX11_row_95 rfl (lv_at hl 1 rfl) ?_
      obtain ⟨q25, h26, hf⟩ := bd_s hf
      refine af_oi (run_V (As := []) (rest := []) E (c_X11_atHome l D Y a_t a_t_s a_t_past a_t_kept a_t_pad a_t_cell a_t_other a_t_rows a_t_read a_t_track a_t_lead a_t_distance a_t_line v_t_isKept v_t_pasts v_t_typed q7.1 v_t_many v_t_spot f_t_s q11 q25 h26) qw950 qw952 qw42 qw76 qw953 rfl rfl hd_X11_atHome ⟨Nat.le_of_ble_eq_true rfl, Nat.le_of_ble_eq_true rfl⟩ (pre_roV hP hE [0, 1, 2] rfl (ci := 8) (q0 := 0) rfl rfl) rfl hl.1 rfl (Nat.le_of_ble_eq_true rfl) dX11_row_96 ⟨Nat.zero_le _, Nat.zero_le _⟩) ?_
      obtain rfl := Option.some.inj hf
      subst hQ
      exact en_i hx hb hr hlocks hP hD hS rfl dX11_row_99
    have hf := ite_f c24 hf
    by_cases c27 : s2 = 4
    · have hf := ite_t c27 hf
      refine lv_tableIn (tgt := 100) (off := 62) hx hb dX11_row_38 (by rw [c27]; decide) (by rw [c27]; decide) (by rw [c27]; rfl) (by decide) ?_
      refine lv_aload_n hx hb dX11_row_100 rfl (lv_at hl 1 rfl) ?_
      refine lv_iload_n hx hb dX11_row_101 rfl (lv_at hl 2 rfl) ?_
      refine lv_iconst (v := 0) hx hb dX11_row_102 (by decide) ?_
      obtain ⟨q28, h29, hf⟩ := bd_s hf
      refine af_oi (run_V (As := [.int s1, .int 0]) (rest := []) E (c_X11_firstSame l D Y a_t a_t_s a_t_past a_t_kept a_t_pad a_t_cell a_t_other a_t_rows a_t_read a_t_track a_t_lead a_t_distance a_t_line v_t_isKept v_t_pasts v_t_typed q7.1 v_t_many v_t_spot q7.2.2 s1 0 q28 h29) qw954 qw956 qw43 qw76 qw957 rfl rfl hd_X11_firstSame ⟨Nat.le_of_ble_eq_true rfl, Nat.le_of_ble_eq_true rfl⟩ (pre_roV hP hE [0, 4] rfl (ci := 8) (q0 := 0) rfl rfl) rfl hl.1 rfl (Nat.le_of_ble_eq_true rfl) dX11_row_103 ⟨Nat.zero_le _, Nat.zero_le _⟩) ?_
      obtain rfl := Option.some.inj hf
      subst hQ
      exact en_i hx hb hr hlocks hP hD hS rfl dX11_row_106
    have hf := ite_f c27 hf
    have nc13 := sw_ne (k := 0) (z := 0) rfl c13
    have nc16 := sw_ne (k := 1) (z := 1) rfl c16
    have nc19 := sw_ne (k := 2) (z := 2) rfl c19
    have nc24 := sw_ne (k := 3) (z := 3) rfl c24
    have nc27 := sw_ne (k := 4) (z := 4) rfl c27
    refine lv_tableOut (tgt := 107) hx hb dX11_row_38 (by omega) (by decide) ?_
    refine lv_aload_n hx hb dX11_row_107 rfl (lv_at hl 1 rfl) ?_
    obtain ⟨q30, h31, hf⟩ := bd_s hf
    refine af_v0 (wc := [(a_t, .inr (8, [.ref a_t_s, .ref a_t_past, .ref a_t_kept, .int v_t_isKept, .int v_t_pasts, .ref a_t_pad, .int v_t_typed, .ref a_t_cell, .ref a_t_other, .ref a_t_rows, .int q7.1, .ref a_t_read, .int v_t_many, .int v_t_spot, .ref a_t_track, .ref a_t_lead, .ref a_t_distance, .ref a_t_line])), (a_t_s, .inl (Y.1, 41, .inl f_t_s)), (a_t_cell, .inl (Y.1, 7, .inl q11)), (a_t_other, .inl (Y.1, 7, .inl f_t_other)), (a_t_lead, .inl (Y.1, 21, .inl f_t_lead)), (a_t_distance, .inl (Y.1, 5040, .inl f_t_distance)), (a_t_line, .inl (Y.1, 5040, .inl f_t_line))]) (wr := [(a_t_rows, .inl (Y.1, 341, .inl q7.2.2))]) (wn := [(a_t, .inr (8, [.ref a_t_s, .ref a_t_past, .ref a_t_kept, .int v_t_isKept, .int v_t_pasts, .ref a_t_pad, .int v_t_typed, .ref a_t_cell, .ref a_t_other, .ref a_t_rows, .int q7.1, .ref a_t_read, .int v_t_many, .int v_t_spot, .ref a_t_track, .ref a_t_lead, .ref a_t_distance, .ref a_t_line])), (a_t_s, .inl (Y.1, 41, .inl f_t_s)), (a_t_cell, .inl (Y.1, 7, .inl q30.1)), (a_t_other, .inl (Y.1, 7, .inl q30.2.1)), (a_t_rows, .inl (Y.1, 341, .inl q7.2.2)), (a_t_lead, .inl (Y.1, 21, .inl q30.2.2.1)), (a_t_distance, .inl (Y.1, 5040, .inl q30.2.2.2.1)), (a_t_line, .inl (Y.1, 5040, .inl q30.2.2.2.2))]) (run_V (As := []) (rest := []) E (c_X11_spreads l D Y a_t a_t_s a_t_past a_t_kept a_t_pad a_t_cell a_t_other a_t_rows a_t_read a_t_track a_t_lead a_t_distance a_t_line v_t_isKept v_t_pasts v_t_typed q7.1 v_t_many v_t_spot f_t_s q11 f_t_other f_t_lead f_t_distance f_t_line H.size q30 h31) qw958 qw960 qw44 qw76 qw961 rfl rfl hd_X11_spreads ⟨Nat.le_of_ble_eq_true rfl, Nat.le_of_ble_eq_true rfl⟩ (pre_rwV hP hD hE [0, 1, 2, 3, 5, 6, 7] rfl (by decide) rfl (ci := 8) (q0 := 0) rfl rfl) rfl hl.1 rfl (Nat.le_of_ble_eq_true rfl) dX11_row_108 ⟨Nat.zero_le _, Nat.zero_le _⟩) hP hD hS hA [0, 1, 2, 3, 5, 6, 7] [4] [1, 2, 3, 4, 0, 5, 6, 7] rfl rfl (by decide) (by decide) rfl rfl (by decide) (fun H locs  hP hD hS => ?_)
    refine lv_aload_n hx hb dX11_row_111 rfl (lv_at hl 1 rfl) ?_
    refine va_get (D := D) (ci := 8) (v := .ref a_t_distance) (C := RX11) (T := TX11) (N := 18) hx hb hts inX11 hown hE.1 hP 0 rfl rfl 16 (by decide) (hts _ qw777) (fun _ h9 => h9) rfl dX11_row_112 ?_
    refine lv_iload_n hx hb dX11_row_115 rfl (lv_at hl 0 rfl) ?_
    obtain ⟨g32, hf⟩ := gd_s hf
    refine va_iald hx hb hE.1 hP 6 0 rfl rfl (inb_in g32) dX11_row_116 ?_
    obtain rfl := Option.some.inj hf
    subst hQ
    exact en_i hx hb hr hlocks hP hD hS rfl dX11_row_117
  have hf := ite_t c6 hf
  refine lv_iconst (v := (-1)) hx hb dX11_row_17 (by decide) ?_
  obtain rfl := Option.some.inj hf
  subst hQ
  exact en_i hx hb hr hlocks hP hD hS rfl dX11_row_18

def f_X11_follows_L28 (k : Int32 → (Nat → Int32) → Option (Int32 × (Nat → Int32) × (Nat → Int32) × (Nat → Int32))) (s1 : Int32) (s2 : Int32) (v_t_ends : Int32) (f_t_s : Nat → Int32) (f_t_cell : Nat → Int32) (f_t_rows : Nat → Int32) : Nat → Int32 → (Nat → Int32) → Option (Int32 × (Nat → Int32) × (Nat → Int32) × (Nat → Int32))
  | 0, _, _ => none
  | n + 1, s3, f_t_track => (if (f_t_s (0 : Int32).toNatClampNeg) ≤ s3 then (k s3 f_t_track) else gd (inb s3 7) ((if (f_t_cell s3.toNatClampNeg) = (s1 - 1) then gd (inb s2 341) ((f_X11_follows_L28 k s1 s2 v_t_ends f_t_s f_t_cell f_t_rows n (s3 + 1) (upd f_t_track s2.toNatClampNeg (s3 + 1)))) else gd (inb s2 341) ((f_X11_follows_L28 k s1 s2 v_t_ends f_t_s f_t_cell f_t_rows n (s3 + 1) (upd f_t_track s2.toNatClampNeg (f_t_track s2.toNatClampNeg)))))))
def f_X11_follows_L8 (s1 : Int32) (v_t_ends : Int32) (f_t_s : Nat → Int32) (f_t_rows : Nat → Int32) : Nat → Int32 → (Nat → Int32) → (Nat → Int32) → Option (Int32 × (Nat → Int32) × (Nat → Int32) × (Nat → Int32))
  | 0, _, _, _ => none
  | n + 1, s2, f_t_cell, f_t_track => (if v_t_ends < s2 then some (v_t_ends, f_t_cell, f_t_rows, f_t_track) else gd (inb s2 341) (bd (f_X11_unrank (f_t_rows s2.toNatClampNeg) f_t_s f_t_cell) (fun q5 => (f_X11_follows_L28 (fun (y12 : Int32) (y13 : Nat → Int32) => (f_X11_follows_L8 s1 v_t_ends f_t_s f_t_rows n (s2 + 1) q5 y13)) s1 s2 v_t_ends f_t_s q5 f_t_rows fu 0 f_t_track))))
def f_X11_follows (s1 : Int32) (v_t_ends : Int32) (f_t_s : Nat → Int32) (f_t_cell : Nat → Int32) (f_t_rows : Nat → Int32) (f_t_track : Nat → Int32) : Option (Int32 × (Nat → Int32) × (Nat → Int32) × (Nat → Int32)) :=
  bd (f_X11_ringsAll (-4) v_t_ends f_t_s f_t_cell f_t_rows) (fun q1 => (f_X11_follows_L8 s1 q1.1 f_t_s q1.2.2 fu 0 q1.2.1 f_t_track))
abbrev rm_X11_follows : Room := { frames := 4, cells := 0, slots := 0, locals := 93 }
set_option maxHeartbeats 4000000 in
set_option maxRecDepth 100000 in
theorem c_X11_follows (l : Launch) (D : va_G) (Y : ClassId × ClassId × ClassId) (a_t a_t_s a_t_past a_t_kept a_t_pad a_t_cell a_t_other a_t_rows a_t_read a_t_track a_t_lead a_t_distance a_t_line : Nat) (v_t_isKept : Int32) (v_t_pasts : Int32) (v_t_typed : Int32) (v_t_ends : Int32) (v_t_many : Int32) (v_t_spot : Int32) (f_t_s : Nat → Int32) (f_t_cell : Nat → Int32) (f_t_rows : Nat → Int32) (f_t_track : Nat → Int32) (s1 : Int32) (sz : Nat) (R : Int32 × (Nat → Int32) × (Nat → Int32) × (Nat → Int32)) (hf : f_X11_follows s1 v_t_ends f_t_s f_t_cell f_t_rows f_t_track = some R) : Met l yX11_follows (ws_ yX11_follows cX11_follows 4 none) rm_X11_follows (va_Pc [.ref a_t, .int s1] (RW D Y sz [(a_t, .inr (8, [.ref a_t_s, .ref a_t_past, .ref a_t_kept, .int v_t_isKept, .int v_t_pasts, .ref a_t_pad, .int v_t_typed, .ref a_t_cell, .ref a_t_other, .ref a_t_rows, .int v_t_ends, .ref a_t_read, .int v_t_many, .int v_t_spot, .ref a_t_track, .ref a_t_lead, .ref a_t_distance, .ref a_t_line])), (a_t_s, .inl (Y.1, 41, .inl f_t_s)), (a_t_cell, .inl (Y.1, 7, .inl f_t_cell)), (a_t_rows, .inl (Y.1, 341, .inl f_t_rows)), (a_t_track, .inl (Y.1, 341, .inl f_t_track))])) (QV D [(a_t, .inr (8, [.ref a_t_s, .ref a_t_past, .ref a_t_kept, .int v_t_isKept, .int v_t_pasts, .ref a_t_pad, .int v_t_typed, .ref a_t_cell, .ref a_t_other, .ref a_t_rows, .int R.1, .ref a_t_read, .int v_t_many, .int v_t_spot, .ref a_t_track, .ref a_t_lead, .ref a_t_distance, .ref a_t_line])), (a_t_s, .inl (Y.1, 41, .inl f_t_s)), (a_t_cell, .inl (Y.1, 7, .inl R.2.1)), (a_t_rows, .inl (Y.1, 341, .inl R.2.2.1)), (a_t_track, .inl (Y.1, 341, .inl R.2.2.2))] (va_A [(a_t, .inr (8, [.ref a_t_s, .ref a_t_past, .ref a_t_kept, .int v_t_isKept, .int v_t_pasts, .ref a_t_pad, .int v_t_typed, .ref a_t_cell, .ref a_t_other, .ref a_t_rows, .int v_t_ends, .ref a_t_read, .int v_t_many, .int v_t_spot, .ref a_t_track, .ref a_t_lead, .ref a_t_distance, .ref a_t_line])), (a_t_s, .inl (Y.1, 41, .inl f_t_s)), (a_t_cell, .inl (Y.1, 7, .inl f_t_cell)), (a_t_rows, .inl (Y.1, 341, .inl f_t_rows)), (a_t_track, .inl (Y.1, 341, .inl f_t_track))] sz)) 0 0 (va_A [(a_t, .inr (8, [.ref a_t_s, .ref a_t_past, .ref a_t_kept, .int v_t_isKept, .int v_t_pasts, .ref a_t_pad, .int v_t_typed, .ref a_t_cell, .ref a_t_other, .ref a_t_rows, .int v_t_ends, .ref a_t_read, .int v_t_many, .int v_t_spot, .ref a_t_track, .ref a_t_lead, .ref a_t_distance, .ref a_t_line])), (a_t_s, .inl (Y.1, 41, .inl f_t_s)), (a_t_cell, .inl (Y.1, 7, .inl f_t_cell)), (a_t_rows, .inl (Y.1, 341, .inl f_t_rows)), (a_t_track, .inl (Y.1, 341, .inl f_t_track))] sz) := by
  refine rw_start (Qc := fun A => QV D [(a_t, .inr (8, [.ref a_t_s, .ref a_t_past, .ref a_t_kept, .int v_t_isKept, .int v_t_pasts, .ref a_t_pad, .int v_t_typed, .ref a_t_cell, .ref a_t_other, .ref a_t_rows, .int R.1, .ref a_t_read, .int v_t_many, .int v_t_spot, .ref a_t_track, .ref a_t_lead, .ref a_t_distance, .ref a_t_line])), (a_t_s, .inl (Y.1, 41, .inl f_t_s)), (a_t_cell, .inl (Y.1, 7, .inl R.2.1)), (a_t_rows, .inl (Y.1, 341, .inl R.2.2.1)), (a_t_track, .inl (Y.1, 341, .inl R.2.2.2))] A) (by decide) (Nat.le_of_ble_eq_true rfl) ?_
  intro p e s m below meth c ls A hx hb hml hr hlocks hown hts hnm hA hP hD hS hE hl
  generalize hargs : List.toArray _ = args at hts ⊢
  have hown : s.vm.findClass RX11 = some m.cls := hown
  have E : EN p m c cX11_follows 4 s args RX11 := ⟨hx, hb, hml, hown, hts⟩
  have hl : lv_has ls 4 [(0, .ref a_t), (1, .int s1)] := hl
  generalize hQ : MQ below _ args s 0 0 _ = Q
  unfold f_X11_follows at hf
  have L28 : ∀ (n : Nat) (k : Int32 → (Nat → Int32) → Option (Int32 × (Nat → Int32) × (Nat → Int32) × (Nat → Int32))) (s1 : Int32) (s2 : Int32) (v_t_ends : Int32) (f_t_cell : Nat → Int32) (f_t_rows : Nat → Int32) (s3 : Int32) (f_t_track : Nat → Int32) (H : Heap) (locs : List Loc) (ls : Array Slot), f_X11_follows_L28 k s1 s2 v_t_ends f_t_s f_t_cell f_t_rows n s3 f_t_track = some R → va_P D vwCl [(a_t, .inr (8, [.ref a_t_s, .ref a_t_past, .ref a_t_kept, .int v_t_isKept, .int v_t_pasts, .ref a_t_pad, .int v_t_typed, .ref a_t_cell, .ref a_t_other, .ref a_t_rows, .int v_t_ends, .ref a_t_read, .int v_t_many, .int v_t_spot, .ref a_t_track, .ref a_t_lead, .ref a_t_distance, .ref a_t_line])), (a_t_s, .inl (Y.1, 41, .inl f_t_s)), (a_t_cell, .inl (Y.1, 7, .inl f_t_cell)), (a_t_rows, .inl (Y.1, 341, .inl f_t_rows)), (a_t_track, .inl (Y.1, 341, .inl f_t_track))] H → va_D A [(a_t, .inr (8, [.ref a_t_s, .ref a_t_past, .ref a_t_kept, .int v_t_isKept, .int v_t_pasts, .ref a_t_pad, .int v_t_typed, .ref a_t_cell, .ref a_t_other, .ref a_t_rows, .int v_t_ends, .ref a_t_read, .int v_t_many, .int v_t_spot, .ref a_t_track, .ref a_t_lead, .ref a_t_distance, .ref a_t_line])), (a_t_s, .inl (Y.1, 41, .inl f_t_s)), (a_t_cell, .inl (Y.1, 7, .inl f_t_cell)), (a_t_rows, .inl (Y.1, 341, .inl f_t_rows)), (a_t_track, .inl (Y.1, 341, .inl f_t_track))] → va_S A s.heap H locs → lv_has ls 4 [(0, .ref a_t), (1, .int s1), (2, .int s2), (3, .int s3)] → (∀ (y_s3 : Int32) (y_f_t_track : Nat → Int32) (H : Heap) (locs : List Loc) (ls : Array Slot), k y_s3 y_f_t_track = some R → va_P D vwCl [(a_t, .inr (8, [.ref a_t_s, .ref a_t_past, .ref a_t_kept, .int v_t_isKept, .int v_t_pasts, .ref a_t_pad, .int v_t_typed, .ref a_t_cell, .ref a_t_other, .ref a_t_rows, .int v_t_ends, .ref a_t_read, .int v_t_many, .int v_t_spot, .ref a_t_track, .ref a_t_lead, .ref a_t_distance, .ref a_t_line])), (a_t_s, .inl (Y.1, 41, .inl f_t_s)), (a_t_cell, .inl (Y.1, 7, .inl f_t_cell)), (a_t_rows, .inl (Y.1, 341, .inl f_t_rows)), (a_t_track, .inl (Y.1, 341, .inl y_f_t_track))] H → va_D A [(a_t, .inr (8, [.ref a_t_s, .ref a_t_past, .ref a_t_kept, .int v_t_isKept, .int v_t_pasts, .ref a_t_pad, .int v_t_typed, .ref a_t_cell, .ref a_t_other, .ref a_t_rows, .int v_t_ends, .ref a_t_read, .int v_t_many, .int v_t_spot, .ref a_t_track, .ref a_t_lead, .ref a_t_distance, .ref a_t_line])), (a_t_s, .inl (Y.1, 41, .inl f_t_s)), (a_t_cell, .inl (Y.1, 7, .inl f_t_cell)), (a_t_rows, .inl (Y.1, 341, .inl f_t_rows)), (a_t_track, .inl (Y.1, 341, .inl y_f_t_track))] → va_S A s.heap H locs → lv_has ls 4 [(0, .ref a_t), (1, .int s1), (2, .int s2)] → W p l e rm_X11_follows s m args below meth c H locs 0 0 Q (F0 m 74 ls [])) → W p l e rm_X11_follows s m args below meth c H locs 0 0 Q (F0 m 28 ls []) := by
    intro n
    induction n with
    | zero =>
      intro k s1 s2 v_t_ends f_t_cell f_t_rows s3 f_t_track H locs ls hf
      cases hf
    | succ n ih =>
      intro k s1 s2 v_t_ends f_t_cell f_t_rows s3 f_t_track H locs ls hf hP hD hS hl hk
      unfold f_X11_follows_L28 at hf
      refine lv_iload_n hx hb dX11_follows_28 rfl (lv_at hl 3 rfl) ?_
      refine lv_aload_n hx hb dX11_follows_29 rfl (lv_at hl 0 rfl) ?_
      refine va_get (D := D) (ci := 8) (v := .ref a_t_s) (C := RX11) (T := TX11) (N := 18) hx hb hts inX11 hown hE.1 hP 0 rfl rfl 0 (by decide) (hts _ qw761) (fun _ h9 => h9) rfl dX11_follows_30 ?_
      refine lv_iconst (v := 0) hx hb dX11_follows_33 (by decide) ?_
      refine va_iald hx hb hE.1 hP 1 0 rfl rfl (inb_in (by decide)) dX11_follows_34 ?_
      refine lv_icmp_ge (tgt := 74) hx hb dX11_follows_35 (by decide) (fun c7 => ?_) (fun c7 => ?_)
      · have hf := ite_t c7 hf
        exact hk _ _ _ _ _ hf hP hD hS (lv_sub hl [0, 1, 2] rfl)
      have hf := ite_f c7 hf
      refine lv_aload_n hx hb dX11_follows_38 rfl (lv_at hl 0 rfl) ?_
      refine va_get (D := D) (ci := 8) (v := .ref a_t_track) (C := RX11) (T := TX11) (N := 18) hx hb hts inX11 hown hE.1 hP 0 rfl rfl 14 (by decide) (hts _ qw775) (fun _ h9 => h9) rfl dX11_follows_39 ?_
      refine lv_iload_n hx hb dX11_follows_42 rfl (lv_at hl 2 rfl) ?_
      refine lv_aload_n hx hb dX11_follows_43 rfl (lv_at hl 0 rfl) ?_
      refine va_get (D := D) (ci := 8) (v := .ref a_t_cell) (C := RX11) (T := TX11) (N := 18) hx hb hts inX11 hown hE.1 hP 0 rfl rfl 7 (by decide) (hts _ qw768) (fun _ h9 => h9) rfl dX11_follows_44 ?_
      refine lv_iload_n hx hb dX11_follows_47 rfl (lv_at hl 3 rfl) ?_
      obtain ⟨g8, hf⟩ := gd_s hf
      refine va_iald hx hb hE.1 hP 2 0 rfl rfl (inb_in g8) dX11_follows_48 ?_
      refine lv_iload_n hx hb dX11_follows_49 rfl (lv_at hl 1 rfl) ?_
      refine lv_iconst (v := 1) hx hb dX11_follows_50 (by decide) ?_
      refine lv_isub hx hb dX11_follows_51 ?_
      refine lv_icmp_ne (tgt := 61) hx hb dX11_follows_52 (by decide) (fun c9 => ?_) (fun c9 => ?_)
      · have hf := ite_f c9 hf
        refine lv_aload_n hx hb dX11_follows_61 rfl (lv_at hl 0 rfl) ?_
        refine va_get (D := D) (ci := 8) (v := .ref a_t_track) (C := RX11) (T := TX11) (N := 18) hx hb hts inX11 hown hE.1 hP 0 rfl rfl 14 (by decide) (hts _ qw775) (fun _ h9 => h9) rfl dX11_follows_62 ?_
        refine lv_iload_n hx hb dX11_follows_65 rfl (lv_at hl 2 rfl) ?_
        obtain ⟨g10, hf⟩ := gd_s hf
        refine va_iald hx hb hE.1 hP 4 0 rfl rfl (inb_in g10) dX11_follows_66 ?_
        refine va_iast hx hb hE.1 hP hD hS 4 0 rfl rfl (inb_in g10) dX11_follows_67 (fun H locs hP hD hS => ?_)
        have hP : va_P D vwCl [(a_t, .inr (8, [.ref a_t_s, .ref a_t_past, .ref a_t_kept, .int v_t_isKept, .int v_t_pasts, .ref a_t_pad, .int v_t_typed, .ref a_t_cell, .ref a_t_other, .ref a_t_rows, .int v_t_ends, .ref a_t_read, .int v_t_many, .int v_t_spot, .ref a_t_track, .ref a_t_lead, .ref a_t_distance, .ref a_t_line])), (a_t_s, .inl (Y.1, 41, .inl f_t_s)), (a_t_cell, .inl (Y.1, 7, .inl f_t_cell)), (a_t_rows, .inl (Y.1, 341, .inl f_t_rows)), (a_t_track, .inl (Y.1, 341, .inl (upd f_t_track s2.toNatClampNeg (f_t_track s2.toNatClampNeg))))] H := hP
        have hD : va_D A [(a_t, .inr (8, [.ref a_t_s, .ref a_t_past, .ref a_t_kept, .int v_t_isKept, .int v_t_pasts, .ref a_t_pad, .int v_t_typed, .ref a_t_cell, .ref a_t_other, .ref a_t_rows, .int v_t_ends, .ref a_t_read, .int v_t_many, .int v_t_spot, .ref a_t_track, .ref a_t_lead, .ref a_t_distance, .ref a_t_line])), (a_t_s, .inl (Y.1, 41, .inl f_t_s)), (a_t_cell, .inl (Y.1, 7, .inl f_t_cell)), (a_t_rows, .inl (Y.1, 341, .inl f_t_rows)), (a_t_track, .inl (Y.1, 341, .inl (upd f_t_track s2.toNatClampNeg (f_t_track s2.toNatClampNeg))))] := hD
        refine lv_iinc (v := (s3 + 1)) (lv' := [(3, .int (s3 + 1)), (0, .ref a_t), (1, .int s1), (2, .int s2)]) hx hb dX11_follows_68 hl (k := 3) rfl rfl (by decide) rfl (fun ls hl => ?_)
        refine lv_goto (tgt := 28) hx hb dX11_follows_71 (by decide) ?_
        exact ih _ _ _ _ _ _ _ _ _ _ _ hf hP hD hS (lv_sub hl [1, 2, 3, 0] rfl) hk
      have hf := ite_t c9 hf
      refine lv_iload_n hx hb dX11_follows_55 rfl (lv_at hl 3 rfl) ?_
      refine lv_iconst (v := 1) hx hb dX11_follows_56 (by decide) ?_
      refine lv_iadd hx hb dX11_follows_57 ?_
      refine lv_goto (tgt := 67) hx hb dX11_follows_58 (by decide) ?_
      obtain ⟨g11, hf⟩ := gd_s hf
      refine va_iast hx hb hE.1 hP hD hS 4 0 rfl rfl (inb_in g11) dX11_follows_67 (fun H locs hP hD hS => ?_)
      have hP : va_P D vwCl [(a_t, .inr (8, [.ref a_t_s, .ref a_t_past, .ref a_t_kept, .int v_t_isKept, .int v_t_pasts, .ref a_t_pad, .int v_t_typed, .ref a_t_cell, .ref a_t_other, .ref a_t_rows, .int v_t_ends, .ref a_t_read, .int v_t_many, .int v_t_spot, .ref a_t_track, .ref a_t_lead, .ref a_t_distance, .ref a_t_line])), (a_t_s, .inl (Y.1, 41, .inl f_t_s)), (a_t_cell, .inl (Y.1, 7, .inl f_t_cell)), (a_t_rows, .inl (Y.1, 341, .inl f_t_rows)), (a_t_track, .inl (Y.1, 341, .inl (upd f_t_track s2.toNatClampNeg (s3 + 1))))] H := hP
      have hD : va_D A [(a_t, .inr (8, [.ref a_t_s, .ref a_t_past, .ref a_t_kept, .int v_t_isKept, .int v_t_pasts, .ref a_t_pad, .int v_t_typed, .ref a_t_cell, .ref a_t_other, .ref a_t_rows, .int v_t_ends, .ref a_t_read, .int v_t_many, .int v_t_spot, .ref a_t_track, .ref a_t_lead, .ref a_t_distance, .ref a_t_line])), (a_t_s, .inl (Y.1, 41, .inl f_t_s)), (a_t_cell, .inl (Y.1, 7, .inl f_t_cell)), (a_t_rows, .inl (Y.1, 341, .inl f_t_rows)), (a_t_track, .inl (Y.1, 341, .inl (upd f_t_track s2.toNatClampNeg (s3 + 1))))] := hD
      refine lv_iinc (v := (s3 + 1)) (lv' := [(3, .int (s3 + 1)), (0, .ref a_t), (1, .int s1), (2, .int s2)]) hx hb dX11_follows_68 hl (k := 3) rfl rfl (by decide) rfl (fun ls hl => ?_)
      refine lv_goto (tgt := 28) hx hb dX11_follows_71 (by decide) ?_
      exact ih _ _ _ _ _ _ _ _ _ _ _ hf hP hD hS (lv_sub hl [1, 2, 3, 0] rfl) hk
  have L8 : ∀ (n : Nat) (s1 : Int32) (v_t_ends : Int32) (f_t_rows : Nat → Int32) (s2 : Int32) (f_t_cell : Nat → Int32) (f_t_track : Nat → Int32) (H : Heap) (locs : List Loc) (ls : Array Slot), f_X11_follows_L8 s1 v_t_ends f_t_s f_t_rows n s2 f_t_cell f_t_track = some R → va_P D vwCl [(a_t, .inr (8, [.ref a_t_s, .ref a_t_past, .ref a_t_kept, .int v_t_isKept, .int v_t_pasts, .ref a_t_pad, .int v_t_typed, .ref a_t_cell, .ref a_t_other, .ref a_t_rows, .int v_t_ends, .ref a_t_read, .int v_t_many, .int v_t_spot, .ref a_t_track, .ref a_t_lead, .ref a_t_distance, .ref a_t_line])), (a_t_s, .inl (Y.1, 41, .inl f_t_s)), (a_t_cell, .inl (Y.1, 7, .inl f_t_cell)), (a_t_rows, .inl (Y.1, 341, .inl f_t_rows)), (a_t_track, .inl (Y.1, 341, .inl f_t_track))] H → va_D A [(a_t, .inr (8, [.ref a_t_s, .ref a_t_past, .ref a_t_kept, .int v_t_isKept, .int v_t_pasts, .ref a_t_pad, .int v_t_typed, .ref a_t_cell, .ref a_t_other, .ref a_t_rows, .int v_t_ends, .ref a_t_read, .int v_t_many, .int v_t_spot, .ref a_t_track, .ref a_t_lead, .ref a_t_distance, .ref a_t_line])), (a_t_s, .inl (Y.1, 41, .inl f_t_s)), (a_t_cell, .inl (Y.1, 7, .inl f_t_cell)), (a_t_rows, .inl (Y.1, 341, .inl f_t_rows)), (a_t_track, .inl (Y.1, 341, .inl f_t_track))] → va_S A s.heap H locs → lv_has ls 4 [(0, .ref a_t), (1, .int s1), (2, .int s2)] → W p l e rm_X11_follows s m args below meth c H locs 0 0 Q (F0 m 8 ls []) := by
    intro n
    induction n with
    | zero =>
      intro s1 v_t_ends f_t_rows s2 f_t_cell f_t_track H locs ls hf
      cases hf
    | succ n ih =>
      intro s1 v_t_ends f_t_rows s2 f_t_cell f_t_track H locs ls hf hP hD hS hl
      unfold f_X11_follows_L8 at hf
      refine lv_iload_n hx hb dX11_follows_8 rfl (lv_at hl 2 rfl) ?_
      refine lv_aload_n hx hb dX11_follows_9 rfl (lv_at hl 0 rfl) ?_
      refine va_get (D := D) (ci := 8) (v := .int v_t_ends) (C := RX11) (T := TX11) (N := 18) hx hb hts inX11 hown hE.1 hP 0 rfl rfl 10 (by decide) (hts _ qw771) (fun _ h9 => h9) rfl dX11_follows_10 ?_
      refine lv_icmp_gt (tgt := 80) hx hb dX11_follows_13 (by decide) (fun c3 => ?_) (fun c3 => ?_)
      · have hf := ite_t c3 hf
        obtain rfl := Option.some.inj hf
        subst hQ
        exact en_v hx hb hr hlocks hP hD hS dX11_follows_80
      have hf := ite_f c3 hf
      refine lv_aload_n hx hb dX11_follows_16 rfl (lv_at hl 0 rfl) ?_
      refine lv_aload_n hx hb dX11_follows_17 rfl (lv_at hl 0 rfl) ?_
      refine va_get (D := D) (ci := 8) (v := .ref a_t_rows) (C := RX11) (T := TX11) (N := 18) hx hb hts inX11 hown hE.1 hP 0 rfl rfl 9 (by decide) (hts _ qw770) (fun _ h9 => h9) rfl dX11_follows_18 ?_
      refine lv_iload_n hx hb dX11_follows_21 rfl (lv_at hl 2 rfl) ?_
      obtain ⟨g4, hf⟩ := gd_s hf
      refine va_iald hx hb hE.1 hP 3 0 rfl rfl (inb_in g4) dX11_follows_22 ?_
      obtain ⟨q5, h6, hf⟩ := bd_s hf
      refine af_v0 (wc := [(a_t, .inr (8, [.ref a_t_s, .ref a_t_past, .ref a_t_kept, .int v_t_isKept, .int v_t_pasts, .ref a_t_pad, .int v_t_typed, .ref a_t_cell, .ref a_t_other, .ref a_t_rows, .int v_t_ends, .ref a_t_read, .int v_t_many, .int v_t_spot, .ref a_t_track, .ref a_t_lead, .ref a_t_distance, .ref a_t_line])), (a_t_s, .inl (Y.1, 41, .inl f_t_s)), (a_t_cell, .inl (Y.1, 7, .inl f_t_cell))]) (wr := [(a_t_rows, .inl (Y.1, 341, .inl f_t_rows)), (a_t_track, .inl (Y.1, 341, .inl f_t_track))]) (wn := [(a_t, .inr (8, [.ref a_t_s, .ref a_t_past, .ref a_t_kept, .int v_t_isKept, .int v_t_pasts, .ref a_t_pad, .int v_t_typed, .ref a_t_cell, .ref a_t_other, .ref a_t_rows, .int v_t_ends, .ref a_t_read, .int v_t_many, .int v_t_spot, .ref a_t_track, .ref a_t_lead, .ref a_t_distance, .ref a_t_line])), (a_t_s, .inl (Y.1, 41, .inl f_t_s)), (a_t_cell, .inl (Y.1, 7, .inl q5)), (a_t_rows, .inl (Y.1, 341, .inl f_t_rows)), (a_t_track, .inl (Y.1, 341, .inl f_t_track))]) (run_V (As := [.int (f_t_rows s2.toNatClampNeg)]) (rest := []) E (c_X11_unrank l D Y a_t a_t_s a_t_past a_t_kept a_t_pad a_t_cell a_t_other a_t_rows a_t_read a_t_track a_t_lead a_t_distance a_t_line v_t_isKept v_t_pasts v_t_typed v_t_ends v_t_many v_t_spot f_t_s f_t_cell (f_t_rows s2.toNatClampNeg) H.size q5 h6) qw926 qw928 qw38 qw76 qw929 rfl rfl hd_X11_unrank ⟨Nat.le_of_ble_eq_true rfl, Nat.le_of_ble_eq_true rfl⟩ (pre_rwV hP hD hE [0, 1, 2] rfl (by decide) rfl (ci := 8) (q0 := 0) rfl rfl) rfl hl.1 rfl (Nat.le_of_ble_eq_true rfl) dX11_follows_23 ⟨Nat.zero_le _, Nat.zero_le _⟩) hP hD hS hA [0, 1, 2] [3, 4] [2, 3, 4, 0, 1] rfl rfl (by decide) (by decide) rfl rfl (by decide) (fun H locs  hP hD hS => ?_)
      refine lv_iconst (v := 0) hx hb dX11_follows_26 (by decide) ?_
      refine lv_istore_n (lv' := [(3, .int 0), (0, .ref a_t), (1, .int s1), (2, .int s2)]) hx hb dX11_follows_27 rfl hl (by decide) rfl (fun ls hl => ?_)
      refine L28 _ _ _ _ _ _ _ _ _ _ _ _ hf hP hD hS (lv_sub hl [1, 2, 3, 0] rfl) ?_
      intro y12 y13 H locs ls hf hP hD hS hl
      refine lv_iinc (v := (s2 + 1)) (lv' := [(2, .int (s2 + 1)), (0, .ref a_t), (1, .int s1)]) hx hb dX11_follows_74 hl (k := 2) rfl rfl (by decide) rfl (fun ls hl => ?_)
      refine lv_goto (tgt := 8) hx hb dX11_follows_77 (by decide) ?_
      exact ih _ _ _ _ _ _ _ _ _ hf hP hD hS (lv_sub hl [1, 2, 0] rfl)
  refine lv_aload_n hx hb dX11_follows_0 rfl (lv_at hl 0 rfl) ?_
  refine lv_bipush (v := (-4)) hx hb dX11_follows_1 (by decide) ?_
  obtain ⟨q1, h2, hf⟩ := bd_s hf
  refine af_v0 (wc := [(a_t, .inr (8, [.ref a_t_s, .ref a_t_past, .ref a_t_kept, .int v_t_isKept, .int v_t_pasts, .ref a_t_pad, .int v_t_typed, .ref a_t_cell, .ref a_t_other, .ref a_t_rows, .int v_t_ends, .ref a_t_read, .int v_t_many, .int v_t_spot, .ref a_t_track, .ref a_t_lead, .ref a_t_distance, .ref a_t_line])), (a_t_s, .inl (Y.1, 41, .inl f_t_s)), (a_t_cell, .inl (Y.1, 7, .inl f_t_cell)), (a_t_rows, .inl (Y.1, 341, .inl f_t_rows))]) (wr := [(a_t_track, .inl (Y.1, 341, .inl f_t_track))]) (wn := [(a_t, .inr (8, [.ref a_t_s, .ref a_t_past, .ref a_t_kept, .int v_t_isKept, .int v_t_pasts, .ref a_t_pad, .int v_t_typed, .ref a_t_cell, .ref a_t_other, .ref a_t_rows, .int q1.1, .ref a_t_read, .int v_t_many, .int v_t_spot, .ref a_t_track, .ref a_t_lead, .ref a_t_distance, .ref a_t_line])), (a_t_s, .inl (Y.1, 41, .inl f_t_s)), (a_t_cell, .inl (Y.1, 7, .inl q1.2.1)), (a_t_rows, .inl (Y.1, 341, .inl q1.2.2)), (a_t_track, .inl (Y.1, 341, .inl f_t_track))]) (run_V (As := [.int (-4)]) (rest := []) E (c_X11_ringsAll l D Y a_t a_t_s a_t_past a_t_kept a_t_pad a_t_cell a_t_other a_t_rows a_t_read a_t_track a_t_lead a_t_distance a_t_line v_t_isKept v_t_pasts v_t_typed v_t_ends v_t_many v_t_spot f_t_s f_t_cell f_t_rows (-4) s.heap.size q1 h2) qw902 qw904 qw32 qw76 qw905 rfl rfl hd_X11_ringsAll ⟨Nat.le_of_ble_eq_true rfl, Nat.le_of_ble_eq_true rfl⟩ (pre_rwV hP hD hE [0, 1, 2, 3] rfl (by decide) rfl (ci := 8) (q0 := 0) rfl rfl) rfl hl.1 rfl (Nat.le_of_ble_eq_true rfl) dX11_follows_3 ⟨Nat.zero_le _, Nat.zero_le _⟩) hP hD hS hA [0, 1, 2, 3] [4] [1, 2, 3, 4, 0] rfl rfl (by decide) (by decide) rfl rfl (by decide) (fun H locs  hP hD hS => ?_)
  refine lv_iconst (v := 0) hx hb dX11_follows_6 (by decide) ?_
  refine lv_istore_n (lv' := [(2, .int 0), (0, .ref a_t), (1, .int s1)]) hx hb dX11_follows_7 rfl hl (by decide) rfl (fun ls hl => ?_)
  exact L8 _ _ _ _ _ _ _ _ _ _ hf hP hD hS (lv_sub hl [1, 2, 0] rfl)

def f_X11_dodges_L4 (k : Int32 → Int32 → Option (Int32)) (s1 : Int32) (v_t_ends : Int32) (f_t_track : Nat → Int32) : Nat → Int32 → Int32 → Option (Int32)
  | 0, _, _ => none
  | n + 1, s2, s3 => (if v_t_ends < (s3 + 3) then (k s2 s3) else gd (inb s3 341) (gd (inb (s3 + 2) 341) ((if (f_t_track s3.toNatClampNeg) = (f_t_track (s3 + 2).toNatClampNeg) then gd (inb (s3 + 1) 341) (gd (inb (s3 + 3) 341) ((if (f_t_track (s3 + 1).toNatClampNeg) = (f_t_track (s3 + 3).toNatClampNeg) then (if (f_t_track s3.toNatClampNeg) = (f_t_track (s3 + 1).toNatClampNeg) then (f_X11_dodges_L4 k s1 v_t_ends f_t_track n s2 (s3 + 1)) else (if s1 = 0 then (f_X11_dodges_L4 k s1 v_t_ends f_t_track n (s2 + 1) (s3 + 1)) else some s3)) else (f_X11_dodges_L4 k s1 v_t_ends f_t_track n s2 (s3 + 1))))) else (f_X11_dodges_L4 k s1 v_t_ends f_t_track n s2 (s3 + 1))))))
def f_X11_dodges (s1 : Int32) (v_t_ends : Int32) (f_t_track : Nat → Int32) : Option (Int32) :=
  (f_X11_dodges_L4 (fun (y10 : Int32) (y11 : Int32) => (if s1 = 0 then some y10 else some (-4))) s1 v_t_ends f_t_track fu 0 0)
abbrev rm_X11_dodges : Room := { frames := 1, cells := 0, slots := 0, locals := 24 }
set_option maxHeartbeats 4000000 in
set_option maxRecDepth 100000 in
theorem c_X11_dodges (l : Launch) (D : va_G) (Y : ClassId × ClassId × ClassId) (a_t a_t_s a_t_past a_t_kept a_t_pad a_t_cell a_t_other a_t_rows a_t_read a_t_track a_t_lead a_t_distance a_t_line : Nat) (v_t_isKept : Int32) (v_t_pasts : Int32) (v_t_typed : Int32) (v_t_ends : Int32) (v_t_many : Int32) (v_t_spot : Int32) (f_t_track : Nat → Int32) (s1 : Int32) (R : Int32) (hf : f_X11_dodges s1 v_t_ends f_t_track = some R) : Met l yX11_dodges (ws_ yX11_dodges cX11_dodges 4 (some .int)) rm_X11_dodges (va_Pc [.ref a_t, .int s1] (RO D Y [(a_t, .inr (8, [.ref a_t_s, .ref a_t_past, .ref a_t_kept, .int v_t_isKept, .int v_t_pasts, .ref a_t_pad, .int v_t_typed, .ref a_t_cell, .ref a_t_other, .ref a_t_rows, .int v_t_ends, .ref a_t_read, .int v_t_many, .int v_t_spot, .ref a_t_track, .ref a_t_lead, .ref a_t_distance, .ref a_t_line])), (a_t_track, .inl (Y.1, 341, .inl f_t_track))])) (OI R) 0 0 (fun _ => False) := by
  refine ro_start (by decide) (Nat.le_of_ble_eq_true rfl) ?_
  intro p e s m below meth c ls hx hb hml hr hlocks hown hts hP hE hl
  generalize hargs : List.toArray _ = args at hts ⊢
  have hown : s.vm.findClass RX11 = some m.cls := hown
  have E : EN p m c cX11_dodges 4 s args RX11 := ⟨hx, hb, hml, hown, hts⟩
  have hl : lv_has ls 4 [(0, .ref a_t), (1, .int s1)] := hl
  generalize hQ : MQ below _ args s 0 0 _ = Q
  unfold f_X11_dodges at hf
  have L4 : ∀ (n : Nat) (k : Int32 → Int32 → Option (Int32)) (s1 : Int32) (s2 : Int32) (s3 : Int32) (ls : Array Slot), f_X11_dodges_L4 k s1 v_t_ends f_t_track n s2 s3 = some R → lv_has ls 4 [(0, .ref a_t), (1, .int s1), (2, .int s2), (3, .int s3)] → (∀ (y_s2 : Int32) (y_s3 : Int32) (ls : Array Slot), k y_s2 y_s3 = some R → lv_has ls 4 [(1, .int s1), (2, .int y_s2)] → W p l e rm_X11_dodges s m args below meth c s.heap [] 0 0 Q (F0 m 82 ls [])) → W p l e rm_X11_dodges s m args below meth c s.heap [] 0 0 Q (F0 m 4 ls []) := by
    intro n
    induction n with
    | zero =>
      intro k s1 s2 s3 ls hf
      cases hf
    | succ n ih =>
      intro k s1 s2 s3 ls hf hl hk
      unfold f_X11_dodges_L4 at hf
      refine lv_iload_n hx hb dX11_dodges_4 rfl (lv_at hl 3 rfl) ?_
      refine lv_iconst (v := 3) hx hb dX11_dodges_5 (by decide) ?_
      refine lv_iadd hx hb dX11_dodges_6 ?_
      refine lv_aload_n hx hb dX11_dodges_7 rfl (lv_at hl 0 rfl) ?_
      refine va_get (D := D) (ci := 8) (v := .int v_t_ends) (C := RX11) (T := TX11) (N := 18) hx hb hts inX11 hown hE.1 hP 0 rfl rfl 10 (by decide) (hts _ qw771) (fun _ h9 => h9) rfl dX11_dodges_8 ?_
      refine lv_icmp_gt (tgt := 82) hx hb dX11_dodges_11 (by decide) (fun c1 => ?_) (fun c1 => ?_)
      · have hf := ite_t c1 hf
        exact hk _ _ _ hf (lv_sub hl [1, 2] rfl)
      have hf := ite_f c1 hf
      refine lv_aload_n hx hb dX11_dodges_14 rfl (lv_at hl 0 rfl) ?_
      refine va_get (D := D) (ci := 8) (v := .ref a_t_track) (C := RX11) (T := TX11) (N := 18) hx hb hts inX11 hown hE.1 hP 0 rfl rfl 14 (by decide) (hts _ qw775) (fun _ h9 => h9) rfl dX11_dodges_15 ?_
      refine lv_iload_n hx hb dX11_dodges_18 rfl (lv_at hl 3 rfl) ?_
      obtain ⟨g2, hf⟩ := gd_s hf
      refine va_iald hx hb hE.1 hP 1 0 rfl rfl (inb_in g2) dX11_dodges_19 ?_
      refine lv_aload_n hx hb dX11_dodges_20 rfl (lv_at hl 0 rfl) ?_
      refine va_get (D := D) (ci := 8) (v := .ref a_t_track) (C := RX11) (T := TX11) (N := 18) hx hb hts inX11 hown hE.1 hP 0 rfl rfl 14 (by decide) (hts _ qw775) (fun _ h9 => h9) rfl dX11_dodges_21 ?_
      refine lv_iload_n hx hb dX11_dodges_24 rfl (lv_at hl 3 rfl) ?_
      refine lv_iconst (v := 2) hx hb dX11_dodges_25 (by decide) ?_
      refine lv_iadd hx hb dX11_dodges_26 ?_
      obtain ⟨g3, hf⟩ := gd_s hf
      refine va_iald hx hb hE.1 hP 1 0 rfl rfl (inb_in g3) dX11_dodges_27 ?_
      refine lv_icmp_ne (tgt := 76) hx hb dX11_dodges_28 (by decide) (fun c4 => ?_) (fun c4 => ?_)
      · have hf := ite_f c4 hf
        refine lv_iinc (v := (s3 + 1)) (lv' := [(3, .int (s3 + 1)), (0, .ref a_t), (1, .int s1), (2, .int s2)]) hx hb dX11_dodges_76 hl (k := 3) rfl rfl (by decide) rfl (fun ls hl => ?_)
        refine lv_goto (tgt := 4) hx hb dX11_dodges_79 (by decide) ?_
        exact ih _ _ _ _ _ hf (lv_sub hl [1, 2, 3, 0] rfl) hk
      have hf := ite_t c4 hf
      refine lv_aload_n hx hb dX11_dodges_31 rfl (lv_at hl 0 rfl) ?_
      refine va_get (D := D) (ci := 8) (v := .ref a_t_track) (C := RX11) (T := TX11) (N := 18) hx hb hts inX11 hown hE.1 hP 0 rfl rfl 14 (by decide) (hts _ qw775) (fun _ h9 => h9) rfl dX11_dodges_32 ?_
      refine lv_iload_n hx hb dX11_dodges_35 rfl (lv_at hl 3 rfl) ?_
      refine lv_iconst (v := 1) hx hb dX11_dodges_36 (by decide) ?_
      refine lv_iadd hx hb dX11_dodges_37 ?_
      obtain ⟨g5, hf⟩ := gd_s hf
      refine va_iald hx hb hE.1 hP 1 0 rfl rfl (inb_in g5) dX11_dodges_38 ?_
      refine lv_aload_n hx hb dX11_dodges_39 rfl (lv_at hl 0 rfl) ?_
      refine va_get (D := D) (ci := 8) (v := .ref a_t_track) (C := RX11) (T := TX11) (N := 18) hx hb hts inX11 hown hE.1 hP 0 rfl rfl 14 (by decide) (hts _ qw775) (fun _ h9 => h9) rfl dX11_dodges_40 ?_
      refine lv_iload_n hx hb dX11_dodges_43 rfl (lv_at hl 3 rfl) ?_
      refine lv_iconst (v := 3) hx hb dX11_dodges_44 (by decide) ?_
      refine lv_iadd hx hb dX11_dodges_45 ?_
      obtain ⟨g6, hf⟩ := gd_s hf
      refine va_iald hx hb hE.1 hP 1 0 rfl rfl (inb_in g6) dX11_dodges_46 ?_
      refine lv_icmp_ne (tgt := 76) hx hb dX11_dodges_47 (by decide) (fun c7 => ?_) (fun c7 => ?_)
      · have hf := ite_f c7 hf
        refine lv_iinc (v := (s3 + 1)) (lv' := [(3, .int (s3 + 1)), (0, .ref a_t), (1, .int s1), (2, .int s2)]) hx hb dX11_dodges_76 hl (k := 3) rfl rfl (by decide) rfl (fun ls hl => ?_)
        refine lv_goto (tgt := 4) hx hb dX11_dodges_79 (by decide) ?_
        exact ih _ _ _ _ _ hf (lv_sub hl [1, 2, 3, 0] rfl) hk
      have hf := ite_t c7 hf
      refine lv_aload_n hx hb dX11_dodges_50 rfl (lv_at hl 0 rfl) ?_
      refine va_get (D := D) (ci := 8) (v := .ref a_t_track) (C := RX11) (T := TX11) (N := 18) hx hb hts inX11 hown hE.1 hP 0 rfl rfl 14 (by decide) (hts _ qw775) (fun _ h9 => h9) rfl dX11_dodges_51 ?_
      refine lv_iload_n hx hb dX11_dodges_54 rfl (lv_at hl 3 rfl) ?_
      refine va_iald hx hb hE.1 hP 1 0 rfl rfl (inb_in g2) dX11_dodges_55 ?_
      refine lv_aload_n hx hb dX11_dodges_56 rfl (lv_at hl 0 rfl) ?_
      refine va_get (D := D) (ci := 8) (v := .ref a_t_track) (C := RX11) (T := TX11) (N := 18) hx hb hts inX11 hown hE.1 hP 0 rfl rfl 14 (by decide) (hts _ qw775) (fun _ h9 => h9) rfl dX11_dodges_57 ?_
      refine lv_iload_n hx hb dX11_dodges_60 rfl (lv_at hl 3 rfl) ?_
      refine lv_iconst (v := 1) hx hb dX11_dodges_61 (by decide) ?_
      refine lv_iadd hx hb dX11_dodges_62 ?_
      refine va_iald hx hb hE.1 hP 1 0 rfl rfl (inb_in g5) dX11_dodges_63 ?_
      refine lv_icmp_eq (tgt := 76) hx hb dX11_dodges_64 (by decide) (fun c8 => ?_) (fun c8 => ?_)
      · have hf := ite_t c8 hf
        refine lv_iinc (v := (s3 + 1)) (lv' := [(3, .int (s3 + 1)), (0, .ref a_t), (1, .int s1), (2, .int s2)]) hx hb dX11_dodges_76 hl (k := 3) rfl rfl (by decide) rfl (fun ls hl => ?_)
        refine lv_goto (tgt := 4) hx hb dX11_dodges_79 (by decide) ?_
        exact ih _ _ _ _ _ hf (lv_sub hl [1, 2, 3, 0] rfl) hk
      have hf := ite_f c8 hf
      refine lv_iload_n hx hb dX11_dodges_67 rfl (lv_at hl 1 rfl) ?_
      refine lv_if_eq (tgt := 73) hx hb dX11_dodges_68 (by decide) (fun c9 => ?_) (fun c9 => ?_)
      · have hf := ite_t c9 hf
        refine lv_iinc (v := (s2 + 1)) (lv' := [(2, .int (s2 + 1)), (0, .ref a_t), (1, .int s1), (3, .int s3)]) hx hb dX11_dodges_73 hl (k := 2) rfl rfl (by decide) rfl (fun ls hl => ?_)
        refine lv_iinc (v := (s3 + 1)) (lv' := [(3, .int (s3 + 1)), (2, .int (s2 + 1)), (0, .ref a_t), (1, .int s1)]) hx hb dX11_dodges_76 hl (k := 3) rfl rfl (by decide) rfl (fun ls hl => ?_)
        refine lv_goto (tgt := 4) hx hb dX11_dodges_79 (by decide) ?_
        exact ih _ _ _ _ _ hf (lv_sub hl [2, 3, 1, 0] rfl) hk
      have hf := ite_f c9 hf
      refine lv_iload_n hx hb dX11_dodges_71 rfl (lv_at hl 3 rfl) ?_
      obtain rfl := Option.some.inj hf
      subst hQ
      exact en_oi hx hb hr hlocks rfl dX11_dodges_72
  refine lv_iconst (v := 0) hx hb dX11_dodges_0 (by decide) ?_
  refine lv_istore_n (lv' := [(2, .int 0), (0, .ref a_t), (1, .int s1)]) hx hb dX11_dodges_1 rfl hl (by decide) rfl (fun ls hl => ?_)
  refine lv_iconst (v := 0) hx hb dX11_dodges_2 (by decide) ?_
  refine lv_istore_n (lv' := [(3, .int 0), (2, .int 0), (0, .ref a_t), (1, .int s1)]) hx hb dX11_dodges_3 rfl hl (by decide) rfl (fun ls hl => ?_)
  refine L4 _ _ _ _ _ _ hf (lv_sub hl [2, 3, 1, 0] rfl) ?_
  intro y10 y11 ls hf hl
  refine lv_iload_n hx hb dX11_dodges_82 rfl (lv_at hl 0 rfl) ?_
  refine lv_if_eq (tgt := 91) hx hb dX11_dodges_83 (by decide) (fun c12 => ?_) (fun c12 => ?_)
  · have hf := ite_t c12 hf
    refine lv_iload_n hx hb dX11_dodges_91 rfl (lv_at hl 1 rfl) ?_
    obtain rfl := Option.some.inj hf
    subst hQ
    exact en_oi hx hb hr hlocks rfl dX11_dodges_92
  have hf := ite_f c12 hf
  refine lv_bipush (v := (-4)) hx hb dX11_dodges_86 (by decide) ?_
  refine lv_goto (tgt := 92) hx hb dX11_dodges_88 (by decide) ?_
  obtain rfl := Option.some.inj hf
  subst hQ
  exact en_oi hx hb hr hlocks rfl dX11_dodges_92

def f_X11_stays_L4 (v_t_ends : Int32) (f_t_track : Nat → Int32) : Nat → Int32 → Int32 → Option (Int32)
  | 0, _, _ => none
  | n + 1, s1, s2 => (if v_t_ends ≤ s2 then some s1 else gd (inb s2 341) (gd (inb (s2 + 1) 341) (nm (if (f_t_track s2.toNatClampNeg) = (f_t_track (s2 + 1).toNatClampNeg) then (1 : Int32) else (0 : Int32)) (fun (w4 : Int32) => nm (s1 + w4) (fun (x5 : Int32) => (f_X11_stays_L4 v_t_ends f_t_track n x5 (s2 + 1)))))))
def f_X11_stays (v_t_ends : Int32) (f_t_track : Nat → Int32) : Option (Int32) :=
  (f_X11_stays_L4 v_t_ends f_t_track fu 0 0)
abbrev rm_X11_stays : Room := { frames := 1, cells := 0, slots := 0, locals := 24 }
set_option maxHeartbeats 4000000 in
set_option maxRecDepth 100000 in
theorem c_X11_stays (l : Launch) (D : va_G) (Y : ClassId × ClassId × ClassId) (a_t a_t_s a_t_past a_t_kept a_t_pad a_t_cell a_t_other a_t_rows a_t_read a_t_track a_t_lead a_t_distance a_t_line : Nat) (v_t_isKept : Int32) (v_t_pasts : Int32) (v_t_typed : Int32) (v_t_ends : Int32) (v_t_many : Int32) (v_t_spot : Int32) (f_t_track : Nat → Int32) (R : Int32) (hf : f_X11_stays v_t_ends f_t_track = some R) : Met l yX11_stays (ws_ yX11_stays cX11_stays 3 (some .int)) rm_X11_stays (va_Pc [.ref a_t] (RO D Y [(a_t, .inr (8, [.ref a_t_s, .ref a_t_past, .ref a_t_kept, .int v_t_isKept, .int v_t_pasts, .ref a_t_pad, .int v_t_typed, .ref a_t_cell, .ref a_t_other, .ref a_t_rows, .int v_t_ends, .ref a_t_read, .int v_t_many, .int v_t_spot, .ref a_t_track, .ref a_t_lead, .ref a_t_distance, .ref a_t_line])), (a_t_track, .inl (Y.1, 341, .inl f_t_track))])) (OI R) 0 0 (fun _ => False) := by
  refine ro_start (by decide) (Nat.le_of_ble_eq_true rfl) ?_
  intro p e s m below meth c ls hx hb hml hr hlocks hown hts hP hE hl
  generalize hargs : List.toArray _ = args at hts ⊢
  have hown : s.vm.findClass RX11 = some m.cls := hown
  have E : EN p m c cX11_stays 3 s args RX11 := ⟨hx, hb, hml, hown, hts⟩
  have hl : lv_has ls 3 [(0, .ref a_t)] := hl
  generalize hQ : MQ below _ args s 0 0 _ = Q
  unfold f_X11_stays at hf
  have L4 : ∀ (n : Nat) (s1 : Int32) (s2 : Int32) (ls : Array Slot), f_X11_stays_L4 v_t_ends f_t_track n s1 s2 = some R → lv_has ls 3 [(0, .ref a_t), (1, .int s1), (2, .int s2)] → W p l e rm_X11_stays s m args below meth c s.heap [] 0 0 Q (F0 m 4 ls []) := by
    intro n
    induction n with
    | zero =>
      intro s1 s2 ls hf
      cases hf
    | succ n ih =>
      intro s1 s2 ls hf hl
      unfold f_X11_stays_L4 at hf
      refine lv_iload_n hx hb dX11_stays_4 rfl (lv_at hl 2 rfl) ?_
      refine lv_aload_n hx hb dX11_stays_5 rfl (lv_at hl 0 rfl) ?_
      refine va_get (D := D) (ci := 8) (v := .int v_t_ends) (C := RX11) (T := TX11) (N := 18) hx hb hts inX11 hown hE.1 hP 0 rfl rfl 10 (by decide) (hts _ qw771) (fun _ h9 => h9) rfl dX11_stays_6 ?_
      refine lv_icmp_ge (tgt := 43) hx hb dX11_stays_9 (by decide) (fun c1 => ?_) (fun c1 => ?_)
      · have hf := ite_t c1 hf
        refine lv_iload_n hx hb dX11_stays_43 rfl (lv_at hl 1 rfl) ?_
        obtain rfl := Option.some.inj hf
        subst hQ
        exact en_oi hx hb hr hlocks rfl dX11_stays_44
      have hf := ite_f c1 hf
      refine lv_iload_n hx hb dX11_stays_12 rfl (lv_at hl 1 rfl) ?_
      refine lv_aload_n hx hb dX11_stays_13 rfl (lv_at hl 0 rfl) ?_
      refine va_get (D := D) (ci := 8) (v := .ref a_t_track) (C := RX11) (T := TX11) (N := 18) hx hb hts inX11 hown hE.1 hP 0 rfl rfl 14 (by decide) (hts _ qw775) (fun _ h9 => h9) rfl dX11_stays_14 ?_
      refine lv_iload_n hx hb dX11_stays_17 rfl (lv_at hl 2 rfl) ?_
      obtain ⟨g2, hf⟩ := gd_s hf
      refine va_iald hx hb hE.1 hP 1 0 rfl rfl (inb_in g2) dX11_stays_18 ?_
      refine lv_aload_n hx hb dX11_stays_19 rfl (lv_at hl 0 rfl) ?_
      refine va_get (D := D) (ci := 8) (v := .ref a_t_track) (C := RX11) (T := TX11) (N := 18) hx hb hts inX11 hown hE.1 hP 0 rfl rfl 14 (by decide) (hts _ qw775) (fun _ h9 => h9) rfl dX11_stays_20 ?_
      refine lv_iload_n hx hb dX11_stays_23 rfl (lv_at hl 2 rfl) ?_
      refine lv_iconst (v := 1) hx hb dX11_stays_24 (by decide) ?_
      refine lv_iadd hx hb dX11_stays_25 ?_
      obtain ⟨g3, hf⟩ := gd_s hf
      refine va_iald hx hb hE.1 hP 1 0 rfl rfl (inb_in g3) dX11_stays_26 ?_
      refine mg (P := fun (w4 : Int32) => ∀ (ls : Array Slot), lv_has ls 3 [(0, .ref a_t), (2, .int s2)] → W p l e rm_X11_stays s m args below meth c s.heap [] 0 0 Q (F0 m 35 ls [.int w4, .int s1])) hf (fun w4 hf ls hl => ?_) (fun hJ => ?_)
      · refine lv_iadd hx hb dX11_stays_35 ?_
        refine nm_W hf (fun x5 hf => ?_)
        refine lv_istore_n (lv' := [(1, .int x5), (0, .ref a_t), (2, .int s2)]) hx hb dX11_stays_36 rfl hl (by decide) rfl (fun ls hl => ?_)
        refine lv_iinc (v := (s2 + 1)) (lv' := [(2, .int (s2 + 1)), (1, .int x5), (0, .ref a_t)]) hx hb dX11_stays_37 hl (k := 2) rfl rfl (by decide) rfl (fun ls hl => ?_)
        refine lv_goto (tgt := 4) hx hb dX11_stays_40 (by decide) ?_
        exact ih _ _ _ hf (lv_sub hl [2, 1, 0] rfl)
      refine lv_icmp_ne (tgt := 34) hx hb dX11_stays_27 (by decide) (fun c6 => ?_) (fun c6 => ?_)
      · have hf := nmi_f c6 hf
        refine lv_iconst (v := 0) hx hb dX11_stays_34 (by decide) ?_
        exact hJ _ (nm_b hf) _ (lv_sub hl [0, 2] rfl)
      have hf := nmi_t c6 hf
      refine lv_iconst (v := 1) hx hb dX11_stays_30 (by decide) ?_
      refine lv_goto (tgt := 35) hx hb dX11_stays_31 (by decide) ?_
      exact hJ _ (nm_b hf) _ (lv_sub hl [0, 2] rfl)
  refine lv_iconst (v := 0) hx hb dX11_stays_0 (by decide) ?_
  refine lv_istore_n (lv' := [(1, .int 0), (0, .ref a_t)]) hx hb dX11_stays_1 rfl hl (by decide) rfl (fun ls hl => ?_)
  refine lv_iconst (v := 0) hx hb dX11_stays_2 (by decide) ?_
  refine lv_istore_n (lv' := [(2, .int 0), (1, .int 0), (0, .ref a_t)]) hx hb dX11_stays_3 rfl hl (by decide) rfl (fun ls hl => ?_)
  exact L4 _ _ _ _ hf (lv_sub hl [2, 1, 0] rfl)

def f_X11_rowsAt_L4 (s1 : Int32) (v_t_ends : Int32) (f_t_track : Nat → Int32) : Nat → Int32 → Int32 → Option (Int32)
  | 0, _, _ => none
  | n + 1, s2, s3 => (if v_t_ends < s3 then some s2 else gd (inb s3 341) (nm (if (f_t_track s3.toNatClampNeg) = s1 then (1 : Int32) else (0 : Int32)) (fun (w3 : Int32) => nm (s2 + w3) (fun (x4 : Int32) => (f_X11_rowsAt_L4 s1 v_t_ends f_t_track n x4 (s3 + 1))))))
def f_X11_rowsAt (s1 : Int32) (v_t_ends : Int32) (f_t_track : Nat → Int32) : Option (Int32) :=
  (f_X11_rowsAt_L4 s1 v_t_ends f_t_track fu 0 1)
abbrev rm_X11_rowsAt : Room := { frames := 1, cells := 0, slots := 0, locals := 24 }
set_option maxHeartbeats 4000000 in
set_option maxRecDepth 100000 in
theorem c_X11_rowsAt (l : Launch) (D : va_G) (Y : ClassId × ClassId × ClassId) (a_t a_t_s a_t_past a_t_kept a_t_pad a_t_cell a_t_other a_t_rows a_t_read a_t_track a_t_lead a_t_distance a_t_line : Nat) (v_t_isKept : Int32) (v_t_pasts : Int32) (v_t_typed : Int32) (v_t_ends : Int32) (v_t_many : Int32) (v_t_spot : Int32) (f_t_track : Nat → Int32) (s1 : Int32) (R : Int32) (hf : f_X11_rowsAt s1 v_t_ends f_t_track = some R) : Met l yX11_rowsAt (ws_ yX11_rowsAt cX11_rowsAt 4 (some .int)) rm_X11_rowsAt (va_Pc [.ref a_t, .int s1] (RO D Y [(a_t, .inr (8, [.ref a_t_s, .ref a_t_past, .ref a_t_kept, .int v_t_isKept, .int v_t_pasts, .ref a_t_pad, .int v_t_typed, .ref a_t_cell, .ref a_t_other, .ref a_t_rows, .int v_t_ends, .ref a_t_read, .int v_t_many, .int v_t_spot, .ref a_t_track, .ref a_t_lead, .ref a_t_distance, .ref a_t_line])), (a_t_track, .inl (Y.1, 341, .inl f_t_track))])) (OI R) 0 0 (fun _ => False) := by
  refine ro_start (by decide) (Nat.le_of_ble_eq_true rfl) ?_
  intro p e s m below meth c ls hx hb hml hr hlocks hown hts hP hE hl
  generalize hargs : List.toArray _ = args at hts ⊢
  have hown : s.vm.findClass RX11 = some m.cls := hown
  have E : EN p m c cX11_rowsAt 4 s args RX11 := ⟨hx, hb, hml, hown, hts⟩
  have hl : lv_has ls 4 [(0, .ref a_t), (1, .int s1)] := hl
  generalize hQ : MQ below _ args s 0 0 _ = Q
  unfold f_X11_rowsAt at hf
  have L4 : ∀ (n : Nat) (s1 : Int32) (s2 : Int32) (s3 : Int32) (ls : Array Slot), f_X11_rowsAt_L4 s1 v_t_ends f_t_track n s2 s3 = some R → lv_has ls 4 [(0, .ref a_t), (1, .int s1), (2, .int s2), (3, .int s3)] → W p l e rm_X11_rowsAt s m args below meth c s.heap [] 0 0 Q (F0 m 4 ls []) := by
    intro n
    induction n with
    | zero =>
      intro s1 s2 s3 ls hf
      cases hf
    | succ n ih =>
      intro s1 s2 s3 ls hf hl
      unfold f_X11_rowsAt_L4 at hf
      refine lv_iload_n hx hb dX11_rowsAt_4 rfl (lv_at hl 3 rfl) ?_
      refine lv_aload_n hx hb dX11_rowsAt_5 rfl (lv_at hl 0 rfl) ?_
      refine va_get (D := D) (ci := 8) (v := .int v_t_ends) (C := RX11) (T := TX11) (N := 18) hx hb hts inX11 hown hE.1 hP 0 rfl rfl 10 (by decide) (hts _ qw771) (fun _ h9 => h9) rfl dX11_rowsAt_6 ?_
      refine lv_icmp_gt (tgt := 36) hx hb dX11_rowsAt_9 (by decide) (fun c1 => ?_) (fun c1 => ?_)
      · have hf := ite_t c1 hf
        refine lv_iload_n hx hb dX11_rowsAt_36 rfl (lv_at hl 2 rfl) ?_
        obtain rfl := Option.some.inj hf
        subst hQ
        exact en_oi hx hb hr hlocks rfl dX11_rowsAt_37
      have hf := ite_f c1 hf
      refine lv_iload_n hx hb dX11_rowsAt_12 rfl (lv_at hl 2 rfl) ?_
      refine lv_aload_n hx hb dX11_rowsAt_13 rfl (lv_at hl 0 rfl) ?_
      refine va_get (D := D) (ci := 8) (v := .ref a_t_track) (C := RX11) (T := TX11) (N := 18) hx hb hts inX11 hown hE.1 hP 0 rfl rfl 14 (by decide) (hts _ qw775) (fun _ h9 => h9) rfl dX11_rowsAt_14 ?_
      refine lv_iload_n hx hb dX11_rowsAt_17 rfl (lv_at hl 3 rfl) ?_
      obtain ⟨g2, hf⟩ := gd_s hf
      refine va_iald hx hb hE.1 hP 1 0 rfl rfl (inb_in g2) dX11_rowsAt_18 ?_
      refine lv_iload_n hx hb dX11_rowsAt_19 rfl (lv_at hl 1 rfl) ?_
      refine mg (P := fun (w3 : Int32) => ∀ (ls : Array Slot), lv_has ls 4 [(0, .ref a_t), (1, .int s1), (3, .int s3)] → W p l e rm_X11_rowsAt s m args below meth c s.heap [] 0 0 Q (F0 m 28 ls [.int w3, .int s2])) hf (fun w3 hf ls hl => ?_) (fun hJ => ?_)
      · refine lv_iadd hx hb dX11_rowsAt_28 ?_
        refine nm_W hf (fun x4 hf => ?_)
        refine lv_istore_n (lv' := [(2, .int x4), (0, .ref a_t), (1, .int s1), (3, .int s3)]) hx hb dX11_rowsAt_29 rfl hl (by decide) rfl (fun ls hl => ?_)
        refine lv_iinc (v := (s3 + 1)) (lv' := [(3, .int (s3 + 1)), (2, .int x4), (0, .ref a_t), (1, .int s1)]) hx hb dX11_rowsAt_30 hl (k := 3) rfl rfl (by decide) rfl (fun ls hl => ?_)
        refine lv_goto (tgt := 4) hx hb dX11_rowsAt_33 (by decide) ?_
        exact ih _ _ _ _ hf (lv_sub hl [2, 3, 1, 0] rfl)
      refine lv_icmp_ne (tgt := 27) hx hb dX11_rowsAt_20 (by decide) (fun c5 => ?_) (fun c5 => ?_)
      · have hf := nmi_f c5 hf
        refine lv_iconst (v := 0) hx hb dX11_rowsAt_27 (by decide) ?_
        exact hJ _ (nm_b hf) _ (lv_sub hl [0, 1, 3] rfl)
      have hf := nmi_t c5 hf
      refine lv_iconst (v := 1) hx hb dX11_rowsAt_23 (by decide) ?_
      refine lv_goto (tgt := 28) hx hb dX11_rowsAt_24 (by decide) ?_
      exact hJ _ (nm_b hf) _ (lv_sub hl [0, 1, 3] rfl)
  refine lv_iconst (v := 0) hx hb dX11_rowsAt_0 (by decide) ?_
  refine lv_istore_n (lv' := [(2, .int 0), (0, .ref a_t), (1, .int s1)]) hx hb dX11_rowsAt_1 rfl hl (by decide) rfl (fun ls hl => ?_)
  refine lv_iconst (v := 1) hx hb dX11_rowsAt_2 (by decide) ?_
  refine lv_istore_n (lv' := [(3, .int 1), (2, .int 0), (0, .ref a_t), (1, .int s1)]) hx hb dX11_rowsAt_3 rfl hl (by decide) rfl (fun ls hl => ?_)
  exact L4 _ _ _ _ _ hf (lv_sub hl [2, 3, 1, 0] rfl)

def f_X11_path (s1 : Int32) (s2 : Int32) (v_t_ends : Int32) (f_t_s : Nat → Int32) (f_t_cell : Nat → Int32) (f_t_rows : Nat → Int32) (f_t_track : Nat → Int32) : Option (Int32 × Int32 × (Nat → Int32) × (Nat → Int32) × (Nat → Int32)) :=
  bd (f_X11_isPlace s1 f_t_s) (fun q1 => (if q1 = 0 then some ((-1), v_t_ends, f_t_cell, f_t_rows, f_t_track) else (if (f_X11_in s2 0 4) = 0 then some ((-1), v_t_ends, f_t_cell, f_t_rows, f_t_track) else bd (f_X11_follows s1 v_t_ends f_t_s f_t_cell f_t_rows f_t_track) (fun q7 => (if s2 = 0 then nm (if s2 = 1 then (1 : Int32) else (0 : Int32)) (fun (w10 : Int32) => bd (f_X11_dodges w10 q7.1 q7.2.2.2) (fun q11 => some (q11, q7.1, q7.2.1, q7.2.2.1, q7.2.2.2))) else (if s2 = 1 then nm (if s2 = 1 then (1 : Int32) else (0 : Int32)) (fun (w15 : Int32) => bd (f_X11_dodges w15 q7.1 q7.2.2.2) (fun q16 => some (q16, q7.1, q7.2.1, q7.2.2.1, q7.2.2.2))) else (if s2 = 2 then bd (f_X11_rowsAt 1 q7.1 q7.2.2.2) (fun q20 => some (q20, q7.1, q7.2.1, q7.2.2.1, q7.2.2.2)) else (if s2 = 3 then bd (f_X11_stays q7.1 q7.2.2.2) (fun q23 => some (q23, q7.1, q7.2.1, q7.2.2.1, q7.2.2.2)) else gd (inb q7.1 341) (some ((q7.2.2.2 q7.1.toNatClampNeg), q7.1, q7.2.1, q7.2.2.1, q7.2.2.2))))))))))
abbrev rm_X11_path : Room := { frames := 5, cells := 0, slots := 0, locals := 116 }
set_option maxHeartbeats 4000000 in
set_option maxRecDepth 100000 in
theorem c_X11_path (l : Launch) (D : va_G) (Y : ClassId × ClassId × ClassId) (a_t a_t_s a_t_past a_t_kept a_t_pad a_t_cell a_t_other a_t_rows a_t_read a_t_track a_t_lead a_t_distance a_t_line : Nat) (v_t_isKept : Int32) (v_t_pasts : Int32) (v_t_typed : Int32) (v_t_ends : Int32) (v_t_many : Int32) (v_t_spot : Int32) (f_t_s : Nat → Int32) (f_t_cell : Nat → Int32) (f_t_rows : Nat → Int32) (f_t_track : Nat → Int32) (s1 : Int32) (s2 : Int32) (sz : Nat) (R : Int32 × Int32 × (Nat → Int32) × (Nat → Int32) × (Nat → Int32)) (hf : f_X11_path s1 s2 v_t_ends f_t_s f_t_cell f_t_rows f_t_track = some R) : Met l yX11_path (ws_ yX11_path cX11_path 3 (some .int)) rm_X11_path (va_Pc [.ref a_t, .int s1, .int s2] (RW D Y sz [(a_t, .inr (8, [.ref a_t_s, .ref a_t_past, .ref a_t_kept, .int v_t_isKept, .int v_t_pasts, .ref a_t_pad, .int v_t_typed, .ref a_t_cell, .ref a_t_other, .ref a_t_rows, .int v_t_ends, .ref a_t_read, .int v_t_many, .int v_t_spot, .ref a_t_track, .ref a_t_lead, .ref a_t_distance, .ref a_t_line])), (a_t_s, .inl (Y.1, 41, .inl f_t_s)), (a_t_cell, .inl (Y.1, 7, .inl f_t_cell)), (a_t_rows, .inl (Y.1, 341, .inl f_t_rows)), (a_t_track, .inl (Y.1, 341, .inl f_t_track))])) (QI D R.1 [(a_t, .inr (8, [.ref a_t_s, .ref a_t_past, .ref a_t_kept, .int v_t_isKept, .int v_t_pasts, .ref a_t_pad, .int v_t_typed, .ref a_t_cell, .ref a_t_other, .ref a_t_rows, .int R.2.1, .ref a_t_read, .int v_t_many, .int v_t_spot, .ref a_t_track, .ref a_t_lead, .ref a_t_distance, .ref a_t_line])), (a_t_s, .inl (Y.1, 41, .inl f_t_s)), (a_t_cell, .inl (Y.1, 7, .inl R.2.2.1)), (a_t_rows, .inl (Y.1, 341, .inl R.2.2.2.1)), (a_t_track, .inl (Y.1, 341, .inl R.2.2.2.2))] (va_A [(a_t, .inr (8, [.ref a_t_s, .ref a_t_past, .ref a_t_kept, .int v_t_isKept, .int v_t_pasts, .ref a_t_pad, .int v_t_typed, .ref a_t_cell, .ref a_t_other, .ref a_t_rows, .int v_t_ends, .ref a_t_read, .int v_t_many, .int v_t_spot, .ref a_t_track, .ref a_t_lead, .ref a_t_distance, .ref a_t_line])), (a_t_s, .inl (Y.1, 41, .inl f_t_s)), (a_t_cell, .inl (Y.1, 7, .inl f_t_cell)), (a_t_rows, .inl (Y.1, 341, .inl f_t_rows)), (a_t_track, .inl (Y.1, 341, .inl f_t_track))] sz)) 0 0 (va_A [(a_t, .inr (8, [.ref a_t_s, .ref a_t_past, .ref a_t_kept, .int v_t_isKept, .int v_t_pasts, .ref a_t_pad, .int v_t_typed, .ref a_t_cell, .ref a_t_other, .ref a_t_rows, .int v_t_ends, .ref a_t_read, .int v_t_many, .int v_t_spot, .ref a_t_track, .ref a_t_lead, .ref a_t_distance, .ref a_t_line])), (a_t_s, .inl (Y.1, 41, .inl f_t_s)), (a_t_cell, .inl (Y.1, 7, .inl f_t_cell)), (a_t_rows, .inl (Y.1, 341, .inl f_t_rows)), (a_t_track, .inl (Y.1, 341, .inl f_t_track))] sz) := by
  refine rw_start (Qc := fun A => QI D R.1 [(a_t, .inr (8, [.ref a_t_s, .ref a_t_past, .ref a_t_kept, .int v_t_isKept, .int v_t_pasts, .ref a_t_pad, .int v_t_typed, .ref a_t_cell, .ref a_t_other, .ref a_t_rows, .int R.2.1, .ref a_t_read, .int v_t_many, .int v_t_spot, .ref a_t_track, .ref a_t_lead, .ref a_t_distance, .ref a_t_line])), (a_t_s, .inl (Y.1, 41, .inl f_t_s)), (a_t_cell, .inl (Y.1, 7, .inl R.2.2.1)), (a_t_rows, .inl (Y.1, 341, .inl R.2.2.2.1)), (a_t_track, .inl (Y.1, 341, .inl R.2.2.2.2))] A) (by decide) (Nat.le_of_ble_eq_true rfl) ?_
  intro p e s m below meth c ls A hx hb hml hr hlocks hown hts hnm hA hP hD hS hE hl
  generalize hargs : List.toArray _ = args at hts ⊢
  have hown : s.vm.findClass RX11 = some m.cls := hown
  have E : EN p m c cX11_path 3 s args RX11 := ⟨hx, hb, hml, hown, hts⟩
  have hl : lv_has ls 3 [(0, .ref a_t), (1, .int s1), (2, .int s2)] := hl
  generalize hQ : MQ below _ args s 0 0 _ = Q
  unfold f_X11_path at hf
  refine lv_aload_n hx hb dX11_path_0 rfl (lv_at hl 0 rfl) ?_
  refine lv_iload_n hx hb dX11_path_1 rfl (lv_at hl 1 rfl) ?_
  obtain ⟨q1, h2, hf⟩ := bd_s hf
  refine af_oz (run_V (As := [.int s1]) (rest := []) E (c_X11_isPlace l D Y a_t a_t_s a_t_past a_t_kept a_t_pad a_t_cell a_t_other a_t_rows a_t_read a_t_track a_t_lead a_t_distance a_t_line v_t_isKept v_t_pasts v_t_typed v_t_ends v_t_many v_t_spot f_t_s s1 q1 h2) qw898 qw900 qw31 qw76 qw901 rfl rfl hd_X11_isPlace ⟨Nat.le_of_ble_eq_true rfl, Nat.le_of_ble_eq_true rfl⟩ (pre_roV hP hE [0, 1] rfl (ci := 8) (q0 := 0) rfl rfl) rfl hl.1 rfl (Nat.le_of_ble_eq_true rfl) dX11_path_2 ⟨Nat.zero_le _, Nat.zero_le _⟩) (fun z3 => ?_)
  refine lv_if_eq (tgt := 17) hx hb dX11_path_5 (by decide) (fun c4 => ?_) (fun c4 => ?_)
  · have hf := ite_t c4 hf
    refine lv_iconst (v := (-1)) hx hb dX11_path_17 (by decide) ?_
    obtain rfl := Option.some.inj hf
    subst hQ
    exact en_i hx hb hr hlocks hP hD hS rfl dX11_path_18
  have hf := ite_f c4 hf
  refine lv_iload_n hx hb dX11_path_8 rfl (lv_at hl 2 rfl) ?_
  refine lv_iconst (v := 0) hx hb dX11_path_9 (by decide) ?_
  refine lv_iconst (v := 4) hx hb dX11_path_10 (by decide) ?_
  refine af_oz (run_S (As := [.int s2, .int 0, .int 4]) (rest := []) E (c_X11_in l D Y s2 0 4 (f_X11_in s2 0 4) rfl) qw820 qw821 qw76 qw822 rfl rfl hd_X11_in ⟨Nat.le_of_ble_eq_true rfl, Nat.le_of_ble_eq_true rfl⟩ (pre_roS hP hE [] rfl) rfl hl.1 rfl (Nat.le_of_ble_eq_true rfl) dX11_path_11 ⟨Nat.zero_le _, Nat.zero_le _⟩) (fun z5 => ?_)
  refine lv_if_ne (tgt := 19) hx hb dX11_path_14 (by decide) (fun c6 => ?_) (fun c6 => ?_)
  · have hf := ite_f c6 hf
    refine lv_aload_n hx hb dX11_path_19 rfl (lv_at hl 0 rfl) ?_
    refine lv_iload_n hx hb dX11_path_20 rfl (lv_at hl 1 rfl) ?_
    obtain ⟨q7, h8, hf⟩ := bd_s hf
    refine af_v0 (wc := [(a_t, .inr (8, [.ref a_t_s, .ref a_t_past, .ref a_t_kept, .int v_t_isKept, .int v_t_pasts, .ref a_t_pad, .int v_t_typed, .ref a_t_cell, .ref a_t_other, .ref a_t_rows, .int v_t_ends, .ref a_t_read, .int v_t_many, .int v_t_spot, .ref a_t_track, .ref a_t_lead, .ref a_t_distance, .ref a_t_line])), (a_t_s, .inl (Y.1, 41, .inl f_t_s)), (a_t_cell, .inl (Y.1, 7, .inl f_t_cell)), (a_t_rows, .inl (Y.1, 341, .inl f_t_rows)), (a_t_track, .inl (Y.1, 341, .inl f_t_track))]) (wr := []) (wn := [(a_t, .inr (8, [.ref a_t_s, .ref a_t_past, .ref a_t_kept, .int v_t_isKept, .int v_t_pasts, .ref a_t_pad, .int v_t_typed, .ref a_t_cell, .ref a_t_other, .ref a_t_rows, .int q7.1, .ref a_t_read, .int v_t_many, .int v_t_spot, .ref a_t_track, .ref a_t_lead, .ref a_t_distance, .ref a_t_line])), (a_t_s, .inl (Y.1, 41, .inl f_t_s)), (a_t_cell, .inl (Y.1, 7, .inl q7.2.1)), (a_t_rows, .inl (Y.1, 341, .inl q7.2.2.1)), (a_t_track, .inl (Y.1, 341, .inl q7.2.2.2))]) (run_V (As := [.int s1]) (rest := []) E (c_X11_follows l D Y a_t a_t_s a_t_past a_t_kept a_t_pad a_t_cell a_t_other a_t_rows a_t_read a_t_track a_t_lead a_t_distance a_t_line v_t_isKept v_t_pasts v_t_typed v_t_ends v_t_many v_t_spot f_t_s f_t_cell f_t_rows f_t_track s1 s.heap.size q7 h8) qw978 qw980 qw48 qw76 qw981 rfl rfl hd_X11_follows ⟨Nat.le_of_ble_eq_true rfl, Nat.le_of_ble_eq_true rfl⟩ (pre_rwV hP hD hE [0, 1, 2, 3, 4] rfl (by decide) rfl (ci := 8) (q0 := 0) rfl rfl) rfl hl.1 rfl (Nat.le_of_ble_eq_true rfl) dX11_path_21 ⟨Nat.zero_le _, Nat.zero_le _⟩) hP hD hS hA [0, 1, 2, 3, 4] [] [0, 1, 2, 3, 4] rfl rfl (by decide) (by decide) rfl rfl (by decide) (fun H locs  hP hD hS => ?_)
    refine lv_iload_n hx hb dX11_path_24 rfl (lv_at hl 2 rfl) ?_
    by_cases c9 : s2 = 0
    · have hf := ite_t c9 hf
      refine lv_tableIn (tgt := 56) (off := 31) hx hb dX11_path_25 (by rw [c9]; decide) (by rw [c9]; decide) (by rw [c9]; rfl) (by decide) ?_
      refine lv_aload_n hx hb dX11_path_56 rfl (lv_at hl 0 rfl) ?_
      refine lv_iload_n hx hb dX11_path_57 rfl (lv_at hl 2 rfl) ?_
      refine lv_iconst (v := 1) hx hb dX11_path_58 (by decide) ?_
      refine mg (P := fun (w10 : Int32) => ∀ (ls : Array Slot), lv_has ls 3 [] → W p l e rm_X11_path s m args below meth c H locs 0 0 Q (F0 m 67 ls [.int w10, .ref a_t])) hf (fun w10 hf ls hl => ?_) (fun hJ => ?_)
      · obtain ⟨q11, h12, hf⟩ := bd_s hf
        refine af_oi (run_V (As := [.int w10]) (rest := []) E (c_X11_dodges l D Y a_t a_t_s a_t_past a_t_kept a_t_pad a_t_cell a_t_other a_t_rows a_t_read a_t_track a_t_lead a_t_distance a_t_line v_t_isKept v_t_pasts v_t_typed q7.1 v_t_many v_t_spot q7.2.2.2 w10 q11 h12) qw982 qw984 qw49 qw76 qw985 rfl rfl hd_X11_dodges ⟨Nat.le_of_ble_eq_true rfl, Nat.le_of_ble_eq_true rfl⟩ (pre_roV hP hE [0, 4] rfl (ci := 8) (q0 := 0) rfl rfl) rfl hl.1 rfl (Nat.le_of_ble_eq_true rfl) dX11_path_67 ⟨Nat.zero_le _, Nat.zero_le _⟩) ?_
        obtain rfl := Option.some.inj hf
        subst hQ
        exact en_i hx hb hr hlocks hP hD hS rfl dX11_path_70
      refine lv_icmp_ne (tgt := 66) hx hb dX11_path_59 (by decide) (fun c13 => ?_) (fun c13 => ?_)
      · have hf := nmi_f c13 hf
        refine lv_iconst (v := 0) hx hb dX11_path_66 (by decide) ?_
        exact hJ _ (nm_b hf) _ (lv_sub hl [] rfl)
      have hf := nmi_t c13 hf
      refine lv_iconst (v := 1) hx hb dX11_path_62 (by decide) ?_
      refine lv_goto (tgt := 67) hx hb dX11_path_63 (by decide) ?_
      exact hJ _ (nm_b hf) _ (lv_sub hl [] rfl)
    have hf := ite_f c9 hf
    by_cases c14 : s2 = 1
    · have hf := ite_t c14 hf
      refine lv_tableIn (tgt := 56) (off := 31) hx hb dX11_path_25 (by rw [c14]; decide) (by rw [c14]; decide) (by rw [c14]; rfl) (by decide) ?_
      refine lv_aload_n hx hb dX11_path_56 rfl (lv_at hl 0 rfl) ?_
      refine lv_iload_n hx hb dX11_path_57 rfl (lv_at hl 2 rfl) ?_
      refine lv_iconst (v := 1) hx hb dX11_path_58 (by decide) ?_
      refine mg (P := fun (w15 : Int32) => ∀ (ls : Array Slot), lv_has ls 3 [] → W p l e rm_X11_path s m args below meth c H locs 0 0 Q (F0 m 67 ls [.int w15, .ref a_t])) hf (fun w15 hf ls hl => ?_) (fun hJ => ?_)
      · obtain ⟨q16, h17, hf⟩ := bd_s hf
        refine af_oi (run_V (As := [.int w15]) (rest := []) E (c_X11_dodges l D Y a_t a_t_s a_t_past a_t_kept a_t_pad a_t_cell a_t_other a_t_rows a_t_read a_t_track a_t_lead a_t_distance a_t_line v_t_isKept v_t_pasts v_t_typed q7.1 v_t_many v_t_spot q7.2.2.2 w15 q16 h17) qw982 qw984 qw49 qw76 qw985 rfl rfl hd_X11_dodges ⟨Nat.le_of_ble_eq_true rfl, Nat.le_of_ble_eq_true rfl⟩ (pre_roV hP hE [0, 4] rfl (ci := 8) (q0 := 0) rfl rfl) rfl hl.1 rfl (Nat.le_of_ble_eq_true rfl) dX11_path_67 ⟨Nat.zero_le _, Nat.zero_le _⟩) ?_
        obtain rfl := Option.some.inj hf
        subst hQ
        exact en_i hx hb hr hlocks hP hD hS rfl dX11_path_70
      refine lv_icmp_ne (tgt := 66) hx hb dX11_path_59 (by decide) (fun c18 => ?_) (fun c18 => ?_)
      · have hf := nmi_f c18 hf
        refine lv_iconst (v := 0) hx hb dX11_path_66 (by decide) ?_
        exact hJ _ (nm_b hf) _ (lv_sub hl [] rfl)
      have hf := nmi_t c18 hf
      refine lv_iconst (v := 1) hx hb dX11_path_62 (by decide) ?_
      refine lv_goto (tgt := 67) hx hb dX11_path_63 (by decide) ?_
      exact hJ _ (nm_b hf) _ (lv_sub hl [] rfl)
    have hf := ite_f c14 hf
    by_cases c19 : s2 = 2
    · have hf := ite_t c19 hf
      refine lv_tableIn (tgt := 71) (off := 46) hx hb dX11_path_25 (by rw [c19]; decide) (by rw [c19]; decide) (by rw [c19]; rfl) (by decide) ?_
      refine lv_aload_n hx hb dX11_path_71 rfl (lv_at hl 0 rfl) ?_
      refine lv_iconst (v := 1) hx hb dX11_path_72 (by decide) ?_
      obtain ⟨q20, h21, hf⟩ := bd_s hf
      refine af_oi (run_V (As := [.int 1]) (rest := []) E (c_X11_rowsAt l D Y a_t a_t_s a_t_past a_t_kept a_t_pad a_t_cell a_t_other a_t_rows a_t_read a_t_track a_t_lead a_t_distance a_t_line v_t_isKept v_t_pasts v_t_typed q7.1 v_t_many v_t_spot q7.2.2.2 1 q20 h21) qw986 qw988 qw50 qw76 qw989 rfl rfl hd_X11_rowsAt ⟨Nat.le_of_ble_eq_true rfl, Nat.le_of_ble_eq_true rfl⟩ (pre_roV hP hE [0, 4] rfl (ci := 8) (q0 := 0) rfl rfl) rfl hl.1 rfl (Nat.le_of_ble_eq_true rfl) dX11_path_73 ⟨Nat.zero_le _, Nat.zero_le _⟩) ?_
      obtain rfl := Option.some.inj hf
      subst hQ
      exact en_i hx hb hr hlocks hP hD hS rfl dX11_path_76
    have hf := ite_f c19 hf
    by_cases c22 : s2 = 3
    · have hf := ite_t c22 hf
      refine lv_tableIn (tgt := 77) (off := 52) hx hb dX11_path_25 (by rw [c22]; decide) (by rw [c22]; decide) (by rw [c22]; rfl) (by decide) ?_
      refine lv_aload_n hx hb dX11_path_77 rfl (lv_at hl 0 rfl) ?_
      obtain ⟨q23, h24, hf⟩ := bd_s hf
      refine af_oi (run_V (As := []) (rest := []) E (c_X11_stays l D Y a_t a_t_s a_t_past a_t_kept a_t_pad a_t_cell a_t_other a_t_rows a_t_read a_t_track a_t_lead a_t_distance a_t_line v_t_isKept v_t_pasts v_t_typed q7.1 v_t_many v_t_spot q7.2.2.2 q23 h24) qw990 qw992 qw51 qw76 qw993 rfl rfl hd_X11_stays ⟨Nat.le_of_ble_eq_true rfl, Nat.le_of_ble_eq_true rfl⟩ (pre_roV hP hE [0, 4] rfl (ci := 8) (q0 := 0) rfl rfl) rfl hl.1 rfl (Nat.le_of_ble_eq_true rfl) dX11_path_78 ⟨Nat.zero_le _, Nat.zero_le _⟩) ?_
      obtain rfl := Option.some.inj hf
      subst hQ
      exact en_i hx hb hr hlocks hP hD hS rfl dX11_path_81
    have hf := ite_f c22 hf
    have nc9 := sw_ne (k := 0) (z := 0) rfl c9
    have nc14 := sw_ne (k := 1) (z := 1) rfl c14
    have nc19 := sw_ne (k := 2) (z := 2) rfl c19
    have nc22 := sw_ne (k := 3) (z := 3) rfl c22
    refine lv_tableOut (tgt := 82) hx hb dX11_path_25 (by omega) (by decide) ?_
    refine lv_aload_n hx hb dX11_path_82 rfl (lv_at hl 0 rfl) ?_
    refine va_get (D := D) (ci := 8) (v := .ref a_t_track) (C := RX11) (T := TX11) (N := 18) hx hb hts inX11 hown hE.1 hP 0 rfl rfl 14 (by decide) (hts _ qw775) (fun _ h9 => h9) rfl dX11_path_83 ?_
    refine lv_aload_n hx hb dX11_path_86 rfl (lv_at hl 0 rfl) ?_
    refine va_get (D := D) (ci := 8) (v := .int q7.1) (C := RX11) (T := TX11) (N := 18) hx hb hts inX11 hown hE.1 hP 0 rfl rfl 10 (by decide) (hts _ qw771) (fun _ h9 => h9) rfl dX11_path_87 ?_
    obtain ⟨g25, hf⟩ := gd_s hf
    refine va_iald hx hb hE.1 hP 4 0 rfl rfl (inb_in g25) dX11_path_90 ?_
    obtain rfl := Option.some.inj hf
    subst hQ
    exact en_i hx hb hr hlocks hP hD hS rfl dX11_path_91
  have hf := ite_t c6 hf
  refine lv_iconst (v := (-1)) hx hb dX11_path_17 (by decide) ?_
  obtain rfl := Option.some.inj hf
  subst hQ
  exact en_i hx hb hr hlocks hP hD hS rfl dX11_path_18

def f_X11_blows (s1 : Int32) (s2 : Int32) (v_t_ends : Int32) (f_t_s : Nat → Int32) (f_t_cell : Nat → Int32) (f_t_rows : Nat → Int32) (f_t_track : Nat → Int32) : Option (Int32 × Int32 × (Nat → Int32) × (Nat → Int32) × (Nat → Int32)) :=
  bd (f_X11_isPlace s1 f_t_s) (fun q1 => (if q1 = 0 then some ((-1), v_t_ends, f_t_cell, f_t_rows, f_t_track) else bd (f_X11_isPlace s2 f_t_s) (fun q5 => (if q5 = 0 then some ((-1), v_t_ends, f_t_cell, f_t_rows, f_t_track) else bd (f_X11_follows s1 v_t_ends f_t_s f_t_cell f_t_rows f_t_track) (fun q9 => bd (f_X11_rowsAt s2 q9.1 q9.2.2.2) (fun q11 => some (q11, q9.1, q9.2.1, q9.2.2.1, q9.2.2.2)))))))
abbrev rm_X11_blows : Room := { frames := 5, cells := 0, slots := 0, locals := 116 }
set_option maxHeartbeats 4000000 in
set_option maxRecDepth 100000 in
theorem c_X11_blows (l : Launch) (D : va_G) (Y : ClassId × ClassId × ClassId) (a_t a_t_s a_t_past a_t_kept a_t_pad a_t_cell a_t_other a_t_rows a_t_read a_t_track a_t_lead a_t_distance a_t_line : Nat) (v_t_isKept : Int32) (v_t_pasts : Int32) (v_t_typed : Int32) (v_t_ends : Int32) (v_t_many : Int32) (v_t_spot : Int32) (f_t_s : Nat → Int32) (f_t_cell : Nat → Int32) (f_t_rows : Nat → Int32) (f_t_track : Nat → Int32) (s1 : Int32) (s2 : Int32) (sz : Nat) (R : Int32 × Int32 × (Nat → Int32) × (Nat → Int32) × (Nat → Int32)) (hf : f_X11_blows s1 s2 v_t_ends f_t_s f_t_cell f_t_rows f_t_track = some R) : Met l yX11_blows (ws_ yX11_blows cX11_blows 3 (some .int)) rm_X11_blows (va_Pc [.ref a_t, .int s1, .int s2] (RW D Y sz [(a_t, .inr (8, [.ref a_t_s, .ref a_t_past, .ref a_t_kept, .int v_t_isKept, .int v_t_pasts, .ref a_t_pad, .int v_t_typed, .ref a_t_cell, .ref a_t_other, .ref a_t_rows, .int v_t_ends, .ref a_t_read, .int v_t_many, .int v_t_spot, .ref a_t_track, .ref a_t_lead, .ref a_t_distance, .ref a_t_line])), (a_t_s, .inl (Y.1, 41, .inl f_t_s)), (a_t_cell, .inl (Y.1, 7, .inl f_t_cell)), (a_t_rows, .inl (Y.1, 341, .inl f_t_rows)), (a_t_track, .inl (Y.1, 341, .inl f_t_track))])) (QI D R.1 [(a_t, .inr (8, [.ref a_t_s, .ref a_t_past, .ref a_t_kept, .int v_t_isKept, .int v_t_pasts, .ref a_t_pad, .int v_t_typed, .ref a_t_cell, .ref a_t_other, .ref a_t_rows, .int R.2.1, .ref a_t_read, .int v_t_many, .int v_t_spot, .ref a_t_track, .ref a_t_lead, .ref a_t_distance, .ref a_t_line])), (a_t_s, .inl (Y.1, 41, .inl f_t_s)), (a_t_cell, .inl (Y.1, 7, .inl R.2.2.1)), (a_t_rows, .inl (Y.1, 341, .inl R.2.2.2.1)), (a_t_track, .inl (Y.1, 341, .inl R.2.2.2.2))] (va_A [(a_t, .inr (8, [.ref a_t_s, .ref a_t_past, .ref a_t_kept, .int v_t_isKept, .int v_t_pasts, .ref a_t_pad, .int v_t_typed, .ref a_t_cell, .ref a_t_other, .ref a_t_rows, .int v_t_ends, .ref a_t_read, .int v_t_many, .int v_t_spot, .ref a_t_track, .ref a_t_lead, .ref a_t_distance, .ref a_t_line])), (a_t_s, .inl (Y.1, 41, .inl f_t_s)), (a_t_cell, .inl (Y.1, 7, .inl f_t_cell)), (a_t_rows, .inl (Y.1, 341, .inl f_t_rows)), (a_t_track, .inl (Y.1, 341, .inl f_t_track))] sz)) 0 0 (va_A [(a_t, .inr (8, [.ref a_t_s, .ref a_t_past, .ref a_t_kept, .int v_t_isKept, .int v_t_pasts, .ref a_t_pad, .int v_t_typed, .ref a_t_cell, .ref a_t_other, .ref a_t_rows, .int v_t_ends, .ref a_t_read, .int v_t_many, .int v_t_spot, .ref a_t_track, .ref a_t_lead, .ref a_t_distance, .ref a_t_line])), (a_t_s, .inl (Y.1, 41, .inl f_t_s)), (a_t_cell, .inl (Y.1, 7, .inl f_t_cell)), (a_t_rows, .inl (Y.1, 341, .inl f_t_rows)), (a_t_track, .inl (Y.1, 341, .inl f_t_track))] sz) := by
  refine rw_start (Qc := fun A => QI D R.1 [(a_t, .inr (8, [.ref a_t_s, .ref a_t_past, .ref a_t_kept, .int v_t_isKept, .int v_t_pasts, .ref a_t_pad, .int v_t_typed, .ref a_t_cell, .ref a_t_other, .ref a_t_rows, .int R.2.1, .ref a_t_read, .int v_t_many, .int v_t_spot, .ref a_t_track, .ref a_t_lead, .ref a_t_distance, .ref a_t_line])), (a_t_s, .inl (Y.1, 41, .inl f_t_s)), (a_t_cell, .inl (Y.1, 7, .inl R.2.2.1)), (a_t_rows, .inl (Y.1, 341, .inl R.2.2.2.1)), (a_t_track, .inl (Y.1, 341, .inl R.2.2.2.2))] A) (by decide) (Nat.le_of_ble_eq_true rfl) ?_
  intro p e s m below meth c ls A hx hb hml hr hlocks hown hts hnm hA hP hD hS hE hl
  generalize hargs : List.toArray _ = args at hts ⊢
  have hown : s.vm.findClass RX11 = some m.cls := hown
  have E : EN p m c cX11_blows 3 s args RX11 := ⟨hx, hb, hml, hown, hts⟩
  have hl : lv_has ls 3 [(0, .ref a_t), (1, .int s1), (2, .int s2)] := hl
  generalize hQ : MQ below _ args s 0 0 _ = Q
  unfold f_X11_blows at hf
  refine lv_aload_n hx hb dX11_blows_0 rfl (lv_at hl 0 rfl) ?_
  refine lv_iload_n hx hb dX11_blows_1 rfl (lv_at hl 1 rfl) ?_
  obtain ⟨q1, h2, hf⟩ := bd_s hf
  refine af_oz (run_V (As := [.int s1]) (rest := []) E (c_X11_isPlace l D Y a_t a_t_s a_t_past a_t_kept a_t_pad a_t_cell a_t_other a_t_rows a_t_read a_t_track a_t_lead a_t_distance a_t_line v_t_isKept v_t_pasts v_t_typed v_t_ends v_t_many v_t_spot f_t_s s1 q1 h2) qw898 qw900 qw31 qw76 qw901 rfl rfl hd_X11_isPlace ⟨Nat.le_of_ble_eq_true rfl, Nat.le_of_ble_eq_true rfl⟩ (pre_roV hP hE [0, 1] rfl (ci := 8) (q0 := 0) rfl rfl) rfl hl.1 rfl (Nat.le_of_ble_eq_true rfl) dX11_blows_2 ⟨Nat.zero_le _, Nat.zero_le _⟩) (fun z3 => ?_)
  refine lv_if_eq (tgt := 16) hx hb dX11_blows_5 (by decide) (fun c4 => ?_) (fun c4 => ?_)
  · have hf := ite_t c4 hf
    refine lv_iconst (v := (-1)) hx hb dX11_blows_16 (by decide) ?_
    obtain rfl := Option.some.inj hf
    subst hQ
    exact en_i hx hb hr hlocks hP hD hS rfl dX11_blows_17
  have hf := ite_f c4 hf
  refine lv_aload_n hx hb dX11_blows_8 rfl (lv_at hl 0 rfl) ?_
  refine lv_iload_n hx hb dX11_blows_9 rfl (lv_at hl 2 rfl) ?_
  obtain ⟨q5, h6, hf⟩ := bd_s hf
  refine af_oz (run_V (As := [.int s2]) (rest := []) E (c_X11_isPlace l D Y a_t a_t_s a_t_past a_t_kept a_t_pad a_t_cell a_t_other a_t_rows a_t_read a_t_track a_t_lead a_t_distance a_t_line v_t_isKept v_t_pasts v_t_typed v_t_ends v_t_many v_t_spot f_t_s s2 q5 h6) qw898 qw900 qw31 qw76 qw901 rfl rfl hd_X11_isPlace ⟨Nat.le_of_ble_eq_true rfl, Nat.le_of_ble_eq_true rfl⟩ (pre_roV hP hE [0, 1] rfl (ci := 8) (q0 := 0) rfl rfl) rfl hl.1 rfl (Nat.le_of_ble_eq_true rfl) dX11_blows_10 ⟨Nat.zero_le _, Nat.zero_le _⟩) (fun z7 => ?_)
  refine lv_if_ne (tgt := 18) hx hb dX11_blows_13 (by decide) (fun c8 => ?_) (fun c8 => ?_)
  · have hf := ite_f c8 hf
    refine lv_aload_n hx hb dX11_blows_18 rfl (lv_at hl 0 rfl) ?_
    refine lv_iload_n hx hb dX11_blows_19 rfl (lv_at hl 1 rfl) ?_
    obtain ⟨q9, h10, hf⟩ := bd_s hf
    refine af_v0 (wc := [(a_t, .inr (8, [.ref a_t_s, .ref a_t_past, .ref a_t_kept, .int v_t_isKept, .int v_t_pasts, .ref a_t_pad, .int v_t_typed, .ref a_t_cell, .ref a_t_other, .ref a_t_rows, .int v_t_ends, .ref a_t_read, .int v_t_many, .int v_t_spot, .ref a_t_track, .ref a_t_lead, .ref a_t_distance, .ref a_t_line])), (a_t_s, .inl (Y.1, 41, .inl f_t_s)), (a_t_cell, .inl (Y.1, 7, .inl f_t_cell)), (a_t_rows, .inl (Y.1, 341, .inl f_t_rows)), (a_t_track, .inl (Y.1, 341, .inl f_t_track))]) (wr := []) (wn := [(a_t, .inr (8, [.ref a_t_s, .ref a_t_past, .ref a_t_kept, .int v_t_isKept, .int v_t_pasts, .ref a_t_pad, .int v_t_typed, .ref a_t_cell, .ref a_t_other, .ref a_t_rows, .int q9.1, .ref a_t_read, .int v_t_many, .int v_t_spot, .ref a_t_track, .ref a_t_lead, .ref a_t_distance, .ref a_t_line])), (a_t_s, .inl (Y.1, 41, .inl f_t_s)), (a_t_cell, .inl (Y.1, 7, .inl q9.2.1)), (a_t_rows, .inl (Y.1, 341, .inl q9.2.2.1)), (a_t_track, .inl (Y.1, 341, .inl q9.2.2.2))]) (run_V (As := [.int s1]) (rest := []) E (c_X11_follows l D Y a_t a_t_s a_t_past a_t_kept a_t_pad a_t_cell a_t_other a_t_rows a_t_read a_t_track a_t_lead a_t_distance a_t_line v_t_isKept v_t_pasts v_t_typed v_t_ends v_t_many v_t_spot f_t_s f_t_cell f_t_rows f_t_track s1 s.heap.size q9 h10) qw978 qw980 qw48 qw76 qw981 rfl rfl hd_X11_follows ⟨Nat.le_of_ble_eq_true rfl, Nat.le_of_ble_eq_true rfl⟩ (pre_rwV hP hD hE [0, 1, 2, 3, 4] rfl (by decide) rfl (ci := 8) (q0 := 0) rfl rfl) rfl hl.1 rfl (Nat.le_of_ble_eq_true rfl) dX11_blows_20 ⟨Nat.zero_le _, Nat.zero_le _⟩) hP hD hS hA [0, 1, 2, 3, 4] [] [0, 1, 2, 3, 4] rfl rfl (by decide) (by decide) rfl rfl (by decide) (fun H locs  hP hD hS => ?_)
    refine lv_aload_n hx hb dX11_blows_23 rfl (lv_at hl 0 rfl) ?_
    refine lv_iload_n hx hb dX11_blows_24 rfl (lv_at hl 2 rfl) ?_
    obtain ⟨q11, h12, hf⟩ := bd_s hf
    refine af_oi (run_V (As := [.int s2]) (rest := []) E (c_X11_rowsAt l D Y a_t a_t_s a_t_past a_t_kept a_t_pad a_t_cell a_t_other a_t_rows a_t_read a_t_track a_t_lead a_t_distance a_t_line v_t_isKept v_t_pasts v_t_typed q9.1 v_t_many v_t_spot q9.2.2.2 s2 q11 h12) qw986 qw988 qw50 qw76 qw989 rfl rfl hd_X11_rowsAt ⟨Nat.le_of_ble_eq_true rfl, Nat.le_of_ble_eq_true rfl⟩ (pre_roV hP hE [0, 4] rfl (ci := 8) (q0 := 0) rfl rfl) rfl hl.1 rfl (Nat.le_of_ble_eq_true rfl) dX11_blows_25 ⟨Nat.zero_le _, Nat.zero_le _⟩) ?_
    obtain rfl := Option.some.inj hf
    subst hQ
    exact en_i hx hb hr hlocks hP hD hS rfl dX11_blows_28
  have hf := ite_t c8 hf
  refine lv_iconst (v := (-1)) hx hb dX11_blows_16 (by decide) ?_
  obtain rfl := Option.some.inj hf
  subst hQ
  exact en_i hx hb hr hlocks hP hD hS rfl dX11_blows_17

def f_X11_roundAt_L2 (v_t_ends : Int32) (f_t_rows : Nat → Int32) : Nat → Int32 → Option (Int32)
  | 0, _ => none
  | n + 1, s1 => (if v_t_ends < s1 then some (-4) else gd (inb s1 341) ((if (f_t_rows s1.toNatClampNeg) = 0 then some s1 else (f_X11_roundAt_L2 v_t_ends f_t_rows n (s1 + 1)))))
def f_X11_roundAt (v_t_ends : Int32) (f_t_rows : Nat → Int32) : Option (Int32) :=
  (f_X11_roundAt_L2 v_t_ends f_t_rows fu 1)
abbrev rm_X11_roundAt : Room := { frames := 1, cells := 0, slots := 0, locals := 24 }
set_option maxHeartbeats 4000000 in
set_option maxRecDepth 100000 in
theorem c_X11_roundAt (l : Launch) (D : va_G) (Y : ClassId × ClassId × ClassId) (a_t a_t_s a_t_past a_t_kept a_t_pad a_t_cell a_t_other a_t_rows a_t_read a_t_track a_t_lead a_t_distance a_t_line : Nat) (v_t_isKept : Int32) (v_t_pasts : Int32) (v_t_typed : Int32) (v_t_ends : Int32) (v_t_many : Int32) (v_t_spot : Int32) (f_t_rows : Nat → Int32) (R : Int32) (hf : f_X11_roundAt v_t_ends f_t_rows = some R) : Met l yX11_roundAt (ws_ yX11_roundAt cX11_roundAt 2 (some .int)) rm_X11_roundAt (va_Pc [.ref a_t] (RO D Y [(a_t, .inr (8, [.ref a_t_s, .ref a_t_past, .ref a_t_kept, .int v_t_isKept, .int v_t_pasts, .ref a_t_pad, .int v_t_typed, .ref a_t_cell, .ref a_t_other, .ref a_t_rows, .int v_t_ends, .ref a_t_read, .int v_t_many, .int v_t_spot, .ref a_t_track, .ref a_t_lead, .ref a_t_distance, .ref a_t_line])), (a_t_rows, .inl (Y.1, 341, .inl f_t_rows))])) (OI R) 0 0 (fun _ => False) := by
  refine ro_start (by decide) (Nat.le_of_ble_eq_true rfl) ?_
  intro p e s m below meth c ls hx hb hml hr hlocks hown hts hP hE hl
  generalize hargs : List.toArray _ = args at hts ⊢
  have hown : s.vm.findClass RX11 = some m.cls := hown
  have E : EN p m c cX11_roundAt 2 s args RX11 := ⟨hx, hb, hml, hown, hts⟩
  have hl : lv_has ls 2 [(0, .ref a_t)] := hl
  generalize hQ : MQ below _ args s 0 0 _ = Q
  unfold f_X11_roundAt at hf
  have L2 : ∀ (n : Nat) (s1 : Int32) (ls : Array Slot), f_X11_roundAt_L2 v_t_ends f_t_rows n s1 = some R → lv_has ls 2 [(0, .ref a_t), (1, .int s1)] → W p l e rm_X11_roundAt s m args below meth c s.heap [] 0 0 Q (F0 m 2 ls []) := by
    intro n
    induction n with
    | zero =>
      intro s1 ls hf
      cases hf
    | succ n ih =>
      intro s1 ls hf hl
      unfold f_X11_roundAt_L2 at hf
      refine lv_iload_n hx hb dX11_roundAt_2 rfl (lv_at hl 1 rfl) ?_
      refine lv_aload_n hx hb dX11_roundAt_3 rfl (lv_at hl 0 rfl) ?_
      refine va_get (D := D) (ci := 8) (v := .int v_t_ends) (C := RX11) (T := TX11) (N := 18) hx hb hts inX11 hown hE.1 hP 0 rfl rfl 10 (by decide) (hts _ qw771) (fun _ h9 => h9) rfl dX11_roundAt_4 ?_
      refine lv_icmp_gt (tgt := 27) hx hb dX11_roundAt_7 (by decide) (fun c1 => ?_) (fun c1 => ?_)
      · have hf := ite_t c1 hf
        refine lv_bipush (v := (-4)) hx hb dX11_roundAt_27 (by decide) ?_
        obtain rfl := Option.some.inj hf
        subst hQ
        exact en_oi hx hb hr hlocks rfl dX11_roundAt_29
      have hf := ite_f c1 hf
      refine lv_aload_n hx hb dX11_roundAt_10 rfl (lv_at hl 0 rfl) ?_
      refine va_get (D := D) (ci := 8) (v := .ref a_t_rows) (C := RX11) (T := TX11) (N := 18) hx hb hts inX11 hown hE.1 hP 0 rfl rfl 9 (by decide) (hts _ qw770) (fun _ h9 => h9) rfl dX11_roundAt_11 ?_
      refine lv_iload_n hx hb dX11_roundAt_14 rfl (lv_at hl 1 rfl) ?_
      obtain ⟨g2, hf⟩ := gd_s hf
      refine va_iald hx hb hE.1 hP 1 0 rfl rfl (inb_in g2) dX11_roundAt_15 ?_
      refine lv_if_ne (tgt := 21) hx hb dX11_roundAt_16 (by decide) (fun c3 => ?_) (fun c3 => ?_)
      · have hf := ite_f c3 hf
        refine lv_iinc (v := (s1 + 1)) (lv' := [(1, .int (s1 + 1)), (0, .ref a_t)]) hx hb dX11_roundAt_21 hl (k := 1) rfl rfl (by decide) rfl (fun ls hl => ?_)
        refine lv_goto (tgt := 2) hx hb dX11_roundAt_24 (by decide) ?_
        exact ih _ _ hf (lv_sub hl [1, 0] rfl)
      have hf := ite_t c3 hf
      refine lv_iload_n hx hb dX11_roundAt_19 rfl (lv_at hl 1 rfl) ?_
      obtain rfl := Option.some.inj hf
      subst hQ
      exact en_oi hx hb hr hlocks rfl dX11_roundAt_20
  refine lv_iconst (v := 1) hx hb dX11_roundAt_0 (by decide) ?_
  refine lv_istore_n (lv' := [(1, .int 1), (0, .ref a_t)]) hx hb dX11_roundAt_1 rfl hl (by decide) rfl (fun ls hl => ?_)
  exact L2 _ _ _ hf (lv_sub hl [1, 0] rfl)

def f_X11_firstTwice_L2 (v_t_ends : Int32) (f_t_rows : Nat → Int32) : Nat → Int32 → Option (Int32)
  | 0, _ => none
  | n + 1, s1 => (if v_t_ends < s1 then some (-4) else bd (f_X11_firstSame s1 1 f_t_rows) (fun q2 => (if s1 ≤ q2 then (f_X11_firstTwice_L2 v_t_ends f_t_rows n (s1 + 1)) else some s1)))
def f_X11_firstTwice (v_t_ends : Int32) (f_t_rows : Nat → Int32) : Option (Int32) :=
  (f_X11_firstTwice_L2 v_t_ends f_t_rows fu 1)
abbrev rm_X11_firstTwice : Room := { frames := 2, cells := 0, slots := 0, locals := 47 }
set_option maxHeartbeats 4000000 in
set_option maxRecDepth 100000 in
theorem c_X11_firstTwice (l : Launch) (D : va_G) (Y : ClassId × ClassId × ClassId) (a_t a_t_s a_t_past a_t_kept a_t_pad a_t_cell a_t_other a_t_rows a_t_read a_t_track a_t_lead a_t_distance a_t_line : Nat) (v_t_isKept : Int32) (v_t_pasts : Int32) (v_t_typed : Int32) (v_t_ends : Int32) (v_t_many : Int32) (v_t_spot : Int32) (f_t_rows : Nat → Int32) (R : Int32) (hf : f_X11_firstTwice v_t_ends f_t_rows = some R) : Met l yX11_firstTwice (ws_ yX11_firstTwice cX11_firstTwice 2 (some .int)) rm_X11_firstTwice (va_Pc [.ref a_t] (RO D Y [(a_t, .inr (8, [.ref a_t_s, .ref a_t_past, .ref a_t_kept, .int v_t_isKept, .int v_t_pasts, .ref a_t_pad, .int v_t_typed, .ref a_t_cell, .ref a_t_other, .ref a_t_rows, .int v_t_ends, .ref a_t_read, .int v_t_many, .int v_t_spot, .ref a_t_track, .ref a_t_lead, .ref a_t_distance, .ref a_t_line])), (a_t_rows, .inl (Y.1, 341, .inl f_t_rows))])) (OI R) 0 0 (fun _ => False) := by
  refine ro_start (by decide) (Nat.le_of_ble_eq_true rfl) ?_
  intro p e s m below meth c ls hx hb hml hr hlocks hown hts hP hE hl
  generalize hargs : List.toArray _ = args at hts ⊢
  have hown : s.vm.findClass RX11 = some m.cls := hown
  have E : EN p m c cX11_firstTwice 2 s args RX11 := ⟨hx, hb, hml, hown, hts⟩
  have hl : lv_has ls 2 [(0, .ref a_t)] := hl
  generalize hQ : MQ below _ args s 0 0 _ = Q
  unfold f_X11_firstTwice at hf
  have L2 : ∀ (n : Nat) (s1 : Int32) (ls : Array Slot), f_X11_firstTwice_L2 v_t_ends f_t_rows n s1 = some R → lv_has ls 2 [(0, .ref a_t), (1, .int s1)] → W p l e rm_X11_firstTwice s m args below meth c s.heap [] 0 0 Q (F0 m 2 ls []) := by
    intro n
    induction n with
    | zero =>
      intro s1 ls hf
      cases hf
    | succ n ih =>
      intro s1 ls hf hl
      unfold f_X11_firstTwice_L2 at hf
      refine lv_iload_n hx hb dX11_firstTwice_2 rfl (lv_at hl 1 rfl) ?_
      refine lv_aload_n hx hb dX11_firstTwice_3 rfl (lv_at hl 0 rfl) ?_
      refine va_get (D := D) (ci := 8) (v := .int v_t_ends) (C := RX11) (T := TX11) (N := 18) hx hb hts inX11 hown hE.1 hP 0 rfl rfl 10 (by decide) (hts _ qw771) (fun _ h9 => h9) rfl dX11_firstTwice_4 ?_
      refine lv_icmp_gt (tgt := 28) hx hb dX11_firstTwice_7 (by decide) (fun c1 => ?_) (fun c1 => ?_)
      · have hf := ite_t c1 hf
        refine lv_bipush (v := (-4)) hx hb dX11_firstTwice_28 (by decide) ?_
        obtain rfl := Option.some.inj hf
        subst hQ
        exact en_oi hx hb hr hlocks rfl dX11_firstTwice_30
      have hf := ite_f c1 hf
      refine lv_aload_n hx hb dX11_firstTwice_10 rfl (lv_at hl 0 rfl) ?_
      refine lv_iload_n hx hb dX11_firstTwice_11 rfl (lv_at hl 1 rfl) ?_
      refine lv_iconst (v := 1) hx hb dX11_firstTwice_12 (by decide) ?_
      obtain ⟨q2, h3, hf⟩ := bd_s hf
      refine af_oi (run_V (As := [.int s1, .int 1]) (rest := []) E (c_X11_firstSame l D Y a_t a_t_s a_t_past a_t_kept a_t_pad a_t_cell a_t_other a_t_rows a_t_read a_t_track a_t_lead a_t_distance a_t_line v_t_isKept v_t_pasts v_t_typed v_t_ends v_t_many v_t_spot f_t_rows s1 1 q2 h3) qw954 qw956 qw43 qw76 qw957 rfl rfl hd_X11_firstSame ⟨Nat.le_of_ble_eq_true rfl, Nat.le_of_ble_eq_true rfl⟩ (pre_roV hP hE [0, 1] rfl (ci := 8) (q0 := 0) rfl rfl) rfl hl.1 rfl (Nat.le_of_ble_eq_true rfl) dX11_firstTwice_13 ⟨Nat.zero_le _, Nat.zero_le _⟩) ?_
      refine lv_iload_n hx hb dX11_firstTwice_16 rfl (lv_at hl 1 rfl) ?_
      refine lv_icmp_ge (tgt := 22) hx hb dX11_firstTwice_17 (by decide) (fun c4 => ?_) (fun c4 => ?_)
      · have hf := ite_t c4 hf
        refine lv_iinc (v := (s1 + 1)) (lv' := [(1, .int (s1 + 1)), (0, .ref a_t)]) hx hb dX11_firstTwice_22 hl (k := 1) rfl rfl (by decide) rfl (fun ls hl => ?_)
        refine lv_goto (tgt := 2) hx hb dX11_firstTwice_25 (by decide) ?_
        exact ih _ _ hf (lv_sub hl [1, 0] rfl)
      have hf := ite_f c4 hf
      refine lv_iload_n hx hb dX11_firstTwice_20 rfl (lv_at hl 1 rfl) ?_
      obtain rfl := Option.some.inj hf
      subst hQ
      exact en_oi hx hb hr hlocks rfl dX11_firstTwice_21
  refine lv_iconst (v := 1) hx hb dX11_firstTwice_0 (by decide) ?_
  refine lv_istore_n (lv' := [(1, .int 1), (0, .ref a_t)]) hx hb dX11_firstTwice_1 rfl hl (by decide) rfl (fun ls hl => ?_)
  exact L2 _ _ _ hf (lv_sub hl [1, 0] rfl)

def f_X11_unlike_L4 (v_t_ends : Int32) (f_t_rows : Nat → Int32) : Nat → Int32 → Int32 → Option (Int32)
  | 0, _, _ => none
  | n + 1, s1, s2 => (if v_t_ends < s2 then some s1 else bd (f_X11_firstSame s2 1 f_t_rows) (fun q2 => nm (if q2 = s2 then (1 : Int32) else (0 : Int32)) (fun (w4 : Int32) => nm (s1 + w4) (fun (x5 : Int32) => (f_X11_unlike_L4 v_t_ends f_t_rows n x5 (s2 + 1))))))
def f_X11_unlike (v_t_ends : Int32) (f_t_rows : Nat → Int32) : Option (Int32) :=
  (f_X11_unlike_L4 v_t_ends f_t_rows fu 0 1)
abbrev rm_X11_unlike : Room := { frames := 2, cells := 0, slots := 0, locals := 47 }
set_option maxHeartbeats 4000000 in
set_option maxRecDepth 100000 in
theorem c_X11_unlike (l : Launch) (D : va_G) (Y : ClassId × ClassId × ClassId) (a_t a_t_s a_t_past a_t_kept a_t_pad a_t_cell a_t_other a_t_rows a_t_read a_t_track a_t_lead a_t_distance a_t_line : Nat) (v_t_isKept : Int32) (v_t_pasts : Int32) (v_t_typed : Int32) (v_t_ends : Int32) (v_t_many : Int32) (v_t_spot : Int32) (f_t_rows : Nat → Int32) (R : Int32) (hf : f_X11_unlike v_t_ends f_t_rows = some R) : Met l yX11_unlike (ws_ yX11_unlike cX11_unlike 3 (some .int)) rm_X11_unlike (va_Pc [.ref a_t] (RO D Y [(a_t, .inr (8, [.ref a_t_s, .ref a_t_past, .ref a_t_kept, .int v_t_isKept, .int v_t_pasts, .ref a_t_pad, .int v_t_typed, .ref a_t_cell, .ref a_t_other, .ref a_t_rows, .int v_t_ends, .ref a_t_read, .int v_t_many, .int v_t_spot, .ref a_t_track, .ref a_t_lead, .ref a_t_distance, .ref a_t_line])), (a_t_rows, .inl (Y.1, 341, .inl f_t_rows))])) (OI R) 0 0 (fun _ => False) := by
  refine ro_start (by decide) (Nat.le_of_ble_eq_true rfl) ?_
  intro p e s m below meth c ls hx hb hml hr hlocks hown hts hP hE hl
  generalize hargs : List.toArray _ = args at hts ⊢
  have hown : s.vm.findClass RX11 = some m.cls := hown
  have E : EN p m c cX11_unlike 3 s args RX11 := ⟨hx, hb, hml, hown, hts⟩
  have hl : lv_has ls 3 [(0, .ref a_t)] := hl
  generalize hQ : MQ below _ args s 0 0 _ = Q
  unfold f_X11_unlike at hf
  have L4 : ∀ (n : Nat) (s1 : Int32) (s2 : Int32) (ls : Array Slot), f_X11_unlike_L4 v_t_ends f_t_rows n s1 s2 = some R → lv_has ls 3 [(0, .ref a_t), (1, .int s1), (2, .int s2)] → W p l e rm_X11_unlike s m args below meth c s.heap [] 0 0 Q (F0 m 4 ls []) := by
    intro n
    induction n with
    | zero =>
      intro s1 s2 ls hf
      cases hf
    | succ n ih =>
      intro s1 s2 ls hf hl
      unfold f_X11_unlike_L4 at hf
      refine lv_iload_n hx hb dX11_unlike_4 rfl (lv_at hl 2 rfl) ?_
      refine lv_aload_n hx hb dX11_unlike_5 rfl (lv_at hl 0 rfl) ?_
      refine va_get (D := D) (ci := 8) (v := .int v_t_ends) (C := RX11) (T := TX11) (N := 18) hx hb hts inX11 hown hE.1 hP 0 rfl rfl 10 (by decide) (hts _ qw771) (fun _ h9 => h9) rfl dX11_unlike_6 ?_
      refine lv_icmp_gt (tgt := 36) hx hb dX11_unlike_9 (by decide) (fun c1 => ?_) (fun c1 => ?_)
      · have hf := ite_t c1 hf
        refine lv_iload_n hx hb dX11_unlike_36 rfl (lv_at hl 1 rfl) ?_
        obtain rfl := Option.some.inj hf
        subst hQ
        exact en_oi hx hb hr hlocks rfl dX11_unlike_37
      have hf := ite_f c1 hf
      refine lv_iload_n hx hb dX11_unlike_12 rfl (lv_at hl 1 rfl) ?_
      refine lv_aload_n hx hb dX11_unlike_13 rfl (lv_at hl 0 rfl) ?_
      refine lv_iload_n hx hb dX11_unlike_14 rfl (lv_at hl 2 rfl) ?_
      refine lv_iconst (v := 1) hx hb dX11_unlike_15 (by decide) ?_
      obtain ⟨q2, h3, hf⟩ := bd_s hf
      refine af_oi (run_V (As := [.int s2, .int 1]) (rest := [.int s1]) E (c_X11_firstSame l D Y a_t a_t_s a_t_past a_t_kept a_t_pad a_t_cell a_t_other a_t_rows a_t_read a_t_track a_t_lead a_t_distance a_t_line v_t_isKept v_t_pasts v_t_typed v_t_ends v_t_many v_t_spot f_t_rows s2 1 q2 h3) qw954 qw956 qw43 qw76 qw957 rfl rfl hd_X11_firstSame ⟨Nat.le_of_ble_eq_true rfl, Nat.le_of_ble_eq_true rfl⟩ (pre_roV hP hE [0, 1] rfl (ci := 8) (q0 := 0) rfl rfl) rfl hl.1 rfl (Nat.le_of_ble_eq_true rfl) dX11_unlike_16 ⟨Nat.zero_le _, Nat.zero_le _⟩) ?_
      refine lv_iload_n hx hb dX11_unlike_19 rfl (lv_at hl 2 rfl) ?_
      refine mg (P := fun (w4 : Int32) => ∀ (ls : Array Slot), lv_has ls 3 [(0, .ref a_t), (2, .int s2)] → W p l e rm_X11_unlike s m args below meth c s.heap [] 0 0 Q (F0 m 28 ls [.int w4, .int s1])) hf (fun w4 hf ls hl => ?_) (fun hJ => ?_)
      · refine lv_iadd hx hb dX11_unlike_28 ?_
        refine nm_W hf (fun x5 hf => ?_)
        refine lv_istore_n (lv' := [(1, .int x5), (0, .ref a_t), (2, .int s2)]) hx hb dX11_unlike_29 rfl hl (by decide) rfl (fun ls hl => ?_)
        refine lv_iinc (v := (s2 + 1)) (lv' := [(2, .int (s2 + 1)), (1, .int x5), (0, .ref a_t)]) hx hb dX11_unlike_30 hl (k := 2) rfl rfl (by decide) rfl (fun ls hl => ?_)
        refine lv_goto (tgt := 4) hx hb dX11_unlike_33 (by decide) ?_
        exact ih _ _ _ hf (lv_sub hl [2, 1, 0] rfl)
      refine lv_icmp_ne (tgt := 27) hx hb dX11_unlike_20 (by decide) (fun c6 => ?_) (fun c6 => ?_)
      · have hf := nmi_f c6 hf
        refine lv_iconst (v := 0) hx hb dX11_unlike_27 (by decide) ?_
        exact hJ _ (nm_b hf) _ (lv_sub hl [0, 2] rfl)
      have hf := nmi_t c6 hf
      refine lv_iconst (v := 1) hx hb dX11_unlike_23 (by decide) ?_
      refine lv_goto (tgt := 28) hx hb dX11_unlike_24 (by decide) ?_
      exact hJ _ (nm_b hf) _ (lv_sub hl [0, 2] rfl)
  refine lv_iconst (v := 0) hx hb dX11_unlike_0 (by decide) ?_
  refine lv_istore_n (lv' := [(1, .int 0), (0, .ref a_t)]) hx hb dX11_unlike_1 rfl hl (by decide) rfl (fun ls hl => ?_)
  refine lv_iconst (v := 1) hx hb dX11_unlike_2 (by decide) ?_
  refine lv_istore_n (lv' := [(2, .int 1), (1, .int 0), (0, .ref a_t)]) hx hb dX11_unlike_3 rfl hl (by decide) rfl (fun ls hl => ?_)
  exact L4 _ _ _ _ hf (lv_sub hl [2, 1, 0] rfl)

def f_X11_areFalse_L22 (k : Int32 → Int32 → Option (Int32)) (s1 : Int32) (s2 : Int32) (s3 : Int32) (s5 : Int32) (f_t_s : Nat → Int32) (f_t_rows : Nat → Int32) : Nat → Int32 → Int32 → Option (Int32)
  | 0, _, _ => none
  | n + 1, s4, s6 => (if s3 < s6 then (k s4 s6) else (if s4 = 0 then gd (inb ((s1 * s3) + s5) 341) (gd (inb ((s2 * s3) + s6) 341) (nm (if (f_t_rows ((s1 * s3) + s5).toNatClampNeg) = (f_t_rows ((s2 * s3) + s6).toNatClampNeg) then (1 : Int32) else (0 : Int32)) (fun (w8 : Int32) => (f_X11_areFalse_L22 k s1 s2 s3 s5 f_t_s f_t_rows n w8 (s6 + 1))))) else (f_X11_areFalse_L22 k s1 s2 s3 s5 f_t_s f_t_rows n 1 (s6 + 1))))
def f_X11_areFalse_L13 (s1 : Int32) (s2 : Int32) (s3 : Int32) (f_t_s : Nat → Int32) (f_t_rows : Nat → Int32) : Nat → Int32 → Int32 → Option (Int32)
  | 0, _, _ => none
  | n + 1, s4, s5 => (if s3 < s5 then gd (zob s4) (some s4) else (f_X11_areFalse_L22 (fun (y10 : Int32) (y11 : Int32) => (f_X11_areFalse_L13 s1 s2 s3 f_t_s f_t_rows n y10 (s5 + 1))) s1 s2 s3 s5 f_t_s f_t_rows fu s4 1))
def f_X11_areFalse (s1 : Int32) (s2 : Int32) (f_t_s : Nat → Int32) (f_t_rows : Nat → Int32) : Option (Int32) :=
  nm (f_t_s (1 : Int32).toNatClampNeg) (fun (x1 : Int32) => (f_X11_areFalse_L13 s1 s2 x1 f_t_s f_t_rows fu 0 1))
abbrev rm_X11_areFalse : Room := { frames := 1, cells := 0, slots := 0, locals := 24 }
set_option maxHeartbeats 4000000 in
set_option maxRecDepth 100000 in
theorem c_X11_areFalse (l : Launch) (D : va_G) (Y : ClassId × ClassId × ClassId) (a_t a_t_s a_t_past a_t_kept a_t_pad a_t_cell a_t_other a_t_rows a_t_read a_t_track a_t_lead a_t_distance a_t_line : Nat) (v_t_isKept : Int32) (v_t_pasts : Int32) (v_t_typed : Int32) (v_t_ends : Int32) (v_t_many : Int32) (v_t_spot : Int32) (f_t_s : Nat → Int32) (f_t_rows : Nat → Int32) (s1 : Int32) (s2 : Int32) (R : Int32) (hf : f_X11_areFalse s1 s2 f_t_s f_t_rows = some R) : Met l yX11_areFalse (ws_ yX11_areFalse cX11_areFalse 7 (some .boolean)) rm_X11_areFalse (va_Pc [.ref a_t, .int s1, .int s2] (RO D Y [(a_t, .inr (8, [.ref a_t_s, .ref a_t_past, .ref a_t_kept, .int v_t_isKept, .int v_t_pasts, .ref a_t_pad, .int v_t_typed, .ref a_t_cell, .ref a_t_other, .ref a_t_rows, .int v_t_ends, .ref a_t_read, .int v_t_many, .int v_t_spot, .ref a_t_track, .ref a_t_lead, .ref a_t_distance, .ref a_t_line])), (a_t_s, .inl (Y.1, 41, .inl f_t_s)), (a_t_rows, .inl (Y.1, 341, .inl f_t_rows))])) (OZ R) 0 0 (fun _ => False) := by
  refine ro_start (by decide) (Nat.le_of_ble_eq_true rfl) ?_
  intro p e s m below meth c ls hx hb hml hr hlocks hown hts hP hE hl
  generalize hargs : List.toArray _ = args at hts ⊢
  have hown : s.vm.findClass RX11 = some m.cls := hown
  have E : EN p m c cX11_areFalse 7 s args RX11 := ⟨hx, hb, hml, hown, hts⟩
  have hl : lv_has ls 7 [(0, .ref a_t), (1, .int s1), (2, .int s2)] := hl
  generalize hQ : MQ below _ args s 0 0 _ = Q
  unfold f_X11_areFalse at hf
  have L22 : ∀ (n : Nat) (k : Int32 → Int32 → Option (Int32)) (s1 : Int32) (s2 : Int32) (s3 : Int32) (s5 : Int32) (s4 : Int32) (s6 : Int32) (ls : Array Slot), f_X11_areFalse_L22 k s1 s2 s3 s5 f_t_s f_t_rows n s4 s6 = some R → lv_has ls 7 [(0, .ref a_t), (1, .int s1), (2, .int s2), (3, .int s3), (4, .int s4), (5, .int s5), (6, .int s6)] → (∀ (y_s4 : Int32) (y_s6 : Int32) (ls : Array Slot), k y_s4 y_s6 = some R → lv_has ls 7 [(0, .ref a_t), (1, .int s1), (2, .int s2), (3, .int s3), (4, .int y_s4), (5, .int s5)] → W p l e rm_X11_areFalse s m args below meth c s.heap [] 0 0 Q (F0 m 71 ls [])) → W p l e rm_X11_areFalse s m args below meth c s.heap [] 0 0 Q (F0 m 22 ls []) := by
    intro n
    induction n with
    | zero =>
      intro k s1 s2 s3 s5 s4 s6 ls hf
      cases hf
    | succ n ih =>
      intro k s1 s2 s3 s5 s4 s6 ls hf hl hk
      unfold f_X11_areFalse_L22 at hf
      refine lv_iload hx hb dX11_areFalse_22 (lv_at hl 6 rfl) ?_
      refine lv_iload_n hx hb dX11_areFalse_24 rfl (lv_at hl 3 rfl) ?_
      refine lv_icmp_gt (tgt := 71) hx hb dX11_areFalse_25 (by decide) (fun c4 => ?_) (fun c4 => ?_)
      · have hf := ite_t c4 hf
        exact hk _ _ _ hf (lv_sub hl [0, 1, 2, 3, 4, 5] rfl)
      have hf := ite_f c4 hf
      refine lv_iload hx hb dX11_areFalse_28 (lv_at hl 4 rfl) ?_
      refine lv_if_ne (tgt := 58) hx hb dX11_areFalse_30 (by decide) (fun c5 => ?_) (fun c5 => ?_)
      · have hf := ite_f c5 hf
        refine lv_iconst (v := 1) hx hb dX11_areFalse_58 (by decide) ?_
        refine lv_goto (tgt := 63) hx hb dX11_areFalse_59 (by decide) ?_
        refine lv_istore (lv' := [(4, .int 1), (0, .ref a_t), (1, .int s1), (2, .int s2), (3, .int s3), (5, .int s5), (6, .int s6)]) hx hb dX11_areFalse_63 hl (by decide) rfl (fun ls hl => ?_)
        refine lv_iinc (v := (s6 + 1)) (lv' := [(6, .int (s6 + 1)), (4, .int 1), (0, .ref a_t), (1, .int s1), (2, .int s2), (3, .int s3), (5, .int s5)]) hx hb dX11_areFalse_65 hl (k := 6) rfl rfl (by decide) rfl (fun ls hl => ?_)
        refine lv_goto (tgt := 22) hx hb dX11_areFalse_68 (by decide) ?_
        exact ih _ _ _ _ _ _ _ _ hf (lv_sub hl [2, 3, 4, 5, 1, 6, 0] rfl) hk
      have hf := ite_t c5 hf
      refine lv_aload_n hx hb dX11_areFalse_33 rfl (lv_at hl 0 rfl) ?_
      refine va_get (D := D) (ci := 8) (v := .ref a_t_rows) (C := RX11) (T := TX11) (N := 18) hx hb hts inX11 hown hE.1 hP 0 rfl rfl 9 (by decide) (hts _ qw770) (fun _ h9 => h9) rfl dX11_areFalse_34 ?_
      refine lv_iload_n hx hb dX11_areFalse_37 rfl (lv_at hl 1 rfl) ?_
      refine lv_iload_n hx hb dX11_areFalse_38 rfl (lv_at hl 3 rfl) ?_
      refine lv_imul hx hb dX11_areFalse_39 ?_
      refine lv_iload hx hb dX11_areFalse_40 (lv_at hl 5 rfl) ?_
      refine lv_iadd hx hb dX11_areFalse_42 ?_
      obtain ⟨g6, hf⟩ := gd_s hf
      refine va_iald hx hb hE.1 hP 2 0 rfl rfl (inb_in g6) dX11_areFalse_43 ?_
      refine lv_aload_n hx hb dX11_areFalse_44 rfl (lv_at hl 0 rfl) ?_
      refine va_get (D := D) (ci := 8) (v := .ref a_t_rows) (C := RX11) (T := TX11) (N := 18) hx hb hts inX11 hown hE.1 hP 0 rfl rfl 9 (by decide) (hts _ qw770) (fun _ h9 => h9) rfl dX11_areFalse_45 ?_
      refine lv_iload_n hx hb dX11_areFalse_48 rfl (lv_at hl 2 rfl) ?_
      refine lv_iload_n hx hb dX11_areFalse_49 rfl (lv_at hl 3 rfl) ?_
      refine lv_imul hx hb dX11_areFalse_50 ?_
      refine lv_iload hx hb dX11_areFalse_51 (lv_at hl 6 rfl) ?_
      refine lv_iadd hx hb dX11_areFalse_53 ?_
      obtain ⟨g7, hf⟩ := gd_s hf
      refine va_iald hx hb hE.1 hP 2 0 rfl rfl (inb_in g7) dX11_areFalse_54 ?_
      refine mg (P := fun (w8 : Int32) => ∀ (ls : Array Slot), lv_has ls 7 [(0, .ref a_t), (1, .int s1), (2, .int s2), (3, .int s3), (5, .int s5), (6, .int s6)] → W p l e rm_X11_areFalse s m args below meth c s.heap [] 0 0 Q (F0 m 63 ls [.int w8])) hf (fun w8 hf ls hl => ?_) (fun hJ => ?_)
      · refine lv_istore (lv' := [(4, .int w8), (0, .ref a_t), (1, .int s1), (2, .int s2), (3, .int s3), (5, .int s5), (6, .int s6)]) hx hb dX11_areFalse_63 hl (by decide) rfl (fun ls hl => ?_)
        refine lv_iinc (v := (s6 + 1)) (lv' := [(6, .int (s6 + 1)), (4, .int w8), (0, .ref a_t), (1, .int s1), (2, .int s2), (3, .int s3), (5, .int s5)]) hx hb dX11_areFalse_65 hl (k := 6) rfl rfl (by decide) rfl (fun ls hl => ?_)
        refine lv_goto (tgt := 22) hx hb dX11_areFalse_68 (by decide) ?_
        exact ih _ _ _ _ _ _ _ _ hf (lv_sub hl [2, 3, 4, 5, 1, 6, 0] rfl) hk
      refine lv_icmp_ne (tgt := 62) hx hb dX11_areFalse_55 (by decide) (fun c9 => ?_) (fun c9 => ?_)
      · have hf := nmi_f c9 hf
        refine lv_iconst (v := 0) hx hb dX11_areFalse_62 (by decide) ?_
        exact hJ _ (nm_b hf) _ (lv_sub hl [0, 1, 2, 3, 5, 6] rfl)
      have hf := nmi_t c9 hf
      refine lv_iconst (v := 1) hx hb dX11_areFalse_58 (by decide) ?_
      refine lv_goto (tgt := 63) hx hb dX11_areFalse_59 (by decide) ?_
      exact hJ _ (nm_b hf) _ (lv_sub hl [0, 1, 2, 3, 5, 6] rfl)
  have L13 : ∀ (n : Nat) (s1 : Int32) (s2 : Int32) (s3 : Int32) (s4 : Int32) (s5 : Int32) (ls : Array Slot), f_X11_areFalse_L13 s1 s2 s3 f_t_s f_t_rows n s4 s5 = some R → lv_has ls 7 [(0, .ref a_t), (1, .int s1), (2, .int s2), (3, .int s3), (4, .int s4), (5, .int s5)] → W p l e rm_X11_areFalse s m args below meth c s.heap [] 0 0 Q (F0 m 13 ls []) := by
    intro n
    induction n with
    | zero =>
      intro s1 s2 s3 s4 s5 ls hf
      cases hf
    | succ n ih =>
      intro s1 s2 s3 s4 s5 ls hf hl
      unfold f_X11_areFalse_L13 at hf
      refine lv_iload hx hb dX11_areFalse_13 (lv_at hl 5 rfl) ?_
      refine lv_iload_n hx hb dX11_areFalse_15 rfl (lv_at hl 3 rfl) ?_
      refine lv_icmp_gt (tgt := 77) hx hb dX11_areFalse_16 (by decide) (fun c2 => ?_) (fun c2 => ?_)
      · have hf := ite_t c2 hf
        refine lv_iload hx hb dX11_areFalse_77 (lv_at hl 4 rfl) ?_
        obtain ⟨g3, hf⟩ := gd_s hf
        obtain rfl := Option.some.inj hf
        subst hQ
        exact en_oz hx hb hr hlocks rfl (zob_s g3) dX11_areFalse_79
      have hf := ite_f c2 hf
      refine lv_iconst (v := 1) hx hb dX11_areFalse_19 (by decide) ?_
      refine lv_istore (lv' := [(6, .int 1), (0, .ref a_t), (1, .int s1), (2, .int s2), (3, .int s3), (4, .int s4), (5, .int s5)]) hx hb dX11_areFalse_20 hl (by decide) rfl (fun ls hl => ?_)
      refine L22 _ _ _ _ _ _ _ _ _ hf (lv_sub hl [1, 2, 3, 4, 5, 6, 0] rfl) ?_
      intro y10 y11 ls hf hl
      refine lv_iinc (v := (s5 + 1)) (lv' := [(5, .int (s5 + 1)), (0, .ref a_t), (1, .int s1), (2, .int s2), (3, .int s3), (4, .int y10)]) hx hb dX11_areFalse_71 hl (k := 5) rfl rfl (by decide) rfl (fun ls hl => ?_)
      refine lv_goto (tgt := 13) hx hb dX11_areFalse_74 (by decide) ?_
      exact ih _ _ _ _ _ _ hf (lv_sub hl [1, 2, 3, 4, 5, 0] rfl)
  refine lv_aload_n hx hb dX11_areFalse_0 rfl (lv_at hl 0 rfl) ?_
  refine va_get (D := D) (ci := 8) (v := .ref a_t_s) (C := RX11) (T := TX11) (N := 18) hx hb hts inX11 hown hE.1 hP 0 rfl rfl 0 (by decide) (hts _ qw761) (fun _ h9 => h9) rfl dX11_areFalse_1 ?_
  refine lv_iconst (v := 1) hx hb dX11_areFalse_4 (by decide) ?_
  refine va_iald hx hb hE.1 hP 1 0 rfl rfl (inb_in (by decide)) dX11_areFalse_5 ?_
  refine nm_W hf (fun x1 hf => ?_)
  refine lv_istore_n (lv' := [(3, .int x1), (0, .ref a_t), (1, .int s1), (2, .int s2)]) hx hb dX11_areFalse_6 rfl hl (by decide) rfl (fun ls hl => ?_)
  refine lv_iconst (v := 0) hx hb dX11_areFalse_7 (by decide) ?_
  refine lv_istore (lv' := [(4, .int 0), (3, .int x1), (0, .ref a_t), (1, .int s1), (2, .int s2)]) hx hb dX11_areFalse_8 hl (by decide) rfl (fun ls hl => ?_)
  refine lv_iconst (v := 1) hx hb dX11_areFalse_10 (by decide) ?_
  refine lv_istore (lv' := [(5, .int 1), (4, .int 0), (3, .int x1), (0, .ref a_t), (1, .int s1), (2, .int s2)]) hx hb dX11_areFalse_11 hl (by decide) rfl (fun ls hl => ?_)
  exact L13 _ _ _ _ _ _ _ hf (lv_sub hl [3, 4, 5, 2, 1, 0] rfl)

def f_X11_falsePairs_L18 (k : Int32 → Int32 → Option (Int32)) (s2 : Int32) (f_t_s : Nat → Int32) (f_t_rows : Nat → Int32) : Nat → Int32 → Int32 → Option (Int32)
  | 0, _, _ => none
  | n + 1, s1, s3 => (if (f_t_s (2 : Int32).toNatClampNeg) ≤ s3 then (k s1 s3) else bd (f_X11_areFalse s2 s3 f_t_s f_t_rows) (fun q4 => nm (if q4 = 0 then (0 : Int32) else (1 : Int32)) (fun (w7 : Int32) => nm (s1 + w7) (fun (x8 : Int32) => (f_X11_falsePairs_L18 k s2 f_t_s f_t_rows n x8 (s3 + 1))))))
def f_X11_falsePairs_L4 (f_t_s : Nat → Int32) (f_t_rows : Nat → Int32) : Nat → Int32 → Int32 → Option (Int32)
  | 0, _, _ => none
  | n + 1, s1, s2 => (if (f_t_s (2 : Int32).toNatClampNeg) ≤ s2 then some s1 else nm (s2 + 1) (fun (x2 : Int32) => (f_X11_falsePairs_L18 (fun (y10 : Int32) (y11 : Int32) => (f_X11_falsePairs_L4 f_t_s f_t_rows n y10 (s2 + 1))) s2 f_t_s f_t_rows fu s1 x2)))
def f_X11_falsePairs (f_t_s : Nat → Int32) (f_t_rows : Nat → Int32) : Option (Int32) :=
  (f_X11_falsePairs_L4 f_t_s f_t_rows fu 0 0)
abbrev rm_X11_falsePairs : Room := { frames := 2, cells := 0, slots := 0, locals := 50 }
set_option maxHeartbeats 4000000 in
set_option maxRecDepth 100000 in
theorem c_X11_falsePairs (l : Launch) (D : va_G) (Y : ClassId × ClassId × ClassId) (a_t a_t_s a_t_past a_t_kept a_t_pad a_t_cell a_t_other a_t_rows a_t_read a_t_track a_t_lead a_t_distance a_t_line : Nat) (v_t_isKept : Int32) (v_t_pasts : Int32) (v_t_typed : Int32) (v_t_ends : Int32) (v_t_many : Int32) (v_t_spot : Int32) (f_t_s : Nat → Int32) (f_t_rows : Nat → Int32) (R : Int32) (hf : f_X11_falsePairs f_t_s f_t_rows = some R) : Met l yX11_falsePairs (ws_ yX11_falsePairs cX11_falsePairs 4 (some .int)) rm_X11_falsePairs (va_Pc [.ref a_t] (RO D Y [(a_t, .inr (8, [.ref a_t_s, .ref a_t_past, .ref a_t_kept, .int v_t_isKept, .int v_t_pasts, .ref a_t_pad, .int v_t_typed, .ref a_t_cell, .ref a_t_other, .ref a_t_rows, .int v_t_ends, .ref a_t_read, .int v_t_many, .int v_t_spot, .ref a_t_track, .ref a_t_lead, .ref a_t_distance, .ref a_t_line])), (a_t_s, .inl (Y.1, 41, .inl f_t_s)), (a_t_rows, .inl (Y.1, 341, .inl f_t_rows))])) (OI R) 0 0 (fun _ => False) := by
  refine ro_start (by decide) (Nat.le_of_ble_eq_true rfl) ?_
  intro p e s m below meth c ls hx hb hml hr hlocks hown hts hP hE hl
  generalize hargs : List.toArray _ = args at hts ⊢
  have hown : s.vm.findClass RX11 = some m.cls := hown
  have E : EN p m c cX11_falsePairs 4 s args RX11 := ⟨hx, hb, hml, hown, hts⟩
  have hl : lv_has ls 4 [(0, .ref a_t)] := hl
  generalize hQ : MQ below _ args s 0 0 _ = Q
  unfold f_X11_falsePairs at hf
  have L18 : ∀ (n : Nat) (k : Int32 → Int32 → Option (Int32)) (s2 : Int32) (s1 : Int32) (s3 : Int32) (ls : Array Slot), f_X11_falsePairs_L18 k s2 f_t_s f_t_rows n s1 s3 = some R → lv_has ls 4 [(0, .ref a_t), (1, .int s1), (2, .int s2), (3, .int s3)] → (∀ (y_s1 : Int32) (y_s3 : Int32) (ls : Array Slot), k y_s1 y_s3 = some R → lv_has ls 4 [(0, .ref a_t), (1, .int y_s1), (2, .int s2)] → W p l e rm_X11_falsePairs s m args below meth c s.heap [] 0 0 Q (F0 m 51 ls [])) → W p l e rm_X11_falsePairs s m args below meth c s.heap [] 0 0 Q (F0 m 18 ls []) := by
    intro n
    induction n with
    | zero =>
      intro k s2 s1 s3 ls hf
      cases hf
    | succ n ih =>
      intro k s2 s1 s3 ls hf hl hk
      unfold f_X11_falsePairs_L18 at hf
      refine lv_iload_n hx hb dX11_falsePairs_18 rfl (lv_at hl 3 rfl) ?_
      refine lv_aload_n hx hb dX11_falsePairs_19 rfl (lv_at hl 0 rfl) ?_
      refine va_get (D := D) (ci := 8) (v := .ref a_t_s) (C := RX11) (T := TX11) (N := 18) hx hb hts inX11 hown hE.1 hP 0 rfl rfl 0 (by decide) (hts _ qw761) (fun _ h9 => h9) rfl dX11_falsePairs_20 ?_
      refine lv_iconst (v := 2) hx hb dX11_falsePairs_23 (by decide) ?_
      refine va_iald hx hb hE.1 hP 1 0 rfl rfl (inb_in (by decide)) dX11_falsePairs_24 ?_
      refine lv_icmp_ge (tgt := 51) hx hb dX11_falsePairs_25 (by decide) (fun c3 => ?_) (fun c3 => ?_)
      · have hf := ite_t c3 hf
        exact hk _ _ _ hf (lv_sub hl [0, 1, 2] rfl)
      have hf := ite_f c3 hf
      refine lv_iload_n hx hb dX11_falsePairs_28 rfl (lv_at hl 1 rfl) ?_
      refine lv_aload_n hx hb dX11_falsePairs_29 rfl (lv_at hl 0 rfl) ?_
      refine lv_iload_n hx hb dX11_falsePairs_30 rfl (lv_at hl 2 rfl) ?_
      refine lv_iload_n hx hb dX11_falsePairs_31 rfl (lv_at hl 3 rfl) ?_
      obtain ⟨q4, h5, hf⟩ := bd_s hf
      refine af_oz (run_V (As := [.int s2, .int s3]) (rest := [.int s1]) E (c_X11_areFalse l D Y a_t a_t_s a_t_past a_t_kept a_t_pad a_t_cell a_t_other a_t_rows a_t_read a_t_track a_t_lead a_t_distance a_t_line v_t_isKept v_t_pasts v_t_typed v_t_ends v_t_many v_t_spot f_t_s f_t_rows s2 s3 q4 h5) qw1018 qw1020 qw56 qw76 qw1021 rfl rfl hd_X11_areFalse ⟨Nat.le_of_ble_eq_true rfl, Nat.le_of_ble_eq_true rfl⟩ (pre_roV hP hE [0, 1, 2] rfl (ci := 8) (q0 := 0) rfl rfl) rfl hl.1 rfl (Nat.le_of_ble_eq_true rfl) dX11_falsePairs_32 ⟨Nat.zero_le _, Nat.zero_le _⟩) (fun z6 => ?_)
      refine mg (P := fun (w7 : Int32) => ∀ (ls : Array Slot), lv_has ls 4 [(0, .ref a_t), (2, .int s2), (3, .int s3)] → W p l e rm_X11_falsePairs s m args below meth c s.heap [] 0 0 Q (F0 m 43 ls [.int w7, .int s1])) hf (fun w7 hf ls hl => ?_) (fun hJ => ?_)
      · refine lv_iadd hx hb dX11_falsePairs_43 ?_
        refine nm_W hf (fun x8 hf => ?_)
        refine lv_istore_n (lv' := [(1, .int x8), (0, .ref a_t), (2, .int s2), (3, .int s3)]) hx hb dX11_falsePairs_44 rfl hl (by decide) rfl (fun ls hl => ?_)
        refine lv_iinc (v := (s3 + 1)) (lv' := [(3, .int (s3 + 1)), (1, .int x8), (0, .ref a_t), (2, .int s2)]) hx hb dX11_falsePairs_45 hl (k := 3) rfl rfl (by decide) rfl (fun ls hl => ?_)
        refine lv_goto (tgt := 18) hx hb dX11_falsePairs_48 (by decide) ?_
        exact ih _ _ _ _ _ hf (lv_sub hl [2, 1, 3, 0] rfl) hk
      refine lv_if_eq (tgt := 42) hx hb dX11_falsePairs_35 (by decide) (fun c9 => ?_) (fun c9 => ?_)
      · have hf := nmi_t c9 hf
        refine lv_iconst (v := 0) hx hb dX11_falsePairs_42 (by decide) ?_
        exact hJ _ (nm_b hf) _ (lv_sub hl [0, 2, 3] rfl)
      have hf := nmi_f c9 hf
      refine lv_iconst (v := 1) hx hb dX11_falsePairs_38 (by decide) ?_
      refine lv_goto (tgt := 43) hx hb dX11_falsePairs_39 (by decide) ?_
      exact hJ _ (nm_b hf) _ (lv_sub hl [0, 2, 3] rfl)
  have L4 : ∀ (n : Nat) (s1 : Int32) (s2 : Int32) (ls : Array Slot), f_X11_falsePairs_L4 f_t_s f_t_rows n s1 s2 = some R → lv_has ls 4 [(0, .ref a_t), (1, .int s1), (2, .int s2)] → W p l e rm_X11_falsePairs s m args below meth c s.heap [] 0 0 Q (F0 m 4 ls []) := by
    intro n
    induction n with
    | zero =>
      intro s1 s2 ls hf
      cases hf
    | succ n ih =>
      intro s1 s2 ls hf hl
      unfold f_X11_falsePairs_L4 at hf
      refine lv_iload_n hx hb dX11_falsePairs_4 rfl (lv_at hl 2 rfl) ?_
      refine lv_aload_n hx hb dX11_falsePairs_5 rfl (lv_at hl 0 rfl) ?_
      refine va_get (D := D) (ci := 8) (v := .ref a_t_s) (C := RX11) (T := TX11) (N := 18) hx hb hts inX11 hown hE.1 hP 0 rfl rfl 0 (by decide) (hts _ qw761) (fun _ h9 => h9) rfl dX11_falsePairs_6 ?_
      refine lv_iconst (v := 2) hx hb dX11_falsePairs_9 (by decide) ?_
      refine va_iald hx hb hE.1 hP 1 0 rfl rfl (inb_in (by decide)) dX11_falsePairs_10 ?_
      refine lv_icmp_ge (tgt := 57) hx hb dX11_falsePairs_11 (by decide) (fun c1 => ?_) (fun c1 => ?_)
      · have hf := ite_t c1 hf
        refine lv_iload_n hx hb dX11_falsePairs_57 rfl (lv_at hl 1 rfl) ?_
        obtain rfl := Option.some.inj hf
        subst hQ
        exact en_oi hx hb hr hlocks rfl dX11_falsePairs_58
      have hf := ite_f c1 hf
      refine lv_iload_n hx hb dX11_falsePairs_14 rfl (lv_at hl 2 rfl) ?_
      refine lv_iconst (v := 1) hx hb dX11_falsePairs_15 (by decide) ?_
      refine lv_iadd hx hb dX11_falsePairs_16 ?_
      refine nm_W hf (fun x2 hf => ?_)
      refine lv_istore_n (lv' := [(3, .int x2), (0, .ref a_t), (1, .int s1), (2, .int s2)]) hx hb dX11_falsePairs_17 rfl hl (by decide) rfl (fun ls hl => ?_)
      refine L18 _ _ _ _ _ _ hf (lv_sub hl [1, 2, 3, 0] rfl) ?_
      intro y10 y11 ls hf hl
      refine lv_iinc (v := (s2 + 1)) (lv' := [(2, .int (s2 + 1)), (0, .ref a_t), (1, .int y10)]) hx hb dX11_falsePairs_51 hl (k := 2) rfl rfl (by decide) rfl (fun ls hl => ?_)
      refine lv_goto (tgt := 4) hx hb dX11_falsePairs_54 (by decide) ?_
      exact ih _ _ _ hf (lv_sub hl [1, 2, 0] rfl)
  refine lv_iconst (v := 0) hx hb dX11_falsePairs_0 (by decide) ?_
  refine lv_istore_n (lv' := [(1, .int 0), (0, .ref a_t)]) hx hb dX11_falsePairs_1 rfl hl (by decide) rfl (fun ls hl => ?_)
  refine lv_iconst (v := 0) hx hb dX11_falsePairs_2 (by decide) ?_
  refine lv_istore_n (lv' := [(2, .int 0), (1, .int 0), (0, .ref a_t)]) hx hb dX11_falsePairs_3 rfl hl (by decide) rfl (fun ls hl => ?_)
  exact L4 _ _ _ _ hf (lv_sub hl [2, 1, 0] rfl)

def f_X11_musical_L4 (v_t_ends : Int32) (f_t_s : Nat → Int32) (f_t_rows : Nat → Int32) : Nat → Int32 → Int32 → (Nat → Int32) → Option (Int32 × (Nat → Int32))
  | 0, _, _, _ => none
  | n + 1, s1, s2, f_t_cell => (if v_t_ends < s2 then some (s1, f_t_cell) else gd (inb s2 341) (bd (f_X11_unrank (f_t_rows s2.toNatClampNeg) f_t_s f_t_cell) (fun q3 => bd (f_X11_soundsWell f_t_s q3) (fun q5 => nm (if q5 = 0 then (0 : Int32) else (1 : Int32)) (fun (w8 : Int32) => nm (s1 + w8) (fun (x9 : Int32) => (f_X11_musical_L4 v_t_ends f_t_s f_t_rows n x9 (s2 + 1) q3)))))))
def f_X11_musical (v_t_ends : Int32) (f_t_s : Nat → Int32) (f_t_cell : Nat → Int32) (f_t_rows : Nat → Int32) : Option (Int32 × (Nat → Int32)) :=
  (f_X11_musical_L4 v_t_ends f_t_s f_t_rows fu 0 1 f_t_cell)
abbrev rm_X11_musical : Room := { frames := 2, cells := 0, slots := 0, locals := 49 }
set_option maxHeartbeats 4000000 in
set_option maxRecDepth 100000 in
theorem c_X11_musical (l : Launch) (D : va_G) (Y : ClassId × ClassId × ClassId) (a_t a_t_s a_t_past a_t_kept a_t_pad a_t_cell a_t_other a_t_rows a_t_read a_t_track a_t_lead a_t_distance a_t_line : Nat) (v_t_isKept : Int32) (v_t_pasts : Int32) (v_t_typed : Int32) (v_t_ends : Int32) (v_t_many : Int32) (v_t_spot : Int32) (f_t_s : Nat → Int32) (f_t_cell : Nat → Int32) (f_t_rows : Nat → Int32) (sz : Nat) (R : Int32 × (Nat → Int32)) (hf : f_X11_musical v_t_ends f_t_s f_t_cell f_t_rows = some R) : Met l yX11_musical (ws_ yX11_musical cX11_musical 3 (some .int)) rm_X11_musical (va_Pc [.ref a_t] (RW D Y sz [(a_t, .inr (8, [.ref a_t_s, .ref a_t_past, .ref a_t_kept, .int v_t_isKept, .int v_t_pasts, .ref a_t_pad, .int v_t_typed, .ref a_t_cell, .ref a_t_other, .ref a_t_rows, .int v_t_ends, .ref a_t_read, .int v_t_many, .int v_t_spot, .ref a_t_track, .ref a_t_lead, .ref a_t_distance, .ref a_t_line])), (a_t_s, .inl (Y.1, 41, .inl f_t_s)), (a_t_cell, .inl (Y.1, 7, .inl f_t_cell)), (a_t_rows, .inl (Y.1, 341, .inl f_t_rows))])) (QI D R.1 [(a_t, .inr (8, [.ref a_t_s, .ref a_t_past, .ref a_t_kept, .int v_t_isKept, .int v_t_pasts, .ref a_t_pad, .int v_t_typed, .ref a_t_cell, .ref a_t_other, .ref a_t_rows, .int v_t_ends, .ref a_t_read, .int v_t_many, .int v_t_spot, .ref a_t_track, .ref a_t_lead, .ref a_t_distance, .ref a_t_line])), (a_t_s, .inl (Y.1, 41, .inl f_t_s)), (a_t_cell, .inl (Y.1, 7, .inl R.2)), (a_t_rows, .inl (Y.1, 341, .inl f_t_rows))] (va_A [(a_t, .inr (8, [.ref a_t_s, .ref a_t_past, .ref a_t_kept, .int v_t_isKept, .int v_t_pasts, .ref a_t_pad, .int v_t_typed, .ref a_t_cell, .ref a_t_other, .ref a_t_rows, .int v_t_ends, .ref a_t_read, .int v_t_many, .int v_t_spot, .ref a_t_track, .ref a_t_lead, .ref a_t_distance, .ref a_t_line])), (a_t_s, .inl (Y.1, 41, .inl f_t_s)), (a_t_cell, .inl (Y.1, 7, .inl f_t_cell)), (a_t_rows, .inl (Y.1, 341, .inl f_t_rows))] sz)) 0 0 (va_A [(a_t, .inr (8, [.ref a_t_s, .ref a_t_past, .ref a_t_kept, .int v_t_isKept, .int v_t_pasts, .ref a_t_pad, .int v_t_typed, .ref a_t_cell, .ref a_t_other, .ref a_t_rows, .int v_t_ends, .ref a_t_read, .int v_t_many, .int v_t_spot, .ref a_t_track, .ref a_t_lead, .ref a_t_distance, .ref a_t_line])), (a_t_s, .inl (Y.1, 41, .inl f_t_s)), (a_t_cell, .inl (Y.1, 7, .inl f_t_cell)), (a_t_rows, .inl (Y.1, 341, .inl f_t_rows))] sz) := by
  refine rw_start (Qc := fun A => QI D R.1 [(a_t, .inr (8, [.ref a_t_s, .ref a_t_past, .ref a_t_kept, .int v_t_isKept, .int v_t_pasts, .ref a_t_pad, .int v_t_typed, .ref a_t_cell, .ref a_t_other, .ref a_t_rows, .int v_t_ends, .ref a_t_read, .int v_t_many, .int v_t_spot, .ref a_t_track, .ref a_t_lead, .ref a_t_distance, .ref a_t_line])), (a_t_s, .inl (Y.1, 41, .inl f_t_s)), (a_t_cell, .inl (Y.1, 7, .inl R.2)), (a_t_rows, .inl (Y.1, 341, .inl f_t_rows))] A) (by decide) (Nat.le_of_ble_eq_true rfl) ?_
  intro p e s m below meth c ls A hx hb hml hr hlocks hown hts hnm hA hP hD hS hE hl
  generalize hargs : List.toArray _ = args at hts ⊢
  have hown : s.vm.findClass RX11 = some m.cls := hown
  have E : EN p m c cX11_musical 3 s args RX11 := ⟨hx, hb, hml, hown, hts⟩
  have hl : lv_has ls 3 [(0, .ref a_t)] := hl
  generalize hQ : MQ below _ args s 0 0 _ = Q
  unfold f_X11_musical at hf
  have L4 : ∀ (n : Nat) (s1 : Int32) (s2 : Int32) (f_t_cell : Nat → Int32) (H : Heap) (locs : List Loc) (ls : Array Slot), f_X11_musical_L4 v_t_ends f_t_s f_t_rows n s1 s2 f_t_cell = some R → va_P D vwCl [(a_t, .inr (8, [.ref a_t_s, .ref a_t_past, .ref a_t_kept, .int v_t_isKept, .int v_t_pasts, .ref a_t_pad, .int v_t_typed, .ref a_t_cell, .ref a_t_other, .ref a_t_rows, .int v_t_ends, .ref a_t_read, .int v_t_many, .int v_t_spot, .ref a_t_track, .ref a_t_lead, .ref a_t_distance, .ref a_t_line])), (a_t_s, .inl (Y.1, 41, .inl f_t_s)), (a_t_cell, .inl (Y.1, 7, .inl f_t_cell)), (a_t_rows, .inl (Y.1, 341, .inl f_t_rows))] H → va_D A [(a_t, .inr (8, [.ref a_t_s, .ref a_t_past, .ref a_t_kept, .int v_t_isKept, .int v_t_pasts, .ref a_t_pad, .int v_t_typed, .ref a_t_cell, .ref a_t_other, .ref a_t_rows, .int v_t_ends, .ref a_t_read, .int v_t_many, .int v_t_spot, .ref a_t_track, .ref a_t_lead, .ref a_t_distance, .ref a_t_line])), (a_t_s, .inl (Y.1, 41, .inl f_t_s)), (a_t_cell, .inl (Y.1, 7, .inl f_t_cell)), (a_t_rows, .inl (Y.1, 341, .inl f_t_rows))] → va_S A s.heap H locs → lv_has ls 3 [(0, .ref a_t), (1, .int s1), (2, .int s2)] → W p l e rm_X11_musical s m args below meth c H locs 0 0 Q (F0 m 4 ls []) := by
    intro n
    induction n with
    | zero =>
      intro s1 s2 f_t_cell H locs ls hf
      cases hf
    | succ n ih =>
      intro s1 s2 f_t_cell H locs ls hf hP hD hS hl
      unfold f_X11_musical_L4 at hf
      refine lv_iload_n hx hb dX11_musical_4 rfl (lv_at hl 2 rfl) ?_
      refine lv_aload_n hx hb dX11_musical_5 rfl (lv_at hl 0 rfl) ?_
      refine va_get (D := D) (ci := 8) (v := .int v_t_ends) (C := RX11) (T := TX11) (N := 18) hx hb hts inX11 hown hE.1 hP 0 rfl rfl 10 (by decide) (hts _ qw771) (fun _ h9 => h9) rfl dX11_musical_6 ?_
      refine lv_icmp_gt (tgt := 43) hx hb dX11_musical_9 (by decide) (fun c1 => ?_) (fun c1 => ?_)
      · have hf := ite_t c1 hf
        refine lv_iload_n hx hb dX11_musical_43 rfl (lv_at hl 1 rfl) ?_
        obtain rfl := Option.some.inj hf
        subst hQ
        exact en_i hx hb hr hlocks hP hD hS rfl dX11_musical_44
      have hf := ite_f c1 hf
      refine lv_aload_n hx hb dX11_musical_12 rfl (lv_at hl 0 rfl) ?_
      refine lv_aload_n hx hb dX11_musical_13 rfl (lv_at hl 0 rfl) ?_
      refine va_get (D := D) (ci := 8) (v := .ref a_t_rows) (C := RX11) (T := TX11) (N := 18) hx hb hts inX11 hown hE.1 hP 0 rfl rfl 9 (by decide) (hts _ qw770) (fun _ h9 => h9) rfl dX11_musical_14 ?_
      refine lv_iload_n hx hb dX11_musical_17 rfl (lv_at hl 2 rfl) ?_
      obtain ⟨g2, hf⟩ := gd_s hf
      refine va_iald hx hb hE.1 hP 3 0 rfl rfl (inb_in g2) dX11_musical_18 ?_
      obtain ⟨q3, h4, hf⟩ := bd_s hf
      refine af_v0 (wc := [(a_t, .inr (8, [.ref a_t_s, .ref a_t_past, .ref a_t_kept, .int v_t_isKept, .int v_t_pasts, .ref a_t_pad, .int v_t_typed, .ref a_t_cell, .ref a_t_other, .ref a_t_rows, .int v_t_ends, .ref a_t_read, .int v_t_many, .int v_t_spot, .ref a_t_track, .ref a_t_lead, .ref a_t_distance, .ref a_t_line])), (a_t_s, .inl (Y.1, 41, .inl f_t_s)), (a_t_cell, .inl (Y.1, 7, .inl f_t_cell))]) (wr := [(a_t_rows, .inl (Y.1, 341, .inl f_t_rows))]) (wn := [(a_t, .inr (8, [.ref a_t_s, .ref a_t_past, .ref a_t_kept, .int v_t_isKept, .int v_t_pasts, .ref a_t_pad, .int v_t_typed, .ref a_t_cell, .ref a_t_other, .ref a_t_rows, .int v_t_ends, .ref a_t_read, .int v_t_many, .int v_t_spot, .ref a_t_track, .ref a_t_lead, .ref a_t_distance, .ref a_t_line])), (a_t_s, .inl (Y.1, 41, .inl f_t_s)), (a_t_cell, .inl (Y.1, 7, .inl q3)), (a_t_rows, .inl (Y.1, 341, .inl f_t_rows))]) (run_V (As := [.int (f_t_rows s2.toNatClampNeg)]) (rest := []) E (c_X11_unrank l D Y a_t a_t_s a_t_past a_t_kept a_t_pad a_t_cell a_t_other a_t_rows a_t_read a_t_track a_t_lead a_t_distance a_t_line v_t_isKept v_t_pasts v_t_typed v_t_ends v_t_many v_t_spot f_t_s f_t_cell (f_t_rows s2.toNatClampNeg) H.size q3 h4) qw926 qw928 qw38 qw76 qw929 rfl rfl hd_X11_unrank ⟨Nat.le_of_ble_eq_true rfl, Nat.le_of_ble_eq_true rfl⟩ (pre_rwV hP hD hE [0, 1, 2] rfl (by decide) rfl (ci := 8) (q0 := 0) rfl rfl) rfl hl.1 rfl (Nat.le_of_ble_eq_true rfl) dX11_musical_19 ⟨Nat.zero_le _, Nat.zero_le _⟩) hP hD hS hA [0, 1, 2] [3] [1, 2, 3, 0] rfl rfl (by decide) (by decide) rfl rfl (by decide) (fun H locs  hP hD hS => ?_)
      refine lv_iload_n hx hb dX11_musical_22 rfl (lv_at hl 1 rfl) ?_
      refine lv_aload_n hx hb dX11_musical_23 rfl (lv_at hl 0 rfl) ?_
      obtain ⟨q5, h6, hf⟩ := bd_s hf
      refine af_oz (run_V (As := []) (rest := [.int s1]) E (c_X11_soundsWell l D Y a_t a_t_s a_t_past a_t_kept a_t_pad a_t_cell a_t_other a_t_rows a_t_read a_t_track a_t_lead a_t_distance a_t_line v_t_isKept v_t_pasts v_t_typed v_t_ends v_t_many v_t_spot f_t_s q3 q5 h6) qw946 qw948 qw41 qw76 qw949 rfl rfl hd_X11_soundsWell ⟨Nat.le_of_ble_eq_true rfl, Nat.le_of_ble_eq_true rfl⟩ (pre_roV hP hE [0, 1, 2] rfl (ci := 8) (q0 := 0) rfl rfl) rfl hl.1 rfl (Nat.le_of_ble_eq_true rfl) dX11_musical_24 ⟨Nat.zero_le _, Nat.zero_le _⟩) (fun z7 => ?_)
      refine mg (P := fun (w8 : Int32) => ∀ (ls : Array Slot), lv_has ls 3 [(0, .ref a_t), (2, .int s2)] → W p l e rm_X11_musical s m args below meth c H locs 0 0 Q (F0 m 35 ls [.int w8, .int s1])) hf (fun w8 hf ls hl => ?_) (fun hJ => ?_)
      · refine lv_iadd hx hb dX11_musical_35 ?_
        refine nm_W hf (fun x9 hf => ?_)
        refine lv_istore_n (lv' := [(1, .int x9), (0, .ref a_t), (2, .int s2)]) hx hb dX11_musical_36 rfl hl (by decide) rfl (fun ls hl => ?_)
        refine lv_iinc (v := (s2 + 1)) (lv' := [(2, .int (s2 + 1)), (1, .int x9), (0, .ref a_t)]) hx hb dX11_musical_37 hl (k := 2) rfl rfl (by decide) rfl (fun ls hl => ?_)
        refine lv_goto (tgt := 4) hx hb dX11_musical_40 (by decide) ?_
        exact ih _ _ _ _ _ _ hf hP hD hS (lv_sub hl [2, 1, 0] rfl)
      refine lv_if_eq (tgt := 34) hx hb dX11_musical_27 (by decide) (fun c10 => ?_) (fun c10 => ?_)
      · have hf := nmi_t c10 hf
        refine lv_iconst (v := 0) hx hb dX11_musical_34 (by decide) ?_
        exact hJ _ (nm_b hf) _ (lv_sub hl [0, 2] rfl)
      have hf := nmi_f c10 hf
      refine lv_iconst (v := 1) hx hb dX11_musical_30 (by decide) ?_
      refine lv_goto (tgt := 35) hx hb dX11_musical_31 (by decide) ?_
      exact hJ _ (nm_b hf) _ (lv_sub hl [0, 2] rfl)
  refine lv_iconst (v := 0) hx hb dX11_musical_0 (by decide) ?_
  refine lv_istore_n (lv' := [(1, .int 0), (0, .ref a_t)]) hx hb dX11_musical_1 rfl hl (by decide) rfl (fun ls hl => ?_)
  refine lv_iconst (v := 1) hx hb dX11_musical_2 (by decide) ?_
  refine lv_istore_n (lv' := [(2, .int 1), (1, .int 0), (0, .ref a_t)]) hx hb dX11_musical_3 rfl hl (by decide) rfl (fun ls hl => ?_)
  exact L4 _ _ _ _ _ _ _ hf hP hD hS (lv_sub hl [2, 1, 0] rfl)

def f_X11_called_L4 (f_t_s : Nat → Int32) : Nat → Int32 → Int32 → Option (Int32)
  | 0, _, _ => none
  | n + 1, s1, s2 => (if (f_t_s (2 : Int32).toNatClampNeg) ≤ s2 then some s1 else gd (inb ((25 : Int32) + s2) 41) (nm (if (f_t_s ((25 : Int32) + s2).toNatClampNeg) ≤ 0 then (0 : Int32) else (1 : Int32)) (fun (w3 : Int32) => nm (s1 + w3) (fun (x4 : Int32) => (f_X11_called_L4 f_t_s n x4 (s2 + 1))))))
def f_X11_called (f_t_s : Nat → Int32) : Option (Int32) :=
  (f_X11_called_L4 f_t_s fu 0 0)
abbrev rm_X11_called : Room := { frames := 1, cells := 0, slots := 0, locals := 24 }
set_option maxHeartbeats 4000000 in
set_option maxRecDepth 100000 in
theorem c_X11_called (l : Launch) (D : va_G) (Y : ClassId × ClassId × ClassId) (a_t a_t_s a_t_past a_t_kept a_t_pad a_t_cell a_t_other a_t_rows a_t_read a_t_track a_t_lead a_t_distance a_t_line : Nat) (v_t_isKept : Int32) (v_t_pasts : Int32) (v_t_typed : Int32) (v_t_ends : Int32) (v_t_many : Int32) (v_t_spot : Int32) (f_t_s : Nat → Int32) (R : Int32) (hf : f_X11_called f_t_s = some R) : Met l yX11_called (ws_ yX11_called cX11_called 3 (some .int)) rm_X11_called (va_Pc [.ref a_t] (RO D Y [(a_t, .inr (8, [.ref a_t_s, .ref a_t_past, .ref a_t_kept, .int v_t_isKept, .int v_t_pasts, .ref a_t_pad, .int v_t_typed, .ref a_t_cell, .ref a_t_other, .ref a_t_rows, .int v_t_ends, .ref a_t_read, .int v_t_many, .int v_t_spot, .ref a_t_track, .ref a_t_lead, .ref a_t_distance, .ref a_t_line])), (a_t_s, .inl (Y.1, 41, .inl f_t_s))])) (OI R) 0 0 (fun _ => False) := by
  refine ro_start (by decide) (Nat.le_of_ble_eq_true rfl) ?_
  intro p e s m below meth c ls hx hb hml hr hlocks hown hts hP hE hl
  generalize hargs : List.toArray _ = args at hts ⊢
  have hown : s.vm.findClass RX11 = some m.cls := hown
  have E : EN p m c cX11_called 3 s args RX11 := ⟨hx, hb, hml, hown, hts⟩
  have hl : lv_has ls 3 [(0, .ref a_t)] := hl
  generalize hQ : MQ below _ args s 0 0 _ = Q
  unfold f_X11_called at hf
  have L4 : ∀ (n : Nat) (s1 : Int32) (s2 : Int32) (ls : Array Slot), f_X11_called_L4 f_t_s n s1 s2 = some R → lv_has ls 3 [(0, .ref a_t), (1, .int s1), (2, .int s2)] → W p l e rm_X11_called s m args below meth c s.heap [] 0 0 Q (F0 m 4 ls []) := by
    intro n
    induction n with
    | zero =>
      intro s1 s2 ls hf
      cases hf
    | succ n ih =>
      intro s1 s2 ls hf hl
      unfold f_X11_called_L4 at hf
      refine lv_iload_n hx hb dX11_called_4 rfl (lv_at hl 2 rfl) ?_
      refine lv_aload_n hx hb dX11_called_5 rfl (lv_at hl 0 rfl) ?_
      refine va_get (D := D) (ci := 8) (v := .ref a_t_s) (C := RX11) (T := TX11) (N := 18) hx hb hts inX11 hown hE.1 hP 0 rfl rfl 0 (by decide) (hts _ qw761) (fun _ h9 => h9) rfl dX11_called_6 ?_
      refine lv_iconst (v := 2) hx hb dX11_called_9 (by decide) ?_
      refine va_iald hx hb hE.1 hP 1 0 rfl rfl (inb_in (by decide)) dX11_called_10 ?_
      refine lv_icmp_ge (tgt := 40) hx hb dX11_called_11 (by decide) (fun c1 => ?_) (fun c1 => ?_)
      · have hf := ite_t c1 hf
        refine lv_iload_n hx hb dX11_called_40 rfl (lv_at hl 1 rfl) ?_
        obtain rfl := Option.some.inj hf
        subst hQ
        exact en_oi hx hb hr hlocks rfl dX11_called_41
      have hf := ite_f c1 hf
      refine lv_iload_n hx hb dX11_called_14 rfl (lv_at hl 1 rfl) ?_
      refine lv_aload_n hx hb dX11_called_15 rfl (lv_at hl 0 rfl) ?_
      refine va_get (D := D) (ci := 8) (v := .ref a_t_s) (C := RX11) (T := TX11) (N := 18) hx hb hts inX11 hown hE.1 hP 0 rfl rfl 0 (by decide) (hts _ qw761) (fun _ h9 => h9) rfl dX11_called_16 ?_
      refine lv_bipush (v := 25) hx hb dX11_called_19 (by decide) ?_
      refine lv_iload_n hx hb dX11_called_21 rfl (lv_at hl 2 rfl) ?_
      refine lv_iadd hx hb dX11_called_22 ?_
      obtain ⟨g2, hf⟩ := gd_s hf
      refine va_iald hx hb hE.1 hP 1 0 rfl rfl (inb_in g2) dX11_called_23 ?_
      refine mg (P := fun (w3 : Int32) => ∀ (ls : Array Slot), lv_has ls 3 [(0, .ref a_t), (2, .int s2)] → W p l e rm_X11_called s m args below meth c s.heap [] 0 0 Q (F0 m 32 ls [.int w3, .int s1])) hf (fun w3 hf ls hl => ?_) (fun hJ => ?_)
      · refine lv_iadd hx hb dX11_called_32 ?_
        refine nm_W hf (fun x4 hf => ?_)
        refine lv_istore_n (lv' := [(1, .int x4), (0, .ref a_t), (2, .int s2)]) hx hb dX11_called_33 rfl hl (by decide) rfl (fun ls hl => ?_)
        refine lv_iinc (v := (s2 + 1)) (lv' := [(2, .int (s2 + 1)), (1, .int x4), (0, .ref a_t)]) hx hb dX11_called_34 hl (k := 2) rfl rfl (by decide) rfl (fun ls hl => ?_)
        refine lv_goto (tgt := 4) hx hb dX11_called_37 (by decide) ?_
        exact ih _ _ _ hf (lv_sub hl [2, 1, 0] rfl)
      refine lv_if_le (tgt := 31) hx hb dX11_called_24 (by decide) (fun c5 => ?_) (fun c5 => ?_)
      · have hf := nmi_t c5 hf
        refine lv_iconst (v := 0) hx hb dX11_called_31 (by decide) ?_
        exact hJ _ (nm_b hf) _ (lv_sub hl [0, 2] rfl)
      have hf := nmi_f c5 hf
      refine lv_iconst (v := 1) hx hb dX11_called_27 (by decide) ?_
      refine lv_goto (tgt := 32) hx hb dX11_called_28 (by decide) ?_
      exact hJ _ (nm_b hf) _ (lv_sub hl [0, 2] rfl)
  refine lv_iconst (v := 0) hx hb dX11_called_0 (by decide) ?_
  refine lv_istore_n (lv' := [(1, .int 0), (0, .ref a_t)]) hx hb dX11_called_1 rfl hl (by decide) rfl (fun ls hl => ?_)
  refine lv_iconst (v := 0) hx hb dX11_called_2 (by decide) ?_
  refine lv_istore_n (lv' := [(2, .int 0), (1, .int 0), (0, .ref a_t)]) hx hb dX11_called_3 rfl hl (by decide) rfl (fun ls hl => ?_)
  exact L4 _ _ _ _ hf (lv_sub hl [2, 1, 0] rfl)

def f_X11_plainCourse_L14 (k : Int32 → (Nat → Int32) → Option (Int32 × (Nat → Int32))) (s1 : Int32) (f_t_s : Nat → Int32) : Nat → Int32 → (Nat → Int32) → Option (Int32 × (Nat → Int32))
  | 0, _, _ => none
  | n + 1, s3, f_t_cell => (if (f_t_s (1 : Int32).toNatClampNeg) ≤ s3 then (k s3 f_t_cell) else gd (inb ((5 : Int32) + s3) 41) (bd (f_X11_rings (f_t_s ((5 : Int32) + s3).toNatClampNeg) f_t_s f_t_cell) (fun q6 => (f_X11_plainCourse_L14 k s1 f_t_s n (s3 + 1) q6))))
def f_X11_plainCourse_L8 (f_t_s : Nat → Int32) : Nat → Int32 → Int32 → (Nat → Int32) → Option (Int32 × (Nat → Int32))
  | 0, _, _, _ => none
  | n + 1, s1, s2, f_t_cell => (if s2 = 0 then some (s1, f_t_cell) else (f_X11_plainCourse_L14 (fun (y8 : Int32) (y9 : Nat → Int32) => bd (f_X11_rank f_t_s y9) (fun q10 => (f_X11_plainCourse_L8 f_t_s n (s1 + 1) q10 y9))) s1 f_t_s fu 0 f_t_cell))
def f_X11_plainCourse (f_t_s : Nat → Int32) (f_t_cell : Nat → Int32) : Option (Int32 × (Nat → Int32)) :=
  bd (f_X11_toRounds f_t_s f_t_cell) (fun q1 => (f_X11_plainCourse_L8 f_t_s fu 0 1 q1))
abbrev rm_X11_plainCourse : Room := { frames := 2, cells := 0, slots := 0, locals := 49 }
set_option maxHeartbeats 4000000 in
set_option maxRecDepth 100000 in
theorem c_X11_plainCourse (l : Launch) (D : va_G) (Y : ClassId × ClassId × ClassId) (a_t a_t_s a_t_past a_t_kept a_t_pad a_t_cell a_t_other a_t_rows a_t_read a_t_track a_t_lead a_t_distance a_t_line : Nat) (v_t_isKept : Int32) (v_t_pasts : Int32) (v_t_typed : Int32) (v_t_ends : Int32) (v_t_many : Int32) (v_t_spot : Int32) (f_t_s : Nat → Int32) (f_t_cell : Nat → Int32) (sz : Nat) (R : Int32 × (Nat → Int32)) (hf : f_X11_plainCourse f_t_s f_t_cell = some R) : Met l yX11_plainCourse (ws_ yX11_plainCourse cX11_plainCourse 4 (some .int)) rm_X11_plainCourse (va_Pc [.ref a_t] (RW D Y sz [(a_t, .inr (8, [.ref a_t_s, .ref a_t_past, .ref a_t_kept, .int v_t_isKept, .int v_t_pasts, .ref a_t_pad, .int v_t_typed, .ref a_t_cell, .ref a_t_other, .ref a_t_rows, .int v_t_ends, .ref a_t_read, .int v_t_many, .int v_t_spot, .ref a_t_track, .ref a_t_lead, .ref a_t_distance, .ref a_t_line])), (a_t_s, .inl (Y.1, 41, .inl f_t_s)), (a_t_cell, .inl (Y.1, 7, .inl f_t_cell))])) (QI D R.1 [(a_t, .inr (8, [.ref a_t_s, .ref a_t_past, .ref a_t_kept, .int v_t_isKept, .int v_t_pasts, .ref a_t_pad, .int v_t_typed, .ref a_t_cell, .ref a_t_other, .ref a_t_rows, .int v_t_ends, .ref a_t_read, .int v_t_many, .int v_t_spot, .ref a_t_track, .ref a_t_lead, .ref a_t_distance, .ref a_t_line])), (a_t_s, .inl (Y.1, 41, .inl f_t_s)), (a_t_cell, .inl (Y.1, 7, .inl R.2))] (va_A [(a_t, .inr (8, [.ref a_t_s, .ref a_t_past, .ref a_t_kept, .int v_t_isKept, .int v_t_pasts, .ref a_t_pad, .int v_t_typed, .ref a_t_cell, .ref a_t_other, .ref a_t_rows, .int v_t_ends, .ref a_t_read, .int v_t_many, .int v_t_spot, .ref a_t_track, .ref a_t_lead, .ref a_t_distance, .ref a_t_line])), (a_t_s, .inl (Y.1, 41, .inl f_t_s)), (a_t_cell, .inl (Y.1, 7, .inl f_t_cell))] sz)) 0 0 (va_A [(a_t, .inr (8, [.ref a_t_s, .ref a_t_past, .ref a_t_kept, .int v_t_isKept, .int v_t_pasts, .ref a_t_pad, .int v_t_typed, .ref a_t_cell, .ref a_t_other, .ref a_t_rows, .int v_t_ends, .ref a_t_read, .int v_t_many, .int v_t_spot, .ref a_t_track, .ref a_t_lead, .ref a_t_distance, .ref a_t_line])), (a_t_s, .inl (Y.1, 41, .inl f_t_s)), (a_t_cell, .inl (Y.1, 7, .inl f_t_cell))] sz) := by
  refine rw_start (Qc := fun A => QI D R.1 [(a_t, .inr (8, [.ref a_t_s, .ref a_t_past, .ref a_t_kept, .int v_t_isKept, .int v_t_pasts, .ref a_t_pad, .int v_t_typed, .ref a_t_cell, .ref a_t_other, .ref a_t_rows, .int v_t_ends, .ref a_t_read, .int v_t_many, .int v_t_spot, .ref a_t_track, .ref a_t_lead, .ref a_t_distance, .ref a_t_line])), (a_t_s, .inl (Y.1, 41, .inl f_t_s)), (a_t_cell, .inl (Y.1, 7, .inl R.2))] A) (by decide) (Nat.le_of_ble_eq_true rfl) ?_
  intro p e s m below meth c ls A hx hb hml hr hlocks hown hts hnm hA hP hD hS hE hl
  generalize hargs : List.toArray _ = args at hts ⊢
  have hown : s.vm.findClass RX11 = some m.cls := hown
  have E : EN p m c cX11_plainCourse 4 s args RX11 := ⟨hx, hb, hml, hown, hts⟩
  have hl : lv_has ls 4 [(0, .ref a_t)] := hl
  generalize hQ : MQ below _ args s 0 0 _ = Q
  unfold f_X11_plainCourse at hf
  have L14 : ∀ (n : Nat) (k : Int32 → (Nat → Int32) → Option (Int32 × (Nat → Int32))) (s1 : Int32) (s3 : Int32) (f_t_cell : Nat → Int32) (H : Heap) (locs : List Loc) (ls : Array Slot), f_X11_plainCourse_L14 k s1 f_t_s n s3 f_t_cell = some R → va_P D vwCl [(a_t, .inr (8, [.ref a_t_s, .ref a_t_past, .ref a_t_kept, .int v_t_isKept, .int v_t_pasts, .ref a_t_pad, .int v_t_typed, .ref a_t_cell, .ref a_t_other, .ref a_t_rows, .int v_t_ends, .ref a_t_read, .int v_t_many, .int v_t_spot, .ref a_t_track, .ref a_t_lead, .ref a_t_distance, .ref a_t_line])), (a_t_s, .inl (Y.1, 41, .inl f_t_s)), (a_t_cell, .inl (Y.1, 7, .inl f_t_cell))] H → va_D A [(a_t, .inr (8, [.ref a_t_s, .ref a_t_past, .ref a_t_kept, .int v_t_isKept, .int v_t_pasts, .ref a_t_pad, .int v_t_typed, .ref a_t_cell, .ref a_t_other, .ref a_t_rows, .int v_t_ends, .ref a_t_read, .int v_t_many, .int v_t_spot, .ref a_t_track, .ref a_t_lead, .ref a_t_distance, .ref a_t_line])), (a_t_s, .inl (Y.1, 41, .inl f_t_s)), (a_t_cell, .inl (Y.1, 7, .inl f_t_cell))] → va_S A s.heap H locs → lv_has ls 4 [(0, .ref a_t), (1, .int s1), (3, .int s3)] → (∀ (y_s3 : Int32) (y_f_t_cell : Nat → Int32) (H : Heap) (locs : List Loc) (ls : Array Slot), k y_s3 y_f_t_cell = some R → va_P D vwCl [(a_t, .inr (8, [.ref a_t_s, .ref a_t_past, .ref a_t_kept, .int v_t_isKept, .int v_t_pasts, .ref a_t_pad, .int v_t_typed, .ref a_t_cell, .ref a_t_other, .ref a_t_rows, .int v_t_ends, .ref a_t_read, .int v_t_many, .int v_t_spot, .ref a_t_track, .ref a_t_lead, .ref a_t_distance, .ref a_t_line])), (a_t_s, .inl (Y.1, 41, .inl f_t_s)), (a_t_cell, .inl (Y.1, 7, .inl y_f_t_cell))] H → va_D A [(a_t, .inr (8, [.ref a_t_s, .ref a_t_past, .ref a_t_kept, .int v_t_isKept, .int v_t_pasts, .ref a_t_pad, .int v_t_typed, .ref a_t_cell, .ref a_t_other, .ref a_t_rows, .int v_t_ends, .ref a_t_read, .int v_t_many, .int v_t_spot, .ref a_t_track, .ref a_t_lead, .ref a_t_distance, .ref a_t_line])), (a_t_s, .inl (Y.1, 41, .inl f_t_s)), (a_t_cell, .inl (Y.1, 7, .inl y_f_t_cell))] → va_S A s.heap H locs → lv_has ls 4 [(0, .ref a_t), (1, .int s1)] → W p l e rm_X11_plainCourse s m args below meth c H locs 0 0 Q (F0 m 42 ls [])) → W p l e rm_X11_plainCourse s m args below meth c H locs 0 0 Q (F0 m 14 ls []) := by
    intro n
    induction n with
    | zero =>
      intro k s1 s3 f_t_cell H locs ls hf
      cases hf
    | succ n ih =>
      intro k s1 s3 f_t_cell H locs ls hf hP hD hS hl hk
      unfold f_X11_plainCourse_L14 at hf
      refine lv_iload_n hx hb dX11_plainCourse_14 rfl (lv_at hl 2 rfl) ?_
      refine lv_aload_n hx hb dX11_plainCourse_15 rfl (lv_at hl 0 rfl) ?_
      refine va_get (D := D) (ci := 8) (v := .ref a_t_s) (C := RX11) (T := TX11) (N := 18) hx hb hts inX11 hown hE.1 hP 0 rfl rfl 0 (by decide) (hts _ qw761) (fun _ h9 => h9) rfl dX11_plainCourse_16 ?_
      refine lv_iconst (v := 1) hx hb dX11_plainCourse_19 (by decide) ?_
      refine va_iald hx hb hE.1 hP 1 0 rfl rfl (inb_in (by decide)) dX11_plainCourse_20 ?_
      refine lv_icmp_ge (tgt := 42) hx hb dX11_plainCourse_21 (by decide) (fun c4 => ?_) (fun c4 => ?_)
      · have hf := ite_t c4 hf
        exact hk _ _ _ _ _ hf hP hD hS (lv_sub hl [0, 1] rfl)
      have hf := ite_f c4 hf
      refine lv_aload_n hx hb dX11_plainCourse_24 rfl (lv_at hl 0 rfl) ?_
      refine lv_aload_n hx hb dX11_plainCourse_25 rfl (lv_at hl 0 rfl) ?_
      refine va_get (D := D) (ci := 8) (v := .ref a_t_s) (C := RX11) (T := TX11) (N := 18) hx hb hts inX11 hown hE.1 hP 0 rfl rfl 0 (by decide) (hts _ qw761) (fun _ h9 => h9) rfl dX11_plainCourse_26 ?_
      refine lv_iconst (v := 5) hx hb dX11_plainCourse_29 (by decide) ?_
      refine lv_iload_n hx hb dX11_plainCourse_30 rfl (lv_at hl 2 rfl) ?_
      refine lv_iadd hx hb dX11_plainCourse_31 ?_
      obtain ⟨g5, hf⟩ := gd_s hf
      refine va_iald hx hb hE.1 hP 1 0 rfl rfl (inb_in g5) dX11_plainCourse_32 ?_
      obtain ⟨q6, h7, hf⟩ := bd_s hf
      refine af_v0 (wc := [(a_t, .inr (8, [.ref a_t_s, .ref a_t_past, .ref a_t_kept, .int v_t_isKept, .int v_t_pasts, .ref a_t_pad, .int v_t_typed, .ref a_t_cell, .ref a_t_other, .ref a_t_rows, .int v_t_ends, .ref a_t_read, .int v_t_many, .int v_t_spot, .ref a_t_track, .ref a_t_lead, .ref a_t_distance, .ref a_t_line])), (a_t_s, .inl (Y.1, 41, .inl f_t_s)), (a_t_cell, .inl (Y.1, 7, .inl f_t_cell))]) (wr := []) (wn := [(a_t, .inr (8, [.ref a_t_s, .ref a_t_past, .ref a_t_kept, .int v_t_isKept, .int v_t_pasts, .ref a_t_pad, .int v_t_typed, .ref a_t_cell, .ref a_t_other, .ref a_t_rows, .int v_t_ends, .ref a_t_read, .int v_t_many, .int v_t_spot, .ref a_t_track, .ref a_t_lead, .ref a_t_distance, .ref a_t_line])), (a_t_s, .inl (Y.1, 41, .inl f_t_s)), (a_t_cell, .inl (Y.1, 7, .inl q6))]) (run_V (As := [.int (f_t_s ((5 : Int32) + s3).toNatClampNeg)]) (rest := []) E (c_X11_rings l D Y a_t a_t_s a_t_past a_t_kept a_t_pad a_t_cell a_t_other a_t_rows a_t_read a_t_track a_t_lead a_t_distance a_t_line v_t_isKept v_t_pasts v_t_typed v_t_ends v_t_many v_t_spot f_t_s f_t_cell (f_t_s ((5 : Int32) + s3).toNatClampNeg) H.size q6 h7) qw918 qw920 qw36 qw76 qw921 rfl rfl hd_X11_rings ⟨Nat.le_of_ble_eq_true rfl, Nat.le_of_ble_eq_true rfl⟩ (pre_rwV hP hD hE [0, 1, 2] rfl (by decide) rfl (ci := 8) (q0 := 0) rfl rfl) rfl hl.1 rfl (Nat.le_of_ble_eq_true rfl) dX11_plainCourse_33 ⟨Nat.zero_le _, Nat.zero_le _⟩) hP hD hS hA [0, 1, 2] [] [0, 1, 2] rfl rfl (by decide) (by decide) rfl rfl (by decide) (fun H locs  hP hD hS => ?_)
      refine lv_iinc (v := (s3 + 1)) (lv' := [(3, .int (s3 + 1)), (0, .ref a_t), (1, .int s1)]) hx hb dX11_plainCourse_36 hl (k := 2) rfl rfl (by decide) rfl (fun ls hl => ?_)
      refine lv_goto (tgt := 14) hx hb dX11_plainCourse_39 (by decide) ?_
      exact ih _ _ _ _ _ _ _ hf hP hD hS (lv_sub hl [1, 2, 0] rfl) hk
  have L8 : ∀ (n : Nat) (s1 : Int32) (s2 : Int32) (f_t_cell : Nat → Int32) (H : Heap) (locs : List Loc) (ls : Array Slot), f_X11_plainCourse_L8 f_t_s n s1 s2 f_t_cell = some R → va_P D vwCl [(a_t, .inr (8, [.ref a_t_s, .ref a_t_past, .ref a_t_kept, .int v_t_isKept, .int v_t_pasts, .ref a_t_pad, .int v_t_typed, .ref a_t_cell, .ref a_t_other, .ref a_t_rows, .int v_t_ends, .ref a_t_read, .int v_t_many, .int v_t_spot, .ref a_t_track, .ref a_t_lead, .ref a_t_distance, .ref a_t_line])), (a_t_s, .inl (Y.1, 41, .inl f_t_s)), (a_t_cell, .inl (Y.1, 7, .inl f_t_cell))] H → va_D A [(a_t, .inr (8, [.ref a_t_s, .ref a_t_past, .ref a_t_kept, .int v_t_isKept, .int v_t_pasts, .ref a_t_pad, .int v_t_typed, .ref a_t_cell, .ref a_t_other, .ref a_t_rows, .int v_t_ends, .ref a_t_read, .int v_t_many, .int v_t_spot, .ref a_t_track, .ref a_t_lead, .ref a_t_distance, .ref a_t_line])), (a_t_s, .inl (Y.1, 41, .inl f_t_s)), (a_t_cell, .inl (Y.1, 7, .inl f_t_cell))] → va_S A s.heap H locs → lv_has ls 4 [(0, .ref a_t), (1, .int s1), (2, .int s2)] → W p l e rm_X11_plainCourse s m args below meth c H locs 0 0 Q (F0 m 8 ls []) := by
    intro n
    induction n with
    | zero =>
      intro s1 s2 f_t_cell H locs ls hf
      cases hf
    | succ n ih =>
      intro s1 s2 f_t_cell H locs ls hf hP hD hS hl
      unfold f_X11_plainCourse_L8 at hf
      refine lv_iload_n hx hb dX11_plainCourse_8 rfl (lv_at hl 2 rfl) ?_
      refine lv_if_eq (tgt := 53) hx hb dX11_plainCourse_9 (by decide) (fun c3 => ?_) (fun c3 => ?_)
      · have hf := ite_t c3 hf
        refine lv_iload_n hx hb dX11_plainCourse_53 rfl (lv_at hl 1 rfl) ?_
        obtain rfl := Option.some.inj hf
        subst hQ
        exact en_i hx hb hr hlocks hP hD hS rfl dX11_plainCourse_54
      have hf := ite_f c3 hf
      refine lv_iconst (v := 0) hx hb dX11_plainCourse_12 (by decide) ?_
      refine lv_istore_n (lv' := [(3, .int 0), (0, .ref a_t), (1, .int s1), (2, .int s2)]) hx hb dX11_plainCourse_13 rfl hl (by decide) rfl (fun ls hl => ?_)
      refine L14 _ _ _ _ _ _ _ _ hf hP hD hS (lv_sub hl [1, 2, 0] rfl) ?_
      intro y8 y9 H locs ls hf hP hD hS hl
      refine lv_aload_n hx hb dX11_plainCourse_42 rfl (lv_at hl 0 rfl) ?_
      obtain ⟨q10, h11, hf⟩ := bd_s hf
      refine af_oi (run_V (As := []) (rest := []) E (c_X11_rank l D Y a_t a_t_s a_t_past a_t_kept a_t_pad a_t_cell a_t_other a_t_rows a_t_read a_t_track a_t_lead a_t_distance a_t_line v_t_isKept v_t_pasts v_t_typed v_t_ends v_t_many v_t_spot f_t_s y9 q10 h11) qw922 qw924 qw37 qw76 qw925 rfl rfl hd_X11_rank ⟨Nat.le_of_ble_eq_true rfl, Nat.le_of_ble_eq_true rfl⟩ (pre_roV hP hE [0, 1, 2] rfl (ci := 8) (q0 := 0) rfl rfl) rfl hl.1 rfl (Nat.le_of_ble_eq_true rfl) dX11_plainCourse_43 ⟨Nat.zero_le _, Nat.zero_le _⟩) ?_
      refine lv_istore_n (lv' := [(2, .int q10), (0, .ref a_t), (1, .int s1)]) hx hb dX11_plainCourse_46 rfl hl (by decide) rfl (fun ls hl => ?_)
      refine lv_iinc (v := (s1 + 1)) (lv' := [(1, .int (s1 + 1)), (2, .int q10), (0, .ref a_t)]) hx hb dX11_plainCourse_47 hl (k := 2) rfl rfl (by decide) rfl (fun ls hl => ?_)
      refine lv_goto (tgt := 8) hx hb dX11_plainCourse_50 (by decide) ?_
      exact ih _ _ _ _ _ _ hf hP hD hS (lv_sub hl [2, 0, 1] rfl)
  refine lv_aload_n hx hb dX11_plainCourse_0 rfl (lv_at hl 0 rfl) ?_
  obtain ⟨q1, h2, hf⟩ := bd_s hf
  refine af_v0 (wc := [(a_t, .inr (8, [.ref a_t_s, .ref a_t_past, .ref a_t_kept, .int v_t_isKept, .int v_t_pasts, .ref a_t_pad, .int v_t_typed, .ref a_t_cell, .ref a_t_other, .ref a_t_rows, .int v_t_ends, .ref a_t_read, .int v_t_many, .int v_t_spot, .ref a_t_track, .ref a_t_lead, .ref a_t_distance, .ref a_t_line])), (a_t_s, .inl (Y.1, 41, .inl f_t_s)), (a_t_cell, .inl (Y.1, 7, .inl f_t_cell))]) (wr := []) (wn := [(a_t, .inr (8, [.ref a_t_s, .ref a_t_past, .ref a_t_kept, .int v_t_isKept, .int v_t_pasts, .ref a_t_pad, .int v_t_typed, .ref a_t_cell, .ref a_t_other, .ref a_t_rows, .int v_t_ends, .ref a_t_read, .int v_t_many, .int v_t_spot, .ref a_t_track, .ref a_t_lead, .ref a_t_distance, .ref a_t_line])), (a_t_s, .inl (Y.1, 41, .inl f_t_s)), (a_t_cell, .inl (Y.1, 7, .inl q1))]) (run_V (As := []) (rest := []) E (c_X11_toRounds l D Y a_t a_t_s a_t_past a_t_kept a_t_pad a_t_cell a_t_other a_t_rows a_t_read a_t_track a_t_lead a_t_distance a_t_line v_t_isKept v_t_pasts v_t_typed v_t_ends v_t_many v_t_spot f_t_s f_t_cell s.heap.size q1 h2) qw906 qw908 qw33 qw76 qw909 rfl rfl hd_X11_toRounds ⟨Nat.le_of_ble_eq_true rfl, Nat.le_of_ble_eq_true rfl⟩ (pre_rwV hP hD hE [0, 1, 2] rfl (by decide) rfl (ci := 8) (q0 := 0) rfl rfl) rfl hl.1 rfl (Nat.le_of_ble_eq_true rfl) dX11_plainCourse_1 ⟨Nat.zero_le _, Nat.zero_le _⟩) hP hD hS hA [0, 1, 2] [] [0, 1, 2] rfl rfl (by decide) (by decide) rfl rfl (by decide) (fun H locs  hP hD hS => ?_)
  refine lv_iconst (v := 0) hx hb dX11_plainCourse_4 (by decide) ?_
  refine lv_istore_n (lv' := [(1, .int 0), (0, .ref a_t)]) hx hb dX11_plainCourse_5 rfl hl (by decide) rfl (fun ls hl => ?_)
  refine lv_iconst (v := 1) hx hb dX11_plainCourse_6 (by decide) ?_
  refine lv_istore_n (lv' := [(2, .int 1), (1, .int 0), (0, .ref a_t)]) hx hb dX11_plainCourse_7 rfl hl (by decide) rfl (fun ls hl => ?_)
  exact L8 _ _ _ _ _ _ _ hf hP hD hS (lv_sub hl [2, 1, 0] rfl)
