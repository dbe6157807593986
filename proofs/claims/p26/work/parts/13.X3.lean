def f_X3_put (s1 : Int32) (v_t_length : Int32) (f_t_signs : Nat → Int32) : Option (Int32 × (Nat → Int32)) :=
  (if v_t_length < 0 then some (v_t_length, f_t_signs) else (if (80 : Int32) ≤ v_t_length then some (v_t_length, f_t_signs) else gd (inb v_t_length 80) (nm (v_t_length + 1) (fun (x4 : Int32) => some (x4, (upd f_t_signs v_t_length.toNatClampNeg (vp_nar .char s1)))))))
abbrev rm_X3_put : Room := { frames := 1, cells := 0, slots := 0, locals := 24 }
set_option maxHeartbeats 4000000 in
set_option maxRecDepth 100000 in
theorem c_X3_put (l : Launch) (D : va_G) (Y : ClassId × ClassId × ClassId × ClassId) (a_t a_t_signs : Nat) (v_t_length : Int32) (f_t_signs : Nat → Int32) (s1 : Int32) (sz : Nat) (R : Int32 × (Nat → Int32)) (hf : f_X3_put s1 v_t_length f_t_signs = some R) : Met l yX3_put (ws_ yX3_put cX3_put 2 none) rm_X3_put (va_Pc [.ref a_t, .int s1] (RW D Y sz [(a_t, .inr (3, [.ref a_t_signs, .int v_t_length])), (a_t_signs, .inl (Y.2.1, 80, .inl f_t_signs))])) (QV D [(a_t, .inr (3, [.ref a_t_signs, .int R.1])), (a_t_signs, .inl (Y.2.1, 80, .inl R.2))] (va_A [(a_t, .inr (3, [.ref a_t_signs, .int v_t_length])), (a_t_signs, .inl (Y.2.1, 80, .inl f_t_signs))] sz)) 0 0 (va_A [(a_t, .inr (3, [.ref a_t_signs, .int v_t_length])), (a_t_signs, .inl (Y.2.1, 80, .inl f_t_signs))] sz) := by
  refine rw_start (Qc := fun A => QV D [(a_t, .inr (3, [.ref a_t_signs, .int R.1])), (a_t_signs, .inl (Y.2.1, 80, .inl R.2))] A) (by decide) (Nat.le_of_ble_eq_true rfl) ?_
  intro p e s m below meth c ls A hx hb hml hr hlocks hown hts hnm hA hP hD hS hE hl
  generalize hargs : List.toArray _ = args at hts ⊢
  have hown : s.vm.findClass RX3 = some m.cls := hown
  have E : EN p m c cX3_put 2 s args RX3 := ⟨hx, hb, hml, hown, hts⟩
  have hl : lv_has ls 2 [(0, .ref a_t), (1, .int s1)] := hl
  generalize hQ : MQ below _ args s 0 0 _ = Q
  unfold f_X3_put at hf
  refine lv_aload_n hx hb dX3_put_0 rfl (lv_at hl 0 rfl) ?_
  refine va_get (D := D) (ci := 3) (v := .int v_t_length) (C := RX3) (T := TX3) (N := 2) hx hb hts inX3 hown hE.1 hP 0 rfl rfl 1 (by decide) (hts _ qw108) (fun _ h9 => h9) rfl dX3_put_1 ?_
  refine lv_if_lt (tgt := 39) hx hb dX3_put_4 (by decide) (fun c1 => ?_) (fun c1 => ?_)
  · have hf := ite_t c1 hf
    obtain rfl := Option.some.inj hf
    subst hQ
    exact en_v hx hb hr hlocks hP hD hS dX3_put_39
  have hf := ite_f c1 hf
  refine lv_aload_n hx hb dX3_put_7 rfl (lv_at hl 0 rfl) ?_
  refine va_get (D := D) (ci := 3) (v := .int v_t_length) (C := RX3) (T := TX3) (N := 2) hx hb hts inX3 hown hE.1 hP 0 rfl rfl 1 (by decide) (hts _ qw108) (fun _ h9 => h9) rfl dX3_put_8 ?_
  refine lv_aload_n hx hb dX3_put_11 rfl (lv_at hl 0 rfl) ?_
  refine va_get (D := D) (ci := 3) (v := .ref a_t_signs) (C := RX3) (T := TX3) (N := 2) hx hb hts inX3 hown hE.1 hP 0 rfl rfl 0 (by decide) (hts _ qw106) (fun _ h9 => h9) rfl dX3_put_12 ?_
  refine va_alen (v := 80) hx hb hE.1 hP 1 1 rfl rfl rfl dX3_put_15 ?_
  refine lv_icmp_ge (tgt := 39) hx hb dX3_put_16 (by decide) (fun c2 => ?_) (fun c2 => ?_)
  · have hf := ite_t c2 hf
    obtain rfl := Option.some.inj hf
    subst hQ
    exact en_v hx hb hr hlocks hP hD hS dX3_put_39
  have hf := ite_f c2 hf
  refine lv_aload_n hx hb dX3_put_19 rfl (lv_at hl 0 rfl) ?_
  refine va_get (D := D) (ci := 3) (v := .ref a_t_signs) (C := RX3) (T := TX3) (N := 2) hx hb hts inX3 hown hE.1 hP 0 rfl rfl 0 (by decide) (hts _ qw106) (fun _ h9 => h9) rfl dX3_put_20 ?_
  refine lv_aload_n hx hb dX3_put_23 rfl (lv_at hl 0 rfl) ?_
  refine va_get (D := D) (ci := 3) (v := .int v_t_length) (C := RX3) (T := TX3) (N := 2) hx hb hts inX3 hown hE.1 hP 0 rfl rfl 1 (by decide) (hts _ qw108) (fun _ h9 => h9) rfl dX3_put_24 ?_
  refine lv_iload_n hx hb dX3_put_27 rfl (lv_at hl 1 rfl) ?_
  obtain ⟨g3, hf⟩ := gd_s hf
  refine va_cast hx hb hE.1 hP hD hS 1 1 rfl rfl (inb_in g3) dX3_put_28 (fun H locs hP hD hS => ?_)
  have hP : va_P D vwCl [(a_t, .inr (3, [.ref a_t_signs, .int v_t_length])), (a_t_signs, .inl (Y.2.1, 80, .inl (upd f_t_signs v_t_length.toNatClampNeg (vp_nar .char s1))))] H := hP
  have hD : va_D A [(a_t, .inr (3, [.ref a_t_signs, .int v_t_length])), (a_t_signs, .inl (Y.2.1, 80, .inl (upd f_t_signs v_t_length.toNatClampNeg (vp_nar .char s1))))] := hD
  refine lv_aload_n hx hb dX3_put_29 rfl (lv_at hl 0 rfl) ?_
  refine lv_dup hx hb dX3_put_30 rfl ?_
  refine va_get (D := D) (ci := 3) (v := .int v_t_length) (C := RX3) (T := TX3) (N := 2) hx hb hts inX3 hown hE.1 hP 0 rfl rfl 1 (by decide) (hts _ qw108) (fun _ h9 => h9) rfl dX3_put_31 ?_
  refine lv_iconst (v := 1) hx hb dX3_put_34 (by decide) ?_
  refine lv_iadd hx hb dX3_put_35 ?_
  refine nm_W hf (fun x4 hf => ?_)
  refine va_put (D := D) (ci := 3) (v := .int x4) (ty := .int) (C := RX3) (T := TX3) (N := 2) hx hb hts inX3 tyX3 tyX3_ok nmX3 hown hE.1 hP hD hS 0 rfl rfl 1 (by decide) (hts _ qw108) (fun _ h9 => h9) rfl (tyX3_ok 1 (by decide)) rfl rfl (Nat.le_of_ble_eq_true rfl) dX3_put_36 (fun H locs hP hD hS => ?_)
  have hP : va_P D vwCl [(a_t, .inr (3, [.ref a_t_signs, .int x4])), (a_t_signs, .inl (Y.2.1, 80, .inl (upd f_t_signs v_t_length.toNatClampNeg (vp_nar .char s1))))] H := hP
  have hD : va_D A [(a_t, .inr (3, [.ref a_t_signs, .int x4])), (a_t_signs, .inl (Y.2.1, 80, .inl (upd f_t_signs v_t_length.toNatClampNeg (vp_nar .char s1))))] := hD
  obtain rfl := Option.some.inj hf
  subst hQ
  exact en_v hx hb hr hlocks hP hD hS dX3_put_39

def f_X2_beginChange (v_t_made : Int32) (v_t_lastPlace : Int32) (v_t_crossed : Int32) : Int32 × Int32 × Int32 :=
  (0, 0, 0)
abbrev rm_X2_beginChange : Room := { frames := 1, cells := 0, slots := 0, locals := 24 }
set_option maxHeartbeats 4000000 in
set_option maxRecDepth 100000 in
theorem c_X2_beginChange (l : Launch) (D : va_G) (Y : ClassId × ClassId × ClassId × ClassId) (a_t a_t_places : Nat) (v_t_changes : Int32) (v_t_made : Int32) (v_t_lastPlace : Int32) (v_t_crossed : Int32) (sz : Nat) (R : Int32 × Int32 × Int32) (hf : f_X2_beginChange v_t_made v_t_lastPlace v_t_crossed = R) : Met l yX2_beginChange (ws_ yX2_beginChange cX2_beginChange 1 none) rm_X2_beginChange (va_Pc [.ref a_t] (RW D Y sz [(a_t, .inr (2, [.ref a_t_places, .int v_t_changes, .int v_t_made, .int v_t_lastPlace, .int v_t_crossed]))])) (QV D [(a_t, .inr (2, [.ref a_t_places, .int v_t_changes, .int R.1, .int R.2.1, .int R.2.2]))] (va_A [(a_t, .inr (2, [.ref a_t_places, .int v_t_changes, .int v_t_made, .int v_t_lastPlace, .int v_t_crossed]))] sz)) 0 0 (va_A [(a_t, .inr (2, [.ref a_t_places, .int v_t_changes, .int v_t_made, .int v_t_lastPlace, .int v_t_crossed]))] sz) := by
  refine rw_start (Qc := fun A => QV D [(a_t, .inr (2, [.ref a_t_places, .int v_t_changes, .int R.1, .int R.2.1, .int R.2.2]))] A) (by decide) (Nat.le_of_ble_eq_true rfl) ?_
  intro p e s m below meth c ls A hx hb hml hr hlocks hown hts hnm hA hP hD hS hE hl
  generalize hargs : List.toArray _ = args at hts ⊢
  have hown : s.vm.findClass RX2 = some m.cls := hown
  have E : EN p m c cX2_beginChange 1 s args RX2 := ⟨hx, hb, hml, hown, hts⟩
  have hl : lv_has ls 1 [(0, .ref a_t)] := hl
  generalize hQ : MQ below _ args s 0 0 _ = Q
  unfold f_X2_beginChange at hf
  refine lv_aload_n hx hb dX2_beginChange_0 rfl (lv_at hl 0 rfl) ?_
  refine lv_iconst (v := 0) hx hb dX2_beginChange_1 (by decide) ?_
  refine va_put (D := D) (ci := 2) (v := .int 0) (ty := .int) (C := RX2) (T := TX2) (N := 5) hx hb hts inX2 tyX2 tyX2_ok nmX2 hown hE.1 hP hD hS 0 rfl rfl 2 (by decide) (hts _ qw127) (fun _ h9 => h9) rfl (tyX2_ok 2 (by decide)) rfl rfl (Nat.le_of_ble_eq_true rfl) dX2_beginChange_2 (fun H locs hP hD hS => ?_)
  have hP : va_P D vwCl [(a_t, .inr (2, [.ref a_t_places, .int v_t_changes, .int 0, .int v_t_lastPlace, .int v_t_crossed]))] H := hP
  have hD : va_D A [(a_t, .inr (2, [.ref a_t_places, .int v_t_changes, .int 0, .int v_t_lastPlace, .int v_t_crossed]))] := hD
  refine lv_aload_n hx hb dX2_beginChange_5 rfl (lv_at hl 0 rfl) ?_
  refine lv_iconst (v := 0) hx hb dX2_beginChange_6 (by decide) ?_
  refine va_put (D := D) (ci := 2) (v := .int 0) (ty := .int) (C := RX2) (T := TX2) (N := 5) hx hb hts inX2 tyX2 tyX2_ok nmX2 hown hE.1 hP hD hS 0 rfl rfl 3 (by decide) (hts _ qw128) (fun _ h9 => h9) rfl (tyX2_ok 3 (by decide)) rfl rfl (Nat.le_of_ble_eq_true rfl) dX2_beginChange_7 (fun H locs hP hD hS => ?_)
  have hP : va_P D vwCl [(a_t, .inr (2, [.ref a_t_places, .int v_t_changes, .int 0, .int 0, .int v_t_crossed]))] H := hP
  have hD : va_D A [(a_t, .inr (2, [.ref a_t_places, .int v_t_changes, .int 0, .int 0, .int v_t_crossed]))] := hD
  refine lv_aload_n hx hb dX2_beginChange_10 rfl (lv_at hl 0 rfl) ?_
  refine lv_iconst (v := 0) hx hb dX2_beginChange_11 (by decide) ?_
  refine va_put (D := D) (ci := 2) (v := .int 0) (ty := .boolean) (C := RX2) (T := TX2) (N := 5) hx hb hts inX2 tyX2 tyX2_ok nmX2 hown hE.1 hP hD hS 0 rfl rfl 4 (by decide) (hts _ qw129) (fun _ h9 => h9) rfl (tyX2_ok 4 (by decide)) (by decide) (by decide) (Nat.le_of_ble_eq_true rfl) dX2_beginChange_12 (fun H locs hP hD hS => ?_)
  have hP : va_P D vwCl [(a_t, .inr (2, [.ref a_t_places, .int v_t_changes, .int 0, .int 0, .int 0]))] H := hP
  have hD : va_D A [(a_t, .inr (2, [.ref a_t_places, .int v_t_changes, .int 0, .int 0, .int 0]))] := hD
  subst hf
  subst hQ
  exact en_v hx hb hr hlocks hP hD hS dX2_beginChange_15

def f_X2_isChangeRight (s1 : Int32) (v_t_lastPlace : Int32) (v_t_crossed : Int32) : Option (Int32) :=
  (if v_t_crossed = 0 then (if v_t_lastPlace ≤ 0 then some 0 else (if ((s1 - v_t_lastPlace) - (s1 - v_t_lastPlace) / 2 * 2) = 0 then some 1 else some 0)) else some 1)
abbrev rm_X2_isChangeRight : Room := { frames := 1, cells := 0, slots := 0, locals := 24 }
set_option maxHeartbeats 4000000 in
set_option maxRecDepth 100000 in
theorem c_X2_isChangeRight (l : Launch) (D : va_G) (Y : ClassId × ClassId × ClassId × ClassId) (a_t a_t_places : Nat) (v_t_changes : Int32) (v_t_made : Int32) (v_t_lastPlace : Int32) (v_t_crossed : Int32) (s1 : Int32) (R : Int32) (hf : f_X2_isChangeRight s1 v_t_lastPlace v_t_crossed = some R) : Met l yX2_isChangeRight (ws_ yX2_isChangeRight cX2_isChangeRight 2 (some .boolean)) rm_X2_isChangeRight (va_Pc [.ref a_t, .int s1] (RO D Y [(a_t, .inr (2, [.ref a_t_places, .int v_t_changes, .int v_t_made, .int v_t_lastPlace, .int v_t_crossed]))])) (OZ R) 0 0 (fun _ => False) := by
  refine ro_start (by decide) (Nat.le_of_ble_eq_true rfl) ?_
  intro p e s m below meth c ls hx hb hml hr hlocks hown hts hP hE hl
  generalize hargs : List.toArray _ = args at hts ⊢
  have hown : s.vm.findClass RX2 = some m.cls := hown
  have E : EN p m c cX2_isChangeRight 2 s args RX2 := ⟨hx, hb, hml, hown, hts⟩
  have hl : lv_has ls 2 [(0, .ref a_t), (1, .int s1)] := hl
  generalize hQ : MQ below _ args s 0 0 _ = Q
  unfold f_X2_isChangeRight at hf
  refine lv_aload_n hx hb dX2_isChangeRight_0 rfl (lv_at hl 0 rfl) ?_
  refine va_get (D := D) (ci := 2) (v := .int v_t_crossed) (C := RX2) (T := TX2) (N := 5) hx hb hts inX2 hown hE.1 hP 0 rfl rfl 4 (by decide) (hts _ qw129) (fun _ h9 => h9) rfl dX2_isChangeRight_1 ?_
  refine lv_if_ne (tgt := 25) hx hb dX2_isChangeRight_4 (by decide) (fun c1 => ?_) (fun c1 => ?_)
  · have hf := ite_f c1 hf
    refine lv_iconst (v := 1) hx hb dX2_isChangeRight_25 (by decide) ?_
    refine lv_goto (tgt := 30) hx hb dX2_isChangeRight_26 (by decide) ?_
    obtain rfl := Option.some.inj hf
    subst hQ
    exact en_oz hx hb hr hlocks rfl (Or.inr rfl) dX2_isChangeRight_30
  have hf := ite_t c1 hf
  refine lv_aload_n hx hb dX2_isChangeRight_7 rfl (lv_at hl 0 rfl) ?_
  refine va_get (D := D) (ci := 2) (v := .int v_t_lastPlace) (C := RX2) (T := TX2) (N := 5) hx hb hts inX2 hown hE.1 hP 0 rfl rfl 3 (by decide) (hts _ qw128) (fun _ h9 => h9) rfl dX2_isChangeRight_8 ?_
  refine lv_if_le (tgt := 29) hx hb dX2_isChangeRight_11 (by decide) (fun c2 => ?_) (fun c2 => ?_)
  · have hf := ite_t c2 hf
    refine lv_iconst (v := 0) hx hb dX2_isChangeRight_29 (by decide) ?_
    obtain rfl := Option.some.inj hf
    subst hQ
    exact en_oz hx hb hr hlocks rfl (Or.inl rfl) dX2_isChangeRight_30
  have hf := ite_f c2 hf
  refine lv_iload_n hx hb dX2_isChangeRight_14 rfl (lv_at hl 1 rfl) ?_
  refine lv_aload_n hx hb dX2_isChangeRight_15 rfl (lv_at hl 0 rfl) ?_
  refine va_get (D := D) (ci := 2) (v := .int v_t_lastPlace) (C := RX2) (T := TX2) (N := 5) hx hb hts inX2 hown hE.1 hP 0 rfl rfl 3 (by decide) (hts _ qw128) (fun _ h9 => h9) rfl dX2_isChangeRight_16 ?_
  refine lv_isub hx hb dX2_isChangeRight_19 ?_
  refine lv_iconst (v := 2) hx hb dX2_isChangeRight_20 (by decide) ?_
  refine lv_irem hx hb dX2_isChangeRight_21 (by decide) ?_
  refine lv_if_ne (tgt := 29) hx hb dX2_isChangeRight_22 (by decide) (fun c3 => ?_) (fun c3 => ?_)
  · have hf := ite_f c3 hf
    refine lv_iconst (v := 0) hx hb dX2_isChangeRight_29 (by decide) ?_
    obtain rfl := Option.some.inj hf
    subst hQ
    exact en_oz hx hb hr hlocks rfl (Or.inl rfl) dX2_isChangeRight_30
  have hf := ite_t c3 hf
  refine lv_iconst (v := 1) hx hb dX2_isChangeRight_25 (by decide) ?_
  refine lv_goto (tgt := 30) hx hb dX2_isChangeRight_26 (by decide) ?_
  obtain rfl := Option.some.inj hf
  subst hQ
  exact en_oz hx hb hr hlocks rfl (Or.inr rfl) dX2_isChangeRight_30

def f_X2_keepChange (v_t_changes : Int32) (v_t_made : Int32) (v_t_lastPlace : Int32) (v_t_crossed : Int32) (f_t_places : Nat → Int32) : Option (Int32 × Int32 × Int32 × Int32 × (Nat → Int32)) :=
  (if v_t_changes < 0 then some (v_t_changes, (f_X2_beginChange v_t_made v_t_lastPlace v_t_crossed).1, (f_X2_beginChange v_t_made v_t_lastPlace v_t_crossed).2.1, (f_X2_beginChange v_t_made v_t_lastPlace v_t_crossed).2.2, f_t_places) else (if (20 : Int32) ≤ v_t_changes then some (v_t_changes, (f_X2_beginChange v_t_made v_t_lastPlace v_t_crossed).1, (f_X2_beginChange v_t_made v_t_lastPlace v_t_crossed).2.1, (f_X2_beginChange v_t_made v_t_lastPlace v_t_crossed).2.2, f_t_places) else gd (inb v_t_changes 20) (nm (v_t_changes + 1) (fun (x4 : Int32) => some (x4, (f_X2_beginChange v_t_made v_t_lastPlace v_t_crossed).1, (f_X2_beginChange v_t_made v_t_lastPlace v_t_crossed).2.1, (f_X2_beginChange v_t_made v_t_lastPlace v_t_crossed).2.2, (upd f_t_places v_t_changes.toNatClampNeg v_t_made))))))
abbrev rm_X2_keepChange : Room := { frames := 2, cells := 0, slots := 0, locals := 44 }
set_option maxHeartbeats 4000000 in
set_option maxRecDepth 100000 in
theorem c_X2_keepChange (l : Launch) (D : va_G) (Y : ClassId × ClassId × ClassId × ClassId) (a_t a_t_places : Nat) (v_t_changes : Int32) (v_t_made : Int32) (v_t_lastPlace : Int32) (v_t_crossed : Int32) (f_t_places : Nat → Int32) (sz : Nat) (R : Int32 × Int32 × Int32 × Int32 × (Nat → Int32)) (hf : f_X2_keepChange v_t_changes v_t_made v_t_lastPlace v_t_crossed f_t_places = some R) : Met l yX2_keepChange (ws_ yX2_keepChange cX2_keepChange 1 none) rm_X2_keepChange (va_Pc [.ref a_t] (RW D Y sz [(a_t, .inr (2, [.ref a_t_places, .int v_t_changes, .int v_t_made, .int v_t_lastPlace, .int v_t_crossed])), (a_t_places, .inl (Y.1, 20, .inl f_t_places))])) (QV D [(a_t, .inr (2, [.ref a_t_places, .int R.1, .int R.2.1, .int R.2.2.1, .int R.2.2.2.1])), (a_t_places, .inl (Y.1, 20, .inl R.2.2.2.2))] (va_A [(a_t, .inr (2, [.ref a_t_places, .int v_t_changes, .int v_t_made, .int v_t_lastPlace, .int v_t_crossed])), (a_t_places, .inl (Y.1, 20, .inl f_t_places))] sz)) 0 0 (va_A [(a_t, .inr (2, [.ref a_t_places, .int v_t_changes, .int v_t_made, .int v_t_lastPlace, .int v_t_crossed])), (a_t_places, .inl (Y.1, 20, .inl f_t_places))] sz) := by
  refine rw_start (Qc := fun A => QV D [(a_t, .inr (2, [.ref a_t_places, .int R.1, .int R.2.1, .int R.2.2.1, .int R.2.2.2.1])), (a_t_places, .inl (Y.1, 20, .inl R.2.2.2.2))] A) (by decide) (Nat.le_of_ble_eq_true rfl) ?_
  intro p e s m below meth c ls A hx hb hml hr hlocks hown hts hnm hA hP hD hS hE hl
  generalize hargs : List.toArray _ = args at hts ⊢
  have hown : s.vm.findClass RX2 = some m.cls := hown
  have E : EN p m c cX2_keepChange 1 s args RX2 := ⟨hx, hb, hml, hown, hts⟩
  have hl : lv_has ls 1 [(0, .ref a_t)] := hl
  generalize hQ : MQ below _ args s 0 0 _ = Q
  unfold f_X2_keepChange at hf
  refine lv_aload_n hx hb dX2_keepChange_0 rfl (lv_at hl 0 rfl) ?_
  refine va_get (D := D) (ci := 2) (v := .int v_t_changes) (C := RX2) (T := TX2) (N := 5) hx hb hts inX2 hown hE.1 hP 0 rfl rfl 1 (by decide) (hts _ qw125) (fun _ h9 => h9) rfl dX2_keepChange_1 ?_
  refine lv_if_lt (tgt := 42) hx hb dX2_keepChange_4 (by decide) (fun c1 => ?_) (fun c1 => ?_)
  · have hf := ite_t c1 hf
    refine lv_aload_n hx hb dX2_keepChange_42 rfl (lv_at hl 0 rfl) ?_
    refine af_v0 (wc := [(a_t, .inr (2, [.ref a_t_places, .int v_t_changes, .int v_t_made, .int v_t_lastPlace, .int v_t_crossed]))]) (wr := [(a_t_places, .inl (Y.1, 20, .inl f_t_places))]) (wn := [(a_t, .inr (2, [.ref a_t_places, .int v_t_changes, .int ((f_X2_beginChange v_t_made v_t_lastPlace v_t_crossed).1), .int ((f_X2_beginChange v_t_made v_t_lastPlace v_t_crossed).2.1), .int ((f_X2_beginChange v_t_made v_t_lastPlace v_t_crossed).2.2)])), (a_t_places, .inl (Y.1, 20, .inl f_t_places))]) (run_V (As := []) (rest := []) E (c_X2_beginChange l D Y a_t a_t_places v_t_changes v_t_made v_t_lastPlace v_t_crossed s.heap.size (f_X2_beginChange v_t_made v_t_lastPlace v_t_crossed) rfl) qw284 qw286 qw1 qw23 qw287 rfl rfl hd_X2_beginChange ⟨Nat.le_of_ble_eq_true rfl, Nat.le_of_ble_eq_true rfl⟩ (pre_rwV hP hD hE [0] rfl (by decide) rfl (ci := 2) (q0 := 0) rfl rfl) rfl hl.1 rfl (Nat.le_of_ble_eq_true rfl) dX2_keepChange_43 ⟨Nat.zero_le _, Nat.zero_le _⟩) hP hD hS hA [0] [1] [1, 0] rfl rfl (by decide) (by decide) rfl rfl (by decide) (fun H locs  hP hD hS => ?_)
    obtain rfl := Option.some.inj hf
    subst hQ
    exact en_v hx hb hr hlocks hP hD hS dX2_keepChange_46
  have hf := ite_f c1 hf
  refine lv_aload_n hx hb dX2_keepChange_7 rfl (lv_at hl 0 rfl) ?_
  refine va_get (D := D) (ci := 2) (v := .int v_t_changes) (C := RX2) (T := TX2) (N := 5) hx hb hts inX2 hown hE.1 hP 0 rfl rfl 1 (by decide) (hts _ qw125) (fun _ h9 => h9) rfl dX2_keepChange_8 ?_
  refine lv_aload_n hx hb dX2_keepChange_11 rfl (lv_at hl 0 rfl) ?_
  refine va_get (D := D) (ci := 2) (v := .ref a_t_places) (C := RX2) (T := TX2) (N := 5) hx hb hts inX2 hown hE.1 hP 0 rfl rfl 0 (by decide) (hts _ qw122) (fun _ h9 => h9) rfl dX2_keepChange_12 ?_
  refine va_alen (v := 20) hx hb hE.1 hP 1 0 rfl rfl rfl dX2_keepChange_15 ?_
  refine lv_icmp_ge (tgt := 42) hx hb dX2_keepChange_16 (by decide) (fun c2 => ?_) (fun c2 => ?_)
  · have hf := ite_t c2 hf
    refine lv_aload_n hx hb dX2_keepChange_42 rfl (lv_at hl 0 rfl) ?_
    refine af_v0 (wc := [(a_t, .inr (2, [.ref a_t_places, .int v_t_changes, .int v_t_made, .int v_t_lastPlace, .int v_t_crossed]))]) (wr := [(a_t_places, .inl (Y.1, 20, .inl f_t_places))]) (wn := [(a_t, .inr (2, [.ref a_t_places, .int v_t_changes, .int ((f_X2_beginChange v_t_made v_t_lastPlace v_t_crossed).1), .int ((f_X2_beginChange v_t_made v_t_lastPlace v_t_crossed).2.1), .int ((f_X2_beginChange v_t_made v_t_lastPlace v_t_crossed).2.2)])), (a_t_places, .inl (Y.1, 20, .inl f_t_places))]) (run_V (As := []) (rest := []) E (c_X2_beginChange l D Y a_t a_t_places v_t_changes v_t_made v_t_lastPlace v_t_crossed s.heap.size (f_X2_beginChange v_t_made v_t_lastPlace v_t_crossed) rfl) qw284 qw286 qw1 qw23 qw287 rfl rfl hd_X2_beginChange ⟨Nat.le_of_ble_eq_true rfl, Nat.le_of_ble_eq_true rfl⟩ (pre_rwV hP hD hE [0] rfl (by decide) rfl (ci := 2) (q0 := 0) rfl rfl) rfl hl.1 rfl (Nat.le_of_ble_eq_true rfl) dX2_keepChange_43 ⟨Nat.zero_le _, Nat.zero_le _⟩) hP hD hS hA [0] [1] [1, 0] rfl rfl (by decide) (by decide) rfl rfl (by decide) (fun H locs  hP hD hS => ?_)
    obtain rfl := Option.some.inj hf
    subst hQ
    exact en_v hx hb hr hlocks hP hD hS dX2_keepChange_46
  have hf := ite_f c2 hf
  refine lv_aload_n hx hb dX2_keepChange_19 rfl (lv_at hl 0 rfl) ?_
  refine va_get (D := D) (ci := 2) (v := .ref a_t_places) (C := RX2) (T := TX2) (N := 5) hx hb hts inX2 hown hE.1 hP 0 rfl rfl 0 (by decide) (hts _ qw122) (fun _ h9 => h9) rfl dX2_keepChange_20 ?_
  refine lv_aload_n hx hb dX2_keepChange_23 rfl (lv_at hl 0 rfl) ?_
  refine va_get (D := D) (ci := 2) (v := .int v_t_changes) (C := RX2) (T := TX2) (N := 5) hx hb hts inX2 hown hE.1 hP 0 rfl rfl 1 (by decide) (hts _ qw125) (fun _ h9 => h9) rfl dX2_keepChange_24 ?_
  refine lv_aload_n hx hb dX2_keepChange_27 rfl (lv_at hl 0 rfl) ?_
  refine va_get (D := D) (ci := 2) (v := .int v_t_made) (C := RX2) (T := TX2) (N := 5) hx hb hts inX2 hown hE.1 hP 0 rfl rfl 2 (by decide) (hts _ qw127) (fun _ h9 => h9) rfl dX2_keepChange_28 ?_
  obtain ⟨g3, hf⟩ := gd_s hf
  refine va_iast hx hb hE.1 hP hD hS 1 0 rfl rfl (inb_in g3) dX2_keepChange_31 (fun H locs hP hD hS => ?_)
  have hP : va_P D vwCl [(a_t, .inr (2, [.ref a_t_places, .int v_t_changes, .int v_t_made, .int v_t_lastPlace, .int v_t_crossed])), (a_t_places, .inl (Y.1, 20, .inl (upd f_t_places v_t_changes.toNatClampNeg v_t_made)))] H := hP
  have hD : va_D A [(a_t, .inr (2, [.ref a_t_places, .int v_t_changes, .int v_t_made, .int v_t_lastPlace, .int v_t_crossed])), (a_t_places, .inl (Y.1, 20, .inl (upd f_t_places v_t_changes.toNatClampNeg v_t_made)))] := hD
  refine lv_aload_n hx hb dX2_keepChange_32 rfl (lv_at hl 0 rfl) ?_
  refine lv_dup hx hb dX2_keepChange_33 rfl ?_
  refine va_get (D := D) (ci := 2) (v := .int v_t_changes) (C := RX2) (T := TX2) (N := 5) hx hb hts inX2 hown hE.1 hP 0 rfl rfl 1 (by decide) (hts _ qw125) (fun _ h9 => h9) rfl dX2_keepChange_34 ?_
  refine lv_iconst (v := 1) hx hb dX2_keepChange_37 (by decide) ?_
  refine lv_iadd hx hb dX2_keepChange_38 ?_
  refine nm_W hf (fun x4 hf => ?_)
  refine va_put (D := D) (ci := 2) (v := .int x4) (ty := .int) (C := RX2) (T := TX2) (N := 5) hx hb hts inX2 tyX2 tyX2_ok nmX2 hown hE.1 hP hD hS 0 rfl rfl 1 (by decide) (hts _ qw125) (fun _ h9 => h9) rfl (tyX2_ok 1 (by decide)) rfl rfl (Nat.le_of_ble_eq_true rfl) dX2_keepChange_39 (fun H locs hP hD hS => ?_)
  have hP : va_P D vwCl [(a_t, .inr (2, [.ref a_t_places, .int x4, .int v_t_made, .int v_t_lastPlace, .int v_t_crossed])), (a_t_places, .inl (Y.1, 20, .inl (upd f_t_places v_t_changes.toNatClampNeg v_t_made)))] H := hP
  have hD : va_D A [(a_t, .inr (2, [.ref a_t_places, .int x4, .int v_t_made, .int v_t_lastPlace, .int v_t_crossed])), (a_t_places, .inl (Y.1, 20, .inl (upd f_t_places v_t_changes.toNatClampNeg v_t_made)))] := hD
  refine lv_aload_n hx hb dX2_keepChange_42 rfl (lv_at hl 0 rfl) ?_
  refine af_v0 (wc := [(a_t, .inr (2, [.ref a_t_places, .int x4, .int v_t_made, .int v_t_lastPlace, .int v_t_crossed]))]) (wr := [(a_t_places, .inl (Y.1, 20, .inl (upd f_t_places v_t_changes.toNatClampNeg v_t_made)))]) (wn := [(a_t, .inr (2, [.ref a_t_places, .int x4, .int ((f_X2_beginChange v_t_made v_t_lastPlace v_t_crossed).1), .int ((f_X2_beginChange v_t_made v_t_lastPlace v_t_crossed).2.1), .int ((f_X2_beginChange v_t_made v_t_lastPlace v_t_crossed).2.2)])), (a_t_places, .inl (Y.1, 20, .inl (upd f_t_places v_t_changes.toNatClampNeg v_t_made)))]) (run_V (As := []) (rest := []) E (c_X2_beginChange l D Y a_t a_t_places x4 v_t_made v_t_lastPlace v_t_crossed H.size (f_X2_beginChange v_t_made v_t_lastPlace v_t_crossed) rfl) qw284 qw286 qw1 qw23 qw287 rfl rfl hd_X2_beginChange ⟨Nat.le_of_ble_eq_true rfl, Nat.le_of_ble_eq_true rfl⟩ (pre_rwV hP hD hE [0] rfl (by decide) rfl (ci := 2) (q0 := 0) rfl rfl) rfl hl.1 rfl (Nat.le_of_ble_eq_true rfl) dX2_keepChange_43 ⟨Nat.zero_le _, Nat.zero_le _⟩) hP hD hS hA [0] [1] [1, 0] rfl rfl (by decide) (by decide) rfl rfl (by decide) (fun H locs  hP hD hS => ?_)
  obtain rfl := Option.some.inj hf
  subst hQ
  exact en_v hx hb hr hlocks hP hD hS dX2_keepChange_46

def f_X2_acceptsDot (s1 : Int32) (v_t_changes : Int32) (v_t_made : Int32) (v_t_lastPlace : Int32) (v_t_crossed : Int32) (f_t_places : Nat → Int32) : Option (Int32 × Int32 × Int32 × Int32 × Int32 × (Nat → Int32)) :=
  (if (19 : Int32) ≤ v_t_changes then some (0, v_t_changes, v_t_made, v_t_lastPlace, v_t_crossed, f_t_places) else bd (f_X2_isChangeRight s1 v_t_lastPlace v_t_crossed) (fun q2 => (if q2 = 0 then some (0, v_t_changes, v_t_made, v_t_lastPlace, v_t_crossed, f_t_places) else bd (f_X2_keepChange v_t_changes v_t_made v_t_lastPlace v_t_crossed f_t_places) (fun q6 => some (1, q6.1, q6.2.1, q6.2.2.1, q6.2.2.2.1, q6.2.2.2.2)))))
abbrev rm_X2_acceptsDot : Room := { frames := 3, cells := 0, slots := 0, locals := 64 }
set_option maxHeartbeats 4000000 in
set_option maxRecDepth 100000 in
theorem c_X2_acceptsDot (l : Launch) (D : va_G) (Y : ClassId × ClassId × ClassId × ClassId) (a_t a_t_places : Nat) (v_t_changes : Int32) (v_t_made : Int32) (v_t_lastPlace : Int32) (v_t_crossed : Int32) (f_t_places : Nat → Int32) (s1 : Int32) (sz : Nat) (R : Int32 × Int32 × Int32 × Int32 × Int32 × (Nat → Int32)) (hf : f_X2_acceptsDot s1 v_t_changes v_t_made v_t_lastPlace v_t_crossed f_t_places = some R) : Met l yX2_acceptsDot (ws_ yX2_acceptsDot cX2_acceptsDot 2 (some .boolean)) rm_X2_acceptsDot (va_Pc [.ref a_t, .int s1] (RW D Y sz [(a_t, .inr (2, [.ref a_t_places, .int v_t_changes, .int v_t_made, .int v_t_lastPlace, .int v_t_crossed])), (a_t_places, .inl (Y.1, 20, .inl f_t_places))])) (QZ D R.1 [(a_t, .inr (2, [.ref a_t_places, .int R.2.1, .int R.2.2.1, .int R.2.2.2.1, .int R.2.2.2.2.1])), (a_t_places, .inl (Y.1, 20, .inl R.2.2.2.2.2))] (va_A [(a_t, .inr (2, [.ref a_t_places, .int v_t_changes, .int v_t_made, .int v_t_lastPlace, .int v_t_crossed])), (a_t_places, .inl (Y.1, 20, .inl f_t_places))] sz)) 0 0 (va_A [(a_t, .inr (2, [.ref a_t_places, .int v_t_changes, .int v_t_made, .int v_t_lastPlace, .int v_t_crossed])), (a_t_places, .inl (Y.1, 20, .inl f_t_places))] sz) := by
  refine rw_start (Qc := fun A => QZ D R.1 [(a_t, .inr (2, [.ref a_t_places, .int R.2.1, .int R.2.2.1, .int R.2.2.2.1, .int R.2.2.2.2.1])), (a_t_places, .inl (Y.1, 20, .inl R.2.2.2.2.2))] A) (by decide) (Nat.le_of_ble_eq_true rfl) ?_
  intro p e s m below meth c ls A hx hb hml hr hlocks hown hts hnm hA hP hD hS hE hl
  generalize hargs : List.toArray _ = args at hts ⊢
  have hown : s.vm.findClass RX2 = some m.cls := hown
  have E : EN p m c cX2_acceptsDot 2 s args RX2 := ⟨hx, hb, hml, hown, hts⟩
  have hl : lv_has ls 2 [(0, .ref a_t), (1, .int s1)] := hl
  generalize hQ : MQ below _ args s 0 0 _ = Q
  unfold f_X2_acceptsDot at hf
  refine lv_aload_n hx hb dX2_acceptsDot_0 rfl (lv_at hl 0 rfl) ?_
  refine va_get (D := D) (ci := 2) (v := .int v_t_changes) (C := RX2) (T := TX2) (N := 5) hx hb hts inX2 hown hE.1 hP 0 rfl rfl 1 (by decide) (hts _ qw125) (fun _ h9 => h9) rfl dX2_acceptsDot_1 ?_
  refine lv_bipush (v := 19) hx hb dX2_acceptsDot_4 (by decide) ?_
  refine lv_icmp_ge (tgt := 17) hx hb dX2_acceptsDot_6 (by decide) (fun c1 => ?_) (fun c1 => ?_)
  · have hf := ite_t c1 hf
    refine lv_iconst (v := 0) hx hb dX2_acceptsDot_17 (by decide) ?_
    obtain rfl := Option.some.inj hf
    subst hQ
    exact en_z hx hb hr hlocks hP hD hS rfl (Or.inl rfl) dX2_acceptsDot_18
  have hf := ite_f c1 hf
  refine lv_aload_n hx hb dX2_acceptsDot_9 rfl (lv_at hl 0 rfl) ?_
  refine lv_iload_n hx hb dX2_acceptsDot_10 rfl (lv_at hl 1 rfl) ?_
  obtain ⟨q2, h3, hf⟩ := bd_s hf
  refine af_oz (run_V (As := [.int s1]) (rest := []) E (c_X2_isChangeRight l D Y a_t a_t_places v_t_changes v_t_made v_t_lastPlace v_t_crossed s1 q2 h3) qw296 qw298 qw4 qw23 qw299 rfl rfl hd_X2_isChangeRight ⟨Nat.le_of_ble_eq_true rfl, Nat.le_of_ble_eq_true rfl⟩ (pre_roV hP hE [0] rfl (ci := 2) (q0 := 0) rfl rfl) rfl hl.1 rfl (Nat.le_of_ble_eq_true rfl) dX2_acceptsDot_11 ⟨Nat.zero_le _, Nat.zero_le _⟩) (fun z4 => ?_)
  refine lv_if_ne (tgt := 19) hx hb dX2_acceptsDot_14 (by decide) (fun c5 => ?_) (fun c5 => ?_)
  · have hf := ite_f c5 hf
    refine lv_aload_n hx hb dX2_acceptsDot_19 rfl (lv_at hl 0 rfl) ?_
    obtain ⟨q6, h7, hf⟩ := bd_s hf
    refine af_v0 (wc := [(a_t, .inr (2, [.ref a_t_places, .int v_t_changes, .int v_t_made, .int v_t_lastPlace, .int v_t_crossed])), (a_t_places, .inl (Y.1, 20, .inl f_t_places))]) (wr := []) (wn := [(a_t, .inr (2, [.ref a_t_places, .int q6.1, .int q6.2.1, .int q6.2.2.1, .int q6.2.2.2.1])), (a_t_places, .inl (Y.1, 20, .inl q6.2.2.2.2))]) (run_V (As := []) (rest := []) E (c_X2_keepChange l D Y a_t a_t_places v_t_changes v_t_made v_t_lastPlace v_t_crossed f_t_places s.heap.size q6 h7) qw300 qw302 qw5 qw23 qw303 rfl rfl hd_X2_keepChange ⟨Nat.le_of_ble_eq_true rfl, Nat.le_of_ble_eq_true rfl⟩ (pre_rwV hP hD hE [0, 1] rfl (by decide) rfl (ci := 2) (q0 := 0) rfl rfl) rfl hl.1 rfl (Nat.le_of_ble_eq_true rfl) dX2_acceptsDot_20 ⟨Nat.zero_le _, Nat.zero_le _⟩) hP hD hS hA [0, 1] [] [0, 1] rfl rfl (by decide) (by decide) rfl rfl (by decide) (fun H locs  hP hD hS => ?_)
    refine lv_iconst (v := 1) hx hb dX2_acceptsDot_23 (by decide) ?_
    obtain rfl := Option.some.inj hf
    subst hQ
    exact en_z hx hb hr hlocks hP hD hS rfl (Or.inr rfl) dX2_acceptsDot_24
  have hf := ite_t c5 hf
  refine lv_iconst (v := 0) hx hb dX2_acceptsDot_17 (by decide) ?_
  obtain rfl := Option.some.inj hf
  subst hQ
  exact en_z hx hb hr hlocks hP hD hS rfl (Or.inl rfl) dX2_acceptsDot_18

def f_X2_acceptsCross (s1 : Int32) (v_t_lastPlace : Int32) (v_t_crossed : Int32) : Option (Int32 × Int32) :=
  (if v_t_crossed = 0 then (if (0 : Int32) < v_t_lastPlace then some (0, v_t_crossed) else (if (s1 - s1 / 2 * 2) = 0 then some (1, 1) else some (0, v_t_crossed))) else some (0, v_t_crossed))
abbrev rm_X2_acceptsCross : Room := { frames := 1, cells := 0, slots := 0, locals := 24 }
set_option maxHeartbeats 4000000 in
set_option maxRecDepth 100000 in
theorem c_X2_acceptsCross (l : Launch) (D : va_G) (Y : ClassId × ClassId × ClassId × ClassId) (a_t a_t_places : Nat) (v_t_changes : Int32) (v_t_made : Int32) (v_t_lastPlace : Int32) (v_t_crossed : Int32) (s1 : Int32) (sz : Nat) (R : Int32 × Int32) (hf : f_X2_acceptsCross s1 v_t_lastPlace v_t_crossed = some R) : Met l yX2_acceptsCross (ws_ yX2_acceptsCross cX2_acceptsCross 2 (some .boolean)) rm_X2_acceptsCross (va_Pc [.ref a_t, .int s1] (RW D Y sz [(a_t, .inr (2, [.ref a_t_places, .int v_t_changes, .int v_t_made, .int v_t_lastPlace, .int v_t_crossed]))])) (QZ D R.1 [(a_t, .inr (2, [.ref a_t_places, .int v_t_changes, .int v_t_made, .int v_t_lastPlace, .int R.2]))] (va_A [(a_t, .inr (2, [.ref a_t_places, .int v_t_changes, .int v_t_made, .int v_t_lastPlace, .int v_t_crossed]))] sz)) 0 0 (va_A [(a_t, .inr (2, [.ref a_t_places, .int v_t_changes, .int v_t_made, .int v_t_lastPlace, .int v_t_crossed]))] sz) := by
  refine rw_start (Qc := fun A => QZ D R.1 [(a_t, .inr (2, [.ref a_t_places, .int v_t_changes, .int v_t_made, .int v_t_lastPlace, .int R.2]))] A) (by decide) (Nat.le_of_ble_eq_true rfl) ?_
  intro p e s m below meth c ls A hx hb hml hr hlocks hown hts hnm hA hP hD hS hE hl
  generalize hargs : List.toArray _ = args at hts ⊢
  have hown : s.vm.findClass RX2 = some m.cls := hown
  have E : EN p m c cX2_acceptsCross 2 s args RX2 := ⟨hx, hb, hml, hown, hts⟩
  have hl : lv_has ls 2 [(0, .ref a_t), (1, .int s1)] := hl
  generalize hQ : MQ below _ args s 0 0 _ = Q
  unfold f_X2_acceptsCross at hf
  refine lv_aload_n hx hb dX2_acceptsCross_0 rfl (lv_at hl 0 rfl) ?_
  refine va_get (D := D) (ci := 2) (v := .int v_t_crossed) (C := RX2) (T := TX2) (N := 5) hx hb hts inX2 hown hE.1 hP 0 rfl rfl 4 (by decide) (hts _ qw129) (fun _ h9 => h9) rfl dX2_acceptsCross_1 ?_
  refine lv_if_ne (tgt := 20) hx hb dX2_acceptsCross_4 (by decide) (fun c1 => ?_) (fun c1 => ?_)
  · have hf := ite_f c1 hf
    refine lv_iconst (v := 0) hx hb dX2_acceptsCross_20 (by decide) ?_
    obtain rfl := Option.some.inj hf
    subst hQ
    exact en_z hx hb hr hlocks hP hD hS rfl (Or.inl rfl) dX2_acceptsCross_21
  have hf := ite_t c1 hf
  refine lv_aload_n hx hb dX2_acceptsCross_7 rfl (lv_at hl 0 rfl) ?_
  refine va_get (D := D) (ci := 2) (v := .int v_t_lastPlace) (C := RX2) (T := TX2) (N := 5) hx hb hts inX2 hown hE.1 hP 0 rfl rfl 3 (by decide) (hts _ qw128) (fun _ h9 => h9) rfl dX2_acceptsCross_8 ?_
  refine lv_if_gt (tgt := 20) hx hb dX2_acceptsCross_11 (by decide) (fun c2 => ?_) (fun c2 => ?_)
  · have hf := ite_t c2 hf
    refine lv_iconst (v := 0) hx hb dX2_acceptsCross_20 (by decide) ?_
    obtain rfl := Option.some.inj hf
    subst hQ
    exact en_z hx hb hr hlocks hP hD hS rfl (Or.inl rfl) dX2_acceptsCross_21
  have hf := ite_f c2 hf
  refine lv_iload_n hx hb dX2_acceptsCross_14 rfl (lv_at hl 1 rfl) ?_
  refine lv_iconst (v := 2) hx hb dX2_acceptsCross_15 (by decide) ?_
  refine lv_irem hx hb dX2_acceptsCross_16 (by decide) ?_
  refine lv_if_eq (tgt := 22) hx hb dX2_acceptsCross_17 (by decide) (fun c3 => ?_) (fun c3 => ?_)
  · have hf := ite_t c3 hf
    refine lv_aload_n hx hb dX2_acceptsCross_22 rfl (lv_at hl 0 rfl) ?_
    refine lv_iconst (v := 1) hx hb dX2_acceptsCross_23 (by decide) ?_
    refine va_put (D := D) (ci := 2) (v := .int 1) (ty := .boolean) (C := RX2) (T := TX2) (N := 5) hx hb hts inX2 tyX2 tyX2_ok nmX2 hown hE.1 hP hD hS 0 rfl rfl 4 (by decide) (hts _ qw129) (fun _ h9 => h9) rfl (tyX2_ok 4 (by decide)) (by decide) (by decide) (Nat.le_of_ble_eq_true rfl) dX2_acceptsCross_24 (fun H locs hP hD hS => ?_)
    have hP : va_P D vwCl [(a_t, .inr (2, [.ref a_t_places, .int v_t_changes, .int v_t_made, .int v_t_lastPlace, .int 1]))] H := hP
    have hD : va_D A [(a_t, .inr (2, [.ref a_t_places, .int v_t_changes, .int v_t_made, .int v_t_lastPlace, .int 1]))] := hD
    refine lv_iconst (v := 1) hx hb dX2_acceptsCross_27 (by decide) ?_
    obtain rfl := Option.some.inj hf
    subst hQ
    exact en_z hx hb hr hlocks hP hD hS rfl (Or.inr rfl) dX2_acceptsCross_28
  have hf := ite_f c3 hf
  refine lv_iconst (v := 0) hx hb dX2_acceptsCross_20 (by decide) ?_
  obtain rfl := Option.some.inj hf
  subst hQ
  exact en_z hx hb hr hlocks hP hD hS rfl (Or.inl rfl) dX2_acceptsCross_21

def f_X2_acceptsPlace (s1 : Int32) (s2 : Int32) (v_t_made : Int32) (v_t_lastPlace : Int32) (v_t_crossed : Int32) : Option (Int32 × Int32 × Int32) :=
  (if v_t_crossed = 0 then (if s1 ≤ v_t_lastPlace then some (0, v_t_made, v_t_lastPlace) else (if s2 < s1 then some (0, v_t_made, v_t_lastPlace) else (if ((s1 - v_t_lastPlace) - (s1 - v_t_lastPlace) / 2 * 2) = 0 then some (0, v_t_made, v_t_lastPlace) else nm (v_t_made ||| (f_X4_bit s1)) (fun (x5 : Int32) => nm (if x5 = ((f_X4_bit (s1 + 1)) - 1) then (1 : Int32) else (0 : Int32)) (fun (w6 : Int32) => (if w6 = 0 then some (1, x5, s1) else (if s1 < (s2 - 1) then some (1, x5, s1) else some (0, v_t_made, v_t_lastPlace)))))))) else some (0, v_t_made, v_t_lastPlace))
abbrev rm_X2_acceptsPlace : Room := { frames := 2, cells := 0, slots := 0, locals := 44 }
set_option maxHeartbeats 4000000 in
set_option maxRecDepth 100000 in
theorem c_X2_acceptsPlace (l : Launch) (D : va_G) (Y : ClassId × ClassId × ClassId × ClassId) (a_t a_t_places : Nat) (v_t_changes : Int32) (v_t_made : Int32) (v_t_lastPlace : Int32) (v_t_crossed : Int32) (s1 : Int32) (s2 : Int32) (sz : Nat) (R : Int32 × Int32 × Int32) (hf : f_X2_acceptsPlace s1 s2 v_t_made v_t_lastPlace v_t_crossed = some R) : Met l yX2_acceptsPlace (ws_ yX2_acceptsPlace cX2_acceptsPlace 5 (some .boolean)) rm_X2_acceptsPlace (va_Pc [.ref a_t, .int s1, .int s2] (RW D Y sz [(a_t, .inr (2, [.ref a_t_places, .int v_t_changes, .int v_t_made, .int v_t_lastPlace, .int v_t_crossed]))])) (QZ D R.1 [(a_t, .inr (2, [.ref a_t_places, .int v_t_changes, .int R.2.1, .int R.2.2, .int v_t_crossed]))] (va_A [(a_t, .inr (2, [.ref a_t_places, .int v_t_changes, .int v_t_made, .int v_t_lastPlace, .int v_t_crossed]))] sz)) 0 0 (va_A [(a_t, .inr (2, [.ref a_t_places, .int v_t_changes, .int v_t_made, .int v_t_lastPlace, .int v_t_crossed]))] sz) := by
  refine rw_start (Qc := fun A => QZ D R.1 [(a_t, .inr (2, [.ref a_t_places, .int v_t_changes, .int R.2.1, .int R.2.2, .int v_t_crossed]))] A) (by decide) (Nat.le_of_ble_eq_true rfl) ?_
  intro p e s m below meth c ls A hx hb hml hr hlocks hown hts hnm hA hP hD hS hE hl
  generalize hargs : List.toArray _ = args at hts ⊢
  have hown : s.vm.findClass RX2 = some m.cls := hown
  have E : EN p m c cX2_acceptsPlace 5 s args RX2 := ⟨hx, hb, hml, hown, hts⟩
  have hl : lv_has ls 5 [(0, .ref a_t), (1, .int s1), (2, .int s2)] := hl
  generalize hQ : MQ below _ args s 0 0 _ = Q
  unfold f_X2_acceptsPlace at hf
  refine lv_aload_n hx hb dX2_acceptsPlace_0 rfl (lv_at hl 0 rfl) ?_
  refine va_get (D := D) (ci := 2) (v := .int v_t_crossed) (C := RX2) (T := TX2) (N := 5) hx hb hts inX2 hown hE.1 hP 0 rfl rfl 4 (by decide) (hts _ qw129) (fun _ h9 => h9) rfl dX2_acceptsPlace_1 ?_
  refine lv_if_ne (tgt := 31) hx hb dX2_acceptsPlace_4 (by decide) (fun c1 => ?_) (fun c1 => ?_)
  · have hf := ite_f c1 hf
    refine lv_iconst (v := 0) hx hb dX2_acceptsPlace_31 (by decide) ?_
    obtain rfl := Option.some.inj hf
    subst hQ
    exact en_z hx hb hr hlocks hP hD hS rfl (Or.inl rfl) dX2_acceptsPlace_32
  have hf := ite_t c1 hf
  refine lv_iload_n hx hb dX2_acceptsPlace_7 rfl (lv_at hl 1 rfl) ?_
  refine lv_aload_n hx hb dX2_acceptsPlace_8 rfl (lv_at hl 0 rfl) ?_
  refine va_get (D := D) (ci := 2) (v := .int v_t_lastPlace) (C := RX2) (T := TX2) (N := 5) hx hb hts inX2 hown hE.1 hP 0 rfl rfl 3 (by decide) (hts _ qw128) (fun _ h9 => h9) rfl dX2_acceptsPlace_9 ?_
  refine lv_icmp_le (tgt := 31) hx hb dX2_acceptsPlace_12 (by decide) (fun c2 => ?_) (fun c2 => ?_)
  · have hf := ite_t c2 hf
    refine lv_iconst (v := 0) hx hb dX2_acceptsPlace_31 (by decide) ?_
    obtain rfl := Option.some.inj hf
    subst hQ
    exact en_z hx hb hr hlocks hP hD hS rfl (Or.inl rfl) dX2_acceptsPlace_32
  have hf := ite_f c2 hf
  refine lv_iload_n hx hb dX2_acceptsPlace_15 rfl (lv_at hl 1 rfl) ?_
  refine lv_iload_n hx hb dX2_acceptsPlace_16 rfl (lv_at hl 2 rfl) ?_
  refine lv_icmp_gt (tgt := 31) hx hb dX2_acceptsPlace_17 (by decide) (fun c3 => ?_) (fun c3 => ?_)
  · have hf := ite_t c3 hf
    refine lv_iconst (v := 0) hx hb dX2_acceptsPlace_31 (by decide) ?_
    obtain rfl := Option.some.inj hf
    subst hQ
    exact en_z hx hb hr hlocks hP hD hS rfl (Or.inl rfl) dX2_acceptsPlace_32
  have hf := ite_f c3 hf
  refine lv_iload_n hx hb dX2_acceptsPlace_20 rfl (lv_at hl 1 rfl) ?_
  refine lv_aload_n hx hb dX2_acceptsPlace_21 rfl (lv_at hl 0 rfl) ?_
  refine va_get (D := D) (ci := 2) (v := .int v_t_lastPlace) (C := RX2) (T := TX2) (N := 5) hx hb hts inX2 hown hE.1 hP 0 rfl rfl 3 (by decide) (hts _ qw128) (fun _ h9 => h9) rfl dX2_acceptsPlace_22 ?_
  refine lv_isub hx hb dX2_acceptsPlace_25 ?_
  refine lv_iconst (v := 2) hx hb dX2_acceptsPlace_26 (by decide) ?_
  refine lv_irem hx hb dX2_acceptsPlace_27 (by decide) ?_
  refine lv_if_ne (tgt := 33) hx hb dX2_acceptsPlace_28 (by decide) (fun c4 => ?_) (fun c4 => ?_)
  · have hf := ite_f c4 hf
    refine lv_aload_n hx hb dX2_acceptsPlace_33 rfl (lv_at hl 0 rfl) ?_
    refine va_get (D := D) (ci := 2) (v := .int v_t_made) (C := RX2) (T := TX2) (N := 5) hx hb hts inX2 hown hE.1 hP 0 rfl rfl 2 (by decide) (hts _ qw127) (fun _ h9 => h9) rfl dX2_acceptsPlace_34 ?_
    refine lv_iload_n hx hb dX2_acceptsPlace_37 rfl (lv_at hl 1 rfl) ?_
    refine af_oi (run_S (As := [.int s1]) (rest := [.int v_t_made]) E (c_X4_bit l D Y s1 (f_X4_bit s1) rfl) qw312 qw313 qw32 qw314 rfl rfl hd_X4_bit ⟨Nat.le_of_ble_eq_true rfl, Nat.le_of_ble_eq_true rfl⟩ (pre_roS hP hE [] rfl) rfl hl.1 rfl (Nat.le_of_ble_eq_true rfl) dX2_acceptsPlace_38 ⟨Nat.zero_le _, Nat.zero_le _⟩) ?_
    refine lv_ior hx hb dX2_acceptsPlace_41 ?_
    refine nm_W hf (fun x5 hf => ?_)
    refine lv_istore_n (lv' := [(3, .int x5), (0, .ref a_t), (1, .int s1), (2, .int s2)]) hx hb dX2_acceptsPlace_42 rfl hl (by decide) rfl (fun ls hl => ?_)
    refine lv_iload_n hx hb dX2_acceptsPlace_43 rfl (lv_at hl 0 rfl) ?_
    refine lv_iload_n hx hb dX2_acceptsPlace_44 rfl (lv_at hl 2 rfl) ?_
    refine lv_iconst (v := 1) hx hb dX2_acceptsPlace_45 (by decide) ?_
    refine lv_iadd hx hb dX2_acceptsPlace_46 ?_
    refine af_oi (run_S (As := [.int (s1 + 1)]) (rest := [.int x5]) E (c_X4_bit l D Y (s1 + 1) (f_X4_bit (s1 + 1)) rfl) qw312 qw313 qw32 qw314 rfl rfl hd_X4_bit ⟨Nat.le_of_ble_eq_true rfl, Nat.le_of_ble_eq_true rfl⟩ (pre_roS hP hE [] rfl) rfl hl.1 rfl (Nat.le_of_ble_eq_true rfl) dX2_acceptsPlace_47 ⟨Nat.zero_le _, Nat.zero_le _⟩) ?_
    refine lv_iconst (v := 1) hx hb dX2_acceptsPlace_50 (by decide) ?_
    refine lv_isub hx hb dX2_acceptsPlace_51 ?_
    refine mg (P := fun (w6 : Int32) => ∀ (ls : Array Slot), lv_has ls 5 [(0, .ref a_t), (1, .int s1), (2, .int s2), (3, .int x5)] → W p l e rm_X2_acceptsPlace s m args below meth c s.heap [] 0 0 Q (F0 m 60 ls [.int w6])) hf (fun w6 hf ls hl => ?_) (fun hJ => ?_)
    · refine lv_istore (lv' := [(4, .int w6), (0, .ref a_t), (1, .int s1), (2, .int s2), (3, .int x5)]) hx hb dX2_acceptsPlace_60 hl (by decide) rfl (fun ls hl => ?_)
      refine lv_iload hx hb dX2_acceptsPlace_62 (lv_at hl 0 rfl) ?_
      refine lv_if_eq (tgt := 76) hx hb dX2_acceptsPlace_64 (by decide) (fun c7 => ?_) (fun c7 => ?_)
      · have hf := ite_t c7 hf
        refine lv_aload_n hx hb dX2_acceptsPlace_76 rfl (lv_at hl 1 rfl) ?_
        refine lv_iload_n hx hb dX2_acceptsPlace_77 rfl (lv_at hl 4 rfl) ?_
        refine va_put (D := D) (ci := 2) (v := .int x5) (ty := .int) (C := RX2) (T := TX2) (N := 5) hx hb hts inX2 tyX2 tyX2_ok nmX2 hown hE.1 hP hD hS 0 rfl rfl 2 (by decide) (hts _ qw127) (fun _ h9 => h9) rfl (tyX2_ok 2 (by decide)) rfl rfl (Nat.le_of_ble_eq_true rfl) dX2_acceptsPlace_78 (fun H locs hP hD hS => ?_)
        have hP : va_P D vwCl [(a_t, .inr (2, [.ref a_t_places, .int v_t_changes, .int x5, .int v_t_lastPlace, .int v_t_crossed]))] H := hP
        have hD : va_D A [(a_t, .inr (2, [.ref a_t_places, .int v_t_changes, .int x5, .int v_t_lastPlace, .int v_t_crossed]))] := hD
        refine lv_aload_n hx hb dX2_acceptsPlace_81 rfl (lv_at hl 1 rfl) ?_
        refine lv_iload_n hx hb dX2_acceptsPlace_82 rfl (lv_at hl 2 rfl) ?_
        refine va_put (D := D) (ci := 2) (v := .int s1) (ty := .int) (C := RX2) (T := TX2) (N := 5) hx hb hts inX2 tyX2 tyX2_ok nmX2 hown hE.1 hP hD hS 0 rfl rfl 3 (by decide) (hts _ qw128) (fun _ h9 => h9) rfl (tyX2_ok 3 (by decide)) rfl rfl (Nat.le_of_ble_eq_true rfl) dX2_acceptsPlace_83 (fun H locs hP hD hS => ?_)
        have hP : va_P D vwCl [(a_t, .inr (2, [.ref a_t_places, .int v_t_changes, .int x5, .int s1, .int v_t_crossed]))] H := hP
        have hD : va_D A [(a_t, .inr (2, [.ref a_t_places, .int v_t_changes, .int x5, .int s1, .int v_t_crossed]))] := hD
        refine lv_iconst (v := 1) hx hb dX2_acceptsPlace_86 (by decide) ?_
        obtain rfl := Option.some.inj hf
        subst hQ
        exact en_z hx hb hr hlocks hP hD hS rfl (Or.inr rfl) dX2_acceptsPlace_87
      have hf := ite_f c7 hf
      refine lv_iload_n hx hb dX2_acceptsPlace_67 rfl (lv_at hl 2 rfl) ?_
      refine lv_iload_n hx hb dX2_acceptsPlace_68 rfl (lv_at hl 3 rfl) ?_
      refine lv_iconst (v := 1) hx hb dX2_acceptsPlace_69 (by decide) ?_
      refine lv_isub hx hb dX2_acceptsPlace_70 ?_
      refine lv_icmp_lt (tgt := 76) hx hb dX2_acceptsPlace_71 (by decide) (fun c8 => ?_) (fun c8 => ?_)
      · have hf := ite_t c8 hf
        refine lv_aload_n hx hb dX2_acceptsPlace_76 rfl (lv_at hl 1 rfl) ?_
        refine lv_iload_n hx hb dX2_acceptsPlace_77 rfl (lv_at hl 4 rfl) ?_
        refine va_put (D := D) (ci := 2) (v := .int x5) (ty := .int) (C := RX2) (T := TX2) (N := 5) hx hb hts inX2 tyX2 tyX2_ok nmX2 hown hE.1 hP hD hS 0 rfl rfl 2 (by decide) (hts _ qw127) (fun _ h9 => h9) rfl (tyX2_ok 2 (by decide)) rfl rfl (Nat.le_of_ble_eq_true rfl) dX2_acceptsPlace_78 (fun H locs hP hD hS => ?_)
        have hP : va_P D vwCl [(a_t, .inr (2, [.ref a_t_places, .int v_t_changes, .int x5, .int v_t_lastPlace, .int v_t_crossed]))] H := hP
        have hD : va_D A [(a_t, .inr (2, [.ref a_t_places, .int v_t_changes, .int x5, .int v_t_lastPlace, .int v_t_crossed]))] := hD
        refine lv_aload_n hx hb dX2_acceptsPlace_81 rfl (lv_at hl 1 rfl) ?_
        refine lv_iload_n hx hb dX2_acceptsPlace_82 rfl (lv_at hl 2 rfl) ?_
        refine va_put (D := D) (ci := 2) (v := .int s1) (ty := .int) (C := RX2) (T := TX2) (N := 5) hx hb hts inX2 tyX2 tyX2_ok nmX2 hown hE.1 hP hD hS 0 rfl rfl 3 (by decide) (hts _ qw128) (fun _ h9 => h9) rfl (tyX2_ok 3 (by decide)) rfl rfl (Nat.le_of_ble_eq_true rfl) dX2_acceptsPlace_83 (fun H locs hP hD hS => ?_)
        have hP : va_P D vwCl [(a_t, .inr (2, [.ref a_t_places, .int v_t_changes, .int x5, .int s1, .int v_t_crossed]))] H := hP
        have hD : va_D A [(a_t, .inr (2, [.ref a_t_places, .int v_t_changes, .int x5, .int s1, .int v_t_crossed]))] := hD
        refine lv_iconst (v := 1) hx hb dX2_acceptsPlace_86 (by decide) ?_
        obtain rfl := Option.some.inj hf
        subst hQ
        exact en_z hx hb hr hlocks hP hD hS rfl (Or.inr rfl) dX2_acceptsPlace_87
      have hf := ite_f c8 hf
      refine lv_iconst (v := 0) hx hb dX2_acceptsPlace_74 (by decide) ?_
      obtain rfl := Option.some.inj hf
      subst hQ
      exact en_z hx hb hr hlocks hP hD hS rfl (Or.inl rfl) dX2_acceptsPlace_75
    refine lv_icmp_ne (tgt := 59) hx hb dX2_acceptsPlace_52 (by decide) (fun c9 => ?_) (fun c9 => ?_)
    · have hf := nmi_f c9 hf
      refine lv_iconst (v := 0) hx hb dX2_acceptsPlace_59 (by decide) ?_
      exact hJ _ (nm_b hf) _ (lv_sub hl [1, 2, 3, 0] rfl)
    have hf := nmi_t c9 hf
    refine lv_iconst (v := 1) hx hb dX2_acceptsPlace_55 (by decide) ?_
    refine lv_goto (tgt := 60) hx hb dX2_acceptsPlace_56 (by decide) ?_
    exact hJ _ (nm_b hf) _ (lv_sub hl [1, 2, 3, 0] rfl)
  have hf := ite_t c4 hf
  refine lv_iconst (v := 0) hx hb dX2_acceptsPlace_31 (by decide) ?_
  obtain rfl := Option.some.inj hf
  subst hQ
  exact en_z hx hb hr hlocks hP hD hS rfl (Or.inl rfl) dX2_acceptsPlace_32

def f_X2_accepts (s1 : Int32) (s2 : Int32) (v_t_changes : Int32) (v_t_made : Int32) (v_t_lastPlace : Int32) (v_t_crossed : Int32) (f_t_places : Nat → Int32) : Option (Int32 × Int32 × Int32 × Int32 × Int32 × (Nat → Int32)) :=
  (if s1 = 46 then bd (f_X2_acceptsDot s2 v_t_changes v_t_made v_t_lastPlace v_t_crossed f_t_places) (fun q9 => some (q9.1, q9.2.1, q9.2.2.1, q9.2.2.2.1, q9.2.2.2.2.1, q9.2.2.2.2.2)) else (if s1 = 120 then bd (f_X2_acceptsCross s2 v_t_lastPlace v_t_crossed) (fun q6 => some (q6.1, v_t_changes, v_t_made, v_t_lastPlace, q6.2, f_t_places)) else bd (f_X2_acceptsPlace (s1 - 48) s2 v_t_made v_t_lastPlace v_t_crossed) (fun q3 => some (q3.1, v_t_changes, q3.2.1, q3.2.2, v_t_crossed, f_t_places))))
abbrev rm_X2_accepts : Room := { frames := 4, cells := 0, slots := 0, locals := 85 }
set_option maxHeartbeats 4000000 in
set_option maxRecDepth 100000 in
theorem c_X2_accepts (l : Launch) (D : va_G) (Y : ClassId × ClassId × ClassId × ClassId) (a_t a_t_places : Nat) (v_t_changes : Int32) (v_t_made : Int32) (v_t_lastPlace : Int32) (v_t_crossed : Int32) (f_t_places : Nat → Int32) (s1 : Int32) (s2 : Int32) (sz : Nat) (R : Int32 × Int32 × Int32 × Int32 × Int32 × (Nat → Int32)) (hf : f_X2_accepts s1 s2 v_t_changes v_t_made v_t_lastPlace v_t_crossed f_t_places = some R) : Met l yX2_accepts (ws_ yX2_accepts cX2_accepts 3 (some .boolean)) rm_X2_accepts (va_Pc [.ref a_t, .int s1, .int s2] (RW D Y sz [(a_t, .inr (2, [.ref a_t_places, .int v_t_changes, .int v_t_made, .int v_t_lastPlace, .int v_t_crossed])), (a_t_places, .inl (Y.1, 20, .inl f_t_places))])) (QZ D R.1 [(a_t, .inr (2, [.ref a_t_places, .int R.2.1, .int R.2.2.1, .int R.2.2.2.1, .int R.2.2.2.2.1])), (a_t_places, .inl (Y.1, 20, .inl R.2.2.2.2.2))] (va_A [(a_t, .inr (2, [.ref a_t_places, .int v_t_changes, .int v_t_made, .int v_t_lastPlace, .int v_t_crossed])), (a_t_places, .inl (Y.1, 20, .inl f_t_places))] sz)) 0 0 (va_A [(a_t, .inr (2, [.ref a_t_places, .int v_t_changes, .int v_t_made, .int v_t_lastPlace, .int v_t_crossed])), (a_t_places, .inl (Y.1, 20, .inl f_t_places))] sz) := by
  refine rw_start (Qc := fun A => QZ D R.1 [(a_t, .inr (2, [.ref a_t_places, .int R.2.1, .int R.2.2.1, .int R.2.2.2.1, .int R.2.2.2.2.1])), (a_t_places, .inl (Y.1, 20, .inl R.2.2.2.2.2))] A) (by decide) (Nat.le_of_ble_eq_true rfl) ?_
  intro p e s m below meth c ls A hx hb hml hr hlocks hown hts hnm hA hP hD hS hE hl
  generalize hargs : List.toArray _ = args at hts ⊢
  have hown : s.vm.findClass RX2 = some m.cls := hown
  have E : EN p m c cX2_accepts 3 s args RX2 := ⟨hx, hb, hml, hown, hts⟩
  have hl : lv_has ls 3 [(0, .ref a_t), (1, .int s1), (2, .int s2)] := hl
  generalize hQ : MQ below _ args s 0 0 _ = Q
  unfold f_X2_accepts at hf
  refine lv_iload_n hx hb dX2_accepts_0 rfl (lv_at hl 1 rfl) ?_
  refine lv_bipush (v := 46) hx hb dX2_accepts_1 (by decide) ?_
  refine lv_icmp_ne (tgt := 12) hx hb dX2_accepts_3 (by decide) (fun c1 => ?_) (fun c1 => ?_)
  · have hf := ite_f c1 hf
    refine lv_iload_n hx hb dX2_accepts_12 rfl (lv_at hl 1 rfl) ?_
    refine lv_bipush (v := 120) hx hb dX2_accepts_13 (by decide) ?_
    refine lv_icmp_ne (tgt := 24) hx hb dX2_accepts_15 (by decide) (fun c2 => ?_) (fun c2 => ?_)
    · have hf := ite_f c2 hf
      refine lv_aload_n hx hb dX2_accepts_24 rfl (lv_at hl 0 rfl) ?_
      refine lv_iload_n hx hb dX2_accepts_25 rfl (lv_at hl 1 rfl) ?_
      refine lv_bipush (v := 48) hx hb dX2_accepts_26 (by decide) ?_
      refine lv_isub hx hb dX2_accepts_28 ?_
      refine lv_iload_n hx hb dX2_accepts_29 rfl (lv_at hl 2 rfl) ?_
      obtain ⟨q3, h4, hf⟩ := bd_s hf
      refine af_z0 (wc := [(a_t, .inr (2, [.ref a_t_places, .int v_t_changes, .int v_t_made, .int v_t_lastPlace, .int v_t_crossed]))]) (wr := [(a_t_places, .inl (Y.1, 20, .inl f_t_places))]) (wn := [(a_t, .inr (2, [.ref a_t_places, .int v_t_changes, .int q3.2.1, .int q3.2.2, .int v_t_crossed])), (a_t_places, .inl (Y.1, 20, .inl f_t_places))]) (run_V (As := [.int (s1 - 48), .int s2]) (rest := []) E (c_X2_acceptsPlace l D Y a_t a_t_places v_t_changes v_t_made v_t_lastPlace v_t_crossed (s1 - 48) s2 s.heap.size q3 h4) qw308 qw310 qw7 qw23 qw311 rfl rfl hd_X2_acceptsPlace ⟨Nat.le_of_ble_eq_true rfl, Nat.le_of_ble_eq_true rfl⟩ (pre_rwV hP hD hE [0] rfl (by decide) rfl (ci := 2) (q0 := 0) rfl rfl) rfl hl.1 rfl (Nat.le_of_ble_eq_true rfl) dX2_accepts_30 ⟨Nat.zero_le _, Nat.zero_le _⟩) hP hD hS hA [0] [1] [1, 0] rfl rfl (by decide) (by decide) rfl rfl (by decide) (fun H locs z5 hP hD hS => ?_)
      obtain rfl := Option.some.inj hf
      subst hQ
      exact en_z hx hb hr hlocks hP hD hS rfl z5 dX2_accepts_33
    have hf := ite_t c2 hf
    refine lv_aload_n hx hb dX2_accepts_18 rfl (lv_at hl 0 rfl) ?_
    refine lv_iload_n hx hb dX2_accepts_19 rfl (lv_at hl 2 rfl) ?_
    obtain ⟨q6, h7, hf⟩ := bd_s hf
    refine af_z0 (wc := [(a_t, .inr (2, [.ref a_t_places, .int v_t_changes, .int v_t_made, .int v_t_lastPlace, .int v_t_crossed]))]) (wr := [(a_t_places, .inl (Y.1, 20, .inl f_t_places))]) (wn := [(a_t, .inr (2, [.ref a_t_places, .int v_t_changes, .int v_t_made, .int v_t_lastPlace, .int q6.2])), (a_t_places, .inl (Y.1, 20, .inl f_t_places))]) (run_V (As := [.int s2]) (rest := []) E (c_X2_acceptsCross l D Y a_t a_t_places v_t_changes v_t_made v_t_lastPlace v_t_crossed s2 s.heap.size q6 h7) qw304 qw306 qw6 qw23 qw307 rfl rfl hd_X2_acceptsCross ⟨Nat.le_of_ble_eq_true rfl, Nat.le_of_ble_eq_true rfl⟩ (pre_rwV hP hD hE [0] rfl (by decide) rfl (ci := 2) (q0 := 0) rfl rfl) rfl hl.1 rfl (Nat.le_of_ble_eq_true rfl) dX2_accepts_20 ⟨Nat.zero_le _, Nat.zero_le _⟩) hP hD hS hA [0] [1] [1, 0] rfl rfl (by decide) (by decide) rfl rfl (by decide) (fun H locs z8 hP hD hS => ?_)
    obtain rfl := Option.some.inj hf
    subst hQ
    exact en_z hx hb hr hlocks hP hD hS rfl z8 dX2_accepts_23
  have hf := ite_t c1 hf
  refine lv_aload_n hx hb dX2_accepts_6 rfl (lv_at hl 0 rfl) ?_
  refine lv_iload_n hx hb dX2_accepts_7 rfl (lv_at hl 2 rfl) ?_
  obtain ⟨q9, h10, hf⟩ := bd_s hf
  refine af_z0 (wc := [(a_t, .inr (2, [.ref a_t_places, .int v_t_changes, .int v_t_made, .int v_t_lastPlace, .int v_t_crossed])), (a_t_places, .inl (Y.1, 20, .inl f_t_places))]) (wr := []) (wn := [(a_t, .inr (2, [.ref a_t_places, .int q9.2.1, .int q9.2.2.1, .int q9.2.2.2.1, .int q9.2.2.2.2.1])), (a_t_places, .inl (Y.1, 20, .inl q9.2.2.2.2.2))]) (run_V (As := [.int s2]) (rest := []) E (c_X2_acceptsDot l D Y a_t a_t_places v_t_changes v_t_made v_t_lastPlace v_t_crossed f_t_places s2 s.heap.size q9 h10) qw292 qw294 qw3 qw23 qw295 rfl rfl hd_X2_acceptsDot ⟨Nat.le_of_ble_eq_true rfl, Nat.le_of_ble_eq_true rfl⟩ (pre_rwV hP hD hE [0, 1] rfl (by decide) rfl (ci := 2) (q0 := 0) rfl rfl) rfl hl.1 rfl (Nat.le_of_ble_eq_true rfl) dX2_accepts_8 ⟨Nat.zero_le _, Nat.zero_le _⟩) hP hD hS hA [0, 1] [] [0, 1] rfl rfl (by decide) (by decide) rfl rfl (by decide) (fun H locs z11 hP hD hS => ?_)
  obtain rfl := Option.some.inj hf
  subst hQ
  exact en_z hx hb hr hlocks hP hD hS rfl z11 dX2_accepts_11

def f_X2_read_L12 (k : Int32 → Int32 → Int32 → Int32 → Int32 → (Nat → Int32) → Option (Int32 × Int32 × Int32 × Int32 × Int32 × (Nat → Int32))) (s2 : Int32) (s3 : Int32) (n_p1 : Nat) (f_p1 : Nat → Int32) : Nat → Int32 → Int32 → Int32 → Int32 → Int32 → (Nat → Int32) → Option (Int32 × Int32 × Int32 × Int32 × Int32 × (Nat → Int32))
  | 0, _, _, _, _, _, _ => none
  | n + 1, s4, v_t_changes, v_t_made, v_t_lastPlace, v_t_crossed, f_t_places => (if s2 ≤ s4 then (k s4 v_t_changes v_t_made v_t_lastPlace v_t_crossed f_t_places) else (if (nI n_p1) ≤ s4 then (k s4 v_t_changes v_t_made v_t_lastPlace v_t_crossed f_t_places) else gd (inb s4 n_p1) (bd (f_X2_accepts (f_p1 s4.toNatClampNeg) s3 v_t_changes v_t_made v_t_lastPlace v_t_crossed f_t_places) (fun q4 => (if q4.1 = 0 then some (s4, q4.2.1, q4.2.2.1, q4.2.2.2.1, q4.2.2.2.2.1, q4.2.2.2.2.2) else (f_X2_read_L12 k s2 s3 n_p1 f_p1 n (s4 + 1) q4.2.1 q4.2.2.1 q4.2.2.2.1 q4.2.2.2.2.1 q4.2.2.2.2.2))))))
def f_X2_read (s2 : Int32) (s3 : Int32) (n_p1 : Nat) (v_t_changes : Int32) (v_t_made : Int32) (v_t_lastPlace : Int32) (v_t_crossed : Int32) (f_t_places : Nat → Int32) (f_p1 : Nat → Int32) : Option (Int32 × Int32 × Int32 × Int32 × Int32 × (Nat → Int32)) :=
  (f_X2_read_L12 (fun (y8 : Int32) (y9 : Int32) (y10 : Int32) (y11 : Int32) (y12 : Int32) (y13 : Nat → Int32) => bd (f_X2_isChangeRight s3 y11 y12) (fun q14 => (if q14 = 0 then some (s2, y9, y10, y11, y12, y13) else bd (f_X2_keepChange y9 y10 y11 y12 y13) (fun q18 => some ((-4), q18.1, q18.2.1, q18.2.2.1, q18.2.2.2.1, q18.2.2.2.2))))) s2 s3 n_p1 f_p1 fu 0 0 ((f_X2_beginChange v_t_made v_t_lastPlace v_t_crossed).1) ((f_X2_beginChange v_t_made v_t_lastPlace v_t_crossed).2.1) ((f_X2_beginChange v_t_made v_t_lastPlace v_t_crossed).2.2) f_t_places)
abbrev rm_X2_read : Room := { frames := 5, cells := 0, slots := 0, locals := 107 }
set_option maxHeartbeats 4000000 in
set_option maxRecDepth 100000 in
theorem c_X2_read (l : Launch) (D : va_G) (Y : ClassId × ClassId × ClassId × ClassId) (a_t a_t_places a_p1 : Nat) (n_p1 : Nat) (v_t_changes : Int32) (v_t_made : Int32) (v_t_lastPlace : Int32) (v_t_crossed : Int32) (f_t_places : Nat → Int32) (f_p1 : Nat → Int32) (s2 : Int32) (s3 : Int32) (sz : Nat) (R : Int32 × Int32 × Int32 × Int32 × Int32 × (Nat → Int32)) (hf : f_X2_read s2 s3 n_p1 v_t_changes v_t_made v_t_lastPlace v_t_crossed f_t_places f_p1 = some R) : Met l yX2_read (ws_ yX2_read cX2_read 5 (some .int)) rm_X2_read (va_Pc [.ref a_t, .ref a_p1, .int s2, .int s3] (RW D Y sz [(a_t, .inr (2, [.ref a_t_places, .int v_t_changes, .int v_t_made, .int v_t_lastPlace, .int v_t_crossed])), (a_t_places, .inl (Y.1, 20, .inl f_t_places)), (a_p1, .inl (Y.2.1, n_p1, .inl f_p1))])) (QI D R.1 [(a_t, .inr (2, [.ref a_t_places, .int R.2.1, .int R.2.2.1, .int R.2.2.2.1, .int R.2.2.2.2.1])), (a_t_places, .inl (Y.1, 20, .inl R.2.2.2.2.2)), (a_p1, .inl (Y.2.1, n_p1, .inl f_p1))] (va_A [(a_t, .inr (2, [.ref a_t_places, .int v_t_changes, .int v_t_made, .int v_t_lastPlace, .int v_t_crossed])), (a_t_places, .inl (Y.1, 20, .inl f_t_places)), (a_p1, .inl (Y.2.1, n_p1, .inl f_p1))] sz)) 0 0 (va_A [(a_t, .inr (2, [.ref a_t_places, .int v_t_changes, .int v_t_made, .int v_t_lastPlace, .int v_t_crossed])), (a_t_places, .inl (Y.1, 20, .inl f_t_places)), (a_p1, .inl (Y.2.1, n_p1, .inl f_p1))] sz) := by
  refine rw_start (Qc := fun A => QI D R.1 [(a_t, .inr (2, [.ref a_t_places, .int R.2.1, .int R.2.2.1, .int R.2.2.2.1, .int R.2.2.2.2.1])), (a_t_places, .inl (Y.1, 20, .inl R.2.2.2.2.2)), (a_p1, .inl (Y.2.1, n_p1, .inl f_p1))] A) (by decide) (Nat.le_of_ble_eq_true rfl) ?_
  intro p e s m below meth c ls A hx hb hml hr hlocks hown hts hnm hA hP hD hS hE hl
  generalize hargs : List.toArray _ = args at hts ⊢
  have hown : s.vm.findClass RX2 = some m.cls := hown
  have E : EN p m c cX2_read 5 s args RX2 := ⟨hx, hb, hml, hown, hts⟩
  have hl : lv_has ls 5 [(0, .ref a_t), (1, .ref a_p1), (2, .int s2), (3, .int s3)] := hl
  generalize hQ : MQ below _ args s 0 0 _ = Q
  unfold f_X2_read at hf
  have L12 : ∀ (n : Nat) (k : Int32 → Int32 → Int32 → Int32 → Int32 → (Nat → Int32) → Option (Int32 × Int32 × Int32 × Int32 × Int32 × (Nat → Int32))) (s2 : Int32) (s3 : Int32) (s4 : Int32) (v_t_changes : Int32) (v_t_made : Int32) (v_t_lastPlace : Int32) (v_t_crossed : Int32) (f_t_places : Nat → Int32) (H : Heap) (locs : List Loc) (ls : Array Slot), f_X2_read_L12 k s2 s3 n_p1 f_p1 n s4 v_t_changes v_t_made v_t_lastPlace v_t_crossed f_t_places = some R → va_P D vwCl [(a_t, .inr (2, [.ref a_t_places, .int v_t_changes, .int v_t_made, .int v_t_lastPlace, .int v_t_crossed])), (a_t_places, .inl (Y.1, 20, .inl f_t_places)), (a_p1, .inl (Y.2.1, n_p1, .inl f_p1))] H → va_D A [(a_t, .inr (2, [.ref a_t_places, .int v_t_changes, .int v_t_made, .int v_t_lastPlace, .int v_t_crossed])), (a_t_places, .inl (Y.1, 20, .inl f_t_places)), (a_p1, .inl (Y.2.1, n_p1, .inl f_p1))] → va_S A s.heap H locs → lv_has ls 5 [(0, .ref a_t), (1, .ref a_p1), (2, .int s2), (3, .int s3), (4, .int s4)] → (∀ (y_s4 : Int32) (y_v_t_changes : Int32) (y_v_t_made : Int32) (y_v_t_lastPlace : Int32) (y_v_t_crossed : Int32) (y_f_t_places : Nat → Int32) (H : Heap) (locs : List Loc) (ls : Array Slot), k y_s4 y_v_t_changes y_v_t_made y_v_t_lastPlace y_v_t_crossed y_f_t_places = some R → va_P D vwCl [(a_t, .inr (2, [.ref a_t_places, .int y_v_t_changes, .int y_v_t_made, .int y_v_t_lastPlace, .int y_v_t_crossed])), (a_t_places, .inl (Y.1, 20, .inl y_f_t_places)), (a_p1, .inl (Y.2.1, n_p1, .inl f_p1))] H → va_D A [(a_t, .inr (2, [.ref a_t_places, .int y_v_t_changes, .int y_v_t_made, .int y_v_t_lastPlace, .int y_v_t_crossed])), (a_t_places, .inl (Y.1, 20, .inl y_f_t_places)), (a_p1, .inl (Y.2.1, n_p1, .inl f_p1))] → va_S A s.heap H locs → lv_has ls 5 [(0, .ref a_t), (2, .int s2), (3, .int s3)] → W p l e rm_X2_read s m args below meth c H locs 0 0 Q (F0 m 46 ls [])) → W p l e rm_X2_read s m args below meth c H locs 0 0 Q (F0 m 12 ls []) := by
    intro n
    induction n with
    | zero =>
      intro k s2 s3 s4 v_t_changes v_t_made v_t_lastPlace v_t_crossed f_t_places H locs ls hf
      cases hf
    | succ n ih =>
      intro k s2 s3 s4 v_t_changes v_t_made v_t_lastPlace v_t_crossed f_t_places H locs ls hf hP hD hS hl hk
      unfold f_X2_read_L12 at hf
      refine lv_iload hx hb dX2_read_12 (lv_at hl 4 rfl) ?_
      refine lv_iload_n hx hb dX2_read_14 rfl (lv_at hl 2 rfl) ?_
      refine lv_icmp_ge (tgt := 46) hx hb dX2_read_15 (by decide) (fun c1 => ?_) (fun c1 => ?_)
      · have hf := ite_t c1 hf
        exact hk _ _ _ _ _ _ _ _ _ hf hP hD hS (lv_sub hl [0, 2, 3] rfl)
      have hf := ite_f c1 hf
      refine lv_iload hx hb dX2_read_18 (lv_at hl 4 rfl) ?_
      refine lv_aload_n hx hb dX2_read_20 rfl (lv_at hl 1 rfl) ?_
      refine va_alen (v := (nI n_p1)) hx hb hE.1 hP 2 1 rfl rfl rfl dX2_read_21 ?_
      refine lv_icmp_ge (tgt := 46) hx hb dX2_read_22 (by decide) (fun c2 => ?_) (fun c2 => ?_)
      · have hf := ite_t c2 hf
        exact hk _ _ _ _ _ _ _ _ _ hf hP hD hS (lv_sub hl [0, 2, 3] rfl)
      have hf := ite_f c2 hf
      refine lv_aload_n hx hb dX2_read_25 rfl (lv_at hl 0 rfl) ?_
      refine lv_aload_n hx hb dX2_read_26 rfl (lv_at hl 1 rfl) ?_
      refine lv_iload hx hb dX2_read_27 (lv_at hl 4 rfl) ?_
      obtain ⟨g3, hf⟩ := gd_s hf
      refine va_cald hx hb hE.1 hP 2 1 rfl rfl (inb_in g3) dX2_read_29 ?_
      refine lv_iload_n hx hb dX2_read_30 rfl (lv_at hl 3 rfl) ?_
      obtain ⟨q4, h5, hf⟩ := bd_s hf
      refine af_z0 (wc := [(a_t, .inr (2, [.ref a_t_places, .int v_t_changes, .int v_t_made, .int v_t_lastPlace, .int v_t_crossed])), (a_t_places, .inl (Y.1, 20, .inl f_t_places))]) (wr := [(a_p1, .inl (Y.2.1, n_p1, .inl f_p1))]) (wn := [(a_t, .inr (2, [.ref a_t_places, .int q4.2.1, .int q4.2.2.1, .int q4.2.2.2.1, .int q4.2.2.2.2.1])), (a_t_places, .inl (Y.1, 20, .inl q4.2.2.2.2.2)), (a_p1, .inl (Y.2.1, n_p1, .inl f_p1))]) (run_V (As := [.int (f_p1 s4.toNatClampNeg), .int s3]) (rest := []) E (c_X2_accepts l D Y a_t a_t_places v_t_changes v_t_made v_t_lastPlace v_t_crossed f_t_places (f_p1 s4.toNatClampNeg) s3 H.size q4 h5) qw288 qw290 qw2 qw23 qw291 rfl rfl hd_X2_accepts ⟨Nat.le_of_ble_eq_true rfl, Nat.le_of_ble_eq_true rfl⟩ (pre_rwV hP hD hE [0, 1] rfl (by decide) rfl (ci := 2) (q0 := 0) rfl rfl) rfl hl.1 rfl (Nat.le_of_ble_eq_true rfl) dX2_read_31 ⟨Nat.zero_le _, Nat.zero_le _⟩) hP hD hS hA [0, 1] [2] [1, 2, 0] rfl rfl (by decide) (by decide) rfl rfl (by decide) (fun H locs z6 hP hD hS => ?_)
      refine lv_if_ne (tgt := 40) hx hb dX2_read_34 (by decide) (fun c7 => ?_) (fun c7 => ?_)
      · have hf := ite_f c7 hf
        refine lv_iinc (v := (s4 + 1)) (lv' := [(4, .int (s4 + 1)), (0, .ref a_t), (1, .ref a_p1), (2, .int s2), (3, .int s3)]) hx hb dX2_read_40 hl (k := 4) rfl rfl (by decide) rfl (fun ls hl => ?_)
        refine lv_goto (tgt := 12) hx hb dX2_read_43 (by decide) ?_
        exact ih _ _ _ _ _ _ _ _ _ _ _ _ hf hP hD hS (lv_sub hl [1, 2, 3, 4, 0] rfl) hk
      have hf := ite_t c7 hf
      refine lv_iload hx hb dX2_read_37 (lv_at hl 4 rfl) ?_
      obtain rfl := Option.some.inj hf
      subst hQ
      exact en_i hx hb hr hlocks hP hD hS rfl dX2_read_39
  refine lv_aload_n hx hb dX2_read_0 rfl (lv_at hl 0 rfl) ?_
  refine lv_iconst (v := 0) hx hb dX2_read_1 (by decide) ?_
  refine va_put (D := D) (ci := 2) (v := .int 0) (ty := .int) (C := RX2) (T := TX2) (N := 5) hx hb hts inX2 tyX2 tyX2_ok nmX2 hown hE.1 hP hD hS 0 rfl rfl 1 (by decide) (hts _ qw125) (fun _ h9 => h9) rfl (tyX2_ok 1 (by decide)) rfl rfl (Nat.le_of_ble_eq_true rfl) dX2_read_2 (fun H locs hP hD hS => ?_)
  have hP : va_P D vwCl [(a_t, .inr (2, [.ref a_t_places, .int 0, .int v_t_made, .int v_t_lastPlace, .int v_t_crossed])), (a_t_places, .inl (Y.1, 20, .inl f_t_places)), (a_p1, .inl (Y.2.1, n_p1, .inl f_p1))] H := hP
  have hD : va_D A [(a_t, .inr (2, [.ref a_t_places, .int 0, .int v_t_made, .int v_t_lastPlace, .int v_t_crossed])), (a_t_places, .inl (Y.1, 20, .inl f_t_places)), (a_p1, .inl (Y.2.1, n_p1, .inl f_p1))] := hD
  refine lv_aload_n hx hb dX2_read_5 rfl (lv_at hl 0 rfl) ?_
  refine af_v0 (wc := [(a_t, .inr (2, [.ref a_t_places, .int 0, .int v_t_made, .int v_t_lastPlace, .int v_t_crossed]))]) (wr := [(a_t_places, .inl (Y.1, 20, .inl f_t_places)), (a_p1, .inl (Y.2.1, n_p1, .inl f_p1))]) (wn := [(a_t, .inr (2, [.ref a_t_places, .int 0, .int ((f_X2_beginChange v_t_made v_t_lastPlace v_t_crossed).1), .int ((f_X2_beginChange v_t_made v_t_lastPlace v_t_crossed).2.1), .int ((f_X2_beginChange v_t_made v_t_lastPlace v_t_crossed).2.2)])), (a_t_places, .inl (Y.1, 20, .inl f_t_places)), (a_p1, .inl (Y.2.1, n_p1, .inl f_p1))]) (run_V (As := []) (rest := []) E (c_X2_beginChange l D Y a_t a_t_places 0 v_t_made v_t_lastPlace v_t_crossed H.size (f_X2_beginChange v_t_made v_t_lastPlace v_t_crossed) rfl) qw284 qw286 qw1 qw23 qw287 rfl rfl hd_X2_beginChange ⟨Nat.le_of_ble_eq_true rfl, Nat.le_of_ble_eq_true rfl⟩ (pre_rwV hP hD hE [0] rfl (by decide) rfl (ci := 2) (q0 := 0) rfl rfl) rfl hl.1 rfl (Nat.le_of_ble_eq_true rfl) dX2_read_6 ⟨Nat.zero_le _, Nat.zero_le _⟩) hP hD hS hA [0] [1, 2] [2, 0, 1] rfl rfl (by decide) (by decide) rfl rfl (by decide) (fun H locs  hP hD hS => ?_)
  refine lv_iconst (v := 0) hx hb dX2_read_9 (by decide) ?_
  refine lv_istore (lv' := [(4, .int 0), (0, .ref a_t), (1, .ref a_p1), (2, .int s2), (3, .int s3)]) hx hb dX2_read_10 hl (by decide) rfl (fun ls hl => ?_)
  refine L12 _ _ _ _ _ _ _ _ _ _ _ _ _ hf hP hD hS (lv_sub hl [1, 2, 3, 4, 0] rfl) ?_
  intro y8 y9 y10 y11 y12 y13 H locs ls hf hP hD hS hl
  refine lv_aload_n hx hb dX2_read_46 rfl (lv_at hl 0 rfl) ?_
  refine lv_iload_n hx hb dX2_read_47 rfl (lv_at hl 2 rfl) ?_
  obtain ⟨q14, h15, hf⟩ := bd_s hf
  refine af_oz (run_V (As := [.int s3]) (rest := []) E (c_X2_isChangeRight l D Y a_t a_t_places y9 y10 y11 y12 s3 q14 h15) qw296 qw298 qw4 qw23 qw299 rfl rfl hd_X2_isChangeRight ⟨Nat.le_of_ble_eq_true rfl, Nat.le_of_ble_eq_true rfl⟩ (pre_roV hP hE [0] rfl (ci := 2) (q0 := 0) rfl rfl) rfl hl.1 rfl (Nat.le_of_ble_eq_true rfl) dX2_read_48 ⟨Nat.zero_le _, Nat.zero_le _⟩) (fun z16 => ?_)
  refine lv_if_ne (tgt := 56) hx hb dX2_read_51 (by decide) (fun c17 => ?_) (fun c17 => ?_)
  · have hf := ite_f c17 hf
    refine lv_aload_n hx hb dX2_read_56 rfl (lv_at hl 0 rfl) ?_
    obtain ⟨q18, h19, hf⟩ := bd_s hf
    refine af_v0 (wc := [(a_t, .inr (2, [.ref a_t_places, .int y9, .int y10, .int y11, .int y12])), (a_t_places, .inl (Y.1, 20, .inl y13))]) (wr := [(a_p1, .inl (Y.2.1, n_p1, .inl f_p1))]) (wn := [(a_t, .inr (2, [.ref a_t_places, .int q18.1, .int q18.2.1, .int q18.2.2.1, .int q18.2.2.2.1])), (a_t_places, .inl (Y.1, 20, .inl q18.2.2.2.2)), (a_p1, .inl (Y.2.1, n_p1, .inl f_p1))]) (run_V (As := []) (rest := []) E (c_X2_keepChange l D Y a_t a_t_places y9 y10 y11 y12 y13 H.size q18 h19) qw300 qw302 qw5 qw23 qw303 rfl rfl hd_X2_keepChange ⟨Nat.le_of_ble_eq_true rfl, Nat.le_of_ble_eq_true rfl⟩ (pre_rwV hP hD hE [0, 1] rfl (by decide) rfl (ci := 2) (q0 := 0) rfl rfl) rfl hl.1 rfl (Nat.le_of_ble_eq_true rfl) dX2_read_57 ⟨Nat.zero_le _, Nat.zero_le _⟩) hP hD hS hA [0, 1] [2] [1, 2, 0] rfl rfl (by decide) (by decide) rfl rfl (by decide) (fun H locs  hP hD hS => ?_)
    refine lv_bipush (v := (-4)) hx hb dX2_read_60 (by decide) ?_
    obtain rfl := Option.some.inj hf
    subst hQ
    exact en_i hx hb hr hlocks hP hD hS rfl dX2_read_62
  have hf := ite_t c17 hf
  refine lv_iload_n hx hb dX2_read_54 rfl (lv_at hl 1 rfl) ?_
  obtain rfl := Option.some.inj hf
  subst hQ
  exact en_i hx hb hr hlocks hP hD hS rfl dX2_read_55

def f_X3_kindOf (s0 : Int32) : Int32 :=
  (if s0 = 98 then 1 else (if s0 = 112 then 0 else (if s0 = 115 then 2 else (-4))))
abbrev rm_X3_kindOf : Room := { frames := 1, cells := 0, slots := 0, locals := 24 }
set_option maxHeartbeats 4000000 in
set_option maxRecDepth 100000 in
theorem c_X3_kindOf (l : Launch) (D : va_G) (Y : ClassId × ClassId × ClassId × ClassId) (s0 : Int32) (R : Int32) (hf : f_X3_kindOf s0 = R) : Met l yX3_kindOf (ws_ yX3_kindOf cX3_kindOf 1 (some .int)) rm_X3_kindOf (va_Pc [.int s0] (RO D Y [])) (OI R) 0 0 (fun _ => False) := by
  refine ro_start (by decide) (Nat.le_of_ble_eq_true rfl) ?_
  intro p e s m below meth c ls hx hb hml hr hlocks hown hts hP hE hl
  generalize hargs : List.toArray _ = args at hts ⊢
  have hown : s.vm.findClass RX3 = some m.cls := hown
  have E : EN p m c cX3_kindOf 1 s args RX3 := ⟨hx, hb, hml, hown, hts⟩
  have hl : lv_has ls 1 [(0, .int s0)] := hl
  generalize hQ : MQ below _ args s 0 0 _ = Q
  unfold f_X3_kindOf at hf
  refine lv_iload_n hx hb dX3_kindOf_0 rfl (lv_at hl 0 rfl) ?_
  by_cases c1 : s0 = 98
  · have hf := ite_t c1 hf
    refine lv_lookup (tgt := 38) (off := 37) hx hb dX3_kindOf_1 (by decide) (by rw [c1]; rfl) (by decide) ?_
    refine lv_iconst (v := 1) hx hb dX3_kindOf_38 (by decide) ?_
    subst hf
    subst hQ
    exact en_oi hx hb hr hlocks rfl dX3_kindOf_39
  have hf := ite_f c1 hf
  by_cases c2 : s0 = 112
  · have hf := ite_t c2 hf
    refine lv_lookup (tgt := 36) (off := 35) hx hb dX3_kindOf_1 (by decide) (by rw [c2]; rfl) (by decide) ?_
    refine lv_iconst (v := 0) hx hb dX3_kindOf_36 (by decide) ?_
    subst hf
    subst hQ
    exact en_oi hx hb hr hlocks rfl dX3_kindOf_37
  have hf := ite_f c2 hf
  by_cases c3 : s0 = 115
  · have hf := ite_t c3 hf
    refine lv_lookup (tgt := 40) (off := 39) hx hb dX3_kindOf_1 (by decide) (by rw [c3]; rfl) (by decide) ?_
    refine lv_iconst (v := 2) hx hb dX3_kindOf_40 (by decide) ?_
    subst hf
    subst hQ
    exact en_oi hx hb hr hlocks rfl dX3_kindOf_41
  have hf := ite_f c3 hf
  have nc1 := sw_ne (k := 98) (z := 98) rfl c1
  have nc2 := sw_ne (k := 112) (z := 112) rfl c2
  have nc3 := sw_ne (k := 115) (z := 115) rfl c3
  refine lv_lookup (tgt := 42) (off := 41) hx hb dX3_kindOf_1 (by decide) (by simp only [Op.lookupswitch.offset_cons, Op.lookupswitch.offset_nil]; rw [if_neg (Ne.symm nc1)]; rw [if_neg (Ne.symm nc2)]; rw [if_neg (Ne.symm nc3)]) (by decide) ?_
  refine lv_bipush (v := (-4)) hx hb dX3_kindOf_42 (by decide) ?_
  subst hf
  subst hQ
  exact en_oi hx hb hr hlocks rfl dX3_kindOf_44

def f_X3_faultAsTouch_L2 (k : Int32 → Option (Int32)) (v_t_length : Int32) (f_t_signs : Nat → Int32) : Nat → Int32 → Option (Int32)
  | 0, _ => none
  | n + 1, s1 => (if v_t_length ≤ s1 then (k s1) else (if (80 : Int32) ≤ s1 then (k s1) else (if (16 : Int32) ≤ s1 then some s1 else gd (inb s1 80) ((if (f_X3_kindOf (f_t_signs s1.toNatClampNeg)) = (-4) then some s1 else (f_X3_faultAsTouch_L2 k v_t_length f_t_signs n (s1 + 1)))))))
def f_X3_faultAsTouch (v_t_length : Int32) (f_t_signs : Nat → Int32) : Option (Int32) :=
  (f_X3_faultAsTouch_L2 (fun (y6 : Int32) => (if v_t_length = 0 then some v_t_length else some (-4))) v_t_length f_t_signs fu 0)
abbrev rm_X3_faultAsTouch : Room := { frames := 2, cells := 0, slots := 0, locals := 44 }
set_option maxHeartbeats 4000000 in
set_option maxRecDepth 100000 in
theorem c_X3_faultAsTouch (l : Launch) (D : va_G) (Y : ClassId × ClassId × ClassId × ClassId) (a_t a_t_signs : Nat) (v_t_length : Int32) (f_t_signs : Nat → Int32) (R : Int32) (hf : f_X3_faultAsTouch v_t_length f_t_signs = some R) : Met l yX3_faultAsTouch (ws_ yX3_faultAsTouch cX3_faultAsTouch 2 (some .int)) rm_X3_faultAsTouch (va_Pc [.ref a_t] (RO D Y [(a_t, .inr (3, [.ref a_t_signs, .int v_t_length])), (a_t_signs, .inl (Y.2.1, 80, .inl f_t_signs))])) (OI R) 0 0 (fun _ => False) := by
  refine ro_start (by decide) (Nat.le_of_ble_eq_true rfl) ?_
  intro p e s m below meth c ls hx hb hml hr hlocks hown hts hP hE hl
  generalize hargs : List.toArray _ = args at hts ⊢
  have hown : s.vm.findClass RX3 = some m.cls := hown
  have E : EN p m c cX3_faultAsTouch 2 s args RX3 := ⟨hx, hb, hml, hown, hts⟩
  have hl : lv_has ls 2 [(0, .ref a_t)] := hl
  generalize hQ : MQ below _ args s 0 0 _ = Q
  unfold f_X3_faultAsTouch at hf
  have L2 : ∀ (n : Nat) (k : Int32 → Option (Int32)) (s1 : Int32) (ls : Array Slot), f_X3_faultAsTouch_L2 k v_t_length f_t_signs n s1 = some R → lv_has ls 2 [(0, .ref a_t), (1, .int s1)] → (∀ (y_s1 : Int32) (ls : Array Slot), k y_s1 = some R → lv_has ls 2 [(0, .ref a_t)] → W p l e rm_X3_faultAsTouch s m args below meth c s.heap [] 0 0 Q (F0 m 47 ls [])) → W p l e rm_X3_faultAsTouch s m args below meth c s.heap [] 0 0 Q (F0 m 2 ls []) := by
    intro n
    induction n with
    | zero =>
      intro k s1 ls hf
      cases hf
    | succ n ih =>
      intro k s1 ls hf hl hk
      unfold f_X3_faultAsTouch_L2 at hf
      refine lv_iload_n hx hb dX3_faultAsTouch_2 rfl (lv_at hl 1 rfl) ?_
      refine lv_aload_n hx hb dX3_faultAsTouch_3 rfl (lv_at hl 0 rfl) ?_
      refine va_get (D := D) (ci := 3) (v := .int v_t_length) (C := RX3) (T := TX3) (N := 2) hx hb hts inX3 hown hE.1 hP 0 rfl rfl 1 (by decide) (hts _ qw108) (fun _ h9 => h9) rfl dX3_faultAsTouch_4 ?_
      refine lv_icmp_ge (tgt := 47) hx hb dX3_faultAsTouch_7 (by decide) (fun c1 => ?_) (fun c1 => ?_)
      · have hf := ite_t c1 hf
        exact hk _ _ hf (lv_sub hl [0] rfl)
      have hf := ite_f c1 hf
      refine lv_iload_n hx hb dX3_faultAsTouch_10 rfl (lv_at hl 1 rfl) ?_
      refine lv_aload_n hx hb dX3_faultAsTouch_11 rfl (lv_at hl 0 rfl) ?_
      refine va_get (D := D) (ci := 3) (v := .ref a_t_signs) (C := RX3) (T := TX3) (N := 2) hx hb hts inX3 hown hE.1 hP 0 rfl rfl 0 (by decide) (hts _ qw106) (fun _ h9 => h9) rfl dX3_faultAsTouch_12 ?_
      refine va_alen (v := 80) hx hb hE.1 hP 1 1 rfl rfl rfl dX3_faultAsTouch_15 ?_
      refine lv_icmp_ge (tgt := 47) hx hb dX3_faultAsTouch_16 (by decide) (fun c2 => ?_) (fun c2 => ?_)
      · have hf := ite_t c2 hf
        exact hk _ _ hf (lv_sub hl [0] rfl)
      have hf := ite_f c2 hf
      refine lv_iload_n hx hb dX3_faultAsTouch_19 rfl (lv_at hl 1 rfl) ?_
      refine lv_bipush (v := 16) hx hb dX3_faultAsTouch_20 (by decide) ?_
      refine lv_icmp_ge (tgt := 39) hx hb dX3_faultAsTouch_22 (by decide) (fun c3 => ?_) (fun c3 => ?_)
      · have hf := ite_t c3 hf
        refine lv_iload_n hx hb dX3_faultAsTouch_39 rfl (lv_at hl 1 rfl) ?_
        obtain rfl := Option.some.inj hf
        subst hQ
        exact en_oi hx hb hr hlocks rfl dX3_faultAsTouch_40
      have hf := ite_f c3 hf
      refine lv_aload_n hx hb dX3_faultAsTouch_25 rfl (lv_at hl 0 rfl) ?_
      refine va_get (D := D) (ci := 3) (v := .ref a_t_signs) (C := RX3) (T := TX3) (N := 2) hx hb hts inX3 hown hE.1 hP 0 rfl rfl 0 (by decide) (hts _ qw106) (fun _ h9 => h9) rfl dX3_faultAsTouch_26 ?_
      refine lv_iload_n hx hb dX3_faultAsTouch_29 rfl (lv_at hl 1 rfl) ?_
      obtain ⟨g4, hf⟩ := gd_s hf
      refine va_cald hx hb hE.1 hP 1 1 rfl rfl (inb_in g4) dX3_faultAsTouch_30 ?_
      refine af_oi (run_S (As := [.int (f_t_signs s1.toNatClampNeg)]) (rest := []) E (c_X3_kindOf l D Y (f_t_signs s1.toNatClampNeg) (f_X3_kindOf (f_t_signs s1.toNatClampNeg)) rfl) qw691 qw692 qw22 qw693 rfl rfl hd_X3_kindOf ⟨Nat.le_of_ble_eq_true rfl, Nat.le_of_ble_eq_true rfl⟩ (pre_roS hP hE [] rfl) rfl hl.1 rfl (Nat.le_of_ble_eq_true rfl) dX3_faultAsTouch_31 ⟨Nat.zero_le _, Nat.zero_le _⟩) ?_
      refine lv_bipush (v := (-4)) hx hb dX3_faultAsTouch_34 (by decide) ?_
      refine lv_icmp_ne (tgt := 41) hx hb dX3_faultAsTouch_36 (by decide) (fun c5 => ?_) (fun c5 => ?_)
      · have hf := ite_f c5 hf
        refine lv_iinc (v := (s1 + 1)) (lv' := [(1, .int (s1 + 1)), (0, .ref a_t)]) hx hb dX3_faultAsTouch_41 hl (k := 1) rfl rfl (by decide) rfl (fun ls hl => ?_)
        refine lv_goto (tgt := 2) hx hb dX3_faultAsTouch_44 (by decide) ?_
        exact ih _ _ _ hf (lv_sub hl [1, 0] rfl) hk
      have hf := ite_t c5 hf
      refine lv_iload_n hx hb dX3_faultAsTouch_39 rfl (lv_at hl 1 rfl) ?_
      obtain rfl := Option.some.inj hf
      subst hQ
      exact en_oi hx hb hr hlocks rfl dX3_faultAsTouch_40
  refine lv_iconst (v := 0) hx hb dX3_faultAsTouch_0 (by decide) ?_
  refine lv_istore_n (lv' := [(1, .int 0), (0, .ref a_t)]) hx hb dX3_faultAsTouch_1 rfl hl (by decide) rfl (fun ls hl => ?_)
  refine L2 _ _ _ _ hf (lv_sub hl [1, 0] rfl) ?_
  intro y6 ls hf hl
  refine lv_aload_n hx hb dX3_faultAsTouch_47 rfl (lv_at hl 0 rfl) ?_
  refine va_get (D := D) (ci := 3) (v := .int v_t_length) (C := RX3) (T := TX3) (N := 2) hx hb hts inX3 hown hE.1 hP 0 rfl rfl 1 (by decide) (hts _ qw108) (fun _ h9 => h9) rfl dX3_faultAsTouch_48 ?_
  refine lv_if_ne (tgt := 61) hx hb dX3_faultAsTouch_51 (by decide) (fun c7 => ?_) (fun c7 => ?_)
  · have hf := ite_f c7 hf
    refine lv_bipush (v := (-4)) hx hb dX3_faultAsTouch_61 (by decide) ?_
    obtain rfl := Option.some.inj hf
    subst hQ
    exact en_oi hx hb hr hlocks rfl dX3_faultAsTouch_63
  have hf := ite_t c7 hf
  refine lv_aload_n hx hb dX3_faultAsTouch_54 rfl (lv_at hl 0 rfl) ?_
  refine va_get (D := D) (ci := 3) (v := .int v_t_length) (C := RX3) (T := TX3) (N := 2) hx hb hts inX3 hown hE.1 hP 0 rfl rfl 1 (by decide) (hts _ qw108) (fun _ h9 => h9) rfl dX3_faultAsTouch_55 ?_
  refine lv_goto (tgt := 63) hx hb dX3_faultAsTouch_58 (by decide) ?_
  obtain rfl := Option.some.inj hf
  subst hQ
  exact en_oi hx hb hr hlocks rfl dX3_faultAsTouch_63
