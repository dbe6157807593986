def f_X9_addLead (s1 : Int32) (v_t_leads : Int32) (f_t_kinds : Nat → Int32) : Option (Int32 × (Nat → Int32)) :=
  (if v_t_leads < 0 then some (v_t_leads, f_t_kinds) else (if (17 : Int32) ≤ v_t_leads then some (v_t_leads, f_t_kinds) else gd (inb v_t_leads 17) (nm (v_t_leads + 1) (fun (x4 : Int32) => some (x4, (upd f_t_kinds v_t_leads.toNatClampNeg s1))))))
abbrev rm_X9_addLead : Room := { frames := 1, cells := 0, slots := 0, locals := 24 }
set_option maxHeartbeats 4000000 in
set_option maxRecDepth 100000 in
theorem c_X9_addLead (l : Launch) (D : va_G) (Y : ClassId × ClassId × ClassId × ClassId) (a_t a_t_places a_t_kinds : Nat) (v_t_bells : Int32) (v_t_changes : Int32) (v_t_bob : Int32) (v_t_single : Int32) (v_t_leads : Int32) (f_t_kinds : Nat → Int32) (s1 : Int32) (sz : Nat) (R : Int32 × (Nat → Int32)) (hf : f_X9_addLead s1 v_t_leads f_t_kinds = some R) : Met l yX9_addLead (ws_ yX9_addLead cX9_addLead 2 none) rm_X9_addLead (va_Pc [.ref a_t, .int s1] (RW D Y sz [(a_t, .inr (6, [.int v_t_bells, .int v_t_changes, .int v_t_bob, .int v_t_single, .int v_t_leads, .ref a_t_places, .ref a_t_kinds])), (a_t_kinds, .inl (Y.1, 17, .inl f_t_kinds))])) (QV D [(a_t, .inr (6, [.int v_t_bells, .int v_t_changes, .int v_t_bob, .int v_t_single, .int R.1, .ref a_t_places, .ref a_t_kinds])), (a_t_kinds, .inl (Y.1, 17, .inl R.2))] (va_A [(a_t, .inr (6, [.int v_t_bells, .int v_t_changes, .int v_t_bob, .int v_t_single, .int v_t_leads, .ref a_t_places, .ref a_t_kinds])), (a_t_kinds, .inl (Y.1, 17, .inl f_t_kinds))] sz)) 0 0 (va_A [(a_t, .inr (6, [.int v_t_bells, .int v_t_changes, .int v_t_bob, .int v_t_single, .int v_t_leads, .ref a_t_places, .ref a_t_kinds])), (a_t_kinds, .inl (Y.1, 17, .inl f_t_kinds))] sz) := by
  refine rw_start (Qc := fun A => QV D [(a_t, .inr (6, [.int v_t_bells, .int v_t_changes, .int v_t_bob, .int v_t_single, .int R.1, .ref a_t_places, .ref a_t_kinds])), (a_t_kinds, .inl (Y.1, 17, .inl R.2))] A) (by decide) (Nat.le_of_ble_eq_true rfl) ?_
  intro p e s m below meth c ls A hx hb hml hr hlocks hown hts hnm hA hP hD hS hE hl
  generalize hargs : List.toArray _ = args at hts ⊢
  have hown : s.vm.findClass RX9 = some m.cls := hown
  have E : EN p m c cX9_addLead 2 s args RX9 := ⟨hx, hb, hml, hown, hts⟩
  have hl : lv_has ls 2 [(0, .ref a_t), (1, .int s1)] := hl
  generalize hQ : MQ below _ args s 0 0 _ = Q
  unfold f_X9_addLead at hf
  refine lv_aload_n hx hb dX9_addLead_0 rfl (lv_at hl 0 rfl) ?_
  refine va_get (D := D) (ci := 6) (v := .int v_t_leads) (C := RX9) (T := TX9) (N := 7) hx hb hts inX9 hown hE.1 hP 0 rfl rfl 4 (by decide) (hts _ qw63) (fun _ h9 => h9) rfl dX9_addLead_1 ?_
  refine lv_if_lt (tgt := 39) hx hb dX9_addLead_4 (by decide) (fun c1 => ?_) (fun c1 => ?_)
  · have hf := ite_t c1 hf
    obtain rfl := Option.some.inj hf
    subst hQ
    exact en_v hx hb hr hlocks hP hD hS dX9_addLead_39
  have hf := ite_f c1 hf
  refine lv_aload_n hx hb dX9_addLead_7 rfl (lv_at hl 0 rfl) ?_
  refine va_get (D := D) (ci := 6) (v := .int v_t_leads) (C := RX9) (T := TX9) (N := 7) hx hb hts inX9 hown hE.1 hP 0 rfl rfl 4 (by decide) (hts _ qw63) (fun _ h9 => h9) rfl dX9_addLead_8 ?_
  refine lv_aload_n hx hb dX9_addLead_11 rfl (lv_at hl 0 rfl) ?_
  refine va_get (D := D) (ci := 6) (v := .ref a_t_kinds) (C := RX9) (T := TX9) (N := 7) hx hb hts inX9 hown hE.1 hP 0 rfl rfl 6 (by decide) (hts _ qw66) (fun _ h9 => h9) rfl dX9_addLead_12 ?_
  refine va_alen (v := 17) hx hb hE.1 hP 1 0 rfl rfl rfl dX9_addLead_15 ?_
  refine lv_icmp_ge (tgt := 39) hx hb dX9_addLead_16 (by decide) (fun c2 => ?_) (fun c2 => ?_)
  · have hf := ite_t c2 hf
    obtain rfl := Option.some.inj hf
    subst hQ
    exact en_v hx hb hr hlocks hP hD hS dX9_addLead_39
  have hf := ite_f c2 hf
  refine lv_aload_n hx hb dX9_addLead_19 rfl (lv_at hl 0 rfl) ?_
  refine va_get (D := D) (ci := 6) (v := .ref a_t_kinds) (C := RX9) (T := TX9) (N := 7) hx hb hts inX9 hown hE.1 hP 0 rfl rfl 6 (by decide) (hts _ qw66) (fun _ h9 => h9) rfl dX9_addLead_20 ?_
  refine lv_aload_n hx hb dX9_addLead_23 rfl (lv_at hl 0 rfl) ?_
  refine va_get (D := D) (ci := 6) (v := .int v_t_leads) (C := RX9) (T := TX9) (N := 7) hx hb hts inX9 hown hE.1 hP 0 rfl rfl 4 (by decide) (hts _ qw63) (fun _ h9 => h9) rfl dX9_addLead_24 ?_
  refine lv_iload_n hx hb dX9_addLead_27 rfl (lv_at hl 1 rfl) ?_
  obtain ⟨g3, hf⟩ := gd_s hf
  refine va_iast hx hb hE.1 hP hD hS 1 0 rfl rfl (inb_in g3) dX9_addLead_28 (fun H locs hP hD hS => ?_)
  have hP : va_P D vwCl [(a_t, .inr (6, [.int v_t_bells, .int v_t_changes, .int v_t_bob, .int v_t_single, .int v_t_leads, .ref a_t_places, .ref a_t_kinds])), (a_t_kinds, .inl (Y.1, 17, .inl (upd f_t_kinds v_t_leads.toNatClampNeg s1)))] H := hP
  have hD : va_D A [(a_t, .inr (6, [.int v_t_bells, .int v_t_changes, .int v_t_bob, .int v_t_single, .int v_t_leads, .ref a_t_places, .ref a_t_kinds])), (a_t_kinds, .inl (Y.1, 17, .inl (upd f_t_kinds v_t_leads.toNatClampNeg s1)))] := hD
  refine lv_aload_n hx hb dX9_addLead_29 rfl (lv_at hl 0 rfl) ?_
  refine lv_dup hx hb dX9_addLead_30 rfl ?_
  refine va_get (D := D) (ci := 6) (v := .int v_t_leads) (C := RX9) (T := TX9) (N := 7) hx hb hts inX9 hown hE.1 hP 0 rfl rfl 4 (by decide) (hts _ qw63) (fun _ h9 => h9) rfl dX9_addLead_31 ?_
  refine lv_iconst (v := 1) hx hb dX9_addLead_34 (by decide) ?_
  refine lv_iadd hx hb dX9_addLead_35 ?_
  refine nm_W hf (fun x4 hf => ?_)
  refine va_put (D := D) (ci := 6) (v := .int x4) (ty := .int) (C := RX9) (T := TX9) (N := 7) hx hb hts inX9 tyX9 tyX9_ok nmX9 hown hE.1 hP hD hS 0 rfl rfl 4 (by decide) (hts _ qw63) (fun _ h9 => h9) rfl (tyX9_ok 4 (by decide)) rfl rfl (Nat.le_of_ble_eq_true rfl) dX9_addLead_36 (fun H locs hP hD hS => ?_)
  have hP : va_P D vwCl [(a_t, .inr (6, [.int v_t_bells, .int v_t_changes, .int v_t_bob, .int v_t_single, .int x4, .ref a_t_places, .ref a_t_kinds])), (a_t_kinds, .inl (Y.1, 17, .inl (upd f_t_kinds v_t_leads.toNatClampNeg s1)))] H := hP
  have hD : va_D A [(a_t, .inr (6, [.int v_t_bells, .int v_t_changes, .int v_t_bob, .int v_t_single, .int x4, .ref a_t_places, .ref a_t_kinds])), (a_t_kinds, .inl (Y.1, 17, .inl (upd f_t_kinds v_t_leads.toNatClampNeg s1)))] := hD
  obtain rfl := Option.some.inj hf
  subst hQ
  exact en_v hx hb hr hlocks hP hD hS dX9_addLead_39

def f_X9_lastRow (v_t_changes : Int32) (v_t_leads : Int32) : Int32 :=
  (v_t_leads * v_t_changes)
abbrev rm_X9_lastRow : Room := { frames := 1, cells := 0, slots := 0, locals := 24 }
set_option maxHeartbeats 4000000 in
set_option maxRecDepth 100000 in
theorem c_X9_lastRow (l : Launch) (D : va_G) (Y : ClassId × ClassId × ClassId × ClassId) (a_t a_t_places a_t_kinds : Nat) (v_t_bells : Int32) (v_t_changes : Int32) (v_t_bob : Int32) (v_t_single : Int32) (v_t_leads : Int32) (R : Int32) (hf : f_X9_lastRow v_t_changes v_t_leads = R) : Met l yX9_lastRow (ws_ yX9_lastRow cX9_lastRow 1 (some .int)) rm_X9_lastRow (va_Pc [.ref a_t] (RO D Y [(a_t, .inr (6, [.int v_t_bells, .int v_t_changes, .int v_t_bob, .int v_t_single, .int v_t_leads, .ref a_t_places, .ref a_t_kinds]))])) (OI R) 0 0 (fun _ => False) := by
  refine ro_start (by decide) (Nat.le_of_ble_eq_true rfl) ?_
  intro p e s m below meth c ls hx hb hml hr hlocks hown hts hP hE hl
  generalize hargs : List.toArray _ = args at hts ⊢
  have hown : s.vm.findClass RX9 = some m.cls := hown
  have E : EN p m c cX9_lastRow 1 s args RX9 := ⟨hx, hb, hml, hown, hts⟩
  have hl : lv_has ls 1 [(0, .ref a_t)] := hl
  generalize hQ : MQ below _ args s 0 0 _ = Q
  unfold f_X9_lastRow at hf
  refine lv_aload_n hx hb dX9_lastRow_0 rfl (lv_at hl 0 rfl) ?_
  refine va_get (D := D) (ci := 6) (v := .int v_t_leads) (C := RX9) (T := TX9) (N := 7) hx hb hts inX9 hown hE.1 hP 0 rfl rfl 4 (by decide) (hts _ qw63) (fun _ h9 => h9) rfl dX9_lastRow_1 ?_
  refine lv_aload_n hx hb dX9_lastRow_4 rfl (lv_at hl 0 rfl) ?_
  refine va_get (D := D) (ci := 6) (v := .int v_t_changes) (C := RX9) (T := TX9) (N := 7) hx hb hts inX9 hown hE.1 hP 0 rfl rfl 1 (by decide) (hts _ qw55) (fun _ h9 => h9) rfl dX9_lastRow_5 ?_
  refine lv_imul hx hb dX9_lastRow_8 ?_
  subst hf
  subst hQ
  exact en_oi hx hb hr hlocks rfl dX9_lastRow_9

def f_X9_kindOfLead (s1 : Int32) (f_t_kinds : Nat → Int32) : Option (Int32) :=
  (if s1 < 0 then some 0 else (if (17 : Int32) ≤ s1 then some 0 else gd (inb s1 17) (some (f_t_kinds s1.toNatClampNeg))))
abbrev rm_X9_kindOfLead : Room := { frames := 1, cells := 0, slots := 0, locals := 24 }
set_option maxHeartbeats 4000000 in
set_option maxRecDepth 100000 in
theorem c_X9_kindOfLead (l : Launch) (D : va_G) (Y : ClassId × ClassId × ClassId × ClassId) (a_t a_t_places a_t_kinds : Nat) (v_t_bells : Int32) (v_t_changes : Int32) (v_t_bob : Int32) (v_t_single : Int32) (v_t_leads : Int32) (f_t_kinds : Nat → Int32) (s1 : Int32) (R : Int32) (hf : f_X9_kindOfLead s1 f_t_kinds = some R) : Met l yX9_kindOfLead (ws_ yX9_kindOfLead cX9_kindOfLead 2 (some .int)) rm_X9_kindOfLead (va_Pc [.ref a_t, .int s1] (RO D Y [(a_t, .inr (6, [.int v_t_bells, .int v_t_changes, .int v_t_bob, .int v_t_single, .int v_t_leads, .ref a_t_places, .ref a_t_kinds])), (a_t_kinds, .inl (Y.1, 17, .inl f_t_kinds))])) (OI R) 0 0 (fun _ => False) := by
  refine ro_start (by decide) (Nat.le_of_ble_eq_true rfl) ?_
  intro p e s m below meth c ls hx hb hml hr hlocks hown hts hP hE hl
  generalize hargs : List.toArray _ = args at hts ⊢
  have hown : s.vm.findClass RX9 = some m.cls := hown
  have E : EN p m c cX9_kindOfLead 2 s args RX9 := ⟨hx, hb, hml, hown, hts⟩
  have hl : lv_has ls 2 [(0, .ref a_t), (1, .int s1)] := hl
  generalize hQ : MQ below _ args s 0 0 _ = Q
  unfold f_X9_kindOfLead at hf
  refine lv_iload_n hx hb dX9_kindOfLead_0 rfl (lv_at hl 1 rfl) ?_
  refine lv_if_lt (tgt := 22) hx hb dX9_kindOfLead_1 (by decide) (fun c1 => ?_) (fun c1 => ?_)
  · have hf := ite_t c1 hf
    refine lv_iconst (v := 0) hx hb dX9_kindOfLead_22 (by decide) ?_
    obtain rfl := Option.some.inj hf
    subst hQ
    exact en_oi hx hb hr hlocks rfl dX9_kindOfLead_23
  have hf := ite_f c1 hf
  refine lv_iload_n hx hb dX9_kindOfLead_4 rfl (lv_at hl 1 rfl) ?_
  refine lv_aload_n hx hb dX9_kindOfLead_5 rfl (lv_at hl 0 rfl) ?_
  refine va_get (D := D) (ci := 6) (v := .ref a_t_kinds) (C := RX9) (T := TX9) (N := 7) hx hb hts inX9 hown hE.1 hP 0 rfl rfl 6 (by decide) (hts _ qw66) (fun _ h9 => h9) rfl dX9_kindOfLead_6 ?_
  refine va_alen (v := 17) hx hb hE.1 hP 1 0 rfl rfl rfl dX9_kindOfLead_9 ?_
  refine lv_icmp_ge (tgt := 22) hx hb dX9_kindOfLead_10 (by decide) (fun c2 => ?_) (fun c2 => ?_)
  · have hf := ite_t c2 hf
    refine lv_iconst (v := 0) hx hb dX9_kindOfLead_22 (by decide) ?_
    obtain rfl := Option.some.inj hf
    subst hQ
    exact en_oi hx hb hr hlocks rfl dX9_kindOfLead_23
  have hf := ite_f c2 hf
  refine lv_aload_n hx hb dX9_kindOfLead_13 rfl (lv_at hl 0 rfl) ?_
  refine va_get (D := D) (ci := 6) (v := .ref a_t_kinds) (C := RX9) (T := TX9) (N := 7) hx hb hts inX9 hown hE.1 hP 0 rfl rfl 6 (by decide) (hts _ qw66) (fun _ h9 => h9) rfl dX9_kindOfLead_14 ?_
  refine lv_iload_n hx hb dX9_kindOfLead_17 rfl (lv_at hl 1 rfl) ?_
  obtain ⟨g3, hf⟩ := gd_s hf
  refine va_iald hx hb hE.1 hP 1 0 rfl rfl (inb_in g3) dX9_kindOfLead_18 ?_
  refine lv_goto (tgt := 23) hx hb dX9_kindOfLead_19 (by decide) ?_
  obtain rfl := Option.some.inj hf
  subst hQ
  exact en_oi hx hb hr hlocks rfl dX9_kindOfLead_23

def f_X9_placesMade (s1 : Int32) (s2 : Int32) (v_t_changes : Int32) (v_t_bob : Int32) (v_t_single : Int32) (f_t_places : Nat → Int32) : Option (Int32) :=
  (if s2 = (v_t_changes - 1) then (if s1 = 1 then some v_t_bob else (if s2 = (v_t_changes - 1) then (if s1 = 2 then some v_t_single else (if s2 < 0 then some 0 else (if (20 : Int32) ≤ s2 then some 0 else gd (inb s2 20) (some (f_t_places s2.toNatClampNeg))))) else (if s2 < 0 then some 0 else (if (20 : Int32) ≤ s2 then some 0 else gd (inb s2 20) (some (f_t_places s2.toNatClampNeg)))))) else (if s2 = (v_t_changes - 1) then (if s1 = 2 then some v_t_single else (if s2 < 0 then some 0 else (if (20 : Int32) ≤ s2 then some 0 else gd (inb s2 20) (some (f_t_places s2.toNatClampNeg))))) else (if s2 < 0 then some 0 else (if (20 : Int32) ≤ s2 then some 0 else gd (inb s2 20) (some (f_t_places s2.toNatClampNeg))))))
abbrev rm_X9_placesMade : Room := { frames := 1, cells := 0, slots := 0, locals := 24 }
set_option maxHeartbeats 4000000 in
set_option maxRecDepth 100000 in
theorem c_X9_placesMade (l : Launch) (D : va_G) (Y : ClassId × ClassId × ClassId × ClassId) (a_t a_t_places a_t_kinds : Nat) (v_t_bells : Int32) (v_t_changes : Int32) (v_t_bob : Int32) (v_t_single : Int32) (v_t_leads : Int32) (f_t_places : Nat → Int32) (s1 : Int32) (s2 : Int32) (R : Int32) (hf : f_X9_placesMade s1 s2 v_t_changes v_t_bob v_t_single f_t_places = some R) : Met l yX9_placesMade (ws_ yX9_placesMade cX9_placesMade 3 (some .int)) rm_X9_placesMade (va_Pc [.ref a_t, .int s1, .int s2] (RO D Y [(a_t, .inr (6, [.int v_t_bells, .int v_t_changes, .int v_t_bob, .int v_t_single, .int v_t_leads, .ref a_t_places, .ref a_t_kinds])), (a_t_places, .inl (Y.1, 20, .inl f_t_places))])) (OI R) 0 0 (fun _ => False) := by
  refine ro_start (by decide) (Nat.le_of_ble_eq_true rfl) ?_
  intro p e s m below meth c ls hx hb hml hr hlocks hown hts hP hE hl
  generalize hargs : List.toArray _ = args at hts ⊢
  have hown : s.vm.findClass RX9 = some m.cls := hown
  have E : EN p m c cX9_placesMade 3 s args RX9 := ⟨hx, hb, hml, hown, hts⟩
  have hl : lv_has ls 3 [(0, .ref a_t), (1, .int s1), (2, .int s2)] := hl
  generalize hQ : MQ below _ args s 0 0 _ = Q
  unfold f_X9_placesMade at hf
  refine lv_iload_n hx hb dX9_placesMade_0 rfl (lv_at hl 2 rfl) ?_
  refine lv_aload_n hx hb dX9_placesMade_1 rfl (lv_at hl 0 rfl) ?_
  refine va_get (D := D) (ci := 6) (v := .int v_t_changes) (C := RX9) (T := TX9) (N := 7) hx hb hts inX9 hown hE.1 hP 0 rfl rfl 1 (by decide) (hts _ qw55) (fun _ h9 => h9) rfl dX9_placesMade_2 ?_
  refine lv_iconst (v := 1) hx hb dX9_placesMade_5 (by decide) ?_
  refine lv_isub hx hb dX9_placesMade_6 ?_
  refine lv_icmp_ne (tgt := 20) hx hb dX9_placesMade_7 (by decide) (fun c1 => ?_) (fun c1 => ?_)
  · have hf := ite_f c1 hf
    refine lv_iload_n hx hb dX9_placesMade_20 rfl (lv_at hl 2 rfl) ?_
    refine lv_aload_n hx hb dX9_placesMade_21 rfl (lv_at hl 0 rfl) ?_
    refine va_get (D := D) (ci := 6) (v := .int v_t_changes) (C := RX9) (T := TX9) (N := 7) hx hb hts inX9 hown hE.1 hP 0 rfl rfl 1 (by decide) (hts _ qw55) (fun _ h9 => h9) rfl dX9_placesMade_22 ?_
    refine lv_iconst (v := 1) hx hb dX9_placesMade_25 (by decide) ?_
    refine lv_isub hx hb dX9_placesMade_26 ?_
    refine lv_icmp_ne (tgt := 40) hx hb dX9_placesMade_27 (by decide) (fun c2 => ?_) (fun c2 => ?_)
    · have hf := ite_f c2 hf
      refine lv_iload_n hx hb dX9_placesMade_40 rfl (lv_at hl 2 rfl) ?_
      refine lv_if_lt (tgt := 62) hx hb dX9_placesMade_41 (by decide) (fun c3 => ?_) (fun c3 => ?_)
      · have hf := ite_t c3 hf
        refine lv_iconst (v := 0) hx hb dX9_placesMade_62 (by decide) ?_
        obtain rfl := Option.some.inj hf
        subst hQ
        exact en_oi hx hb hr hlocks rfl dX9_placesMade_63
      have hf := ite_f c3 hf
      refine lv_iload_n hx hb dX9_placesMade_44 rfl (lv_at hl 2 rfl) ?_
      refine lv_aload_n hx hb dX9_placesMade_45 rfl (lv_at hl 0 rfl) ?_
      refine va_get (D := D) (ci := 6) (v := .ref a_t_places) (C := RX9) (T := TX9) (N := 7) hx hb hts inX9 hown hE.1 hP 0 rfl rfl 5 (by decide) (hts _ qw65) (fun _ h9 => h9) rfl dX9_placesMade_46 ?_
      refine va_alen (v := 20) hx hb hE.1 hP 1 0 rfl rfl rfl dX9_placesMade_49 ?_
      refine lv_icmp_ge (tgt := 62) hx hb dX9_placesMade_50 (by decide) (fun c4 => ?_) (fun c4 => ?_)
      · have hf := ite_t c4 hf
        refine lv_iconst (v := 0) hx hb dX9_placesMade_62 (by decide) ?_
        obtain rfl := Option.some.inj hf
        subst hQ
        exact en_oi hx hb hr hlocks rfl dX9_placesMade_63
      have hf := ite_f c4 hf
      refine lv_aload_n hx hb dX9_placesMade_53 rfl (lv_at hl 0 rfl) ?_
      refine va_get (D := D) (ci := 6) (v := .ref a_t_places) (C := RX9) (T := TX9) (N := 7) hx hb hts inX9 hown hE.1 hP 0 rfl rfl 5 (by decide) (hts _ qw65) (fun _ h9 => h9) rfl dX9_placesMade_54 ?_
      refine lv_iload_n hx hb dX9_placesMade_57 rfl (lv_at hl 2 rfl) ?_
      obtain ⟨g5, hf⟩ := gd_s hf
      refine va_iald hx hb hE.1 hP 1 0 rfl rfl (inb_in g5) dX9_placesMade_58 ?_
      refine lv_goto (tgt := 63) hx hb dX9_placesMade_59 (by decide) ?_
      obtain rfl := Option.some.inj hf
      subst hQ
      exact en_oi hx hb hr hlocks rfl dX9_placesMade_63
    have hf := ite_t c2 hf
    refine lv_iload_n hx hb dX9_placesMade_30 rfl (lv_at hl 1 rfl) ?_
    refine lv_iconst (v := 2) hx hb dX9_placesMade_31 (by decide) ?_
    refine lv_icmp_ne (tgt := 40) hx hb dX9_placesMade_32 (by decide) (fun c6 => ?_) (fun c6 => ?_)
    · have hf := ite_f c6 hf
      refine lv_iload_n hx hb dX9_placesMade_40 rfl (lv_at hl 2 rfl) ?_
      refine lv_if_lt (tgt := 62) hx hb dX9_placesMade_41 (by decide) (fun c7 => ?_) (fun c7 => ?_)
      · have hf := ite_t c7 hf
        refine lv_iconst (v := 0) hx hb dX9_placesMade_62 (by decide) ?_
        obtain rfl := Option.some.inj hf
        subst hQ
        exact en_oi hx hb hr hlocks rfl dX9_placesMade_63
      have hf := ite_f c7 hf
      refine lv_iload_n hx hb dX9_placesMade_44 rfl (lv_at hl 2 rfl) ?_
      refine lv_aload_n hx hb dX9_placesMade_45 rfl (lv_at hl 0 rfl) ?_
      refine va_get (D := D) (ci := 6) (v := .ref a_t_places) (C := RX9) (T := TX9) (N := 7) hx hb hts inX9 hown hE.1 hP 0 rfl rfl 5 (by decide) (hts _ qw65) (fun _ h9 => h9) rfl dX9_placesMade_46 ?_
      refine va_alen (v := 20) hx hb hE.1 hP 1 0 rfl rfl rfl dX9_placesMade_49 ?_
      refine lv_icmp_ge (tgt := 62) hx hb dX9_placesMade_50 (by decide) (fun c8 => ?_) (fun c8 => ?_)
      · have hf := ite_t c8 hf
        refine lv_iconst (v := 0) hx hb dX9_placesMade_62 (by decide) ?_
        obtain rfl := Option.some.inj hf
        subst hQ
        exact en_oi hx hb hr hlocks rfl dX9_placesMade_63
      have hf := ite_f c8 hf
      refine lv_aload_n hx hb dX9_placesMade_53 rfl (lv_at hl 0 rfl) ?_
      refine va_get (D := D) (ci := 6) (v := .ref a_t_places) (C := RX9) (T := TX9) (N := 7) hx hb hts inX9 hown hE.1 hP 0 rfl rfl 5 (by decide) (hts _ qw65) (fun _ h9 => h9) rfl dX9_placesMade_54 ?_
      refine lv_iload_n hx hb dX9_placesMade_57 rfl (lv_at hl 2 rfl) ?_
      obtain ⟨g9, hf⟩ := gd_s hf
      refine va_iald hx hb hE.1 hP 1 0 rfl rfl (inb_in g9) dX9_placesMade_58 ?_
      refine lv_goto (tgt := 63) hx hb dX9_placesMade_59 (by decide) ?_
      obtain rfl := Option.some.inj hf
      subst hQ
      exact en_oi hx hb hr hlocks rfl dX9_placesMade_63
    have hf := ite_t c6 hf
    refine lv_aload_n hx hb dX9_placesMade_35 rfl (lv_at hl 0 rfl) ?_
    refine va_get (D := D) (ci := 6) (v := .int v_t_single) (C := RX9) (T := TX9) (N := 7) hx hb hts inX9 hown hE.1 hP 0 rfl rfl 3 (by decide) (hts _ qw60) (fun _ h9 => h9) rfl dX9_placesMade_36 ?_
    obtain rfl := Option.some.inj hf
    subst hQ
    exact en_oi hx hb hr hlocks rfl dX9_placesMade_39
  have hf := ite_t c1 hf
  refine lv_iload_n hx hb dX9_placesMade_10 rfl (lv_at hl 1 rfl) ?_
  refine lv_iconst (v := 1) hx hb dX9_placesMade_11 (by decide) ?_
  refine lv_icmp_ne (tgt := 20) hx hb dX9_placesMade_12 (by decide) (fun c10 => ?_) (fun c10 => ?_)
  · have hf := ite_f c10 hf
    refine lv_iload_n hx hb dX9_placesMade_20 rfl (lv_at hl 2 rfl) ?_
    refine lv_aload_n hx hb dX9_placesMade_21 rfl (lv_at hl 0 rfl) ?_
    refine va_get (D := D) (ci := 6) (v := .int v_t_changes) (C := RX9) (T := TX9) (N := 7) hx hb hts inX9 hown hE.1 hP 0 rfl rfl 1 (by decide) (hts _ qw55) (fun _ h9 => h9) rfl dX9_placesMade_22 ?_
    refine lv_iconst (v := 1) hx hb dX9_placesMade_25 (by decide) ?_
    refine lv_isub hx hb dX9_placesMade_26 ?_
    refine lv_icmp_ne (tgt := 40) hx hb dX9_placesMade_27 (by decide) (fun c11 => ?_) (fun c11 => ?_)
    · have hf := ite_f c11 hf
      refine lv_iload_n hx hb dX9_placesMade_40 rfl (lv_at hl 2 rfl) ?_
      refine lv_if_lt (tgt := 62) hx hb dX9_placesMade_41 (by decide) (fun c12 => ?_) (fun c12 => ?_)
      · have hf := ite_t c12 hf
        refine lv_iconst (v := 0) hx hb dX9_placesMade_62 (by decide) ?_
        obtain rfl := Option.some.inj hf
        subst hQ
        exact en_oi hx hb hr hlocks rfl dX9_placesMade_63
      have hf := ite_f c12 hf
      refine lv_iload_n hx hb dX9_placesMade_44 rfl (lv_at hl 2 rfl) ?_
      refine lv_aload_n hx hb dX9_placesMade_45 rfl (lv_at hl 0 rfl) ?_
      refine va_get (D := D) (ci := 6) (v := .ref a_t_places) (C := RX9) (T := TX9) (N := 7) hx hb hts inX9 hown hE.1 hP 0 rfl rfl 5 (by decide) (hts _ qw65) (fun _ h9 => h9) rfl dX9_placesMade_46 ?_
      refine va_alen (v := 20) hx hb hE.1 hP 1 0 rfl rfl rfl dX9_placesMade_49 ?_
      refine lv_icmp_ge (tgt := 62) hx hb dX9_placesMade_50 (by decide) (fun c13 => ?_) (fun c13 => ?_)
      · have hf := ite_t c13 hf
        refine lv_iconst (v := 0) hx hb dX9_placesMade_62 (by decide) ?_
        obtain rfl := Option.some.inj hf
        subst hQ
        exact en_oi hx hb hr hlocks rfl dX9_placesMade_63
      have hf := ite_f c13 hf
      refine lv_aload_n hx hb dX9_placesMade_53 rfl (lv_at hl 0 rfl) ?_
      refine va_get (D := D) (ci := 6) (v := .ref a_t_places) (C := RX9) (T := TX9) (N := 7) hx hb hts inX9 hown hE.1 hP 0 rfl rfl 5 (by decide) (hts _ qw65) (fun _ h9 => h9) rfl dX9_placesMade_54 ?_
      refine lv_iload_n hx hb dX9_placesMade_57 rfl (lv_at hl 2 rfl) ?_
      obtain ⟨g14, hf⟩ := gd_s hf
      refine va_iald hx hb hE.1 hP 1 0 rfl rfl (inb_in g14) dX9_placesMade_58 ?_
      refine lv_goto (tgt := 63) hx hb dX9_placesMade_59 (by decide) ?_
      obtain rfl := Option.some.inj hf
      subst hQ
      exact en_oi hx hb hr hlocks rfl dX9_placesMade_63
    have hf := ite_t c11 hf
    refine lv_iload_n hx hb dX9_placesMade_30 rfl (lv_at hl 1 rfl) ?_
    refine lv_iconst (v := 2) hx hb dX9_placesMade_31 (by decide) ?_
    refine lv_icmp_ne (tgt := 40) hx hb dX9_placesMade_32 (by decide) (fun c15 => ?_) (fun c15 => ?_)
    · have hf := ite_f c15 hf
      refine lv_iload_n hx hb dX9_placesMade_40 rfl (lv_at hl 2 rfl) ?_
      refine lv_if_lt (tgt := 62) hx hb dX9_placesMade_41 (by decide) (fun c16 => ?_) (fun c16 => ?_)
      · have hf := ite_t c16 hf
        refine lv_iconst (v := 0) hx hb dX9_placesMade_62 (by decide) ?_
        obtain rfl := Option.some.inj hf
        subst hQ
        exact en_oi hx hb hr hlocks rfl dX9_placesMade_63
      have hf := ite_f c16 hf
      refine lv_iload_n hx hb dX9_placesMade_44 rfl (lv_at hl 2 rfl) ?_
      refine lv_aload_n hx hb dX9_placesMade_45 rfl (lv_at hl 0 rfl) ?_
      refine va_get (D := D) (ci := 6) (v := .ref a_t_places) (C := RX9) (T := TX9) (N := 7) hx hb hts inX9 hown hE.1 hP 0 rfl rfl 5 (by decide) (hts _ qw65) (fun _ h9 => h9) rfl dX9_placesMade_46 ?_
      refine va_alen (v := 20) hx hb hE.1 hP 1 0 rfl rfl rfl dX9_placesMade_49 ?_
      refine lv_icmp_ge (tgt := 62) hx hb dX9_placesMade_50 (by decide) (fun c17 => ?_) (fun c17 => ?_)
      · have hf := ite_t c17 hf
        refine lv_iconst (v := 0) hx hb dX9_placesMade_62 (by decide) ?_
        obtain rfl := Option.some.inj hf
        subst hQ
        exact en_oi hx hb hr hlocks rfl dX9_placesMade_63
      have hf := ite_f c17 hf
      refine lv_aload_n hx hb dX9_placesMade_53 rfl (lv_at hl 0 rfl) ?_
      refine va_get (D := D) (ci := 6) (v := .ref a_t_places) (C := RX9) (T := TX9) (N := 7) hx hb hts inX9 hown hE.1 hP 0 rfl rfl 5 (by decide) (hts _ qw65) (fun _ h9 => h9) rfl dX9_placesMade_54 ?_
      refine lv_iload_n hx hb dX9_placesMade_57 rfl (lv_at hl 2 rfl) ?_
      obtain ⟨g18, hf⟩ := gd_s hf
      refine va_iald hx hb hE.1 hP 1 0 rfl rfl (inb_in g18) dX9_placesMade_58 ?_
      refine lv_goto (tgt := 63) hx hb dX9_placesMade_59 (by decide) ?_
      obtain rfl := Option.some.inj hf
      subst hQ
      exact en_oi hx hb hr hlocks rfl dX9_placesMade_63
    have hf := ite_t c15 hf
    refine lv_aload_n hx hb dX9_placesMade_35 rfl (lv_at hl 0 rfl) ?_
    refine va_get (D := D) (ci := 6) (v := .int v_t_single) (C := RX9) (T := TX9) (N := 7) hx hb hts inX9 hown hE.1 hP 0 rfl rfl 3 (by decide) (hts _ qw60) (fun _ h9 => h9) rfl dX9_placesMade_36 ?_
    obtain rfl := Option.some.inj hf
    subst hQ
    exact en_oi hx hb hr hlocks rfl dX9_placesMade_39
  have hf := ite_t c10 hf
  refine lv_aload_n hx hb dX9_placesMade_15 rfl (lv_at hl 0 rfl) ?_
  refine va_get (D := D) (ci := 6) (v := .int v_t_bob) (C := RX9) (T := TX9) (N := 7) hx hb hts inX9 hown hE.1 hP 0 rfl rfl 2 (by decide) (hts _ qw58) (fun _ h9 => h9) rfl dX9_placesMade_16 ?_
  obtain rfl := Option.some.inj hf
  subst hQ
  exact en_oi hx hb hr hlocks rfl dX9_placesMade_19

def f_X9_roundsBehindLead_L10 (s1 : Int32) (v_t_bells : Int32) (v_t_changes : Int32) (v_t_bob : Int32) (v_t_single : Int32) (f_t_places : Nat → Int32) : Nat → Int32 → Int32 → Option (Int32)
  | 0, _, _ => none
  | n + 1, s2, s3 => (if v_t_changes ≤ s3 then some s2 else bd (f_X9_placesMade s1 s3 v_t_changes v_t_bob v_t_single f_t_places) (fun q4 => bd (f_X6_behindChange s2 q4 v_t_bells) (fun q6 => (f_X9_roundsBehindLead_L10 s1 v_t_bells v_t_changes v_t_bob v_t_single f_t_places n q6 (s3 + 1)))))
def f_X9_roundsBehindLead (s1 : Int32) (v_t_bells : Int32) (v_t_changes : Int32) (v_t_bob : Int32) (v_t_single : Int32) (f_t_places : Nat → Int32) : Option (Int32) :=
  bd (f_X6_rounds v_t_bells) (fun q1 => (f_X9_roundsBehindLead_L10 s1 v_t_bells v_t_changes v_t_bob v_t_single f_t_places fu q1 0))
abbrev rm_X9_roundsBehindLead : Room := { frames := 4, cells := 0, slots := 0, locals := 89 }
set_option maxHeartbeats 4000000 in
set_option maxRecDepth 100000 in
theorem c_X9_roundsBehindLead (l : Launch) (D : va_G) (Y : ClassId × ClassId × ClassId × ClassId) (a_t a_t_places a_t_kinds : Nat) (v_t_bells : Int32) (v_t_changes : Int32) (v_t_bob : Int32) (v_t_single : Int32) (v_t_leads : Int32) (f_t_places : Nat → Int32) (s1 : Int32) (R : Int32) (hf : f_X9_roundsBehindLead s1 v_t_bells v_t_changes v_t_bob v_t_single f_t_places = some R) : Met l yX9_roundsBehindLead (ws_ yX9_roundsBehindLead cX9_roundsBehindLead 4 (some .int)) rm_X9_roundsBehindLead (va_Pc [.ref a_t, .int s1] (RO D Y [(a_t, .inr (6, [.int v_t_bells, .int v_t_changes, .int v_t_bob, .int v_t_single, .int v_t_leads, .ref a_t_places, .ref a_t_kinds])), (a_t_places, .inl (Y.1, 20, .inl f_t_places))])) (OI R) 0 0 (fun _ => False) := by
  refine ro_start (by decide) (Nat.le_of_ble_eq_true rfl) ?_
  intro p e s m below meth c ls hx hb hml hr hlocks hown hts hP hE hl
  generalize hargs : List.toArray _ = args at hts ⊢
  have hown : s.vm.findClass RX9 = some m.cls := hown
  have E : EN p m c cX9_roundsBehindLead 4 s args RX9 := ⟨hx, hb, hml, hown, hts⟩
  have hl : lv_has ls 4 [(0, .ref a_t), (1, .int s1)] := hl
  generalize hQ : MQ below _ args s 0 0 _ = Q
  unfold f_X9_roundsBehindLead at hf
  have L10 : ∀ (n : Nat) (s1 : Int32) (s2 : Int32) (s3 : Int32) (ls : Array Slot), f_X9_roundsBehindLead_L10 s1 v_t_bells v_t_changes v_t_bob v_t_single f_t_places n s2 s3 = some R → lv_has ls 4 [(0, .ref a_t), (1, .int s1), (2, .int s2), (3, .int s3)] → W p l e rm_X9_roundsBehindLead s m args below meth c s.heap [] 0 0 Q (F0 m 10 ls []) := by
    intro n
    induction n with
    | zero =>
      intro s1 s2 s3 ls hf
      cases hf
    | succ n ih =>
      intro s1 s2 s3 ls hf hl
      unfold f_X9_roundsBehindLead_L10 at hf
      refine lv_iload_n hx hb dX9_roundsBehindLead_10 rfl (lv_at hl 3 rfl) ?_
      refine lv_aload_n hx hb dX9_roundsBehindLead_11 rfl (lv_at hl 0 rfl) ?_
      refine va_get (D := D) (ci := 6) (v := .int v_t_changes) (C := RX9) (T := TX9) (N := 7) hx hb hts inX9 hown hE.1 hP 0 rfl rfl 1 (by decide) (hts _ qw55) (fun _ h9 => h9) rfl dX9_roundsBehindLead_12 ?_
      refine lv_icmp_ge (tgt := 39) hx hb dX9_roundsBehindLead_15 (by decide) (fun c3 => ?_) (fun c3 => ?_)
      · have hf := ite_t c3 hf
        refine lv_iload_n hx hb dX9_roundsBehindLead_39 rfl (lv_at hl 2 rfl) ?_
        obtain rfl := Option.some.inj hf
        subst hQ
        exact en_oi hx hb hr hlocks rfl dX9_roundsBehindLead_40
      have hf := ite_f c3 hf
      refine lv_iload_n hx hb dX9_roundsBehindLead_18 rfl (lv_at hl 2 rfl) ?_
      refine lv_aload_n hx hb dX9_roundsBehindLead_19 rfl (lv_at hl 0 rfl) ?_
      refine lv_iload_n hx hb dX9_roundsBehindLead_20 rfl (lv_at hl 1 rfl) ?_
      refine lv_iload_n hx hb dX9_roundsBehindLead_21 rfl (lv_at hl 3 rfl) ?_
      obtain ⟨q4, h5, hf⟩ := bd_s hf
      refine af_oi (run_V (As := [.int s1, .int s3]) (rest := [.int s2]) E (c_X9_placesMade l D Y a_t a_t_places a_t_kinds v_t_bells v_t_changes v_t_bob v_t_single v_t_leads f_t_places s1 s3 q4 h5) qw476 qw406 qw407 qw20 qw408 rfl rfl hd_X9_placesMade ⟨Nat.le_of_ble_eq_true rfl, Nat.le_of_ble_eq_true rfl⟩ (pre_roV hP hE [0, 1] rfl (ci := 6) (q0 := 0) rfl rfl) rfl hl.1 rfl (Nat.le_of_ble_eq_true rfl) dX9_roundsBehindLead_22 ⟨Nat.zero_le _, Nat.zero_le _⟩) ?_
      refine lv_aload_n hx hb dX9_roundsBehindLead_25 rfl (lv_at hl 0 rfl) ?_
      refine va_get (D := D) (ci := 6) (v := .int v_t_bells) (C := RX9) (T := TX9) (N := 7) hx hb hts inX9 hown hE.1 hP 0 rfl rfl 0 (by decide) (hts _ qw51) (fun _ h9 => h9) rfl dX9_roundsBehindLead_26 ?_
      obtain ⟨q6, h7, hf⟩ := bd_s hf
      refine af_oi (run_S (As := [.int s2, .int q4, .int v_t_bells]) (rest := []) E (c_X6_behindChange l D Y s2 q4 v_t_bells q6 h7) qw477 qw410 qw34 qw411 rfl rfl hd_X6_behindChange ⟨Nat.le_of_ble_eq_true rfl, Nat.le_of_ble_eq_true rfl⟩ (pre_roS hP hE [] rfl) rfl hl.1 rfl (Nat.le_of_ble_eq_true rfl) dX9_roundsBehindLead_29 ⟨Nat.zero_le _, Nat.zero_le _⟩) ?_
      refine lv_istore_n (lv' := [(2, .int q6), (0, .ref a_t), (1, .int s1), (3, .int s3)]) hx hb dX9_roundsBehindLead_32 rfl hl (by decide) rfl (fun ls hl => ?_)
      refine lv_iinc (v := (s3 + 1)) (lv' := [(3, .int (s3 + 1)), (2, .int q6), (0, .ref a_t), (1, .int s1)]) hx hb dX9_roundsBehindLead_33 hl (k := 3) rfl rfl (by decide) rfl (fun ls hl => ?_)
      refine lv_goto (tgt := 10) hx hb dX9_roundsBehindLead_36 (by decide) ?_
      exact ih _ _ _ _ hf (lv_sub hl [2, 3, 1, 0] rfl)
  refine lv_aload_n hx hb dX9_roundsBehindLead_0 rfl (lv_at hl 0 rfl) ?_
  refine va_get (D := D) (ci := 6) (v := .int v_t_bells) (C := RX9) (T := TX9) (N := 7) hx hb hts inX9 hown hE.1 hP 0 rfl rfl 0 (by decide) (hts _ qw51) (fun _ h9 => h9) rfl dX9_roundsBehindLead_1 ?_
  obtain ⟨q1, h2, hf⟩ := bd_s hf
  refine af_oi (run_S (As := [.int v_t_bells]) (rest := []) E (c_X6_rounds l D Y v_t_bells q1 h2) qw475 qw396 qw34 qw397 rfl rfl hd_X6_rounds ⟨Nat.le_of_ble_eq_true rfl, Nat.le_of_ble_eq_true rfl⟩ (pre_roS hP hE [] rfl) rfl hl.1 rfl (Nat.le_of_ble_eq_true rfl) dX9_roundsBehindLead_4 ⟨Nat.zero_le _, Nat.zero_le _⟩) ?_
  refine lv_istore_n (lv' := [(2, .int q1), (0, .ref a_t), (1, .int s1)]) hx hb dX9_roundsBehindLead_7 rfl hl (by decide) rfl (fun ls hl => ?_)
  refine lv_iconst (v := 0) hx hb dX9_roundsBehindLead_8 (by decide) ?_
  refine lv_istore_n (lv' := [(3, .int 0), (2, .int q1), (0, .ref a_t), (1, .int s1)]) hx hb dX9_roundsBehindLead_9 rfl hl (by decide) rfl (fun ls hl => ?_)
  exact L10 _ _ _ _ _ hf (lv_sub hl [2, 3, 1, 0] rfl)

def f_X9_plainCourse_L19 (s1 : Int32) (s2 : Int32) (v_t_bells : Int32) (v_t_changes : Int32) (v_t_bob : Int32) (v_t_single : Int32) (f_t_places : Nat → Int32) : Nat → Int32 → Int32 → Option (Int32)
  | 0, _, _ => none
  | n + 1, s3, s4 => (if s3 = s1 then some s4 else (if (5040 : Int32) ≤ s4 then some s4 else bd (f_X6_behindLead s3 s2 v_t_bells) (fun q7 => (f_X9_plainCourse_L19 s1 s2 v_t_bells v_t_changes v_t_bob v_t_single f_t_places n q7 (s4 + 1)))))
def f_X9_plainCourse (v_t_bells : Int32) (v_t_changes : Int32) (v_t_bob : Int32) (v_t_single : Int32) (f_t_places : Nat → Int32) : Option (Int32) :=
  bd (f_X6_rounds v_t_bells) (fun q1 => bd (f_X9_roundsBehindLead 0 v_t_bells v_t_changes v_t_bob v_t_single f_t_places) (fun q3 => (f_X9_plainCourse_L19 q1 q3 v_t_bells v_t_changes v_t_bob v_t_single f_t_places fu q3 1)))
abbrev rm_X9_plainCourse : Room := { frames := 5, cells := 0, slots := 0, locals := 112 }
set_option maxHeartbeats 4000000 in
set_option maxRecDepth 100000 in
theorem c_X9_plainCourse (l : Launch) (D : va_G) (Y : ClassId × ClassId × ClassId × ClassId) (a_t a_t_places a_t_kinds : Nat) (v_t_bells : Int32) (v_t_changes : Int32) (v_t_bob : Int32) (v_t_single : Int32) (v_t_leads : Int32) (f_t_places : Nat → Int32) (R : Int32) (hf : f_X9_plainCourse v_t_bells v_t_changes v_t_bob v_t_single f_t_places = some R) : Met l yX9_plainCourse (ws_ yX9_plainCourse cX9_plainCourse 5 (some .int)) rm_X9_plainCourse (va_Pc [.ref a_t] (RO D Y [(a_t, .inr (6, [.int v_t_bells, .int v_t_changes, .int v_t_bob, .int v_t_single, .int v_t_leads, .ref a_t_places, .ref a_t_kinds])), (a_t_places, .inl (Y.1, 20, .inl f_t_places))])) (OI R) 0 0 (fun _ => False) := by
  refine ro_start (by decide) (Nat.le_of_ble_eq_true rfl) ?_
  intro p e s m below meth c ls hx hb hml hr hlocks hown hts hP hE hl
  generalize hargs : List.toArray _ = args at hts ⊢
  have hown : s.vm.findClass RX9 = some m.cls := hown
  have E : EN p m c cX9_plainCourse 5 s args RX9 := ⟨hx, hb, hml, hown, hts⟩
  have hl : lv_has ls 5 [(0, .ref a_t)] := hl
  generalize hQ : MQ below _ args s 0 0 _ = Q
  unfold f_X9_plainCourse at hf
  have L19 : ∀ (n : Nat) (s1 : Int32) (s2 : Int32) (s3 : Int32) (s4 : Int32) (ls : Array Slot), f_X9_plainCourse_L19 s1 s2 v_t_bells v_t_changes v_t_bob v_t_single f_t_places n s3 s4 = some R → lv_has ls 5 [(0, .ref a_t), (1, .int s1), (2, .int s2), (3, .int s3), (4, .int s4)] → W p l e rm_X9_plainCourse s m args below meth c s.heap [] 0 0 Q (F0 m 19 ls []) := by
    intro n
    induction n with
    | zero =>
      intro s1 s2 s3 s4 ls hf
      cases hf
    | succ n ih =>
      intro s1 s2 s3 s4 ls hf hl
      unfold f_X9_plainCourse_L19 at hf
      refine lv_iload_n hx hb dX9_plainCourse_19 rfl (lv_at hl 3 rfl) ?_
      refine lv_iload_n hx hb dX9_plainCourse_20 rfl (lv_at hl 1 rfl) ?_
      refine lv_icmp_eq (tgt := 48) hx hb dX9_plainCourse_21 (by decide) (fun c5 => ?_) (fun c5 => ?_)
      · have hf := ite_t c5 hf
        refine lv_iload hx hb dX9_plainCourse_48 (lv_at hl 4 rfl) ?_
        obtain rfl := Option.some.inj hf
        subst hQ
        exact en_oi hx hb hr hlocks rfl dX9_plainCourse_50
      have hf := ite_f c5 hf
      refine lv_iload hx hb dX9_plainCourse_24 (lv_at hl 4 rfl) ?_
      refine lv_sipush (v := 5040) hx hb dX9_plainCourse_26 (by decide) ?_
      refine lv_icmp_ge (tgt := 48) hx hb dX9_plainCourse_29 (by decide) (fun c6 => ?_) (fun c6 => ?_)
      · have hf := ite_t c6 hf
        refine lv_iload hx hb dX9_plainCourse_48 (lv_at hl 4 rfl) ?_
        obtain rfl := Option.some.inj hf
        subst hQ
        exact en_oi hx hb hr hlocks rfl dX9_plainCourse_50
      have hf := ite_f c6 hf
      refine lv_iload_n hx hb dX9_plainCourse_32 rfl (lv_at hl 3 rfl) ?_
      refine lv_iload_n hx hb dX9_plainCourse_33 rfl (lv_at hl 2 rfl) ?_
      refine lv_aload_n hx hb dX9_plainCourse_34 rfl (lv_at hl 0 rfl) ?_
      refine va_get (D := D) (ci := 6) (v := .int v_t_bells) (C := RX9) (T := TX9) (N := 7) hx hb hts inX9 hown hE.1 hP 0 rfl rfl 0 (by decide) (hts _ qw51) (fun _ h9 => h9) rfl dX9_plainCourse_35 ?_
      obtain ⟨q7, h8, hf⟩ := bd_s hf
      refine af_oi (run_S (As := [.int s3, .int s2, .int v_t_bells]) (rest := []) E (c_X6_behindLead l D Y s3 s2 v_t_bells q7 h8) qw534 qw499 qw34 qw500 rfl rfl hd_X6_behindLead ⟨Nat.le_of_ble_eq_true rfl, Nat.le_of_ble_eq_true rfl⟩ (pre_roS hP hE [] rfl) rfl hl.1 rfl (Nat.le_of_ble_eq_true rfl) dX9_plainCourse_38 ⟨Nat.zero_le _, Nat.zero_le _⟩) ?_
      refine lv_istore_n (lv' := [(3, .int q7), (0, .ref a_t), (1, .int s1), (2, .int s2), (4, .int s4)]) hx hb dX9_plainCourse_41 rfl hl (by decide) rfl (fun ls hl => ?_)
      refine lv_iinc (v := (s4 + 1)) (lv' := [(4, .int (s4 + 1)), (3, .int q7), (0, .ref a_t), (1, .int s1), (2, .int s2)]) hx hb dX9_plainCourse_42 hl (k := 4) rfl rfl (by decide) rfl (fun ls hl => ?_)
      refine lv_goto (tgt := 19) hx hb dX9_plainCourse_45 (by decide) ?_
      exact ih _ _ _ _ _ hf (lv_sub hl [2, 3, 4, 1, 0] rfl)
  refine lv_aload_n hx hb dX9_plainCourse_0 rfl (lv_at hl 0 rfl) ?_
  refine va_get (D := D) (ci := 6) (v := .int v_t_bells) (C := RX9) (T := TX9) (N := 7) hx hb hts inX9 hown hE.1 hP 0 rfl rfl 0 (by decide) (hts _ qw51) (fun _ h9 => h9) rfl dX9_plainCourse_1 ?_
  obtain ⟨q1, h2, hf⟩ := bd_s hf
  refine af_oi (run_S (As := [.int v_t_bells]) (rest := []) E (c_X6_rounds l D Y v_t_bells q1 h2) qw475 qw396 qw34 qw397 rfl rfl hd_X6_rounds ⟨Nat.le_of_ble_eq_true rfl, Nat.le_of_ble_eq_true rfl⟩ (pre_roS hP hE [] rfl) rfl hl.1 rfl (Nat.le_of_ble_eq_true rfl) dX9_plainCourse_4 ⟨Nat.zero_le _, Nat.zero_le _⟩) ?_
  refine lv_istore_n (lv' := [(1, .int q1), (0, .ref a_t)]) hx hb dX9_plainCourse_7 rfl hl (by decide) rfl (fun ls hl => ?_)
  refine lv_aload_n hx hb dX9_plainCourse_8 rfl (lv_at hl 1 rfl) ?_
  refine lv_iconst (v := 0) hx hb dX9_plainCourse_9 (by decide) ?_
  obtain ⟨q3, h4, hf⟩ := bd_s hf
  refine af_oi (run_V (As := [.int 0]) (rest := []) E (c_X9_roundsBehindLead l D Y a_t a_t_places a_t_kinds v_t_bells v_t_changes v_t_bob v_t_single v_t_leads f_t_places 0 q3 h4) qw533 qw472 qw473 qw20 qw474 rfl rfl hd_X9_roundsBehindLead ⟨Nat.le_of_ble_eq_true rfl, Nat.le_of_ble_eq_true rfl⟩ (pre_roV hP hE [0, 1] rfl (ci := 6) (q0 := 0) rfl rfl) rfl hl.1 rfl (Nat.le_of_ble_eq_true rfl) dX9_plainCourse_10 ⟨Nat.zero_le _, Nat.zero_le _⟩) ?_
  refine lv_istore_n (lv' := [(2, .int q3), (1, .int q1), (0, .ref a_t)]) hx hb dX9_plainCourse_13 rfl hl (by decide) rfl (fun ls hl => ?_)
  refine lv_iload_n hx hb dX9_plainCourse_14 rfl (lv_at hl 0 rfl) ?_
  refine lv_istore_n (lv' := [(3, .int q3), (2, .int q3), (1, .int q1), (0, .ref a_t)]) hx hb dX9_plainCourse_15 rfl hl (by decide) rfl (fun ls hl => ?_)
  refine lv_iconst (v := 1) hx hb dX9_plainCourse_16 (by decide) ?_
  refine lv_istore (lv' := [(4, .int 1), (3, .int q3), (2, .int q3), (1, .int q1), (0, .ref a_t)]) hx hb dX9_plainCourse_17 hl (by decide) rfl (fun ls hl => ?_)
  exact L19 _ _ _ _ _ _ hf (lv_sub hl [4, 3, 2, 1, 0] rfl)

def f_X9_calledLeads_L4 (v_t_leads : Int32) (f_t_kinds : Nat → Int32) : Nat → Int32 → Int32 → Option (Int32)
  | 0, _, _ => none
  | n + 1, s1, s2 => (if v_t_leads ≤ s2 then some s1 else bd (f_X9_kindOfLead s2 f_t_kinds) (fun q2 => nm (if q2 = 0 then s1 else (s1 + 1)) (fun (w4 : Int32) => (f_X9_calledLeads_L4 v_t_leads f_t_kinds n w4 (s2 + 1)))))
def f_X9_calledLeads (v_t_leads : Int32) (f_t_kinds : Nat → Int32) : Option (Int32) :=
  (f_X9_calledLeads_L4 v_t_leads f_t_kinds fu 0 0)
abbrev rm_X9_calledLeads : Room := { frames := 2, cells := 0, slots := 0, locals := 45 }
set_option maxHeartbeats 4000000 in
set_option maxRecDepth 100000 in
theorem c_X9_calledLeads (l : Launch) (D : va_G) (Y : ClassId × ClassId × ClassId × ClassId) (a_t a_t_places a_t_kinds : Nat) (v_t_bells : Int32) (v_t_changes : Int32) (v_t_bob : Int32) (v_t_single : Int32) (v_t_leads : Int32) (f_t_kinds : Nat → Int32) (R : Int32) (hf : f_X9_calledLeads v_t_leads f_t_kinds = some R) : Met l yX9_calledLeads (ws_ yX9_calledLeads cX9_calledLeads 3 (some .int)) rm_X9_calledLeads (va_Pc [.ref a_t] (RO D Y [(a_t, .inr (6, [.int v_t_bells, .int v_t_changes, .int v_t_bob, .int v_t_single, .int v_t_leads, .ref a_t_places, .ref a_t_kinds])), (a_t_kinds, .inl (Y.1, 17, .inl f_t_kinds))])) (OI R) 0 0 (fun _ => False) := by
  refine ro_start (by decide) (Nat.le_of_ble_eq_true rfl) ?_
  intro p e s m below meth c ls hx hb hml hr hlocks hown hts hP hE hl
  generalize hargs : List.toArray _ = args at hts ⊢
  have hown : s.vm.findClass RX9 = some m.cls := hown
  have E : EN p m c cX9_calledLeads 3 s args RX9 := ⟨hx, hb, hml, hown, hts⟩
  have hl : lv_has ls 3 [(0, .ref a_t)] := hl
  generalize hQ : MQ below _ args s 0 0 _ = Q
  unfold f_X9_calledLeads at hf
  have L4 : ∀ (n : Nat) (s1 : Int32) (s2 : Int32) (ls : Array Slot), f_X9_calledLeads_L4 v_t_leads f_t_kinds n s1 s2 = some R → lv_has ls 3 [(0, .ref a_t), (1, .int s1), (2, .int s2)] → W p l e rm_X9_calledLeads s m args below meth c s.heap [] 0 0 Q (F0 m 4 ls []) := by
    intro n
    induction n with
    | zero =>
      intro s1 s2 ls hf
      cases hf
    | succ n ih =>
      intro s1 s2 ls hf hl
      unfold f_X9_calledLeads_L4 at hf
      refine lv_iload_n hx hb dX9_calledLeads_4 rfl (lv_at hl 2 rfl) ?_
      refine lv_aload_n hx hb dX9_calledLeads_5 rfl (lv_at hl 0 rfl) ?_
      refine va_get (D := D) (ci := 6) (v := .int v_t_leads) (C := RX9) (T := TX9) (N := 7) hx hb hts inX9 hown hE.1 hP 0 rfl rfl 4 (by decide) (hts _ qw63) (fun _ h9 => h9) rfl dX9_calledLeads_6 ?_
      refine lv_icmp_ge (tgt := 29) hx hb dX9_calledLeads_9 (by decide) (fun c1 => ?_) (fun c1 => ?_)
      · have hf := ite_t c1 hf
        refine lv_iload_n hx hb dX9_calledLeads_29 rfl (lv_at hl 1 rfl) ?_
        obtain rfl := Option.some.inj hf
        subst hQ
        exact en_oi hx hb hr hlocks rfl dX9_calledLeads_30
      have hf := ite_f c1 hf
      refine lv_aload_n hx hb dX9_calledLeads_12 rfl (lv_at hl 0 rfl) ?_
      refine lv_iload_n hx hb dX9_calledLeads_13 rfl (lv_at hl 2 rfl) ?_
      obtain ⟨q2, h3, hf⟩ := bd_s hf
      refine af_oi (run_V (As := [.int s2]) (rest := []) E (c_X9_kindOfLead l D Y a_t a_t_places a_t_kinds v_t_bells v_t_changes v_t_bob v_t_single v_t_leads f_t_kinds s2 q2 h3) qw528 qw402 qw403 qw20 qw404 rfl rfl hd_X9_kindOfLead ⟨Nat.le_of_ble_eq_true rfl, Nat.le_of_ble_eq_true rfl⟩ (pre_roV hP hE [0, 1] rfl (ci := 6) (q0 := 0) rfl rfl) rfl hl.1 rfl (Nat.le_of_ble_eq_true rfl) dX9_calledLeads_14 ⟨Nat.zero_le _, Nat.zero_le _⟩) ?_
      refine mg (P := fun (w4 : Int32) => ∀ (ls : Array Slot), lv_has ls 3 [(0, .ref a_t), (1, .int w4), (2, .int s2)] → W p l e rm_X9_calledLeads s m args below meth c s.heap [] 0 0 Q (F0 m 23 ls [])) hf (fun w4 hf ls hl => ?_) (fun hJ => ?_)
      · refine lv_iinc (v := (s2 + 1)) (lv' := [(2, .int (s2 + 1)), (0, .ref a_t), (1, .int w4)]) hx hb dX9_calledLeads_23 hl (k := 2) rfl rfl (by decide) rfl (fun ls hl => ?_)
        refine lv_goto (tgt := 4) hx hb dX9_calledLeads_26 (by decide) ?_
        exact ih _ _ _ hf (lv_sub hl [1, 2, 0] rfl)
      refine lv_if_eq (tgt := 23) hx hb dX9_calledLeads_17 (by decide) (fun c5 => ?_) (fun c5 => ?_)
      · have hf := nmi_t c5 hf
        exact hJ _ (nm_b hf) _ (lv_sub hl [0, 1, 2] rfl)
      have hf := nmi_f c5 hf
      refine lv_iinc (v := (s1 + 1)) (lv' := [(1, .int (s1 + 1)), (0, .ref a_t), (2, .int s2)]) hx hb dX9_calledLeads_20 hl (k := 1) rfl rfl (by decide) rfl (fun ls hl => ?_)
      exact hJ _ (nm_b hf) _ (lv_sub hl [1, 0, 2] rfl)
  refine lv_iconst (v := 0) hx hb dX9_calledLeads_0 (by decide) ?_
  refine lv_istore_n (lv' := [(1, .int 0), (0, .ref a_t)]) hx hb dX9_calledLeads_1 rfl hl (by decide) rfl (fun ls hl => ?_)
  refine lv_iconst (v := 0) hx hb dX9_calledLeads_2 (by decide) ?_
  refine lv_istore_n (lv' := [(2, .int 0), (1, .int 0), (0, .ref a_t)]) hx hb dX9_calledLeads_3 rfl hl (by decide) rfl (fun ls hl => ?_)
  exact L4 _ _ _ _ hf (lv_sub hl [2, 1, 0] rfl)

def f_X9_takeMethod (v_t_changes : Int32) (f_t_places : Nat → Int32) (v_p1_changes : Int32) (f_p1_places : Nat → Int32) : Int32 × (Nat → Int32) :=
  (v_p1_changes, (va_cpy f_p1_places f_t_places (0 : Int32).toNatClampNeg (0 : Int32).toNatClampNeg (20 : Int32).toNatClampNeg))
abbrev rm_X9_takeMethod : Room := { frames := 1, cells := 0, slots := 0, locals := 24 }
set_option maxHeartbeats 4000000 in
set_option maxRecDepth 100000 in
theorem c_X9_takeMethod (l : Launch) (D : va_G) (Y : ClassId × ClassId × ClassId × ClassId) (a_t a_t_places a_t_kinds a_p1 a_p1_places : Nat) (v_t_bells : Int32) (v_t_changes : Int32) (v_t_bob : Int32) (v_t_single : Int32) (v_t_leads : Int32) (f_t_places : Nat → Int32) (v_p1_changes : Int32) (v_p1_made : Int32) (v_p1_lastPlace : Int32) (v_p1_crossed : Int32) (f_p1_places : Nat → Int32) (sz : Nat) (R : Int32 × (Nat → Int32)) (hf : f_X9_takeMethod v_t_changes f_t_places v_p1_changes f_p1_places = R) : Met l yX9_takeMethod (ws_ yX9_takeMethod cX9_takeMethod 2 none) rm_X9_takeMethod (va_Pc [.ref a_t, .ref a_p1] (RW D Y sz [(a_t, .inr (6, [.int v_t_bells, .int v_t_changes, .int v_t_bob, .int v_t_single, .int v_t_leads, .ref a_t_places, .ref a_t_kinds])), (a_t_places, .inl (Y.1, 20, .inl f_t_places)), (a_p1, .inr (2, [.ref a_p1_places, .int v_p1_changes, .int v_p1_made, .int v_p1_lastPlace, .int v_p1_crossed])), (a_p1_places, .inl (Y.1, 20, .inl f_p1_places))])) (QV D [(a_t, .inr (6, [.int v_t_bells, .int R.1, .int v_t_bob, .int v_t_single, .int v_t_leads, .ref a_t_places, .ref a_t_kinds])), (a_t_places, .inl (Y.1, 20, .inl R.2)), (a_p1, .inr (2, [.ref a_p1_places, .int v_p1_changes, .int v_p1_made, .int v_p1_lastPlace, .int v_p1_crossed])), (a_p1_places, .inl (Y.1, 20, .inl f_p1_places))] (va_A [(a_t, .inr (6, [.int v_t_bells, .int v_t_changes, .int v_t_bob, .int v_t_single, .int v_t_leads, .ref a_t_places, .ref a_t_kinds])), (a_t_places, .inl (Y.1, 20, .inl f_t_places)), (a_p1, .inr (2, [.ref a_p1_places, .int v_p1_changes, .int v_p1_made, .int v_p1_lastPlace, .int v_p1_crossed])), (a_p1_places, .inl (Y.1, 20, .inl f_p1_places))] sz)) 0 0 (va_A [(a_t, .inr (6, [.int v_t_bells, .int v_t_changes, .int v_t_bob, .int v_t_single, .int v_t_leads, .ref a_t_places, .ref a_t_kinds])), (a_t_places, .inl (Y.1, 20, .inl f_t_places)), (a_p1, .inr (2, [.ref a_p1_places, .int v_p1_changes, .int v_p1_made, .int v_p1_lastPlace, .int v_p1_crossed])), (a_p1_places, .inl (Y.1, 20, .inl f_p1_places))] sz) := by
  refine rw_start (Qc := fun A => QV D [(a_t, .inr (6, [.int v_t_bells, .int R.1, .int v_t_bob, .int v_t_single, .int v_t_leads, .ref a_t_places, .ref a_t_kinds])), (a_t_places, .inl (Y.1, 20, .inl R.2)), (a_p1, .inr (2, [.ref a_p1_places, .int v_p1_changes, .int v_p1_made, .int v_p1_lastPlace, .int v_p1_crossed])), (a_p1_places, .inl (Y.1, 20, .inl f_p1_places))] A) (by decide) (Nat.le_of_ble_eq_true rfl) ?_
  intro p e s m below meth c ls A hx hb hml hr hlocks hown hts hnm hA hP hD hS hE hl
  generalize hargs : List.toArray _ = args at hts ⊢
  have hown : s.vm.findClass RX9 = some m.cls := hown
  have E : EN p m c cX9_takeMethod 2 s args RX9 := ⟨hx, hb, hml, hown, hts⟩
  have hl : lv_has ls 2 [(0, .ref a_t), (1, .ref a_p1)] := hl
  generalize hQ : MQ below _ args s 0 0 _ = Q
  unfold f_X9_takeMethod at hf
  refine lv_aload_n hx hb dX9_takeMethod_0 rfl (lv_at hl 0 rfl) ?_
  refine lv_aload_n hx hb dX9_takeMethod_1 rfl (lv_at hl 1 rfl) ?_
  refine va_getN (D := D) (ci := 2) (v := .int v_p1_changes) (C := RX2) (T := TX2) (N := 5) hx hb hts inX2 hown hE.1 hP 2 rfl rfl 1 (by decide) (va_Nw.use rfl (hE.2.1 _ qw126)) (fun _ h9 => h9) rfl dX9_takeMethod_2 ?_
  refine va_put (D := D) (ci := 6) (v := .int v_p1_changes) (ty := .int) (C := RX9) (T := TX9) (N := 7) hx hb hts inX9 tyX9 tyX9_ok nmX9 hown hE.1 hP hD hS 0 rfl rfl 1 (by decide) (hts _ qw55) (fun _ h9 => h9) rfl (tyX9_ok 1 (by decide)) rfl rfl (Nat.le_of_ble_eq_true rfl) dX9_takeMethod_5 (fun H locs hP hD hS => ?_)
  have hP : va_P D vwCl [(a_t, .inr (6, [.int v_t_bells, .int v_p1_changes, .int v_t_bob, .int v_t_single, .int v_t_leads, .ref a_t_places, .ref a_t_kinds])), (a_t_places, .inl (Y.1, 20, .inl f_t_places)), (a_p1, .inr (2, [.ref a_p1_places, .int v_p1_changes, .int v_p1_made, .int v_p1_lastPlace, .int v_p1_crossed])), (a_p1_places, .inl (Y.1, 20, .inl f_p1_places))] H := hP
  have hD : va_D A [(a_t, .inr (6, [.int v_t_bells, .int v_p1_changes, .int v_t_bob, .int v_t_single, .int v_t_leads, .ref a_t_places, .ref a_t_kinds])), (a_t_places, .inl (Y.1, 20, .inl f_t_places)), (a_p1, .inr (2, [.ref a_p1_places, .int v_p1_changes, .int v_p1_made, .int v_p1_lastPlace, .int v_p1_crossed])), (a_p1_places, .inl (Y.1, 20, .inl f_p1_places))] := hD
  refine lv_aload_n hx hb dX9_takeMethod_8 rfl (lv_at hl 1 rfl) ?_
  refine va_getN (D := D) (ci := 2) (v := .ref a_p1_places) (C := RX2) (T := TX2) (N := 5) hx hb hts inX2 hown hE.1 hP 2 rfl rfl 0 (by decide) (va_Nw.use rfl (hE.2.1 _ qw123)) (fun _ h9 => h9) rfl dX9_takeMethod_9 ?_
  refine lv_iconst (v := 0) hx hb dX9_takeMethod_12 (by decide) ?_
  refine lv_aload_n hx hb dX9_takeMethod_13 rfl (lv_at hl 0 rfl) ?_
  refine va_get (D := D) (ci := 6) (v := .ref a_t_places) (C := RX9) (T := TX9) (N := 7) hx hb hts inX9 hown hE.1 hP 0 rfl rfl 5 (by decide) (hts _ qw65) (fun _ h9 => h9) rfl dX9_takeMethod_14 ?_
  refine lv_iconst (v := 0) hx hb dX9_takeMethod_17 (by decide) ?_
  refine lv_aload_n hx hb dX9_takeMethod_18 rfl (lv_at hl 0 rfl) ?_
  refine va_get (D := D) (ci := 6) (v := .ref a_t_places) (C := RX9) (T := TX9) (N := 7) hx hb hts inX9 hown hE.1 hP 0 rfl rfl 5 (by decide) (hts _ qw65) (fun _ h9 => h9) rfl dX9_takeMethod_19 ?_
  refine va_alen (v := 20) hx hb hE.1 hP 1 0 rfl rfl rfl dX9_takeMethod_22 ?_
  refine va_copyi hx hb (hml.trans hl.1.symm) hown (hts _ qw319) (hts _ qw321) (hts _ qw320) (hts _ qw33) hE.1 hP hD hS 3 1 0 0 rfl rfl rfl rfl rfl (by decide) (by decide) (by decide) (by decide) (by decide) (fun _ _ => rfl) (Nat.le_of_ble_eq_true rfl) (Nat.le_of_ble_eq_true rfl) dX9_takeMethod_23 (fun H locs hP hD hS => ?_)
  have hP : va_P D vwCl [(a_t, .inr (6, [.int v_t_bells, .int v_p1_changes, .int v_t_bob, .int v_t_single, .int v_t_leads, .ref a_t_places, .ref a_t_kinds])), (a_t_places, .inl (Y.1, 20, .inl (va_cpy f_p1_places f_t_places (0 : Int32).toNatClampNeg (0 : Int32).toNatClampNeg (20 : Int32).toNatClampNeg))), (a_p1, .inr (2, [.ref a_p1_places, .int v_p1_changes, .int v_p1_made, .int v_p1_lastPlace, .int v_p1_crossed])), (a_p1_places, .inl (Y.1, 20, .inl f_p1_places))] H := hP
  have hD : va_D A [(a_t, .inr (6, [.int v_t_bells, .int v_p1_changes, .int v_t_bob, .int v_t_single, .int v_t_leads, .ref a_t_places, .ref a_t_kinds])), (a_t_places, .inl (Y.1, 20, .inl (va_cpy f_p1_places f_t_places (0 : Int32).toNatClampNeg (0 : Int32).toNatClampNeg (20 : Int32).toNatClampNeg))), (a_p1, .inr (2, [.ref a_p1_places, .int v_p1_changes, .int v_p1_made, .int v_p1_lastPlace, .int v_p1_crossed])), (a_p1_places, .inl (Y.1, 20, .inl f_p1_places))] := hD
  subst hf
  subst hQ
  exact en_v hx hb hr hlocks hP hD hS dX9_takeMethod_26

def f_X9_become (v_t_bells : Int32) (v_t_changes : Int32) (v_t_bob : Int32) (v_t_single : Int32) (v_t_leads : Int32) (f_t_places : Nat → Int32) (f_t_kinds : Nat → Int32) (v_p1_bells : Int32) (v_p1_changes : Int32) (v_p1_bob : Int32) (v_p1_single : Int32) (v_p1_leads : Int32) (f_p1_places : Nat → Int32) (f_p1_kinds : Nat → Int32) : Int32 × Int32 × Int32 × Int32 × Int32 × (Nat → Int32) × (Nat → Int32) :=
  (v_p1_bells, v_p1_changes, v_p1_bob, v_p1_single, v_p1_leads, (va_cpy f_p1_places f_t_places (0 : Int32).toNatClampNeg (0 : Int32).toNatClampNeg (20 : Int32).toNatClampNeg), (va_cpy f_p1_kinds f_t_kinds (0 : Int32).toNatClampNeg (0 : Int32).toNatClampNeg (17 : Int32).toNatClampNeg))
abbrev rm_X9_become : Room := { frames := 1, cells := 0, slots := 0, locals := 24 }
set_option maxHeartbeats 4000000 in
set_option maxRecDepth 100000 in
theorem c_X9_become (l : Launch) (D : va_G) (Y : ClassId × ClassId × ClassId × ClassId) (a_t a_t_places a_t_kinds a_p1 a_p1_places a_p1_kinds : Nat) (v_t_bells : Int32) (v_t_changes : Int32) (v_t_bob : Int32) (v_t_single : Int32) (v_t_leads : Int32) (f_t_places : Nat → Int32) (f_t_kinds : Nat → Int32) (v_p1_bells : Int32) (v_p1_changes : Int32) (v_p1_bob : Int32) (v_p1_single : Int32) (v_p1_leads : Int32) (f_p1_places : Nat → Int32) (f_p1_kinds : Nat → Int32) (sz : Nat) (R : Int32 × Int32 × Int32 × Int32 × Int32 × (Nat → Int32) × (Nat → Int32)) (hf : f_X9_become v_t_bells v_t_changes v_t_bob v_t_single v_t_leads f_t_places f_t_kinds v_p1_bells v_p1_changes v_p1_bob v_p1_single v_p1_leads f_p1_places f_p1_kinds = R) : Met l yX9_become (ws_ yX9_become cX9_become 2 none) rm_X9_become (va_Pc [.ref a_t, .ref a_p1] (RW D Y sz [(a_t, .inr (6, [.int v_t_bells, .int v_t_changes, .int v_t_bob, .int v_t_single, .int v_t_leads, .ref a_t_places, .ref a_t_kinds])), (a_t_places, .inl (Y.1, 20, .inl f_t_places)), (a_t_kinds, .inl (Y.1, 17, .inl f_t_kinds)), (a_p1, .inr (6, [.int v_p1_bells, .int v_p1_changes, .int v_p1_bob, .int v_p1_single, .int v_p1_leads, .ref a_p1_places, .ref a_p1_kinds])), (a_p1_places, .inl (Y.1, 20, .inl f_p1_places)), (a_p1_kinds, .inl (Y.1, 17, .inl f_p1_kinds))])) (QV D [(a_t, .inr (6, [.int R.1, .int R.2.1, .int R.2.2.1, .int R.2.2.2.1, .int R.2.2.2.2.1, .ref a_t_places, .ref a_t_kinds])), (a_t_places, .inl (Y.1, 20, .inl R.2.2.2.2.2.1)), (a_t_kinds, .inl (Y.1, 17, .inl R.2.2.2.2.2.2)), (a_p1, .inr (6, [.int v_p1_bells, .int v_p1_changes, .int v_p1_bob, .int v_p1_single, .int v_p1_leads, .ref a_p1_places, .ref a_p1_kinds])), (a_p1_places, .inl (Y.1, 20, .inl f_p1_places)), (a_p1_kinds, .inl (Y.1, 17, .inl f_p1_kinds))] (va_A [(a_t, .inr (6, [.int v_t_bells, .int v_t_changes, .int v_t_bob, .int v_t_single, .int v_t_leads, .ref a_t_places, .ref a_t_kinds])), (a_t_places, .inl (Y.1, 20, .inl f_t_places)), (a_t_kinds, .inl (Y.1, 17, .inl f_t_kinds)), (a_p1, .inr (6, [.int v_p1_bells, .int v_p1_changes, .int v_p1_bob, .int v_p1_single, .int v_p1_leads, .ref a_p1_places, .ref a_p1_kinds])), (a_p1_places, .inl (Y.1, 20, .inl f_p1_places)), (a_p1_kinds, .inl (Y.1, 17, .inl f_p1_kinds))] sz)) 0 0 (va_A [(a_t, .inr (6, [.int v_t_bells, .int v_t_changes, .int v_t_bob, .int v_t_single, .int v_t_leads, .ref a_t_places, .ref a_t_kinds])), (a_t_places, .inl (Y.1, 20, .inl f_t_places)), (a_t_kinds, .inl (Y.1, 17, .inl f_t_kinds)), (a_p1, .inr (6, [.int v_p1_bells, .int v_p1_changes, .int v_p1_bob, .int v_p1_single, .int v_p1_leads, .ref a_p1_places, .ref a_p1_kinds])), (a_p1_places, .inl (Y.1, 20, .inl f_p1_places)), (a_p1_kinds, .inl (Y.1, 17, .inl f_p1_kinds))] sz) := by
  refine rw_start (Qc := fun A => QV D [(a_t, .inr (6, [.int R.1, .int R.2.1, .int R.2.2.1, .int R.2.2.2.1, .int R.2.2.2.2.1, .ref a_t_places, .ref a_t_kinds])), (a_t_places, .inl (Y.1, 20, .inl R.2.2.2.2.2.1)), (a_t_kinds, .inl (Y.1, 17, .inl R.2.2.2.2.2.2)), (a_p1, .inr (6, [.int v_p1_bells, .int v_p1_changes, .int v_p1_bob, .int v_p1_single, .int v_p1_leads, .ref a_p1_places, .ref a_p1_kinds])), (a_p1_places, .inl (Y.1, 20, .inl f_p1_places)), (a_p1_kinds, .inl (Y.1, 17, .inl f_p1_kinds))] A) (by decide) (Nat.le_of_ble_eq_true rfl) ?_
  intro p e s m below meth c ls A hx hb hml hr hlocks hown hts hnm hA hP hD hS hE hl
  generalize hargs : List.toArray _ = args at hts ⊢
  have hown : s.vm.findClass RX9 = some m.cls := hown
  have E : EN p m c cX9_become 2 s args RX9 := ⟨hx, hb, hml, hown, hts⟩
  have hl : lv_has ls 2 [(0, .ref a_t), (1, .ref a_p1)] := hl
  generalize hQ : MQ below _ args s 0 0 _ = Q
  unfold f_X9_become at hf
  refine lv_aload_n hx hb dX9_become_0 rfl (lv_at hl 0 rfl) ?_
  refine lv_aload_n hx hb dX9_become_1 rfl (lv_at hl 1 rfl) ?_
  refine va_get (D := D) (ci := 6) (v := .int v_p1_bells) (C := RX9) (T := TX9) (N := 7) hx hb hts inX9 hown hE.1 hP 3 rfl rfl 0 (by decide) (hts _ qw51) (fun _ h9 => h9) rfl dX9_become_2 ?_
  refine va_put (D := D) (ci := 6) (v := .int v_p1_bells) (ty := .int) (C := RX9) (T := TX9) (N := 7) hx hb hts inX9 tyX9 tyX9_ok nmX9 hown hE.1 hP hD hS 0 rfl rfl 0 (by decide) (hts _ qw51) (fun _ h9 => h9) rfl (tyX9_ok 0 (by decide)) rfl rfl (Nat.le_of_ble_eq_true rfl) dX9_become_5 (fun H locs hP hD hS => ?_)
  have hP : va_P D vwCl [(a_t, .inr (6, [.int v_p1_bells, .int v_t_changes, .int v_t_bob, .int v_t_single, .int v_t_leads, .ref a_t_places, .ref a_t_kinds])), (a_t_places, .inl (Y.1, 20, .inl f_t_places)), (a_t_kinds, .inl (Y.1, 17, .inl f_t_kinds)), (a_p1, .inr (6, [.int v_p1_bells, .int v_p1_changes, .int v_p1_bob, .int v_p1_single, .int v_p1_leads, .ref a_p1_places, .ref a_p1_kinds])), (a_p1_places, .inl (Y.1, 20, .inl f_p1_places)), (a_p1_kinds, .inl (Y.1, 17, .inl f_p1_kinds))] H := hP
  have hD : va_D A [(a_t, .inr (6, [.int v_p1_bells, .int v_t_changes, .int v_t_bob, .int v_t_single, .int v_t_leads, .ref a_t_places, .ref a_t_kinds])), (a_t_places, .inl (Y.1, 20, .inl f_t_places)), (a_t_kinds, .inl (Y.1, 17, .inl f_t_kinds)), (a_p1, .inr (6, [.int v_p1_bells, .int v_p1_changes, .int v_p1_bob, .int v_p1_single, .int v_p1_leads, .ref a_p1_places, .ref a_p1_kinds])), (a_p1_places, .inl (Y.1, 20, .inl f_p1_places)), (a_p1_kinds, .inl (Y.1, 17, .inl f_p1_kinds))] := hD
  refine lv_aload_n hx hb dX9_become_8 rfl (lv_at hl 0 rfl) ?_
  refine lv_aload_n hx hb dX9_become_9 rfl (lv_at hl 1 rfl) ?_
  refine va_get (D := D) (ci := 6) (v := .int v_p1_changes) (C := RX9) (T := TX9) (N := 7) hx hb hts inX9 hown hE.1 hP 3 rfl rfl 1 (by decide) (hts _ qw55) (fun _ h9 => h9) rfl dX9_become_10 ?_
  refine va_put (D := D) (ci := 6) (v := .int v_p1_changes) (ty := .int) (C := RX9) (T := TX9) (N := 7) hx hb hts inX9 tyX9 tyX9_ok nmX9 hown hE.1 hP hD hS 0 rfl rfl 1 (by decide) (hts _ qw55) (fun _ h9 => h9) rfl (tyX9_ok 1 (by decide)) rfl rfl (Nat.le_of_ble_eq_true rfl) dX9_become_13 (fun H locs hP hD hS => ?_)
  have hP : va_P D vwCl [(a_t, .inr (6, [.int v_p1_bells, .int v_p1_changes, .int v_t_bob, .int v_t_single, .int v_t_leads, .ref a_t_places, .ref a_t_kinds])), (a_t_places, .inl (Y.1, 20, .inl f_t_places)), (a_t_kinds, .inl (Y.1, 17, .inl f_t_kinds)), (a_p1, .inr (6, [.int v_p1_bells, .int v_p1_changes, .int v_p1_bob, .int v_p1_single, .int v_p1_leads, .ref a_p1_places, .ref a_p1_kinds])), (a_p1_places, .inl (Y.1, 20, .inl f_p1_places)), (a_p1_kinds, .inl (Y.1, 17, .inl f_p1_kinds))] H := hP
  have hD : va_D A [(a_t, .inr (6, [.int v_p1_bells, .int v_p1_changes, .int v_t_bob, .int v_t_single, .int v_t_leads, .ref a_t_places, .ref a_t_kinds])), (a_t_places, .inl (Y.1, 20, .inl f_t_places)), (a_t_kinds, .inl (Y.1, 17, .inl f_t_kinds)), (a_p1, .inr (6, [.int v_p1_bells, .int v_p1_changes, .int v_p1_bob, .int v_p1_single, .int v_p1_leads, .ref a_p1_places, .ref a_p1_kinds])), (a_p1_places, .inl (Y.1, 20, .inl f_p1_places)), (a_p1_kinds, .inl (Y.1, 17, .inl f_p1_kinds))] := hD
  refine lv_aload_n hx hb dX9_become_16 rfl (lv_at hl 0 rfl) ?_
  refine lv_aload_n hx hb dX9_become_17 rfl (lv_at hl 1 rfl) ?_
  refine va_get (D := D) (ci := 6) (v := .int v_p1_bob) (C := RX9) (T := TX9) (N := 7) hx hb hts inX9 hown hE.1 hP 3 rfl rfl 2 (by decide) (hts _ qw58) (fun _ h9 => h9) rfl dX9_become_18 ?_
  refine va_put (D := D) (ci := 6) (v := .int v_p1_bob) (ty := .int) (C := RX9) (T := TX9) (N := 7) hx hb hts inX9 tyX9 tyX9_ok nmX9 hown hE.1 hP hD hS 0 rfl rfl 2 (by decide) (hts _ qw58) (fun _ h9 => h9) rfl (tyX9_ok 2 (by decide)) rfl rfl (Nat.le_of_ble_eq_true rfl) dX9_become_21 (fun H locs hP hD hS => ?_)
  have hP : va_P D vwCl [(a_t, .inr (6, [.int v_p1_bells, .int v_p1_changes, .int v_p1_bob, .int v_t_single, .int v_t_leads, .ref a_t_places, .ref a_t_kinds])), (a_t_places, .inl (Y.1, 20, .inl f_t_places)), (a_t_kinds, .inl (Y.1, 17, .inl f_t_kinds)), (a_p1, .inr (6, [.int v_p1_bells, .int v_p1_changes, .int v_p1_bob, .int v_p1_single, .int v_p1_leads, .ref a_p1_places, .ref a_p1_kinds])), (a_p1_places, .inl (Y.1, 20, .inl f_p1_places)), (a_p1_kinds, .inl (Y.1, 17, .inl f_p1_kinds))] H := hP
  have hD : va_D A [(a_t, .inr (6, [.int v_p1_bells, .int v_p1_changes, .int v_p1_bob, .int v_t_single, .int v_t_leads, .ref a_t_places, .ref a_t_kinds])), (a_t_places, .inl (Y.1, 20, .inl f_t_places)), (a_t_kinds, .inl (Y.1, 17, .inl f_t_kinds)), (a_p1, .inr (6, [.int v_p1_bells, .int v_p1_changes, .int v_p1_bob, .int v_p1_single, .int v_p1_leads, .ref a_p1_places, .ref a_p1_kinds])), (a_p1_places, .inl (Y.1, 20, .inl f_p1_places)), (a_p1_kinds, .inl (Y.1, 17, .inl f_p1_kinds))] := hD
  refine lv_aload_n hx hb dX9_become_24 rfl (lv_at hl 0 rfl) ?_
  refine lv_aload_n hx hb dX9_become_25 rfl (lv_at hl 1 rfl) ?_
  refine va_get (D := D) (ci := 6) (v := .int v_p1_single) (C := RX9) (T := TX9) (N := 7) hx hb hts inX9 hown hE.1 hP 3 rfl rfl 3 (by decide) (hts _ qw60) (fun _ h9 => h9) rfl dX9_become_26 ?_
  refine va_put (D := D) (ci := 6) (v := .int v_p1_single) (ty := .int) (C := RX9) (T := TX9) (N := 7) hx hb hts inX9 tyX9 tyX9_ok nmX9 hown hE.1 hP hD hS 0 rfl rfl 3 (by decide) (hts _ qw60) (fun _ h9 => h9) rfl (tyX9_ok 3 (by decide)) rfl rfl (Nat.le_of_ble_eq_true rfl) dX9_become_29 (fun H locs hP hD hS => ?_)
  have hP : va_P D vwCl [(a_t, .inr (6, [.int v_p1_bells, .int v_p1_changes, .int v_p1_bob, .int v_p1_single, .int v_t_leads, .ref a_t_places, .ref a_t_kinds])), (a_t_places, .inl (Y.1, 20, .inl f_t_places)), (a_t_kinds, .inl (Y.1, 17, .inl f_t_kinds)), (a_p1, .inr (6, [.int v_p1_bells, .int v_p1_changes, .int v_p1_bob, .int v_p1_single, .int v_p1_leads, .ref a_p1_places, .ref a_p1_kinds])), (a_p1_places, .inl (Y.1, 20, .inl f_p1_places)), (a_p1_kinds, .inl (Y.1, 17, .inl f_p1_kinds))] H := hP
  have hD : va_D A [(a_t, .inr (6, [.int v_p1_bells, .int v_p1_changes, .int v_p1_bob, .int v_p1_single, .int v_t_leads, .ref a_t_places, .ref a_t_kinds])), (a_t_places, .inl (Y.1, 20, .inl f_t_places)), (a_t_kinds, .inl (Y.1, 17, .inl f_t_kinds)), (a_p1, .inr (6, [.int v_p1_bells, .int v_p1_changes, .int v_p1_bob, .int v_p1_single, .int v_p1_leads, .ref a_p1_places, .ref a_p1_kinds])), (a_p1_places, .inl (Y.1, 20, .inl f_p1_places)), (a_p1_kinds, .inl (Y.1, 17, .inl f_p1_kinds))] := hD
  refine lv_aload_n hx hb dX9_become_32 rfl (lv_at hl 0 rfl) ?_
  refine lv_aload_n hx hb dX9_become_33 rfl (lv_at hl 1 rfl) ?_
  refine va_get (D := D) (ci := 6) (v := .int v_p1_leads) (C := RX9) (T := TX9) (N := 7) hx hb hts inX9 hown hE.1 hP 3 rfl rfl 4 (by decide) (hts _ qw63) (fun _ h9 => h9) rfl dX9_become_34 ?_
  refine va_put (D := D) (ci := 6) (v := .int v_p1_leads) (ty := .int) (C := RX9) (T := TX9) (N := 7) hx hb hts inX9 tyX9 tyX9_ok nmX9 hown hE.1 hP hD hS 0 rfl rfl 4 (by decide) (hts _ qw63) (fun _ h9 => h9) rfl (tyX9_ok 4 (by decide)) rfl rfl (Nat.le_of_ble_eq_true rfl) dX9_become_37 (fun H locs hP hD hS => ?_)
  have hP : va_P D vwCl [(a_t, .inr (6, [.int v_p1_bells, .int v_p1_changes, .int v_p1_bob, .int v_p1_single, .int v_p1_leads, .ref a_t_places, .ref a_t_kinds])), (a_t_places, .inl (Y.1, 20, .inl f_t_places)), (a_t_kinds, .inl (Y.1, 17, .inl f_t_kinds)), (a_p1, .inr (6, [.int v_p1_bells, .int v_p1_changes, .int v_p1_bob, .int v_p1_single, .int v_p1_leads, .ref a_p1_places, .ref a_p1_kinds])), (a_p1_places, .inl (Y.1, 20, .inl f_p1_places)), (a_p1_kinds, .inl (Y.1, 17, .inl f_p1_kinds))] H := hP
  have hD : va_D A [(a_t, .inr (6, [.int v_p1_bells, .int v_p1_changes, .int v_p1_bob, .int v_p1_single, .int v_p1_leads, .ref a_t_places, .ref a_t_kinds])), (a_t_places, .inl (Y.1, 20, .inl f_t_places)), (a_t_kinds, .inl (Y.1, 17, .inl f_t_kinds)), (a_p1, .inr (6, [.int v_p1_bells, .int v_p1_changes, .int v_p1_bob, .int v_p1_single, .int v_p1_leads, .ref a_p1_places, .ref a_p1_kinds])), (a_p1_places, .inl (Y.1, 20, .inl f_p1_places)), (a_p1_kinds, .inl (Y.1, 17, .inl f_p1_kinds))] := hD
  refine lv_aload_n hx hb dX9_become_40 rfl (lv_at hl 1 rfl) ?_
  refine va_get (D := D) (ci := 6) (v := .ref a_p1_places) (C := RX9) (T := TX9) (N := 7) hx hb hts inX9 hown hE.1 hP 3 rfl rfl 5 (by decide) (hts _ qw65) (fun _ h9 => h9) rfl dX9_become_41 ?_
  refine lv_iconst (v := 0) hx hb dX9_become_44 (by decide) ?_
  refine lv_aload_n hx hb dX9_become_45 rfl (lv_at hl 0 rfl) ?_
  refine va_get (D := D) (ci := 6) (v := .ref a_t_places) (C := RX9) (T := TX9) (N := 7) hx hb hts inX9 hown hE.1 hP 0 rfl rfl 5 (by decide) (hts _ qw65) (fun _ h9 => h9) rfl dX9_become_46 ?_
  refine lv_iconst (v := 0) hx hb dX9_become_49 (by decide) ?_
  refine lv_aload_n hx hb dX9_become_50 rfl (lv_at hl 0 rfl) ?_
  refine va_get (D := D) (ci := 6) (v := .ref a_t_places) (C := RX9) (T := TX9) (N := 7) hx hb hts inX9 hown hE.1 hP 0 rfl rfl 5 (by decide) (hts _ qw65) (fun _ h9 => h9) rfl dX9_become_51 ?_
  refine va_alen (v := 20) hx hb hE.1 hP 1 0 rfl rfl rfl dX9_become_54 ?_
  refine va_copyi hx hb (hml.trans hl.1.symm) hown (hts _ qw319) (hts _ qw321) (hts _ qw320) (hts _ qw33) hE.1 hP hD hS 4 1 0 0 rfl rfl rfl rfl rfl (by decide) (by decide) (by decide) (by decide) (by decide) (fun _ _ => rfl) (Nat.le_of_ble_eq_true rfl) (Nat.le_of_ble_eq_true rfl) dX9_become_55 (fun H locs hP hD hS => ?_)
  have hP : va_P D vwCl [(a_t, .inr (6, [.int v_p1_bells, .int v_p1_changes, .int v_p1_bob, .int v_p1_single, .int v_p1_leads, .ref a_t_places, .ref a_t_kinds])), (a_t_places, .inl (Y.1, 20, .inl (va_cpy f_p1_places f_t_places (0 : Int32).toNatClampNeg (0 : Int32).toNatClampNeg (20 : Int32).toNatClampNeg))), (a_t_kinds, .inl (Y.1, 17, .inl f_t_kinds)), (a_p1, .inr (6, [.int v_p1_bells, .int v_p1_changes, .int v_p1_bob, .int v_p1_single, .int v_p1_leads, .ref a_p1_places, .ref a_p1_kinds])), (a_p1_places, .inl (Y.1, 20, .inl f_p1_places)), (a_p1_kinds, .inl (Y.1, 17, .inl f_p1_kinds))] H := hP
  have hD : va_D A [(a_t, .inr (6, [.int v_p1_bells, .int v_p1_changes, .int v_p1_bob, .int v_p1_single, .int v_p1_leads, .ref a_t_places, .ref a_t_kinds])), (a_t_places, .inl (Y.1, 20, .inl (va_cpy f_p1_places f_t_places (0 : Int32).toNatClampNeg (0 : Int32).toNatClampNeg (20 : Int32).toNatClampNeg))), (a_t_kinds, .inl (Y.1, 17, .inl f_t_kinds)), (a_p1, .inr (6, [.int v_p1_bells, .int v_p1_changes, .int v_p1_bob, .int v_p1_single, .int v_p1_leads, .ref a_p1_places, .ref a_p1_kinds])), (a_p1_places, .inl (Y.1, 20, .inl f_p1_places)), (a_p1_kinds, .inl (Y.1, 17, .inl f_p1_kinds))] := hD
  refine lv_aload_n hx hb dX9_become_58 rfl (lv_at hl 1 rfl) ?_
  refine va_get (D := D) (ci := 6) (v := .ref a_p1_kinds) (C := RX9) (T := TX9) (N := 7) hx hb hts inX9 hown hE.1 hP 3 rfl rfl 6 (by decide) (hts _ qw66) (fun _ h9 => h9) rfl dX9_become_59 ?_
  refine lv_iconst (v := 0) hx hb dX9_become_62 (by decide) ?_
  refine lv_aload_n hx hb dX9_become_63 rfl (lv_at hl 0 rfl) ?_
  refine va_get (D := D) (ci := 6) (v := .ref a_t_kinds) (C := RX9) (T := TX9) (N := 7) hx hb hts inX9 hown hE.1 hP 0 rfl rfl 6 (by decide) (hts _ qw66) (fun _ h9 => h9) rfl dX9_become_64 ?_
  refine lv_iconst (v := 0) hx hb dX9_become_67 (by decide) ?_
  refine lv_aload_n hx hb dX9_become_68 rfl (lv_at hl 0 rfl) ?_
  refine va_get (D := D) (ci := 6) (v := .ref a_t_kinds) (C := RX9) (T := TX9) (N := 7) hx hb hts inX9 hown hE.1 hP 0 rfl rfl 6 (by decide) (hts _ qw66) (fun _ h9 => h9) rfl dX9_become_69 ?_
  refine va_alen (v := 17) hx hb hE.1 hP 2 0 rfl rfl rfl dX9_become_72 ?_
  refine va_copyi hx hb (hml.trans hl.1.symm) hown (hts _ qw319) (hts _ qw321) (hts _ qw320) (hts _ qw33) hE.1 hP hD hS 5 2 0 0 rfl rfl rfl rfl rfl (by decide) (by decide) (by decide) (by decide) (by decide) (fun _ _ => rfl) (Nat.le_of_ble_eq_true rfl) (Nat.le_of_ble_eq_true rfl) dX9_become_73 (fun H locs hP hD hS => ?_)
  have hP : va_P D vwCl [(a_t, .inr (6, [.int v_p1_bells, .int v_p1_changes, .int v_p1_bob, .int v_p1_single, .int v_p1_leads, .ref a_t_places, .ref a_t_kinds])), (a_t_places, .inl (Y.1, 20, .inl (va_cpy f_p1_places f_t_places (0 : Int32).toNatClampNeg (0 : Int32).toNatClampNeg (20 : Int32).toNatClampNeg))), (a_t_kinds, .inl (Y.1, 17, .inl (va_cpy f_p1_kinds f_t_kinds (0 : Int32).toNatClampNeg (0 : Int32).toNatClampNeg (17 : Int32).toNatClampNeg))), (a_p1, .inr (6, [.int v_p1_bells, .int v_p1_changes, .int v_p1_bob, .int v_p1_single, .int v_p1_leads, .ref a_p1_places, .ref a_p1_kinds])), (a_p1_places, .inl (Y.1, 20, .inl f_p1_places)), (a_p1_kinds, .inl (Y.1, 17, .inl f_p1_kinds))] H := hP
  have hD : va_D A [(a_t, .inr (6, [.int v_p1_bells, .int v_p1_changes, .int v_p1_bob, .int v_p1_single, .int v_p1_leads, .ref a_t_places, .ref a_t_kinds])), (a_t_places, .inl (Y.1, 20, .inl (va_cpy f_p1_places f_t_places (0 : Int32).toNatClampNeg (0 : Int32).toNatClampNeg (20 : Int32).toNatClampNeg))), (a_t_kinds, .inl (Y.1, 17, .inl (va_cpy f_p1_kinds f_t_kinds (0 : Int32).toNatClampNeg (0 : Int32).toNatClampNeg (17 : Int32).toNatClampNeg))), (a_p1, .inr (6, [.int v_p1_bells, .int v_p1_changes, .int v_p1_bob, .int v_p1_single, .int v_p1_leads, .ref a_p1_places, .ref a_p1_kinds])), (a_p1_places, .inl (Y.1, 20, .inl f_p1_places)), (a_p1_kinds, .inl (Y.1, 17, .inl f_p1_kinds))] := hD
  subst hf
  subst hQ
  exact en_v hx hb hr hlocks hP hD hS dX9_become_76
