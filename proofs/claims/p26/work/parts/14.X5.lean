def f_X5_keep (s1 : Int32) (v_t_last : Int32) (f_t_rows : Nat → Int32) : Option (Int32 × (Nat → Int32)) :=
  (if (341 : Int32) ≤ (v_t_last + 1) then some (v_t_last, f_t_rows) else nm (v_t_last + 1) (fun (x2 : Int32) => gd (inb x2 341) (some (x2, (upd f_t_rows x2.toNatClampNeg s1)))))
abbrev rm_X5_keep : Room := { frames := 1, cells := 0, slots := 0, locals := 24 }
set_option maxHeartbeats 4000000 in
set_option maxRecDepth 100000 in
theorem c_X5_keep (l : Launch) (D : va_G) (Y : ClassId × ClassId × ClassId × ClassId) (a_t a_t_rows a_t_firsts a_t_firstOfRank : Nat) (v_t_bells : Int32) (v_t_changes : Int32) (v_t_leads : Int32) (v_t_last : Int32) (f_t_rows : Nat → Int32) (s1 : Int32) (sz : Nat) (R : Int32 × (Nat → Int32)) (hf : f_X5_keep s1 v_t_last f_t_rows = some R) : Met l yX5_keep (ws_ yX5_keep cX5_keep 2 none) rm_X5_keep (va_Pc [.ref a_t, .int s1] (RW D Y sz [(a_t, .inr (4, [.ref a_t_rows, .ref a_t_firsts, .ref a_t_firstOfRank, .int v_t_bells, .int v_t_changes, .int v_t_leads, .int v_t_last])), (a_t_rows, .inl (Y.1, 341, .inl f_t_rows))])) (QV D [(a_t, .inr (4, [.ref a_t_rows, .ref a_t_firsts, .ref a_t_firstOfRank, .int v_t_bells, .int v_t_changes, .int v_t_leads, .int R.1])), (a_t_rows, .inl (Y.1, 341, .inl R.2))] (va_A [(a_t, .inr (4, [.ref a_t_rows, .ref a_t_firsts, .ref a_t_firstOfRank, .int v_t_bells, .int v_t_changes, .int v_t_leads, .int v_t_last])), (a_t_rows, .inl (Y.1, 341, .inl f_t_rows))] sz)) 0 0 (va_A [(a_t, .inr (4, [.ref a_t_rows, .ref a_t_firsts, .ref a_t_firstOfRank, .int v_t_bells, .int v_t_changes, .int v_t_leads, .int v_t_last])), (a_t_rows, .inl (Y.1, 341, .inl f_t_rows))] sz) := by
  refine rw_start (Qc := fun A => QV D [(a_t, .inr (4, [.ref a_t_rows, .ref a_t_firsts, .ref a_t_firstOfRank, .int v_t_bells, .int v_t_changes, .int v_t_leads, .int R.1])), (a_t_rows, .inl (Y.1, 341, .inl R.2))] A) (by decide) (Nat.le_of_ble_eq_true rfl) ?_
  intro p e s m below meth c ls A hx hb hml hr hlocks hown hts hnm hA hP hD hS hE hl
  generalize hargs : List.toArray _ = args at hts ⊢
  have hown : s.vm.findClass RX5 = some m.cls := hown
  have E : EN p m c cX5_keep 2 s args RX5 := ⟨hx, hb, hml, hown, hts⟩
  have hl : lv_has ls 2 [(0, .ref a_t), (1, .int s1)] := hl
  generalize hQ : MQ below _ args s 0 0 _ = Q
  unfold f_X5_keep at hf
  refine lv_aload_n hx hb dX5_keep_0 rfl (lv_at hl 0 rfl) ?_
  refine va_get (D := D) (ci := 4) (v := .int v_t_last) (C := RX5) (T := TX5) (N := 7) hx hb hts inX5 hown hE.1 hP 0 rfl rfl 6 (by decide) (hts _ qw153) (fun _ h9 => h9) rfl dX5_keep_1 ?_
  refine lv_iconst (v := 1) hx hb dX5_keep_4 (by decide) ?_
  refine lv_iadd hx hb dX5_keep_5 ?_
  refine lv_aload_n hx hb dX5_keep_6 rfl (lv_at hl 0 rfl) ?_
  refine va_get (D := D) (ci := 4) (v := .ref a_t_rows) (C := RX5) (T := TX5) (N := 7) hx hb hts inX5 hown hE.1 hP 0 rfl rfl 0 (by decide) (hts _ qw147) (fun _ h9 => h9) rfl dX5_keep_7 ?_
  refine va_alen (v := 341) hx hb hE.1 hP 1 0 rfl rfl rfl dX5_keep_10 ?_
  refine lv_icmp_ge (tgt := 34) hx hb dX5_keep_11 (by decide) (fun c1 => ?_) (fun c1 => ?_)
  · have hf := ite_t c1 hf
    obtain rfl := Option.some.inj hf
    subst hQ
    exact en_v hx hb hr hlocks hP hD hS dX5_keep_34
  have hf := ite_f c1 hf
  refine lv_aload_n hx hb dX5_keep_14 rfl (lv_at hl 0 rfl) ?_
  refine lv_dup hx hb dX5_keep_15 rfl ?_
  refine va_get (D := D) (ci := 4) (v := .int v_t_last) (C := RX5) (T := TX5) (N := 7) hx hb hts inX5 hown hE.1 hP 0 rfl rfl 6 (by decide) (hts _ qw153) (fun _ h9 => h9) rfl dX5_keep_16 ?_
  refine lv_iconst (v := 1) hx hb dX5_keep_19 (by decide) ?_
  refine lv_iadd hx hb dX5_keep_20 ?_
  refine nm_W hf (fun x2 hf => ?_)
  refine va_put (D := D) (ci := 4) (v := .int x2) (ty := .int) (C := RX5) (T := TX5) (N := 7) hx hb hts inX5 tyX5 tyX5_ok nmX5 hown hE.1 hP hD hS 0 rfl rfl 6 (by decide) (hts _ qw153) (fun _ h9 => h9) rfl (tyX5_ok 6 (by decide)) rfl rfl (Nat.le_of_ble_eq_true rfl) dX5_keep_21 (fun H locs hP hD hS => ?_)
  have hP : va_P D vwCl [(a_t, .inr (4, [.ref a_t_rows, .ref a_t_firsts, .ref a_t_firstOfRank, .int v_t_bells, .int v_t_changes, .int v_t_leads, .int x2])), (a_t_rows, .inl (Y.1, 341, .inl f_t_rows))] H := hP
  have hD : va_D A [(a_t, .inr (4, [.ref a_t_rows, .ref a_t_firsts, .ref a_t_firstOfRank, .int v_t_bells, .int v_t_changes, .int v_t_leads, .int x2])), (a_t_rows, .inl (Y.1, 341, .inl f_t_rows))] := hD
  refine lv_aload_n hx hb dX5_keep_24 rfl (lv_at hl 0 rfl) ?_
  refine va_get (D := D) (ci := 4) (v := .ref a_t_rows) (C := RX5) (T := TX5) (N := 7) hx hb hts inX5 hown hE.1 hP 0 rfl rfl 0 (by decide) (hts _ qw147) (fun _ h9 => h9) rfl dX5_keep_25 ?_
  refine lv_aload_n hx hb dX5_keep_28 rfl (lv_at hl 0 rfl) ?_
  refine va_get (D := D) (ci := 4) (v := .int x2) (C := RX5) (T := TX5) (N := 7) hx hb hts inX5 hown hE.1 hP 0 rfl rfl 6 (by decide) (hts _ qw153) (fun _ h9 => h9) rfl dX5_keep_29 ?_
  refine lv_iload_n hx hb dX5_keep_32 rfl (lv_at hl 1 rfl) ?_
  obtain ⟨g3, hf⟩ := gd_s hf
  refine va_iast hx hb hE.1 hP hD hS 1 0 rfl rfl (inb_in g3) dX5_keep_33 (fun H locs hP hD hS => ?_)
  have hP : va_P D vwCl [(a_t, .inr (4, [.ref a_t_rows, .ref a_t_firsts, .ref a_t_firstOfRank, .int v_t_bells, .int v_t_changes, .int v_t_leads, .int x2])), (a_t_rows, .inl (Y.1, 341, .inl (upd f_t_rows x2.toNatClampNeg s1)))] H := hP
  have hD : va_D A [(a_t, .inr (4, [.ref a_t_rows, .ref a_t_firsts, .ref a_t_firstOfRank, .int v_t_bells, .int v_t_changes, .int v_t_leads, .int x2])), (a_t_rows, .inl (Y.1, 341, .inl (upd f_t_rows x2.toNatClampNeg s1)))] := hD
  obtain rfl := Option.some.inj hf
  subst hQ
  exact en_v hx hb hr hlocks hP hD hS dX5_keep_34

def f_X5_rowAt (s1 : Int32) (f_t_rows : Nat → Int32) : Option (Int32) :=
  (if s1 < 0 then some 0 else (if (341 : Int32) ≤ s1 then some 0 else gd (inb s1 341) (some (f_t_rows s1.toNatClampNeg))))
abbrev rm_X5_rowAt : Room := { frames := 1, cells := 0, slots := 0, locals := 24 }
set_option maxHeartbeats 4000000 in
set_option maxRecDepth 100000 in
theorem c_X5_rowAt (l : Launch) (D : va_G) (Y : ClassId × ClassId × ClassId × ClassId) (a_t a_t_rows a_t_firsts a_t_firstOfRank : Nat) (v_t_bells : Int32) (v_t_changes : Int32) (v_t_leads : Int32) (v_t_last : Int32) (f_t_rows : Nat → Int32) (s1 : Int32) (R : Int32) (hf : f_X5_rowAt s1 f_t_rows = some R) : Met l yX5_rowAt (ws_ yX5_rowAt cX5_rowAt 2 (some .int)) rm_X5_rowAt (va_Pc [.ref a_t, .int s1] (RO D Y [(a_t, .inr (4, [.ref a_t_rows, .ref a_t_firsts, .ref a_t_firstOfRank, .int v_t_bells, .int v_t_changes, .int v_t_leads, .int v_t_last])), (a_t_rows, .inl (Y.1, 341, .inl f_t_rows))])) (OI R) 0 0 (fun _ => False) := by
  refine ro_start (by decide) (Nat.le_of_ble_eq_true rfl) ?_
  intro p e s m below meth c ls hx hb hml hr hlocks hown hts hP hE hl
  generalize hargs : List.toArray _ = args at hts ⊢
  have hown : s.vm.findClass RX5 = some m.cls := hown
  have E : EN p m c cX5_rowAt 2 s args RX5 := ⟨hx, hb, hml, hown, hts⟩
  have hl : lv_has ls 2 [(0, .ref a_t), (1, .int s1)] := hl
  generalize hQ : MQ below _ args s 0 0 _ = Q
  unfold f_X5_rowAt at hf
  refine lv_iload_n hx hb dX5_rowAt_0 rfl (lv_at hl 1 rfl) ?_
  refine lv_if_lt (tgt := 22) hx hb dX5_rowAt_1 (by decide) (fun c1 => ?_) (fun c1 => ?_)
  · have hf := ite_t c1 hf
    refine lv_iconst (v := 0) hx hb dX5_rowAt_22 (by decide) ?_
    obtain rfl := Option.some.inj hf
    subst hQ
    exact en_oi hx hb hr hlocks rfl dX5_rowAt_23
  have hf := ite_f c1 hf
  refine lv_iload_n hx hb dX5_rowAt_4 rfl (lv_at hl 1 rfl) ?_
  refine lv_aload_n hx hb dX5_rowAt_5 rfl (lv_at hl 0 rfl) ?_
  refine va_get (D := D) (ci := 4) (v := .ref a_t_rows) (C := RX5) (T := TX5) (N := 7) hx hb hts inX5 hown hE.1 hP 0 rfl rfl 0 (by decide) (hts _ qw147) (fun _ h9 => h9) rfl dX5_rowAt_6 ?_
  refine va_alen (v := 341) hx hb hE.1 hP 1 0 rfl rfl rfl dX5_rowAt_9 ?_
  refine lv_icmp_ge (tgt := 22) hx hb dX5_rowAt_10 (by decide) (fun c2 => ?_) (fun c2 => ?_)
  · have hf := ite_t c2 hf
    refine lv_iconst (v := 0) hx hb dX5_rowAt_22 (by decide) ?_
    obtain rfl := Option.some.inj hf
    subst hQ
    exact en_oi hx hb hr hlocks rfl dX5_rowAt_23
  have hf := ite_f c2 hf
  refine lv_aload_n hx hb dX5_rowAt_13 rfl (lv_at hl 0 rfl) ?_
  refine va_get (D := D) (ci := 4) (v := .ref a_t_rows) (C := RX5) (T := TX5) (N := 7) hx hb hts inX5 hown hE.1 hP 0 rfl rfl 0 (by decide) (hts _ qw147) (fun _ h9 => h9) rfl dX5_rowAt_14 ?_
  refine lv_iload_n hx hb dX5_rowAt_17 rfl (lv_at hl 1 rfl) ?_
  obtain ⟨g3, hf⟩ := gd_s hf
  refine va_iald hx hb hE.1 hP 1 0 rfl rfl (inb_in g3) dX5_rowAt_18 ?_
  refine lv_goto (tgt := 23) hx hb dX5_rowAt_19 (by decide) ?_
  obtain rfl := Option.some.inj hf
  subst hQ
  exact en_oi hx hb hr hlocks rfl dX5_rowAt_23

def f_X5_firstWithRank (s1 : Int32) (s2 : Int32) (f_t_firstOfRank : Nat → Int32) : Option (Int32 × (Nat → Int32)) :=
  (if s1 < 0 then some (s2, f_t_firstOfRank) else (if s1 < 5040 then gd (inb s1 5040) ((if (f_t_firstOfRank s1.toNatClampNeg) = 0 then some (((upd f_t_firstOfRank s1.toNatClampNeg s2) s1.toNatClampNeg), (upd f_t_firstOfRank s1.toNatClampNeg s2)) else some ((f_t_firstOfRank s1.toNatClampNeg), f_t_firstOfRank))) else some (s2, f_t_firstOfRank)))
abbrev rm_X5_firstWithRank : Room := { frames := 1, cells := 0, slots := 0, locals := 24 }
set_option maxHeartbeats 4000000 in
set_option maxRecDepth 100000 in
theorem c_X5_firstWithRank (l : Launch) (D : va_G) (Y : ClassId × ClassId × ClassId × ClassId) (a_t a_t_rows a_t_firsts a_t_firstOfRank : Nat) (v_t_bells : Int32) (v_t_changes : Int32) (v_t_leads : Int32) (v_t_last : Int32) (f_t_firstOfRank : Nat → Int32) (s1 : Int32) (s2 : Int32) (sz : Nat) (R : Int32 × (Nat → Int32)) (hf : f_X5_firstWithRank s1 s2 f_t_firstOfRank = some R) : Met l yX5_firstWithRank (ws_ yX5_firstWithRank cX5_firstWithRank 3 (some .int)) rm_X5_firstWithRank (va_Pc [.ref a_t, .int s1, .int s2] (RW D Y sz [(a_t, .inr (4, [.ref a_t_rows, .ref a_t_firsts, .ref a_t_firstOfRank, .int v_t_bells, .int v_t_changes, .int v_t_leads, .int v_t_last])), (a_t_firstOfRank, .inl (Y.1, 5040, .inl f_t_firstOfRank))])) (QI D R.1 [(a_t, .inr (4, [.ref a_t_rows, .ref a_t_firsts, .ref a_t_firstOfRank, .int v_t_bells, .int v_t_changes, .int v_t_leads, .int v_t_last])), (a_t_firstOfRank, .inl (Y.1, 5040, .inl R.2))] (va_A [(a_t, .inr (4, [.ref a_t_rows, .ref a_t_firsts, .ref a_t_firstOfRank, .int v_t_bells, .int v_t_changes, .int v_t_leads, .int v_t_last])), (a_t_firstOfRank, .inl (Y.1, 5040, .inl f_t_firstOfRank))] sz)) 0 0 (va_A [(a_t, .inr (4, [.ref a_t_rows, .ref a_t_firsts, .ref a_t_firstOfRank, .int v_t_bells, .int v_t_changes, .int v_t_leads, .int v_t_last])), (a_t_firstOfRank, .inl (Y.1, 5040, .inl f_t_firstOfRank))] sz) := by
  refine rw_start (Qc := fun A => QI D R.1 [(a_t, .inr (4, [.ref a_t_rows, .ref a_t_firsts, .ref a_t_firstOfRank, .int v_t_bells, .int v_t_changes, .int v_t_leads, .int v_t_last])), (a_t_firstOfRank, .inl (Y.1, 5040, .inl R.2))] A) (by decide) (Nat.le_of_ble_eq_true rfl) ?_
  intro p e s m below meth c ls A hx hb hml hr hlocks hown hts hnm hA hP hD hS hE hl
  generalize hargs : List.toArray _ = args at hts ⊢
  have hown : s.vm.findClass RX5 = some m.cls := hown
  have E : EN p m c cX5_firstWithRank 3 s args RX5 := ⟨hx, hb, hml, hown, hts⟩
  have hl : lv_has ls 3 [(0, .ref a_t), (1, .int s1), (2, .int s2)] := hl
  generalize hQ : MQ below _ args s 0 0 _ = Q
  unfold f_X5_firstWithRank at hf
  refine lv_iload_n hx hb dX5_firstWithRank_0 rfl (lv_at hl 1 rfl) ?_
  refine lv_if_lt (tgt := 13) hx hb dX5_firstWithRank_1 (by decide) (fun c1 => ?_) (fun c1 => ?_)
  · have hf := ite_t c1 hf
    refine lv_iload_n hx hb dX5_firstWithRank_13 rfl (lv_at hl 2 rfl) ?_
    obtain rfl := Option.some.inj hf
    subst hQ
    exact en_i hx hb hr hlocks hP hD hS rfl dX5_firstWithRank_14
  have hf := ite_f c1 hf
  refine lv_iload_n hx hb dX5_firstWithRank_4 rfl (lv_at hl 1 rfl) ?_
  refine lv_aload_n hx hb dX5_firstWithRank_5 rfl (lv_at hl 0 rfl) ?_
  refine va_get (D := D) (ci := 4) (v := .ref a_t_firstOfRank) (C := RX5) (T := TX5) (N := 7) hx hb hts inX5 hown hE.1 hP 0 rfl rfl 2 (by decide) (hts _ qw149) (fun _ h9 => h9) rfl dX5_firstWithRank_6 ?_
  refine va_alen (v := 5040) hx hb hE.1 hP 1 0 rfl rfl rfl dX5_firstWithRank_9 ?_
  refine lv_icmp_lt (tgt := 15) hx hb dX5_firstWithRank_10 (by decide) (fun c2 => ?_) (fun c2 => ?_)
  · have hf := ite_t c2 hf
    refine lv_aload_n hx hb dX5_firstWithRank_15 rfl (lv_at hl 0 rfl) ?_
    refine va_get (D := D) (ci := 4) (v := .ref a_t_firstOfRank) (C := RX5) (T := TX5) (N := 7) hx hb hts inX5 hown hE.1 hP 0 rfl rfl 2 (by decide) (hts _ qw149) (fun _ h9 => h9) rfl dX5_firstWithRank_16 ?_
    refine lv_iload_n hx hb dX5_firstWithRank_19 rfl (lv_at hl 1 rfl) ?_
    obtain ⟨g3, hf⟩ := gd_s hf
    refine va_iald hx hb hE.1 hP 1 0 rfl rfl (inb_in g3) dX5_firstWithRank_20 ?_
    refine lv_if_ne (tgt := 31) hx hb dX5_firstWithRank_21 (by decide) (fun c4 => ?_) (fun c4 => ?_)
    · have hf := ite_f c4 hf
      refine lv_aload_n hx hb dX5_firstWithRank_31 rfl (lv_at hl 0 rfl) ?_
      refine va_get (D := D) (ci := 4) (v := .ref a_t_firstOfRank) (C := RX5) (T := TX5) (N := 7) hx hb hts inX5 hown hE.1 hP 0 rfl rfl 2 (by decide) (hts _ qw149) (fun _ h9 => h9) rfl dX5_firstWithRank_32 ?_
      refine lv_iload_n hx hb dX5_firstWithRank_35 rfl (lv_at hl 1 rfl) ?_
      refine va_iald hx hb hE.1 hP 1 0 rfl rfl (inb_in g3) dX5_firstWithRank_36 ?_
      obtain rfl := Option.some.inj hf
      subst hQ
      exact en_i hx hb hr hlocks hP hD hS rfl dX5_firstWithRank_37
    have hf := ite_t c4 hf
    refine lv_aload_n hx hb dX5_firstWithRank_24 rfl (lv_at hl 0 rfl) ?_
    refine va_get (D := D) (ci := 4) (v := .ref a_t_firstOfRank) (C := RX5) (T := TX5) (N := 7) hx hb hts inX5 hown hE.1 hP 0 rfl rfl 2 (by decide) (hts _ qw149) (fun _ h9 => h9) rfl dX5_firstWithRank_25 ?_
    refine lv_iload_n hx hb dX5_firstWithRank_28 rfl (lv_at hl 1 rfl) ?_
    refine lv_iload_n hx hb dX5_firstWithRank_29 rfl (lv_at hl 2 rfl) ?_
    refine va_iast hx hb hE.1 hP hD hS 1 0 rfl rfl (inb_in g3) dX5_firstWithRank_30 (fun H locs hP hD hS => ?_)
    have hP : va_P D vwCl [(a_t, .inr (4, [.ref a_t_rows, .ref a_t_firsts, .ref a_t_firstOfRank, .int v_t_bells, .int v_t_changes, .int v_t_leads, .int v_t_last])), (a_t_firstOfRank, .inl (Y.1, 5040, .inl (upd f_t_firstOfRank s1.toNatClampNeg s2)))] H := hP
    have hD : va_D A [(a_t, .inr (4, [.ref a_t_rows, .ref a_t_firsts, .ref a_t_firstOfRank, .int v_t_bells, .int v_t_changes, .int v_t_leads, .int v_t_last])), (a_t_firstOfRank, .inl (Y.1, 5040, .inl (upd f_t_firstOfRank s1.toNatClampNeg s2)))] := hD
    refine lv_aload_n hx hb dX5_firstWithRank_31 rfl (lv_at hl 0 rfl) ?_
    refine va_get (D := D) (ci := 4) (v := .ref a_t_firstOfRank) (C := RX5) (T := TX5) (N := 7) hx hb hts inX5 hown hE.1 hP 0 rfl rfl 2 (by decide) (hts _ qw149) (fun _ h9 => h9) rfl dX5_firstWithRank_32 ?_
    refine lv_iload_n hx hb dX5_firstWithRank_35 rfl (lv_at hl 1 rfl) ?_
    refine va_iald hx hb hE.1 hP 1 0 rfl rfl (inb_in g3) dX5_firstWithRank_36 ?_
    obtain rfl := Option.some.inj hf
    subst hQ
    exact en_i hx hb hr hlocks hP hD hS rfl dX5_firstWithRank_37
  have hf := ite_f c2 hf
  refine lv_iload_n hx hb dX5_firstWithRank_13 rfl (lv_at hl 2 rfl) ?_
  obtain rfl := Option.some.inj hf
  subst hQ
  exact en_i hx hb hr hlocks hP hD hS rfl dX5_firstWithRank_14

def f_X5_findFirsts_L2 (k : Int32 → (Nat → Int32) → (Nat → Int32) → Option ((Nat → Int32) × (Nat → Int32))) (v_t_bells : Int32) (v_t_last : Int32) (f_t_rows : Nat → Int32) : Nat → Int32 → (Nat → Int32) → (Nat → Int32) → Option ((Nat → Int32) × (Nat → Int32))
  | 0, _, _, _ => none
  | n + 1, s1, f_t_firsts, f_t_firstOfRank => (if v_t_last < s1 then (k s1 f_t_firsts f_t_firstOfRank) else bd (f_X5_rowAt s1 f_t_rows) (fun q2 => bd (f_X6_rank q2 v_t_bells) (fun q4 => gd (inb s1 341) ((if q4 < 0 then (f_X5_findFirsts_L2 k v_t_bells v_t_last f_t_rows n (s1 + 1) (upd f_t_firsts s1.toNatClampNeg q4) f_t_firstOfRank) else (if (5040 : Int32) ≤ q4 then (f_X5_findFirsts_L2 k v_t_bells v_t_last f_t_rows n (s1 + 1) (upd f_t_firsts s1.toNatClampNeg q4) f_t_firstOfRank) else gd (inb q4 5040) ((f_X5_findFirsts_L2 k v_t_bells v_t_last f_t_rows n (s1 + 1) (upd f_t_firsts s1.toNatClampNeg q4) (upd f_t_firstOfRank q4.toNatClampNeg 0)))))))))
def f_X5_findFirsts_L58 (v_t_bells : Int32) (v_t_last : Int32) (f_t_rows : Nat → Int32) : Nat → Int32 → (Nat → Int32) → (Nat → Int32) → Option ((Nat → Int32) × (Nat → Int32))
  | 0, _, _, _ => none
  | n + 1, s1, f_t_firsts, f_t_firstOfRank => (if v_t_last < s1 then some (f_t_firsts, f_t_firstOfRank) else gd (inb s1 341) (bd (f_X5_firstWithRank (f_t_firsts s1.toNatClampNeg) s1 f_t_firstOfRank) (fun q15 => (f_X5_findFirsts_L58 v_t_bells v_t_last f_t_rows n (s1 + 1) (upd f_t_firsts s1.toNatClampNeg q15.1) q15.2))))
def f_X5_findFirsts (v_t_bells : Int32) (v_t_last : Int32) (f_t_rows : Nat → Int32) (f_t_firsts : Nat → Int32) (f_t_firstOfRank : Nat → Int32) : Option ((Nat → Int32) × (Nat → Int32)) :=
  (f_X5_findFirsts_L2 (fun (y10 : Int32) (y11 : Nat → Int32) (y12 : Nat → Int32) => (f_X5_findFirsts_L58 v_t_bells v_t_last f_t_rows fu 1 y11 y12)) v_t_bells v_t_last f_t_rows fu 1 f_t_firsts f_t_firstOfRank)
abbrev rm_X5_findFirsts : Room := { frames := 3, cells := 0, slots := 0, locals := 72 }
set_option maxHeartbeats 4000000 in
set_option maxRecDepth 100000 in
theorem c_X5_findFirsts (l : Launch) (D : va_G) (Y : ClassId × ClassId × ClassId × ClassId) (a_t a_t_rows a_t_firsts a_t_firstOfRank : Nat) (v_t_bells : Int32) (v_t_changes : Int32) (v_t_leads : Int32) (v_t_last : Int32) (f_t_rows : Nat → Int32) (f_t_firsts : Nat → Int32) (f_t_firstOfRank : Nat → Int32) (sz : Nat) (R : (Nat → Int32) × (Nat → Int32)) (hf : f_X5_findFirsts v_t_bells v_t_last f_t_rows f_t_firsts f_t_firstOfRank = some R) : Met l yX5_findFirsts (ws_ yX5_findFirsts cX5_findFirsts 3 none) rm_X5_findFirsts (va_Pc [.ref a_t] (RW D Y sz [(a_t, .inr (4, [.ref a_t_rows, .ref a_t_firsts, .ref a_t_firstOfRank, .int v_t_bells, .int v_t_changes, .int v_t_leads, .int v_t_last])), (a_t_rows, .inl (Y.1, 341, .inl f_t_rows)), (a_t_firsts, .inl (Y.1, 341, .inl f_t_firsts)), (a_t_firstOfRank, .inl (Y.1, 5040, .inl f_t_firstOfRank))])) (QV D [(a_t, .inr (4, [.ref a_t_rows, .ref a_t_firsts, .ref a_t_firstOfRank, .int v_t_bells, .int v_t_changes, .int v_t_leads, .int v_t_last])), (a_t_rows, .inl (Y.1, 341, .inl f_t_rows)), (a_t_firsts, .inl (Y.1, 341, .inl R.1)), (a_t_firstOfRank, .inl (Y.1, 5040, .inl R.2))] (va_A [(a_t, .inr (4, [.ref a_t_rows, .ref a_t_firsts, .ref a_t_firstOfRank, .int v_t_bells, .int v_t_changes, .int v_t_leads, .int v_t_last])), (a_t_rows, .inl (Y.1, 341, .inl f_t_rows)), (a_t_firsts, .inl (Y.1, 341, .inl f_t_firsts)), (a_t_firstOfRank, .inl (Y.1, 5040, .inl f_t_firstOfRank))] sz)) 0 0 (va_A [(a_t, .inr (4, [.ref a_t_rows, .ref a_t_firsts, .ref a_t_firstOfRank, .int v_t_bells, .int v_t_changes, .int v_t_leads, .int v_t_last])), (a_t_rows, .inl (Y.1, 341, .inl f_t_rows)), (a_t_firsts, .inl (Y.1, 341, .inl f_t_firsts)), (a_t_firstOfRank, .inl (Y.1, 5040, .inl f_t_firstOfRank))] sz) := by
  refine rw_start (Qc := fun A => QV D [(a_t, .inr (4, [.ref a_t_rows, .ref a_t_firsts, .ref a_t_firstOfRank, .int v_t_bells, .int v_t_changes, .int v_t_leads, .int v_t_last])), (a_t_rows, .inl (Y.1, 341, .inl f_t_rows)), (a_t_firsts, .inl (Y.1, 341, .inl R.1)), (a_t_firstOfRank, .inl (Y.1, 5040, .inl R.2))] A) (by decide) (Nat.le_of_ble_eq_true rfl) ?_
  intro p e s m below meth c ls A hx hb hml hr hlocks hown hts hnm hA hP hD hS hE hl
  generalize hargs : List.toArray _ = args at hts ⊢
  have hown : s.vm.findClass RX5 = some m.cls := hown
  have E : EN p m c cX5_findFirsts 3 s args RX5 := ⟨hx, hb, hml, hown, hts⟩
  have hl : lv_has ls 3 [(0, .ref a_t)] := hl
  generalize hQ : MQ below _ args s 0 0 _ = Q
  unfold f_X5_findFirsts at hf
  have L2 : ∀ (n : Nat) (k : Int32 → (Nat → Int32) → (Nat → Int32) → Option ((Nat → Int32) × (Nat → Int32))) (s1 : Int32) (f_t_firsts : Nat → Int32) (f_t_firstOfRank : Nat → Int32) (H : Heap) (locs : List Loc) (ls : Array Slot), f_X5_findFirsts_L2 k v_t_bells v_t_last f_t_rows n s1 f_t_firsts f_t_firstOfRank = some R → va_P D vwCl [(a_t, .inr (4, [.ref a_t_rows, .ref a_t_firsts, .ref a_t_firstOfRank, .int v_t_bells, .int v_t_changes, .int v_t_leads, .int v_t_last])), (a_t_rows, .inl (Y.1, 341, .inl f_t_rows)), (a_t_firsts, .inl (Y.1, 341, .inl f_t_firsts)), (a_t_firstOfRank, .inl (Y.1, 5040, .inl f_t_firstOfRank))] H → va_D A [(a_t, .inr (4, [.ref a_t_rows, .ref a_t_firsts, .ref a_t_firstOfRank, .int v_t_bells, .int v_t_changes, .int v_t_leads, .int v_t_last])), (a_t_rows, .inl (Y.1, 341, .inl f_t_rows)), (a_t_firsts, .inl (Y.1, 341, .inl f_t_firsts)), (a_t_firstOfRank, .inl (Y.1, 5040, .inl f_t_firstOfRank))] → va_S A s.heap H locs → lv_has ls 3 [(0, .ref a_t), (1, .int s1)] → (∀ (y_s1 : Int32) (y_f_t_firsts : Nat → Int32) (y_f_t_firstOfRank : Nat → Int32) (H : Heap) (locs : List Loc) (ls : Array Slot), k y_s1 y_f_t_firsts y_f_t_firstOfRank = some R → va_P D vwCl [(a_t, .inr (4, [.ref a_t_rows, .ref a_t_firsts, .ref a_t_firstOfRank, .int v_t_bells, .int v_t_changes, .int v_t_leads, .int v_t_last])), (a_t_rows, .inl (Y.1, 341, .inl f_t_rows)), (a_t_firsts, .inl (Y.1, 341, .inl y_f_t_firsts)), (a_t_firstOfRank, .inl (Y.1, 5040, .inl y_f_t_firstOfRank))] H → va_D A [(a_t, .inr (4, [.ref a_t_rows, .ref a_t_firsts, .ref a_t_firstOfRank, .int v_t_bells, .int v_t_changes, .int v_t_leads, .int v_t_last])), (a_t_rows, .inl (Y.1, 341, .inl f_t_rows)), (a_t_firsts, .inl (Y.1, 341, .inl y_f_t_firsts)), (a_t_firstOfRank, .inl (Y.1, 5040, .inl y_f_t_firstOfRank))] → va_S A s.heap H locs → lv_has ls 3 [(0, .ref a_t)] → W p l e rm_X5_findFirsts s m args below meth c H locs 0 0 Q (F0 m 56 ls [])) → W p l e rm_X5_findFirsts s m args below meth c H locs 0 0 Q (F0 m 2 ls []) := by
    intro n
    induction n with
    | zero =>
      intro k s1 f_t_firsts f_t_firstOfRank H locs ls hf
      cases hf
    | succ n ih =>
      intro k s1 f_t_firsts f_t_firstOfRank H locs ls hf hP hD hS hl hk
      unfold f_X5_findFirsts_L2 at hf
      refine lv_iload_n hx hb dX5_findFirsts_2 rfl (lv_at hl 1 rfl) ?_
      refine lv_aload_n hx hb dX5_findFirsts_3 rfl (lv_at hl 0 rfl) ?_
      refine va_get (D := D) (ci := 4) (v := .int v_t_last) (C := RX5) (T := TX5) (N := 7) hx hb hts inX5 hown hE.1 hP 0 rfl rfl 6 (by decide) (hts _ qw153) (fun _ h9 => h9) rfl dX5_findFirsts_4 ?_
      refine lv_icmp_gt (tgt := 56) hx hb dX5_findFirsts_7 (by decide) (fun c1 => ?_) (fun c1 => ?_)
      · have hf := ite_t c1 hf
        exact hk _ _ _ _ _ _ hf hP hD hS (lv_sub hl [0] rfl)
      have hf := ite_f c1 hf
      refine lv_aload_n hx hb dX5_findFirsts_10 rfl (lv_at hl 0 rfl) ?_
      refine lv_iload_n hx hb dX5_findFirsts_11 rfl (lv_at hl 1 rfl) ?_
      obtain ⟨q2, h3, hf⟩ := bd_s hf
      refine af_oi (run_V (As := [.int s1]) (rest := []) E (c_X5_rowAt l D Y a_t a_t_rows a_t_firsts a_t_firstOfRank v_t_bells v_t_changes v_t_leads v_t_last f_t_rows s1 q2 h3) qw427 qw428 qw429 qw24 qw430 rfl rfl hd_X5_rowAt ⟨Nat.le_of_ble_eq_true rfl, Nat.le_of_ble_eq_true rfl⟩ (pre_roV hP hE [0, 1] rfl (ci := 4) (q0 := 0) rfl rfl) rfl hl.1 rfl (Nat.le_of_ble_eq_true rfl) dX5_findFirsts_12 ⟨Nat.zero_le _, Nat.zero_le _⟩) ?_
      refine lv_aload_n hx hb dX5_findFirsts_15 rfl (lv_at hl 0 rfl) ?_
      refine va_get (D := D) (ci := 4) (v := .int v_t_bells) (C := RX5) (T := TX5) (N := 7) hx hb hts inX5 hown hE.1 hP 0 rfl rfl 3 (by decide) (hts _ qw150) (fun _ h9 => h9) rfl dX5_findFirsts_16 ?_
      obtain ⟨q4, h5, hf⟩ := bd_s hf
      refine af_oi (run_S (As := [.int q2, .int v_t_bells]) (rest := []) E (c_X6_rank l D Y q2 v_t_bells q4 h5) qw431 qw432 qw34 qw433 rfl rfl hd_X6_rank ⟨Nat.le_of_ble_eq_true rfl, Nat.le_of_ble_eq_true rfl⟩ (pre_roS hP hE [] rfl) rfl hl.1 rfl (Nat.le_of_ble_eq_true rfl) dX5_findFirsts_19 ⟨Nat.zero_le _, Nat.zero_le _⟩) ?_
      refine lv_istore_n (lv' := [(2, .int q4), (0, .ref a_t), (1, .int s1)]) hx hb dX5_findFirsts_22 rfl hl (by decide) rfl (fun ls hl => ?_)
      refine lv_aload_n hx hb dX5_findFirsts_23 rfl (lv_at hl 1 rfl) ?_
      refine va_get (D := D) (ci := 4) (v := .ref a_t_firsts) (C := RX5) (T := TX5) (N := 7) hx hb hts inX5 hown hE.1 hP 0 rfl rfl 1 (by decide) (hts _ qw148) (fun _ h9 => h9) rfl dX5_findFirsts_24 ?_
      refine lv_iload_n hx hb dX5_findFirsts_27 rfl (lv_at hl 2 rfl) ?_
      refine lv_iload_n hx hb dX5_findFirsts_28 rfl (lv_at hl 0 rfl) ?_
      obtain ⟨g6, hf⟩ := gd_s hf
      refine va_iast hx hb hE.1 hP hD hS 2 0 rfl rfl (inb_in g6) dX5_findFirsts_29 (fun H locs hP hD hS => ?_)
      have hP : va_P D vwCl [(a_t, .inr (4, [.ref a_t_rows, .ref a_t_firsts, .ref a_t_firstOfRank, .int v_t_bells, .int v_t_changes, .int v_t_leads, .int v_t_last])), (a_t_rows, .inl (Y.1, 341, .inl f_t_rows)), (a_t_firsts, .inl (Y.1, 341, .inl (upd f_t_firsts s1.toNatClampNeg q4))), (a_t_firstOfRank, .inl (Y.1, 5040, .inl f_t_firstOfRank))] H := hP
      have hD : va_D A [(a_t, .inr (4, [.ref a_t_rows, .ref a_t_firsts, .ref a_t_firstOfRank, .int v_t_bells, .int v_t_changes, .int v_t_leads, .int v_t_last])), (a_t_rows, .inl (Y.1, 341, .inl f_t_rows)), (a_t_firsts, .inl (Y.1, 341, .inl (upd f_t_firsts s1.toNatClampNeg q4))), (a_t_firstOfRank, .inl (Y.1, 5040, .inl f_t_firstOfRank))] := hD
      refine lv_iload_n hx hb dX5_findFirsts_30 rfl (lv_at hl 0 rfl) ?_
      refine lv_if_lt (tgt := 50) hx hb dX5_findFirsts_31 (by decide) (fun c7 => ?_) (fun c7 => ?_)
      · have hf := ite_t c7 hf
        refine lv_iinc (v := (s1 + 1)) (lv' := [(1, .int (s1 + 1)), (2, .int q4), (0, .ref a_t)]) hx hb dX5_findFirsts_50 hl (k := 2) rfl rfl (by decide) rfl (fun ls hl => ?_)
        refine lv_goto (tgt := 2) hx hb dX5_findFirsts_53 (by decide) ?_
        exact ih _ _ _ _ _ _ _ hf hP hD hS (lv_sub hl [2, 0] rfl) hk
      have hf := ite_f c7 hf
      refine lv_iload_n hx hb dX5_findFirsts_34 rfl (lv_at hl 0 rfl) ?_
      refine lv_aload_n hx hb dX5_findFirsts_35 rfl (lv_at hl 1 rfl) ?_
      refine va_get (D := D) (ci := 4) (v := .ref a_t_firstOfRank) (C := RX5) (T := TX5) (N := 7) hx hb hts inX5 hown hE.1 hP 0 rfl rfl 2 (by decide) (hts _ qw149) (fun _ h9 => h9) rfl dX5_findFirsts_36 ?_
      refine va_alen (v := 5040) hx hb hE.1 hP 3 0 rfl rfl rfl dX5_findFirsts_39 ?_
      refine lv_icmp_ge (tgt := 50) hx hb dX5_findFirsts_40 (by decide) (fun c8 => ?_) (fun c8 => ?_)
      · have hf := ite_t c8 hf
        refine lv_iinc (v := (s1 + 1)) (lv' := [(1, .int (s1 + 1)), (2, .int q4), (0, .ref a_t)]) hx hb dX5_findFirsts_50 hl (k := 2) rfl rfl (by decide) rfl (fun ls hl => ?_)
        refine lv_goto (tgt := 2) hx hb dX5_findFirsts_53 (by decide) ?_
        exact ih _ _ _ _ _ _ _ hf hP hD hS (lv_sub hl [2, 0] rfl) hk
      have hf := ite_f c8 hf
      refine lv_aload_n hx hb dX5_findFirsts_43 rfl (lv_at hl 1 rfl) ?_
      refine va_get (D := D) (ci := 4) (v := .ref a_t_firstOfRank) (C := RX5) (T := TX5) (N := 7) hx hb hts inX5 hown hE.1 hP 0 rfl rfl 2 (by decide) (hts _ qw149) (fun _ h9 => h9) rfl dX5_findFirsts_44 ?_
      refine lv_iload_n hx hb dX5_findFirsts_47 rfl (lv_at hl 0 rfl) ?_
      refine lv_iconst (v := 0) hx hb dX5_findFirsts_48 (by decide) ?_
      obtain ⟨g9, hf⟩ := gd_s hf
      refine va_iast hx hb hE.1 hP hD hS 3 0 rfl rfl (inb_in g9) dX5_findFirsts_49 (fun H locs hP hD hS => ?_)
      have hP : va_P D vwCl [(a_t, .inr (4, [.ref a_t_rows, .ref a_t_firsts, .ref a_t_firstOfRank, .int v_t_bells, .int v_t_changes, .int v_t_leads, .int v_t_last])), (a_t_rows, .inl (Y.1, 341, .inl f_t_rows)), (a_t_firsts, .inl (Y.1, 341, .inl (upd f_t_firsts s1.toNatClampNeg q4))), (a_t_firstOfRank, .inl (Y.1, 5040, .inl (upd f_t_firstOfRank q4.toNatClampNeg 0)))] H := hP
      have hD : va_D A [(a_t, .inr (4, [.ref a_t_rows, .ref a_t_firsts, .ref a_t_firstOfRank, .int v_t_bells, .int v_t_changes, .int v_t_leads, .int v_t_last])), (a_t_rows, .inl (Y.1, 341, .inl f_t_rows)), (a_t_firsts, .inl (Y.1, 341, .inl (upd f_t_firsts s1.toNatClampNeg q4))), (a_t_firstOfRank, .inl (Y.1, 5040, .inl (upd f_t_firstOfRank q4.toNatClampNeg 0)))] := hD
      refine lv_iinc (v := (s1 + 1)) (lv' := [(1, .int (s1 + 1)), (2, .int q4), (0, .ref a_t)]) hx hb dX5_findFirsts_50 hl (k := 2) rfl rfl (by decide) rfl (fun ls hl => ?_)
      refine lv_goto (tgt := 2) hx hb dX5_findFirsts_53 (by decide) ?_
      exact ih _ _ _ _ _ _ _ hf hP hD hS (lv_sub hl [2, 0] rfl) hk
  have L58 : ∀ (n : Nat) (s1 : Int32) (f_t_firsts : Nat → Int32) (f_t_firstOfRank : Nat → Int32) (H : Heap) (locs : List Loc) (ls : Array Slot), f_X5_findFirsts_L58 v_t_bells v_t_last f_t_rows n s1 f_t_firsts f_t_firstOfRank = some R → va_P D vwCl [(a_t, .inr (4, [.ref a_t_rows, .ref a_t_firsts, .ref a_t_firstOfRank, .int v_t_bells, .int v_t_changes, .int v_t_leads, .int v_t_last])), (a_t_rows, .inl (Y.1, 341, .inl f_t_rows)), (a_t_firsts, .inl (Y.1, 341, .inl f_t_firsts)), (a_t_firstOfRank, .inl (Y.1, 5040, .inl f_t_firstOfRank))] H → va_D A [(a_t, .inr (4, [.ref a_t_rows, .ref a_t_firsts, .ref a_t_firstOfRank, .int v_t_bells, .int v_t_changes, .int v_t_leads, .int v_t_last])), (a_t_rows, .inl (Y.1, 341, .inl f_t_rows)), (a_t_firsts, .inl (Y.1, 341, .inl f_t_firsts)), (a_t_firstOfRank, .inl (Y.1, 5040, .inl f_t_firstOfRank))] → va_S A s.heap H locs → lv_has ls 3 [(0, .ref a_t), (1, .int s1)] → W p l e rm_X5_findFirsts s m args below meth c H locs 0 0 Q (F0 m 58 ls []) := by
    intro n
    induction n with
    | zero =>
      intro s1 f_t_firsts f_t_firstOfRank H locs ls hf
      cases hf
    | succ n ih =>
      intro s1 f_t_firsts f_t_firstOfRank H locs ls hf hP hD hS hl
      unfold f_X5_findFirsts_L58 at hf
      refine lv_iload_n hx hb dX5_findFirsts_58 rfl (lv_at hl 1 rfl) ?_
      refine lv_aload_n hx hb dX5_findFirsts_59 rfl (lv_at hl 0 rfl) ?_
      refine va_get (D := D) (ci := 4) (v := .int v_t_last) (C := RX5) (T := TX5) (N := 7) hx hb hts inX5 hown hE.1 hP 0 rfl rfl 6 (by decide) (hts _ qw153) (fun _ h9 => h9) rfl dX5_findFirsts_60 ?_
      refine lv_icmp_gt (tgt := 89) hx hb dX5_findFirsts_63 (by decide) (fun c13 => ?_) (fun c13 => ?_)
      · have hf := ite_t c13 hf
        obtain rfl := Option.some.inj hf
        subst hQ
        exact en_v hx hb hr hlocks hP hD hS dX5_findFirsts_89
      have hf := ite_f c13 hf
      refine lv_aload_n hx hb dX5_findFirsts_66 rfl (lv_at hl 0 rfl) ?_
      refine va_get (D := D) (ci := 4) (v := .ref a_t_firsts) (C := RX5) (T := TX5) (N := 7) hx hb hts inX5 hown hE.1 hP 0 rfl rfl 1 (by decide) (hts _ qw148) (fun _ h9 => h9) rfl dX5_findFirsts_67 ?_
      refine lv_iload_n hx hb dX5_findFirsts_70 rfl (lv_at hl 1 rfl) ?_
      refine lv_aload_n hx hb dX5_findFirsts_71 rfl (lv_at hl 0 rfl) ?_
      refine lv_aload_n hx hb dX5_findFirsts_72 rfl (lv_at hl 0 rfl) ?_
      refine va_get (D := D) (ci := 4) (v := .ref a_t_firsts) (C := RX5) (T := TX5) (N := 7) hx hb hts inX5 hown hE.1 hP 0 rfl rfl 1 (by decide) (hts _ qw148) (fun _ h9 => h9) rfl dX5_findFirsts_73 ?_
      refine lv_iload_n hx hb dX5_findFirsts_76 rfl (lv_at hl 1 rfl) ?_
      obtain ⟨g14, hf⟩ := gd_s hf
      refine va_iald hx hb hE.1 hP 2 0 rfl rfl (inb_in g14) dX5_findFirsts_77 ?_
      refine lv_iload_n hx hb dX5_findFirsts_78 rfl (lv_at hl 1 rfl) ?_
      obtain ⟨q15, h16, hf⟩ := bd_s hf
      refine af_i0 (wc := [(a_t, .inr (4, [.ref a_t_rows, .ref a_t_firsts, .ref a_t_firstOfRank, .int v_t_bells, .int v_t_changes, .int v_t_leads, .int v_t_last])), (a_t_firstOfRank, .inl (Y.1, 5040, .inl f_t_firstOfRank))]) (wr := [(a_t_rows, .inl (Y.1, 341, .inl f_t_rows)), (a_t_firsts, .inl (Y.1, 341, .inl f_t_firsts))]) (wn := [(a_t, .inr (4, [.ref a_t_rows, .ref a_t_firsts, .ref a_t_firstOfRank, .int v_t_bells, .int v_t_changes, .int v_t_leads, .int v_t_last])), (a_t_rows, .inl (Y.1, 341, .inl f_t_rows)), (a_t_firsts, .inl (Y.1, 341, .inl f_t_firsts)), (a_t_firstOfRank, .inl (Y.1, 5040, .inl q15.2))]) (run_V (As := [.int (f_t_firsts s1.toNatClampNeg), .int s1]) (rest := [.int s1, .ref a_t_firsts]) E (c_X5_firstWithRank l D Y a_t a_t_rows a_t_firsts a_t_firstOfRank v_t_bells v_t_changes v_t_leads v_t_last f_t_firstOfRank (f_t_firsts s1.toNatClampNeg) s1 H.size q15 h16) qw441 qw443 qw11 qw24 qw444 rfl rfl hd_X5_firstWithRank ⟨Nat.le_of_ble_eq_true rfl, Nat.le_of_ble_eq_true rfl⟩ (pre_rwV hP hD hE [0, 3] rfl (by decide) rfl (ci := 4) (q0 := 0) rfl rfl) rfl hl.1 rfl (Nat.le_of_ble_eq_true rfl) dX5_findFirsts_79 ⟨Nat.zero_le _, Nat.zero_le _⟩) hP hD hS hA [0, 3] [1, 2] [2, 0, 1, 3] rfl rfl (by decide) (by decide) rfl rfl (by decide) (fun H locs  hP hD hS => ?_)
      refine va_iast hx hb hE.1 hP hD hS 2 0 rfl rfl (inb_in g14) dX5_findFirsts_82 (fun H locs hP hD hS => ?_)
      have hP : va_P D vwCl [(a_t, .inr (4, [.ref a_t_rows, .ref a_t_firsts, .ref a_t_firstOfRank, .int v_t_bells, .int v_t_changes, .int v_t_leads, .int v_t_last])), (a_t_rows, .inl (Y.1, 341, .inl f_t_rows)), (a_t_firsts, .inl (Y.1, 341, .inl (upd f_t_firsts s1.toNatClampNeg q15.1))), (a_t_firstOfRank, .inl (Y.1, 5040, .inl q15.2))] H := hP
      have hD : va_D A [(a_t, .inr (4, [.ref a_t_rows, .ref a_t_firsts, .ref a_t_firstOfRank, .int v_t_bells, .int v_t_changes, .int v_t_leads, .int v_t_last])), (a_t_rows, .inl (Y.1, 341, .inl f_t_rows)), (a_t_firsts, .inl (Y.1, 341, .inl (upd f_t_firsts s1.toNatClampNeg q15.1))), (a_t_firstOfRank, .inl (Y.1, 5040, .inl q15.2))] := hD
      refine lv_iinc (v := (s1 + 1)) (lv' := [(1, .int (s1 + 1)), (0, .ref a_t)]) hx hb dX5_findFirsts_83 hl (k := 1) rfl rfl (by decide) rfl (fun ls hl => ?_)
      refine lv_goto (tgt := 58) hx hb dX5_findFirsts_86 (by decide) ?_
      exact ih _ _ _ _ _ _ hf hP hD hS (lv_sub hl [1, 0] rfl)
  refine lv_iconst (v := 1) hx hb dX5_findFirsts_0 (by decide) ?_
  refine lv_istore_n (lv' := [(1, .int 1), (0, .ref a_t)]) hx hb dX5_findFirsts_1 rfl hl (by decide) rfl (fun ls hl => ?_)
  refine L2 _ _ _ _ _ _ _ _ hf hP hD hS (lv_sub hl [1, 0] rfl) ?_
  intro y10 y11 y12 H locs ls hf hP hD hS hl
  refine lv_iconst (v := 1) hx hb dX5_findFirsts_56 (by decide) ?_
  refine lv_istore_n (lv' := [(1, .int 1), (0, .ref a_t)]) hx hb dX5_findFirsts_57 rfl hl (by decide) rfl (fun ls hl => ?_)
  exact L58 _ _ _ _ _ _ _ hf hP hD hS (lv_sub hl [1, 0] rfl)

def f_X5_ring_L64 (k : Int32 → Int32 → Int32 → (Nat → Int32) → Option (Int32 × Int32 × Int32 × Int32 × (Nat → Int32) × (Nat → Int32) × (Nat → Int32))) (s3 : Int32) (s4 : Int32) (v_t_bells : Int32) (v_t_changes : Int32) (v_t_leads : Int32) (f_t_firsts : Nat → Int32) (f_t_firstOfRank : Nat → Int32) (v_p1_bells : Int32) (v_p1_changes : Int32) (v_p1_bob : Int32) (v_p1_single : Int32) (v_p1_leads : Int32) (f_p1_places : Nat → Int32) (f_p1_kinds : Nat → Int32) : Nat → Int32 → Int32 → Int32 → (Nat → Int32) → Option (Int32 × Int32 × Int32 × Int32 × (Nat → Int32) × (Nat → Int32) × (Nat → Int32))
  | 0, _, _, _, _ => none
  | n + 1, s2, s5, v_t_last, f_t_rows => (if v_t_changes ≤ s5 then (k s2 s5 v_t_last f_t_rows) else bd (f_X9_placesMade s4 s5 v_p1_changes v_p1_bob v_p1_single f_p1_places) (fun q7 => bd (f_X6_behindChange s2 q7 v_t_bells) (fun q9 => bd (f_X5_keep q9 v_t_last f_t_rows) (fun q11 => (f_X5_ring_L64 k s3 s4 v_t_bells v_t_changes v_t_leads f_t_firsts f_t_firstOfRank v_p1_bells v_p1_changes v_p1_bob v_p1_single v_p1_leads f_p1_places f_p1_kinds n q9 (s5 + 1) q11.1 q11.2)))))
def f_X5_ring_L46 (k : Int32 → Int32 → Int32 → (Nat → Int32) → Option (Int32 × Int32 × Int32 × Int32 × (Nat → Int32) × (Nat → Int32) × (Nat → Int32))) (v_t_bells : Int32) (v_t_changes : Int32) (v_t_leads : Int32) (f_t_firsts : Nat → Int32) (f_t_firstOfRank : Nat → Int32) (v_p1_bells : Int32) (v_p1_changes : Int32) (v_p1_bob : Int32) (v_p1_single : Int32) (v_p1_leads : Int32) (f_p1_places : Nat → Int32) (f_p1_kinds : Nat → Int32) : Nat → Int32 → Int32 → Int32 → (Nat → Int32) → Option (Int32 × Int32 × Int32 × Int32 × (Nat → Int32) × (Nat → Int32) × (Nat → Int32))
  | 0, _, _, _, _ => none
  | n + 1, s2, s3, v_t_last, f_t_rows => (if v_t_leads ≤ s3 then (k s2 s3 v_t_last f_t_rows) else bd (f_X9_kindOfLead s3 f_p1_kinds) (fun q4 => (f_X5_ring_L64 (fun (y13 : Int32) (y14 : Int32) (y15 : Int32) (y16 : Nat → Int32) => (f_X5_ring_L46 k v_t_bells v_t_changes v_t_leads f_t_firsts f_t_firstOfRank v_p1_bells v_p1_changes v_p1_bob v_p1_single v_p1_leads f_p1_places f_p1_kinds n y13 (s3 + 1) y15 y16)) s3 q4 v_t_bells v_t_changes v_t_leads f_t_firsts f_t_firstOfRank v_p1_bells v_p1_changes v_p1_bob v_p1_single v_p1_leads f_p1_places f_p1_kinds fu s2 0 v_t_last f_t_rows)))
def f_X5_ring (v_t_bells : Int32) (v_t_changes : Int32) (v_t_leads : Int32) (v_t_last : Int32) (f_t_rows : Nat → Int32) (f_t_firsts : Nat → Int32) (f_t_firstOfRank : Nat → Int32) (v_p1_bells : Int32) (v_p1_changes : Int32) (v_p1_bob : Int32) (v_p1_single : Int32) (v_p1_leads : Int32) (f_p1_places : Nat → Int32) (f_p1_kinds : Nat → Int32) : Option (Int32 × Int32 × Int32 × Int32 × (Nat → Int32) × (Nat → Int32) × (Nat → Int32)) :=
  bd (f_X6_rounds v_p1_bells) (fun q1 => (f_X5_ring_L46 (fun (y17 : Int32) (y18 : Int32) (y19 : Int32) (y20 : Nat → Int32) => bd (f_X5_findFirsts v_p1_bells y19 y20 f_t_firsts f_t_firstOfRank) (fun q21 => some (v_p1_bells, v_p1_changes, v_p1_leads, y19, y20, q21.1, q21.2))) v_p1_bells v_p1_changes v_p1_leads f_t_firsts f_t_firstOfRank v_p1_bells v_p1_changes v_p1_bob v_p1_single v_p1_leads f_p1_places f_p1_kinds fu q1 0 0 (upd f_t_rows (0 : Int32).toNatClampNeg q1)))
abbrev rm_X5_ring : Room := { frames := 4, cells := 0, slots := 0, locals := 94 }
set_option maxHeartbeats 4000000 in
set_option maxRecDepth 100000 in
theorem c_X5_ring (l : Launch) (D : va_G) (Y : ClassId × ClassId × ClassId × ClassId) (a_t a_t_rows a_t_firsts a_t_firstOfRank a_p1 a_p1_places a_p1_kinds : Nat) (v_t_bells : Int32) (v_t_changes : Int32) (v_t_leads : Int32) (v_t_last : Int32) (f_t_rows : Nat → Int32) (f_t_firsts : Nat → Int32) (f_t_firstOfRank : Nat → Int32) (v_p1_bells : Int32) (v_p1_changes : Int32) (v_p1_bob : Int32) (v_p1_single : Int32) (v_p1_leads : Int32) (f_p1_places : Nat → Int32) (f_p1_kinds : Nat → Int32) (sz : Nat) (R : Int32 × Int32 × Int32 × Int32 × (Nat → Int32) × (Nat → Int32) × (Nat → Int32)) (hf : f_X5_ring v_t_bells v_t_changes v_t_leads v_t_last f_t_rows f_t_firsts f_t_firstOfRank v_p1_bells v_p1_changes v_p1_bob v_p1_single v_p1_leads f_p1_places f_p1_kinds = some R) : Met l yX5_ring (ws_ yX5_ring cX5_ring 6 none) rm_X5_ring (va_Pc [.ref a_t, .ref a_p1] (RW D Y sz [(a_t, .inr (4, [.ref a_t_rows, .ref a_t_firsts, .ref a_t_firstOfRank, .int v_t_bells, .int v_t_changes, .int v_t_leads, .int v_t_last])), (a_t_rows, .inl (Y.1, 341, .inl f_t_rows)), (a_t_firsts, .inl (Y.1, 341, .inl f_t_firsts)), (a_t_firstOfRank, .inl (Y.1, 5040, .inl f_t_firstOfRank)), (a_p1, .inr (6, [.int v_p1_bells, .int v_p1_changes, .int v_p1_bob, .int v_p1_single, .int v_p1_leads, .ref a_p1_places, .ref a_p1_kinds])), (a_p1_places, .inl (Y.1, 20, .inl f_p1_places)), (a_p1_kinds, .inl (Y.1, 17, .inl f_p1_kinds))])) (QV D [(a_t, .inr (4, [.ref a_t_rows, .ref a_t_firsts, .ref a_t_firstOfRank, .int R.1, .int R.2.1, .int R.2.2.1, .int R.2.2.2.1])), (a_t_rows, .inl (Y.1, 341, .inl R.2.2.2.2.1)), (a_t_firsts, .inl (Y.1, 341, .inl R.2.2.2.2.2.1)), (a_t_firstOfRank, .inl (Y.1, 5040, .inl R.2.2.2.2.2.2)), (a_p1, .inr (6, [.int v_p1_bells, .int v_p1_changes, .int v_p1_bob, .int v_p1_single, .int v_p1_leads, .ref a_p1_places, .ref a_p1_kinds])), (a_p1_places, .inl (Y.1, 20, .inl f_p1_places)), (a_p1_kinds, .inl (Y.1, 17, .inl f_p1_kinds))] (va_A [(a_t, .inr (4, [.ref a_t_rows, .ref a_t_firsts, .ref a_t_firstOfRank, .int v_t_bells, .int v_t_changes, .int v_t_leads, .int v_t_last])), (a_t_rows, .inl (Y.1, 341, .inl f_t_rows)), (a_t_firsts, .inl (Y.1, 341, .inl f_t_firsts)), (a_t_firstOfRank, .inl (Y.1, 5040, .inl f_t_firstOfRank)), (a_p1, .inr (6, [.int v_p1_bells, .int v_p1_changes, .int v_p1_bob, .int v_p1_single, .int v_p1_leads, .ref a_p1_places, .ref a_p1_kinds])), (a_p1_places, .inl (Y.1, 20, .inl f_p1_places)), (a_p1_kinds, .inl (Y.1, 17, .inl f_p1_kinds))] sz)) 0 0 (va_A [(a_t, .inr (4, [.ref a_t_rows, .ref a_t_firsts, .ref a_t_firstOfRank, .int v_t_bells, .int v_t_changes, .int v_t_leads, .int v_t_last])), (a_t_rows, .inl (Y.1, 341, .inl f_t_rows)), (a_t_firsts, .inl (Y.1, 341, .inl f_t_firsts)), (a_t_firstOfRank, .inl (Y.1, 5040, .inl f_t_firstOfRank)), (a_p1, .inr (6, [.int v_p1_bells, .int v_p1_changes, .int v_p1_bob, .int v_p1_single, .int v_p1_leads, .ref a_p1_places, .ref a_p1_kinds])), (a_p1_places, .inl (Y.1, 20, .inl f_p1_places)), (a_p1_kinds, .inl (Y.1, 17, .inl f_p1_kinds))] sz) := by
  refine rw_start (Qc := fun A => QV D [(a_t, .inr (4, [.ref a_t_rows, .ref a_t_firsts, .ref a_t_firstOfRank, .int R.1, .int R.2.1, .int R.2.2.1, .int R.2.2.2.1])), (a_t_rows, .inl (Y.1, 341, .inl R.2.2.2.2.1)), (a_t_firsts, .inl (Y.1, 341, .inl R.2.2.2.2.2.1)), (a_t_firstOfRank, .inl (Y.1, 5040, .inl R.2.2.2.2.2.2)), (a_p1, .inr (6, [.int v_p1_bells, .int v_p1_changes, .int v_p1_bob, .int v_p1_single, .int v_p1_leads, .ref a_p1_places, .ref a_p1_kinds])), (a_p1_places, .inl (Y.1, 20, .inl f_p1_places)), (a_p1_kinds, .inl (Y.1, 17, .inl f_p1_kinds))] A) (by decide) (Nat.le_of_ble_eq_true rfl) ?_
  intro p e s m below meth c ls A hx hb hml hr hlocks hown hts hnm hA hP hD hS hE hl
  generalize hargs : List.toArray _ = args at hts ⊢
  have hown : s.vm.findClass RX5 = some m.cls := hown
  have E : EN p m c cX5_ring 6 s args RX5 := ⟨hx, hb, hml, hown, hts⟩
  have hl : lv_has ls 6 [(0, .ref a_t), (1, .ref a_p1)] := hl
  generalize hQ : MQ below _ args s 0 0 _ = Q
  unfold f_X5_ring at hf
  have L64 : ∀ (n : Nat) (k : Int32 → Int32 → Int32 → (Nat → Int32) → Option (Int32 × Int32 × Int32 × Int32 × (Nat → Int32) × (Nat → Int32) × (Nat → Int32))) (s3 : Int32) (s4 : Int32) (v_t_bells : Int32) (v_t_changes : Int32) (v_t_leads : Int32) (f_t_firsts : Nat → Int32) (f_t_firstOfRank : Nat → Int32) (s2 : Int32) (s5 : Int32) (v_t_last : Int32) (f_t_rows : Nat → Int32) (H : Heap) (locs : List Loc) (ls : Array Slot), f_X5_ring_L64 k s3 s4 v_t_bells v_t_changes v_t_leads f_t_firsts f_t_firstOfRank v_p1_bells v_p1_changes v_p1_bob v_p1_single v_p1_leads f_p1_places f_p1_kinds n s2 s5 v_t_last f_t_rows = some R → va_P D vwCl [(a_t, .inr (4, [.ref a_t_rows, .ref a_t_firsts, .ref a_t_firstOfRank, .int v_t_bells, .int v_t_changes, .int v_t_leads, .int v_t_last])), (a_t_rows, .inl (Y.1, 341, .inl f_t_rows)), (a_t_firsts, .inl (Y.1, 341, .inl f_t_firsts)), (a_t_firstOfRank, .inl (Y.1, 5040, .inl f_t_firstOfRank)), (a_p1, .inr (6, [.int v_p1_bells, .int v_p1_changes, .int v_p1_bob, .int v_p1_single, .int v_p1_leads, .ref a_p1_places, .ref a_p1_kinds])), (a_p1_places, .inl (Y.1, 20, .inl f_p1_places)), (a_p1_kinds, .inl (Y.1, 17, .inl f_p1_kinds))] H → va_D A [(a_t, .inr (4, [.ref a_t_rows, .ref a_t_firsts, .ref a_t_firstOfRank, .int v_t_bells, .int v_t_changes, .int v_t_leads, .int v_t_last])), (a_t_rows, .inl (Y.1, 341, .inl f_t_rows)), (a_t_firsts, .inl (Y.1, 341, .inl f_t_firsts)), (a_t_firstOfRank, .inl (Y.1, 5040, .inl f_t_firstOfRank)), (a_p1, .inr (6, [.int v_p1_bells, .int v_p1_changes, .int v_p1_bob, .int v_p1_single, .int v_p1_leads, .ref a_p1_places, .ref a_p1_kinds])), (a_p1_places, .inl (Y.1, 20, .inl f_p1_places)), (a_p1_kinds, .inl (Y.1, 17, .inl f_p1_kinds))] → va_S A s.heap H locs → lv_has ls 6 [(0, .ref a_t), (1, .ref a_p1), (2, .int s2), (3, .int s3), (4, .int s4), (5, .int s5)] → (∀ (y_s2 : Int32) (y_s5 : Int32) (y_v_t_last : Int32) (y_f_t_rows : Nat → Int32) (H : Heap) (locs : List Loc) (ls : Array Slot), k y_s2 y_s5 y_v_t_last y_f_t_rows = some R → va_P D vwCl [(a_t, .inr (4, [.ref a_t_rows, .ref a_t_firsts, .ref a_t_firstOfRank, .int v_t_bells, .int v_t_changes, .int v_t_leads, .int y_v_t_last])), (a_t_rows, .inl (Y.1, 341, .inl y_f_t_rows)), (a_t_firsts, .inl (Y.1, 341, .inl f_t_firsts)), (a_t_firstOfRank, .inl (Y.1, 5040, .inl f_t_firstOfRank)), (a_p1, .inr (6, [.int v_p1_bells, .int v_p1_changes, .int v_p1_bob, .int v_p1_single, .int v_p1_leads, .ref a_p1_places, .ref a_p1_kinds])), (a_p1_places, .inl (Y.1, 20, .inl f_p1_places)), (a_p1_kinds, .inl (Y.1, 17, .inl f_p1_kinds))] H → va_D A [(a_t, .inr (4, [.ref a_t_rows, .ref a_t_firsts, .ref a_t_firstOfRank, .int v_t_bells, .int v_t_changes, .int v_t_leads, .int y_v_t_last])), (a_t_rows, .inl (Y.1, 341, .inl y_f_t_rows)), (a_t_firsts, .inl (Y.1, 341, .inl f_t_firsts)), (a_t_firstOfRank, .inl (Y.1, 5040, .inl f_t_firstOfRank)), (a_p1, .inr (6, [.int v_p1_bells, .int v_p1_changes, .int v_p1_bob, .int v_p1_single, .int v_p1_leads, .ref a_p1_places, .ref a_p1_kinds])), (a_p1_places, .inl (Y.1, 20, .inl f_p1_places)), (a_p1_kinds, .inl (Y.1, 17, .inl f_p1_kinds))] → va_S A s.heap H locs → lv_has ls 6 [(0, .ref a_t), (1, .ref a_p1), (2, .int y_s2), (3, .int s3)] → W p l e rm_X5_ring s m args below meth c H locs 0 0 Q (F0 m 101 ls [])) → W p l e rm_X5_ring s m args below meth c H locs 0 0 Q (F0 m 64 ls []) := by
    intro n
    induction n with
    | zero =>
      intro k s3 s4 v_t_bells v_t_changes v_t_leads f_t_firsts f_t_firstOfRank s2 s5 v_t_last f_t_rows H locs ls hf
      cases hf
    | succ n ih =>
      intro k s3 s4 v_t_bells v_t_changes v_t_leads f_t_firsts f_t_firstOfRank s2 s5 v_t_last f_t_rows H locs ls hf hP hD hS hl hk
      unfold f_X5_ring_L64 at hf
      refine lv_iload hx hb dX5_ring_64 (lv_at hl 5 rfl) ?_
      refine lv_aload_n hx hb dX5_ring_66 rfl (lv_at hl 0 rfl) ?_
      refine va_get (D := D) (ci := 4) (v := .int v_t_changes) (C := RX5) (T := TX5) (N := 7) hx hb hts inX5 hown hE.1 hP 0 rfl rfl 4 (by decide) (hts _ qw151) (fun _ h9 => h9) rfl dX5_ring_67 ?_
      refine lv_icmp_ge (tgt := 101) hx hb dX5_ring_70 (by decide) (fun c6 => ?_) (fun c6 => ?_)
      · have hf := ite_t c6 hf
        exact hk _ _ _ _ _ _ _ hf hP hD hS (lv_sub hl [0, 1, 2, 3] rfl)
      have hf := ite_f c6 hf
      refine lv_iload_n hx hb dX5_ring_73 rfl (lv_at hl 2 rfl) ?_
      refine lv_aload_n hx hb dX5_ring_74 rfl (lv_at hl 1 rfl) ?_
      refine lv_iload hx hb dX5_ring_75 (lv_at hl 4 rfl) ?_
      refine lv_iload hx hb dX5_ring_77 (lv_at hl 5 rfl) ?_
      obtain ⟨q7, h8, hf⟩ := bd_s hf
      refine af_oi (run_V (As := [.int s4, .int s5]) (rest := [.int s2]) E (c_X9_placesMade l D Y a_p1 a_p1_places a_p1_kinds v_p1_bells v_p1_changes v_p1_bob v_p1_single v_p1_leads f_p1_places s4 s5 q7 h8) qw405 qw406 qw407 qw20 qw408 rfl rfl hd_X9_placesMade ⟨Nat.le_of_ble_eq_true rfl, Nat.le_of_ble_eq_true rfl⟩ (pre_roV hP hE [4, 5] rfl (ci := 6) (q0 := 4) rfl rfl) rfl hl.1 rfl (Nat.le_of_ble_eq_true rfl) dX5_ring_79 ⟨Nat.zero_le _, Nat.zero_le _⟩) ?_
      refine lv_aload_n hx hb dX5_ring_82 rfl (lv_at hl 0 rfl) ?_
      refine va_get (D := D) (ci := 4) (v := .int v_t_bells) (C := RX5) (T := TX5) (N := 7) hx hb hts inX5 hown hE.1 hP 0 rfl rfl 3 (by decide) (hts _ qw150) (fun _ h9 => h9) rfl dX5_ring_83 ?_
      obtain ⟨q9, h10, hf⟩ := bd_s hf
      refine af_oi (run_S (As := [.int s2, .int q7, .int v_t_bells]) (rest := []) E (c_X6_behindChange l D Y s2 q7 v_t_bells q9 h10) qw409 qw410 qw34 qw411 rfl rfl hd_X6_behindChange ⟨Nat.le_of_ble_eq_true rfl, Nat.le_of_ble_eq_true rfl⟩ (pre_roS hP hE [] rfl) rfl hl.1 rfl (Nat.le_of_ble_eq_true rfl) dX5_ring_86 ⟨Nat.zero_le _, Nat.zero_le _⟩) ?_
      refine lv_istore_n (lv' := [(2, .int q9), (0, .ref a_t), (1, .ref a_p1), (3, .int s3), (4, .int s4), (5, .int s5)]) hx hb dX5_ring_89 rfl hl (by decide) rfl (fun ls hl => ?_)
      refine lv_aload_n hx hb dX5_ring_90 rfl (lv_at hl 1 rfl) ?_
      refine lv_iload_n hx hb dX5_ring_91 rfl (lv_at hl 0 rfl) ?_
      obtain ⟨q11, h12, hf⟩ := bd_s hf
      refine af_v0 (wc := [(a_t, .inr (4, [.ref a_t_rows, .ref a_t_firsts, .ref a_t_firstOfRank, .int v_t_bells, .int v_t_changes, .int v_t_leads, .int v_t_last])), (a_t_rows, .inl (Y.1, 341, .inl f_t_rows))]) (wr := [(a_t_firsts, .inl (Y.1, 341, .inl f_t_firsts)), (a_t_firstOfRank, .inl (Y.1, 5040, .inl f_t_firstOfRank)), (a_p1, .inr (6, [.int v_p1_bells, .int v_p1_changes, .int v_p1_bob, .int v_p1_single, .int v_p1_leads, .ref a_p1_places, .ref a_p1_kinds])), (a_p1_places, .inl (Y.1, 20, .inl f_p1_places)), (a_p1_kinds, .inl (Y.1, 17, .inl f_p1_kinds))]) (wn := [(a_t, .inr (4, [.ref a_t_rows, .ref a_t_firsts, .ref a_t_firstOfRank, .int v_t_bells, .int v_t_changes, .int v_t_leads, .int q11.1])), (a_t_rows, .inl (Y.1, 341, .inl q11.2)), (a_t_firsts, .inl (Y.1, 341, .inl f_t_firsts)), (a_t_firstOfRank, .inl (Y.1, 5040, .inl f_t_firstOfRank)), (a_p1, .inr (6, [.int v_p1_bells, .int v_p1_changes, .int v_p1_bob, .int v_p1_single, .int v_p1_leads, .ref a_p1_places, .ref a_p1_kinds])), (a_p1_places, .inl (Y.1, 20, .inl f_p1_places)), (a_p1_kinds, .inl (Y.1, 17, .inl f_p1_kinds))]) (run_V (As := [.int q9]) (rest := []) E (c_X5_keep l D Y a_t a_t_rows a_t_firsts a_t_firstOfRank v_t_bells v_t_changes v_t_leads v_t_last f_t_rows q9 H.size q11 h12) qw419 qw421 qw9 qw24 qw422 rfl rfl hd_X5_keep ⟨Nat.le_of_ble_eq_true rfl, Nat.le_of_ble_eq_true rfl⟩ (pre_rwV hP hD hE [0, 1] rfl (by decide) rfl (ci := 4) (q0 := 0) rfl rfl) rfl hl.1 rfl (Nat.le_of_ble_eq_true rfl) dX5_ring_92 ⟨Nat.zero_le _, Nat.zero_le _⟩) hP hD hS hA [0, 1] [2, 3, 4, 5, 6] [5, 6, 0, 1, 2, 3, 4] rfl rfl (by decide) (by decide) rfl rfl (by decide) (fun H locs  hP hD hS => ?_)
      refine lv_iinc (v := (s5 + 1)) (lv' := [(5, .int (s5 + 1)), (2, .int q9), (0, .ref a_t), (1, .ref a_p1), (3, .int s3), (4, .int s4)]) hx hb dX5_ring_95 hl (k := 5) rfl rfl (by decide) rfl (fun ls hl => ?_)
      refine lv_goto (tgt := 64) hx hb dX5_ring_98 (by decide) ?_
      exact ih _ _ _ _ _ _ _ _ _ _ _ _ _ _ _ hf hP hD hS (lv_sub hl [2, 3, 1, 4, 5, 0] rfl) hk
  have L46 : ∀ (n : Nat) (k : Int32 → Int32 → Int32 → (Nat → Int32) → Option (Int32 × Int32 × Int32 × Int32 × (Nat → Int32) × (Nat → Int32) × (Nat → Int32))) (v_t_bells : Int32) (v_t_changes : Int32) (v_t_leads : Int32) (f_t_firsts : Nat → Int32) (f_t_firstOfRank : Nat → Int32) (s2 : Int32) (s3 : Int32) (v_t_last : Int32) (f_t_rows : Nat → Int32) (H : Heap) (locs : List Loc) (ls : Array Slot), f_X5_ring_L46 k v_t_bells v_t_changes v_t_leads f_t_firsts f_t_firstOfRank v_p1_bells v_p1_changes v_p1_bob v_p1_single v_p1_leads f_p1_places f_p1_kinds n s2 s3 v_t_last f_t_rows = some R → va_P D vwCl [(a_t, .inr (4, [.ref a_t_rows, .ref a_t_firsts, .ref a_t_firstOfRank, .int v_t_bells, .int v_t_changes, .int v_t_leads, .int v_t_last])), (a_t_rows, .inl (Y.1, 341, .inl f_t_rows)), (a_t_firsts, .inl (Y.1, 341, .inl f_t_firsts)), (a_t_firstOfRank, .inl (Y.1, 5040, .inl f_t_firstOfRank)), (a_p1, .inr (6, [.int v_p1_bells, .int v_p1_changes, .int v_p1_bob, .int v_p1_single, .int v_p1_leads, .ref a_p1_places, .ref a_p1_kinds])), (a_p1_places, .inl (Y.1, 20, .inl f_p1_places)), (a_p1_kinds, .inl (Y.1, 17, .inl f_p1_kinds))] H → va_D A [(a_t, .inr (4, [.ref a_t_rows, .ref a_t_firsts, .ref a_t_firstOfRank, .int v_t_bells, .int v_t_changes, .int v_t_leads, .int v_t_last])), (a_t_rows, .inl (Y.1, 341, .inl f_t_rows)), (a_t_firsts, .inl (Y.1, 341, .inl f_t_firsts)), (a_t_firstOfRank, .inl (Y.1, 5040, .inl f_t_firstOfRank)), (a_p1, .inr (6, [.int v_p1_bells, .int v_p1_changes, .int v_p1_bob, .int v_p1_single, .int v_p1_leads, .ref a_p1_places, .ref a_p1_kinds])), (a_p1_places, .inl (Y.1, 20, .inl f_p1_places)), (a_p1_kinds, .inl (Y.1, 17, .inl f_p1_kinds))] → va_S A s.heap H locs → lv_has ls 6 [(0, .ref a_t), (1, .ref a_p1), (2, .int s2), (3, .int s3)] → (∀ (y_s2 : Int32) (y_s3 : Int32) (y_v_t_last : Int32) (y_f_t_rows : Nat → Int32) (H : Heap) (locs : List Loc) (ls : Array Slot), k y_s2 y_s3 y_v_t_last y_f_t_rows = some R → va_P D vwCl [(a_t, .inr (4, [.ref a_t_rows, .ref a_t_firsts, .ref a_t_firstOfRank, .int v_t_bells, .int v_t_changes, .int v_t_leads, .int y_v_t_last])), (a_t_rows, .inl (Y.1, 341, .inl y_f_t_rows)), (a_t_firsts, .inl (Y.1, 341, .inl f_t_firsts)), (a_t_firstOfRank, .inl (Y.1, 5040, .inl f_t_firstOfRank)), (a_p1, .inr (6, [.int v_p1_bells, .int v_p1_changes, .int v_p1_bob, .int v_p1_single, .int v_p1_leads, .ref a_p1_places, .ref a_p1_kinds])), (a_p1_places, .inl (Y.1, 20, .inl f_p1_places)), (a_p1_kinds, .inl (Y.1, 17, .inl f_p1_kinds))] H → va_D A [(a_t, .inr (4, [.ref a_t_rows, .ref a_t_firsts, .ref a_t_firstOfRank, .int v_t_bells, .int v_t_changes, .int v_t_leads, .int y_v_t_last])), (a_t_rows, .inl (Y.1, 341, .inl y_f_t_rows)), (a_t_firsts, .inl (Y.1, 341, .inl f_t_firsts)), (a_t_firstOfRank, .inl (Y.1, 5040, .inl f_t_firstOfRank)), (a_p1, .inr (6, [.int v_p1_bells, .int v_p1_changes, .int v_p1_bob, .int v_p1_single, .int v_p1_leads, .ref a_p1_places, .ref a_p1_kinds])), (a_p1_places, .inl (Y.1, 20, .inl f_p1_places)), (a_p1_kinds, .inl (Y.1, 17, .inl f_p1_kinds))] → va_S A s.heap H locs → lv_has ls 6 [(0, .ref a_t)] → W p l e rm_X5_ring s m args below meth c H locs 0 0 Q (F0 m 107 ls [])) → W p l e rm_X5_ring s m args below meth c H locs 0 0 Q (F0 m 46 ls []) := by
    intro n
    induction n with
    | zero =>
      intro k v_t_bells v_t_changes v_t_leads f_t_firsts f_t_firstOfRank s2 s3 v_t_last f_t_rows H locs ls hf
      cases hf
    | succ n ih =>
      intro k v_t_bells v_t_changes v_t_leads f_t_firsts f_t_firstOfRank s2 s3 v_t_last f_t_rows H locs ls hf hP hD hS hl hk
      unfold f_X5_ring_L46 at hf
      refine lv_iload_n hx hb dX5_ring_46 rfl (lv_at hl 3 rfl) ?_
      refine lv_aload_n hx hb dX5_ring_47 rfl (lv_at hl 0 rfl) ?_
      refine va_get (D := D) (ci := 4) (v := .int v_t_leads) (C := RX5) (T := TX5) (N := 7) hx hb hts inX5 hown hE.1 hP 0 rfl rfl 5 (by decide) (hts _ qw152) (fun _ h9 => h9) rfl dX5_ring_48 ?_
      refine lv_icmp_ge (tgt := 107) hx hb dX5_ring_51 (by decide) (fun c3 => ?_) (fun c3 => ?_)
      · have hf := ite_t c3 hf
        exact hk _ _ _ _ _ _ _ hf hP hD hS (lv_sub hl [0] rfl)
      have hf := ite_f c3 hf
      refine lv_aload_n hx hb dX5_ring_54 rfl (lv_at hl 1 rfl) ?_
      refine lv_iload_n hx hb dX5_ring_55 rfl (lv_at hl 3 rfl) ?_
      obtain ⟨q4, h5, hf⟩ := bd_s hf
      refine af_oi (run_V (As := [.int s3]) (rest := []) E (c_X9_kindOfLead l D Y a_p1 a_p1_places a_p1_kinds v_p1_bells v_p1_changes v_p1_bob v_p1_single v_p1_leads f_p1_kinds s3 q4 h5) qw401 qw402 qw403 qw20 qw404 rfl rfl hd_X9_kindOfLead ⟨Nat.le_of_ble_eq_true rfl, Nat.le_of_ble_eq_true rfl⟩ (pre_roV hP hE [4, 6] rfl (ci := 6) (q0 := 4) rfl rfl) rfl hl.1 rfl (Nat.le_of_ble_eq_true rfl) dX5_ring_56 ⟨Nat.zero_le _, Nat.zero_le _⟩) ?_
      refine lv_istore (lv' := [(4, .int q4), (0, .ref a_t), (1, .ref a_p1), (2, .int s2), (3, .int s3)]) hx hb dX5_ring_59 hl (by decide) rfl (fun ls hl => ?_)
      refine lv_iconst (v := 0) hx hb dX5_ring_61 (by decide) ?_
      refine lv_istore (lv' := [(5, .int 0), (4, .int q4), (0, .ref a_t), (1, .ref a_p1), (2, .int s2), (3, .int s3)]) hx hb dX5_ring_62 hl (by decide) rfl (fun ls hl => ?_)
      refine L64 _ _ _ _ _ _ _ _ _ _ _ _ _ _ _ _ hf hP hD hS (lv_sub hl [2, 3, 4, 5, 1, 0] rfl) ?_
      intro y13 y14 y15 y16 H locs ls hf hP hD hS hl
      refine lv_iinc (v := (s3 + 1)) (lv' := [(3, .int (s3 + 1)), (0, .ref a_t), (1, .ref a_p1), (2, .int y13)]) hx hb dX5_ring_101 hl (k := 3) rfl rfl (by decide) rfl (fun ls hl => ?_)
      refine lv_goto (tgt := 46) hx hb dX5_ring_104 (by decide) ?_
      exact ih _ _ _ _ _ _ _ _ _ _ _ _ _ hf hP hD hS (lv_sub hl [1, 2, 3, 0] rfl) hk
  refine lv_aload_n hx hb dX5_ring_0 rfl (lv_at hl 0 rfl) ?_
  refine lv_aload_n hx hb dX5_ring_1 rfl (lv_at hl 1 rfl) ?_
  refine va_getN (D := D) (ci := 6) (v := .int v_p1_bells) (C := RX9) (T := TX9) (N := 7) hx hb hts inX9 hown hE.1 hP 4 rfl rfl 0 (by decide) (va_Nw.use rfl (hE.2.1 _ qw52)) (fun _ h9 => h9) rfl dX5_ring_2 ?_
  refine va_put (D := D) (ci := 4) (v := .int v_p1_bells) (ty := .int) (C := RX5) (T := TX5) (N := 7) hx hb hts inX5 tyX5 tyX5_ok nmX5 hown hE.1 hP hD hS 0 rfl rfl 3 (by decide) (hts _ qw150) (fun _ h9 => h9) rfl (tyX5_ok 3 (by decide)) rfl rfl (Nat.le_of_ble_eq_true rfl) dX5_ring_5 (fun H locs hP hD hS => ?_)
  have hP : va_P D vwCl [(a_t, .inr (4, [.ref a_t_rows, .ref a_t_firsts, .ref a_t_firstOfRank, .int v_p1_bells, .int v_t_changes, .int v_t_leads, .int v_t_last])), (a_t_rows, .inl (Y.1, 341, .inl f_t_rows)), (a_t_firsts, .inl (Y.1, 341, .inl f_t_firsts)), (a_t_firstOfRank, .inl (Y.1, 5040, .inl f_t_firstOfRank)), (a_p1, .inr (6, [.int v_p1_bells, .int v_p1_changes, .int v_p1_bob, .int v_p1_single, .int v_p1_leads, .ref a_p1_places, .ref a_p1_kinds])), (a_p1_places, .inl (Y.1, 20, .inl f_p1_places)), (a_p1_kinds, .inl (Y.1, 17, .inl f_p1_kinds))] H := hP
  have hD : va_D A [(a_t, .inr (4, [.ref a_t_rows, .ref a_t_firsts, .ref a_t_firstOfRank, .int v_p1_bells, .int v_t_changes, .int v_t_leads, .int v_t_last])), (a_t_rows, .inl (Y.1, 341, .inl f_t_rows)), (a_t_firsts, .inl (Y.1, 341, .inl f_t_firsts)), (a_t_firstOfRank, .inl (Y.1, 5040, .inl f_t_firstOfRank)), (a_p1, .inr (6, [.int v_p1_bells, .int v_p1_changes, .int v_p1_bob, .int v_p1_single, .int v_p1_leads, .ref a_p1_places, .ref a_p1_kinds])), (a_p1_places, .inl (Y.1, 20, .inl f_p1_places)), (a_p1_kinds, .inl (Y.1, 17, .inl f_p1_kinds))] := hD
  refine lv_aload_n hx hb dX5_ring_8 rfl (lv_at hl 0 rfl) ?_
  refine lv_aload_n hx hb dX5_ring_9 rfl (lv_at hl 1 rfl) ?_
  refine va_getN (D := D) (ci := 6) (v := .int v_p1_changes) (C := RX9) (T := TX9) (N := 7) hx hb hts inX9 hown hE.1 hP 4 rfl rfl 1 (by decide) (va_Nw.use rfl (hE.2.1 _ qw56)) (fun _ h9 => h9) rfl dX5_ring_10 ?_
  refine va_put (D := D) (ci := 4) (v := .int v_p1_changes) (ty := .int) (C := RX5) (T := TX5) (N := 7) hx hb hts inX5 tyX5 tyX5_ok nmX5 hown hE.1 hP hD hS 0 rfl rfl 4 (by decide) (hts _ qw151) (fun _ h9 => h9) rfl (tyX5_ok 4 (by decide)) rfl rfl (Nat.le_of_ble_eq_true rfl) dX5_ring_13 (fun H locs hP hD hS => ?_)
  have hP : va_P D vwCl [(a_t, .inr (4, [.ref a_t_rows, .ref a_t_firsts, .ref a_t_firstOfRank, .int v_p1_bells, .int v_p1_changes, .int v_t_leads, .int v_t_last])), (a_t_rows, .inl (Y.1, 341, .inl f_t_rows)), (a_t_firsts, .inl (Y.1, 341, .inl f_t_firsts)), (a_t_firstOfRank, .inl (Y.1, 5040, .inl f_t_firstOfRank)), (a_p1, .inr (6, [.int v_p1_bells, .int v_p1_changes, .int v_p1_bob, .int v_p1_single, .int v_p1_leads, .ref a_p1_places, .ref a_p1_kinds])), (a_p1_places, .inl (Y.1, 20, .inl f_p1_places)), (a_p1_kinds, .inl (Y.1, 17, .inl f_p1_kinds))] H := hP
  have hD : va_D A [(a_t, .inr (4, [.ref a_t_rows, .ref a_t_firsts, .ref a_t_firstOfRank, .int v_p1_bells, .int v_p1_changes, .int v_t_leads, .int v_t_last])), (a_t_rows, .inl (Y.1, 341, .inl f_t_rows)), (a_t_firsts, .inl (Y.1, 341, .inl f_t_firsts)), (a_t_firstOfRank, .inl (Y.1, 5040, .inl f_t_firstOfRank)), (a_p1, .inr (6, [.int v_p1_bells, .int v_p1_changes, .int v_p1_bob, .int v_p1_single, .int v_p1_leads, .ref a_p1_places, .ref a_p1_kinds])), (a_p1_places, .inl (Y.1, 20, .inl f_p1_places)), (a_p1_kinds, .inl (Y.1, 17, .inl f_p1_kinds))] := hD
  refine lv_aload_n hx hb dX5_ring_16 rfl (lv_at hl 0 rfl) ?_
  refine lv_aload_n hx hb dX5_ring_17 rfl (lv_at hl 1 rfl) ?_
  refine va_getN (D := D) (ci := 6) (v := .int v_p1_leads) (C := RX9) (T := TX9) (N := 7) hx hb hts inX9 hown hE.1 hP 4 rfl rfl 4 (by decide) (va_Nw.use rfl (hE.2.1 _ qw62)) (fun _ h9 => h9) rfl dX5_ring_18 ?_
  refine va_put (D := D) (ci := 4) (v := .int v_p1_leads) (ty := .int) (C := RX5) (T := TX5) (N := 7) hx hb hts inX5 tyX5 tyX5_ok nmX5 hown hE.1 hP hD hS 0 rfl rfl 5 (by decide) (hts _ qw152) (fun _ h9 => h9) rfl (tyX5_ok 5 (by decide)) rfl rfl (Nat.le_of_ble_eq_true rfl) dX5_ring_21 (fun H locs hP hD hS => ?_)
  have hP : va_P D vwCl [(a_t, .inr (4, [.ref a_t_rows, .ref a_t_firsts, .ref a_t_firstOfRank, .int v_p1_bells, .int v_p1_changes, .int v_p1_leads, .int v_t_last])), (a_t_rows, .inl (Y.1, 341, .inl f_t_rows)), (a_t_firsts, .inl (Y.1, 341, .inl f_t_firsts)), (a_t_firstOfRank, .inl (Y.1, 5040, .inl f_t_firstOfRank)), (a_p1, .inr (6, [.int v_p1_bells, .int v_p1_changes, .int v_p1_bob, .int v_p1_single, .int v_p1_leads, .ref a_p1_places, .ref a_p1_kinds])), (a_p1_places, .inl (Y.1, 20, .inl f_p1_places)), (a_p1_kinds, .inl (Y.1, 17, .inl f_p1_kinds))] H := hP
  have hD : va_D A [(a_t, .inr (4, [.ref a_t_rows, .ref a_t_firsts, .ref a_t_firstOfRank, .int v_p1_bells, .int v_p1_changes, .int v_p1_leads, .int v_t_last])), (a_t_rows, .inl (Y.1, 341, .inl f_t_rows)), (a_t_firsts, .inl (Y.1, 341, .inl f_t_firsts)), (a_t_firstOfRank, .inl (Y.1, 5040, .inl f_t_firstOfRank)), (a_p1, .inr (6, [.int v_p1_bells, .int v_p1_changes, .int v_p1_bob, .int v_p1_single, .int v_p1_leads, .ref a_p1_places, .ref a_p1_kinds])), (a_p1_places, .inl (Y.1, 20, .inl f_p1_places)), (a_p1_kinds, .inl (Y.1, 17, .inl f_p1_kinds))] := hD
  refine lv_aload_n hx hb dX5_ring_24 rfl (lv_at hl 0 rfl) ?_
  refine va_get (D := D) (ci := 4) (v := .int v_p1_bells) (C := RX5) (T := TX5) (N := 7) hx hb hts inX5 hown hE.1 hP 0 rfl rfl 3 (by decide) (hts _ qw150) (fun _ h9 => h9) rfl dX5_ring_25 ?_
  obtain ⟨q1, h2, hf⟩ := bd_s hf
  refine af_oi (run_S (As := [.int v_p1_bells]) (rest := []) E (c_X6_rounds l D Y v_p1_bells q1 h2) qw395 qw396 qw34 qw397 rfl rfl hd_X6_rounds ⟨Nat.le_of_ble_eq_true rfl, Nat.le_of_ble_eq_true rfl⟩ (pre_roS hP hE [] rfl) rfl hl.1 rfl (Nat.le_of_ble_eq_true rfl) dX5_ring_28 ⟨Nat.zero_le _, Nat.zero_le _⟩) ?_
  refine lv_istore_n (lv' := [(2, .int q1), (0, .ref a_t), (1, .ref a_p1)]) hx hb dX5_ring_31 rfl hl (by decide) rfl (fun ls hl => ?_)
  refine lv_aload_n hx hb dX5_ring_32 rfl (lv_at hl 1 rfl) ?_
  refine va_get (D := D) (ci := 4) (v := .ref a_t_rows) (C := RX5) (T := TX5) (N := 7) hx hb hts inX5 hown hE.1 hP 0 rfl rfl 0 (by decide) (hts _ qw147) (fun _ h9 => h9) rfl dX5_ring_33 ?_
  refine lv_iconst (v := 0) hx hb dX5_ring_36 (by decide) ?_
  refine lv_iload_n hx hb dX5_ring_37 rfl (lv_at hl 0 rfl) ?_
  refine va_iast hx hb hE.1 hP hD hS 1 0 rfl rfl (inb_in (by decide)) dX5_ring_38 (fun H locs hP hD hS => ?_)
  have hP : va_P D vwCl [(a_t, .inr (4, [.ref a_t_rows, .ref a_t_firsts, .ref a_t_firstOfRank, .int v_p1_bells, .int v_p1_changes, .int v_p1_leads, .int v_t_last])), (a_t_rows, .inl (Y.1, 341, .inl (upd f_t_rows (0 : Int32).toNatClampNeg q1))), (a_t_firsts, .inl (Y.1, 341, .inl f_t_firsts)), (a_t_firstOfRank, .inl (Y.1, 5040, .inl f_t_firstOfRank)), (a_p1, .inr (6, [.int v_p1_bells, .int v_p1_changes, .int v_p1_bob, .int v_p1_single, .int v_p1_leads, .ref a_p1_places, .ref a_p1_kinds])), (a_p1_places, .inl (Y.1, 20, .inl f_p1_places)), (a_p1_kinds, .inl (Y.1, 17, .inl f_p1_kinds))] H := hP
  have hD : va_D A [(a_t, .inr (4, [.ref a_t_rows, .ref a_t_firsts, .ref a_t_firstOfRank, .int v_p1_bells, .int v_p1_changes, .int v_p1_leads, .int v_t_last])), (a_t_rows, .inl (Y.1, 341, .inl (upd f_t_rows (0 : Int32).toNatClampNeg q1))), (a_t_firsts, .inl (Y.1, 341, .inl f_t_firsts)), (a_t_firstOfRank, .inl (Y.1, 5040, .inl f_t_firstOfRank)), (a_p1, .inr (6, [.int v_p1_bells, .int v_p1_changes, .int v_p1_bob, .int v_p1_single, .int v_p1_leads, .ref a_p1_places, .ref a_p1_kinds])), (a_p1_places, .inl (Y.1, 20, .inl f_p1_places)), (a_p1_kinds, .inl (Y.1, 17, .inl f_p1_kinds))] := hD
  refine lv_aload_n hx hb dX5_ring_39 rfl (lv_at hl 1 rfl) ?_
  refine lv_iconst (v := 0) hx hb dX5_ring_40 (by decide) ?_
  refine va_put (D := D) (ci := 4) (v := .int 0) (ty := .int) (C := RX5) (T := TX5) (N := 7) hx hb hts inX5 tyX5 tyX5_ok nmX5 hown hE.1 hP hD hS 0 rfl rfl 6 (by decide) (hts _ qw153) (fun _ h9 => h9) rfl (tyX5_ok 6 (by decide)) rfl rfl (Nat.le_of_ble_eq_true rfl) dX5_ring_41 (fun H locs hP hD hS => ?_)
  have hP : va_P D vwCl [(a_t, .inr (4, [.ref a_t_rows, .ref a_t_firsts, .ref a_t_firstOfRank, .int v_p1_bells, .int v_p1_changes, .int v_p1_leads, .int 0])), (a_t_rows, .inl (Y.1, 341, .inl (upd f_t_rows (0 : Int32).toNatClampNeg q1))), (a_t_firsts, .inl (Y.1, 341, .inl f_t_firsts)), (a_t_firstOfRank, .inl (Y.1, 5040, .inl f_t_firstOfRank)), (a_p1, .inr (6, [.int v_p1_bells, .int v_p1_changes, .int v_p1_bob, .int v_p1_single, .int v_p1_leads, .ref a_p1_places, .ref a_p1_kinds])), (a_p1_places, .inl (Y.1, 20, .inl f_p1_places)), (a_p1_kinds, .inl (Y.1, 17, .inl f_p1_kinds))] H := hP
  have hD : va_D A [(a_t, .inr (4, [.ref a_t_rows, .ref a_t_firsts, .ref a_t_firstOfRank, .int v_p1_bells, .int v_p1_changes, .int v_p1_leads, .int 0])), (a_t_rows, .inl (Y.1, 341, .inl (upd f_t_rows (0 : Int32).toNatClampNeg q1))), (a_t_firsts, .inl (Y.1, 341, .inl f_t_firsts)), (a_t_firstOfRank, .inl (Y.1, 5040, .inl f_t_firstOfRank)), (a_p1, .inr (6, [.int v_p1_bells, .int v_p1_changes, .int v_p1_bob, .int v_p1_single, .int v_p1_leads, .ref a_p1_places, .ref a_p1_kinds])), (a_p1_places, .inl (Y.1, 20, .inl f_p1_places)), (a_p1_kinds, .inl (Y.1, 17, .inl f_p1_kinds))] := hD
  refine lv_iconst (v := 0) hx hb dX5_ring_44 (by decide) ?_
  refine lv_istore_n (lv' := [(3, .int 0), (2, .int q1), (0, .ref a_t), (1, .ref a_p1)]) hx hb dX5_ring_45 rfl hl (by decide) rfl (fun ls hl => ?_)
  refine L46 _ _ _ _ _ _ _ _ _ _ _ _ _ _ hf hP hD hS (lv_sub hl [2, 3, 1, 0] rfl) ?_
  intro y17 y18 y19 y20 H locs ls hf hP hD hS hl
  refine lv_aload_n hx hb dX5_ring_107 rfl (lv_at hl 0 rfl) ?_
  obtain ⟨q21, h22, hf⟩ := bd_s hf
  refine af_v0 (wc := [(a_t, .inr (4, [.ref a_t_rows, .ref a_t_firsts, .ref a_t_firstOfRank, .int v_p1_bells, .int v_p1_changes, .int v_p1_leads, .int y19])), (a_t_rows, .inl (Y.1, 341, .inl y20)), (a_t_firsts, .inl (Y.1, 341, .inl f_t_firsts)), (a_t_firstOfRank, .inl (Y.1, 5040, .inl f_t_firstOfRank))]) (wr := [(a_p1, .inr (6, [.int v_p1_bells, .int v_p1_changes, .int v_p1_bob, .int v_p1_single, .int v_p1_leads, .ref a_p1_places, .ref a_p1_kinds])), (a_p1_places, .inl (Y.1, 20, .inl f_p1_places)), (a_p1_kinds, .inl (Y.1, 17, .inl f_p1_kinds))]) (wn := [(a_t, .inr (4, [.ref a_t_rows, .ref a_t_firsts, .ref a_t_firstOfRank, .int v_p1_bells, .int v_p1_changes, .int v_p1_leads, .int y19])), (a_t_rows, .inl (Y.1, 341, .inl y20)), (a_t_firsts, .inl (Y.1, 341, .inl q21.1)), (a_t_firstOfRank, .inl (Y.1, 5040, .inl q21.2)), (a_p1, .inr (6, [.int v_p1_bells, .int v_p1_changes, .int v_p1_bob, .int v_p1_single, .int v_p1_leads, .ref a_p1_places, .ref a_p1_kinds])), (a_p1_places, .inl (Y.1, 20, .inl f_p1_places)), (a_p1_kinds, .inl (Y.1, 17, .inl f_p1_kinds))]) (run_V (As := []) (rest := []) E (c_X5_findFirsts l D Y a_t a_t_rows a_t_firsts a_t_firstOfRank v_p1_bells v_p1_changes v_p1_leads y19 y20 f_t_firsts f_t_firstOfRank H.size q21 h22) qw423 qw425 qw10 qw24 qw426 rfl rfl hd_X5_findFirsts ⟨Nat.le_of_ble_eq_true rfl, Nat.le_of_ble_eq_true rfl⟩ (pre_rwV hP hD hE [0, 1, 2, 3] rfl (by decide) rfl (ci := 4) (q0 := 0) rfl rfl) rfl hl.1 rfl (Nat.le_of_ble_eq_true rfl) dX5_ring_108 ⟨Nat.zero_le _, Nat.zero_le _⟩) hP hD hS hA [0, 1, 2, 3] [4, 5, 6] [3, 4, 5, 6, 0, 1, 2] rfl rfl (by decide) (by decide) rfl rfl (by decide) (fun H locs  hP hD hS => ?_)
  obtain rfl := Option.some.inj hf
  subst hQ
  exact en_v hx hb hr hlocks hP hD hS dX5_ring_111

def f_X5_firstLike (s1 : Int32) (f_t_rows : Nat → Int32) (f_t_firsts : Nat → Int32) : Option (Int32) :=
  bd (f_X5_rowAt s1 f_t_rows) (fun q1 => (if q1 = (f_t_rows (0 : Int32).toNatClampNeg) then some 0 else (if s1 < 0 then some s1 else (if (341 : Int32) ≤ s1 then some s1 else gd (inb s1 341) (some (f_t_firsts s1.toNatClampNeg))))))
abbrev rm_X5_firstLike : Room := { frames := 2, cells := 0, slots := 0, locals := 45 }
set_option maxHeartbeats 4000000 in
set_option maxRecDepth 100000 in
theorem c_X5_firstLike (l : Launch) (D : va_G) (Y : ClassId × ClassId × ClassId × ClassId) (a_t a_t_rows a_t_firsts a_t_firstOfRank : Nat) (v_t_bells : Int32) (v_t_changes : Int32) (v_t_leads : Int32) (v_t_last : Int32) (f_t_rows : Nat → Int32) (f_t_firsts : Nat → Int32) (s1 : Int32) (R : Int32) (hf : f_X5_firstLike s1 f_t_rows f_t_firsts = some R) : Met l yX5_firstLike (ws_ yX5_firstLike cX5_firstLike 2 (some .int)) rm_X5_firstLike (va_Pc [.ref a_t, .int s1] (RO D Y [(a_t, .inr (4, [.ref a_t_rows, .ref a_t_firsts, .ref a_t_firstOfRank, .int v_t_bells, .int v_t_changes, .int v_t_leads, .int v_t_last])), (a_t_rows, .inl (Y.1, 341, .inl f_t_rows)), (a_t_firsts, .inl (Y.1, 341, .inl f_t_firsts))])) (OI R) 0 0 (fun _ => False) := by
  refine ro_start (by decide) (Nat.le_of_ble_eq_true rfl) ?_
  intro p e s m below meth c ls hx hb hml hr hlocks hown hts hP hE hl
  generalize hargs : List.toArray _ = args at hts ⊢
  have hown : s.vm.findClass RX5 = some m.cls := hown
  have E : EN p m c cX5_firstLike 2 s args RX5 := ⟨hx, hb, hml, hown, hts⟩
  have hl : lv_has ls 2 [(0, .ref a_t), (1, .int s1)] := hl
  generalize hQ : MQ below _ args s 0 0 _ = Q
  unfold f_X5_firstLike at hf
  refine lv_aload_n hx hb dX5_firstLike_0 rfl (lv_at hl 0 rfl) ?_
  refine lv_iload_n hx hb dX5_firstLike_1 rfl (lv_at hl 1 rfl) ?_
  obtain ⟨q1, h2, hf⟩ := bd_s hf
  refine af_oi (run_V (As := [.int s1]) (rest := []) E (c_X5_rowAt l D Y a_t a_t_rows a_t_firsts a_t_firstOfRank v_t_bells v_t_changes v_t_leads v_t_last f_t_rows s1 q1 h2) qw427 qw428 qw429 qw24 qw430 rfl rfl hd_X5_rowAt ⟨Nat.le_of_ble_eq_true rfl, Nat.le_of_ble_eq_true rfl⟩ (pre_roV hP hE [0, 1] rfl (ci := 4) (q0 := 0) rfl rfl) rfl hl.1 rfl (Nat.le_of_ble_eq_true rfl) dX5_firstLike_2 ⟨Nat.zero_le _, Nat.zero_le _⟩) ?_
  refine lv_aload_n hx hb dX5_firstLike_5 rfl (lv_at hl 0 rfl) ?_
  refine va_get (D := D) (ci := 4) (v := .ref a_t_rows) (C := RX5) (T := TX5) (N := 7) hx hb hts inX5 hown hE.1 hP 0 rfl rfl 0 (by decide) (hts _ qw147) (fun _ h9 => h9) rfl dX5_firstLike_6 ?_
  refine lv_iconst (v := 0) hx hb dX5_firstLike_9 (by decide) ?_
  refine va_iald hx hb hE.1 hP 1 0 rfl rfl (inb_in (by decide)) dX5_firstLike_10 ?_
  refine lv_icmp_ne (tgt := 16) hx hb dX5_firstLike_11 (by decide) (fun c3 => ?_) (fun c3 => ?_)
  · have hf := ite_f c3 hf
    refine lv_iload_n hx hb dX5_firstLike_16 rfl (lv_at hl 1 rfl) ?_
    refine lv_if_lt (tgt := 38) hx hb dX5_firstLike_17 (by decide) (fun c4 => ?_) (fun c4 => ?_)
    · have hf := ite_t c4 hf
      refine lv_iload_n hx hb dX5_firstLike_38 rfl (lv_at hl 1 rfl) ?_
      obtain rfl := Option.some.inj hf
      subst hQ
      exact en_oi hx hb hr hlocks rfl dX5_firstLike_39
    have hf := ite_f c4 hf
    refine lv_iload_n hx hb dX5_firstLike_20 rfl (lv_at hl 1 rfl) ?_
    refine lv_aload_n hx hb dX5_firstLike_21 rfl (lv_at hl 0 rfl) ?_
    refine va_get (D := D) (ci := 4) (v := .ref a_t_firsts) (C := RX5) (T := TX5) (N := 7) hx hb hts inX5 hown hE.1 hP 0 rfl rfl 1 (by decide) (hts _ qw148) (fun _ h9 => h9) rfl dX5_firstLike_22 ?_
    refine va_alen (v := 341) hx hb hE.1 hP 2 0 rfl rfl rfl dX5_firstLike_25 ?_
    refine lv_icmp_ge (tgt := 38) hx hb dX5_firstLike_26 (by decide) (fun c5 => ?_) (fun c5 => ?_)
    · have hf := ite_t c5 hf
      refine lv_iload_n hx hb dX5_firstLike_38 rfl (lv_at hl 1 rfl) ?_
      obtain rfl := Option.some.inj hf
      subst hQ
      exact en_oi hx hb hr hlocks rfl dX5_firstLike_39
    have hf := ite_f c5 hf
    refine lv_aload_n hx hb dX5_firstLike_29 rfl (lv_at hl 0 rfl) ?_
    refine va_get (D := D) (ci := 4) (v := .ref a_t_firsts) (C := RX5) (T := TX5) (N := 7) hx hb hts inX5 hown hE.1 hP 0 rfl rfl 1 (by decide) (hts _ qw148) (fun _ h9 => h9) rfl dX5_firstLike_30 ?_
    refine lv_iload_n hx hb dX5_firstLike_33 rfl (lv_at hl 1 rfl) ?_
    obtain ⟨g6, hf⟩ := gd_s hf
    refine va_iald hx hb hE.1 hP 2 0 rfl rfl (inb_in g6) dX5_firstLike_34 ?_
    refine lv_goto (tgt := 39) hx hb dX5_firstLike_35 (by decide) ?_
    obtain rfl := Option.some.inj hf
    subst hQ
    exact en_oi hx hb hr hlocks rfl dX5_firstLike_39
  have hf := ite_t c3 hf
  refine lv_iconst (v := 0) hx hb dX5_firstLike_14 (by decide) ?_
  obtain rfl := Option.some.inj hf
  subst hQ
  exact en_oi hx hb hr hlocks rfl dX5_firstLike_15

def f_X5_placeIn (s1 : Int32) (s2 : Int32) (v_t_bells : Int32) (f_t_rows : Nat → Int32) : Option (Int32) :=
  bd (f_X5_rowAt s1 f_t_rows) (fun q1 => bd (f_X6_placeOf q1 s2 v_t_bells) (fun q3 => some q3))
abbrev rm_X5_placeIn : Room := { frames := 3, cells := 0, slots := 0, locals := 68 }
set_option maxHeartbeats 4000000 in
set_option maxRecDepth 100000 in
theorem c_X5_placeIn (l : Launch) (D : va_G) (Y : ClassId × ClassId × ClassId × ClassId) (a_t a_t_rows a_t_firsts a_t_firstOfRank : Nat) (v_t_bells : Int32) (v_t_changes : Int32) (v_t_leads : Int32) (v_t_last : Int32) (f_t_rows : Nat → Int32) (s1 : Int32) (s2 : Int32) (R : Int32) (hf : f_X5_placeIn s1 s2 v_t_bells f_t_rows = some R) : Met l yX5_placeIn (ws_ yX5_placeIn cX5_placeIn 3 (some .int)) rm_X5_placeIn (va_Pc [.ref a_t, .int s1, .int s2] (RO D Y [(a_t, .inr (4, [.ref a_t_rows, .ref a_t_firsts, .ref a_t_firstOfRank, .int v_t_bells, .int v_t_changes, .int v_t_leads, .int v_t_last])), (a_t_rows, .inl (Y.1, 341, .inl f_t_rows))])) (OI R) 0 0 (fun _ => False) := by
  refine ro_start (by decide) (Nat.le_of_ble_eq_true rfl) ?_
  intro p e s m below meth c ls hx hb hml hr hlocks hown hts hP hE hl
  generalize hargs : List.toArray _ = args at hts ⊢
  have hown : s.vm.findClass RX5 = some m.cls := hown
  have E : EN p m c cX5_placeIn 3 s args RX5 := ⟨hx, hb, hml, hown, hts⟩
  have hl : lv_has ls 3 [(0, .ref a_t), (1, .int s1), (2, .int s2)] := hl
  generalize hQ : MQ below _ args s 0 0 _ = Q
  unfold f_X5_placeIn at hf
  refine lv_aload_n hx hb dX5_placeIn_0 rfl (lv_at hl 0 rfl) ?_
  refine lv_iload_n hx hb dX5_placeIn_1 rfl (lv_at hl 1 rfl) ?_
  obtain ⟨q1, h2, hf⟩ := bd_s hf
  refine af_oi (run_V (As := [.int s1]) (rest := []) E (c_X5_rowAt l D Y a_t a_t_rows a_t_firsts a_t_firstOfRank v_t_bells v_t_changes v_t_leads v_t_last f_t_rows s1 q1 h2) qw427 qw428 qw429 qw24 qw430 rfl rfl hd_X5_rowAt ⟨Nat.le_of_ble_eq_true rfl, Nat.le_of_ble_eq_true rfl⟩ (pre_roV hP hE [0, 1] rfl (ci := 4) (q0 := 0) rfl rfl) rfl hl.1 rfl (Nat.le_of_ble_eq_true rfl) dX5_placeIn_2 ⟨Nat.zero_le _, Nat.zero_le _⟩) ?_
  refine lv_iload_n hx hb dX5_placeIn_5 rfl (lv_at hl 2 rfl) ?_
  refine lv_aload_n hx hb dX5_placeIn_6 rfl (lv_at hl 0 rfl) ?_
  refine va_get (D := D) (ci := 4) (v := .int v_t_bells) (C := RX5) (T := TX5) (N := 7) hx hb hts inX5 hown hE.1 hP 0 rfl rfl 3 (by decide) (hts _ qw150) (fun _ h9 => h9) rfl dX5_placeIn_7 ?_
  obtain ⟨q3, h4, hf⟩ := bd_s hf
  refine af_oi (run_S (As := [.int q1, .int s2, .int v_t_bells]) (rest := []) E (c_X6_placeOf l D Y q1 s2 v_t_bells q3 h4) qw605 qw606 qw34 qw607 rfl rfl hd_X6_placeOf ⟨Nat.le_of_ble_eq_true rfl, Nat.le_of_ble_eq_true rfl⟩ (pre_roS hP hE [] rfl) rfl hl.1 rfl (Nat.le_of_ble_eq_true rfl) dX5_placeIn_10 ⟨Nat.zero_le _, Nat.zero_le _⟩) ?_
  obtain rfl := Option.some.inj hf
  subst hQ
  exact en_oi hx hb hr hlocks rfl dX5_placeIn_13

def f_X5_stays_L4 (s1 : Int32) (v_t_bells : Int32) (v_t_last : Int32) (f_t_rows : Nat → Int32) : Nat → Int32 → Int32 → Option (Int32)
  | 0, _, _ => none
  | n + 1, s2, s3 => (if v_t_last < s3 then some s2 else bd (f_X5_placeIn s3 s1 v_t_bells f_t_rows) (fun q2 => bd (f_X5_placeIn (s3 - 1) s1 v_t_bells f_t_rows) (fun q4 => nm (if q2 = q4 then (s2 + 1) else s2) (fun (w6 : Int32) => (f_X5_stays_L4 s1 v_t_bells v_t_last f_t_rows n w6 (s3 + 1))))))
def f_X5_stays (s1 : Int32) (v_t_bells : Int32) (v_t_last : Int32) (f_t_rows : Nat → Int32) : Option (Int32) :=
  (f_X5_stays_L4 s1 v_t_bells v_t_last f_t_rows fu 0 1)
abbrev rm_X5_stays : Room := { frames := 4, cells := 0, slots := 0, locals := 90 }
set_option maxHeartbeats 4000000 in
set_option maxRecDepth 100000 in
theorem c_X5_stays (l : Launch) (D : va_G) (Y : ClassId × ClassId × ClassId × ClassId) (a_t a_t_rows a_t_firsts a_t_firstOfRank : Nat) (v_t_bells : Int32) (v_t_changes : Int32) (v_t_leads : Int32) (v_t_last : Int32) (f_t_rows : Nat → Int32) (s1 : Int32) (R : Int32) (hf : f_X5_stays s1 v_t_bells v_t_last f_t_rows = some R) : Met l yX5_stays (ws_ yX5_stays cX5_stays 4 (some .int)) rm_X5_stays (va_Pc [.ref a_t, .int s1] (RO D Y [(a_t, .inr (4, [.ref a_t_rows, .ref a_t_firsts, .ref a_t_firstOfRank, .int v_t_bells, .int v_t_changes, .int v_t_leads, .int v_t_last])), (a_t_rows, .inl (Y.1, 341, .inl f_t_rows))])) (OI R) 0 0 (fun _ => False) := by
  refine ro_start (by decide) (Nat.le_of_ble_eq_true rfl) ?_
  intro p e s m below meth c ls hx hb hml hr hlocks hown hts hP hE hl
  generalize hargs : List.toArray _ = args at hts ⊢
  have hown : s.vm.findClass RX5 = some m.cls := hown
  have E : EN p m c cX5_stays 4 s args RX5 := ⟨hx, hb, hml, hown, hts⟩
  have hl : lv_has ls 4 [(0, .ref a_t), (1, .int s1)] := hl
  generalize hQ : MQ below _ args s 0 0 _ = Q
  unfold f_X5_stays at hf
  have L4 : ∀ (n : Nat) (s1 : Int32) (s2 : Int32) (s3 : Int32) (ls : Array Slot), f_X5_stays_L4 s1 v_t_bells v_t_last f_t_rows n s2 s3 = some R → lv_has ls 4 [(0, .ref a_t), (1, .int s1), (2, .int s2), (3, .int s3)] → W p l e rm_X5_stays s m args below meth c s.heap [] 0 0 Q (F0 m 4 ls []) := by
    intro n
    induction n with
    | zero =>
      intro s1 s2 s3 ls hf
      cases hf
    | succ n ih =>
      intro s1 s2 s3 ls hf hl
      unfold f_X5_stays_L4 at hf
      refine lv_iload_n hx hb dX5_stays_4 rfl (lv_at hl 3 rfl) ?_
      refine lv_aload_n hx hb dX5_stays_5 rfl (lv_at hl 0 rfl) ?_
      refine va_get (D := D) (ci := 4) (v := .int v_t_last) (C := RX5) (T := TX5) (N := 7) hx hb hts inX5 hown hE.1 hP 0 rfl rfl 6 (by decide) (hts _ qw153) (fun _ h9 => h9) rfl dX5_stays_6 ?_
      refine lv_icmp_gt (tgt := 38) hx hb dX5_stays_9 (by decide) (fun c1 => ?_) (fun c1 => ?_)
      · have hf := ite_t c1 hf
        refine lv_iload_n hx hb dX5_stays_38 rfl (lv_at hl 2 rfl) ?_
        obtain rfl := Option.some.inj hf
        subst hQ
        exact en_oi hx hb hr hlocks rfl dX5_stays_39
      have hf := ite_f c1 hf
      refine lv_aload_n hx hb dX5_stays_12 rfl (lv_at hl 0 rfl) ?_
      refine lv_iload_n hx hb dX5_stays_13 rfl (lv_at hl 3 rfl) ?_
      refine lv_iload_n hx hb dX5_stays_14 rfl (lv_at hl 1 rfl) ?_
      obtain ⟨q2, h3, hf⟩ := bd_s hf
      refine af_oi (run_V (As := [.int s3, .int s1]) (rest := []) E (c_X5_placeIn l D Y a_t a_t_rows a_t_firsts a_t_firstOfRank v_t_bells v_t_changes v_t_leads v_t_last f_t_rows s3 s1 q2 h3) qw601 qw602 qw603 qw24 qw604 rfl rfl hd_X5_placeIn ⟨Nat.le_of_ble_eq_true rfl, Nat.le_of_ble_eq_true rfl⟩ (pre_roV hP hE [0, 1] rfl (ci := 4) (q0 := 0) rfl rfl) rfl hl.1 rfl (Nat.le_of_ble_eq_true rfl) dX5_stays_15 ⟨Nat.zero_le _, Nat.zero_le _⟩) ?_
      refine lv_aload_n hx hb dX5_stays_18 rfl (lv_at hl 0 rfl) ?_
      refine lv_iload_n hx hb dX5_stays_19 rfl (lv_at hl 3 rfl) ?_
      refine lv_iconst (v := 1) hx hb dX5_stays_20 (by decide) ?_
      refine lv_isub hx hb dX5_stays_21 ?_
      refine lv_iload_n hx hb dX5_stays_22 rfl (lv_at hl 1 rfl) ?_
      obtain ⟨q4, h5, hf⟩ := bd_s hf
      refine af_oi (run_V (As := [.int (s3 - 1), .int s1]) (rest := [.int q2]) E (c_X5_placeIn l D Y a_t a_t_rows a_t_firsts a_t_firstOfRank v_t_bells v_t_changes v_t_leads v_t_last f_t_rows (s3 - 1) s1 q4 h5) qw601 qw602 qw603 qw24 qw604 rfl rfl hd_X5_placeIn ⟨Nat.le_of_ble_eq_true rfl, Nat.le_of_ble_eq_true rfl⟩ (pre_roV hP hE [0, 1] rfl (ci := 4) (q0 := 0) rfl rfl) rfl hl.1 rfl (Nat.le_of_ble_eq_true rfl) dX5_stays_23 ⟨Nat.zero_le _, Nat.zero_le _⟩) ?_
      refine mg (P := fun (w6 : Int32) => ∀ (ls : Array Slot), lv_has ls 4 [(0, .ref a_t), (1, .int s1), (2, .int w6), (3, .int s3)] → W p l e rm_X5_stays s m args below meth c s.heap [] 0 0 Q (F0 m 32 ls [])) hf (fun w6 hf ls hl => ?_) (fun hJ => ?_)
      · refine lv_iinc (v := (s3 + 1)) (lv' := [(3, .int (s3 + 1)), (0, .ref a_t), (1, .int s1), (2, .int w6)]) hx hb dX5_stays_32 hl (k := 3) rfl rfl (by decide) rfl (fun ls hl => ?_)
        refine lv_goto (tgt := 4) hx hb dX5_stays_35 (by decide) ?_
        exact ih _ _ _ _ hf (lv_sub hl [1, 2, 3, 0] rfl)
      refine lv_icmp_ne (tgt := 32) hx hb dX5_stays_26 (by decide) (fun c7 => ?_) (fun c7 => ?_)
      · have hf := nmi_f c7 hf
        exact hJ _ (nm_b hf) _ (lv_sub hl [0, 1, 2, 3] rfl)
      have hf := nmi_t c7 hf
      refine lv_iinc (v := (s2 + 1)) (lv' := [(2, .int (s2 + 1)), (0, .ref a_t), (1, .int s1), (3, .int s3)]) hx hb dX5_stays_29 hl (k := 2) rfl rfl (by decide) rfl (fun ls hl => ?_)
      exact hJ _ (nm_b hf) _ (lv_sub hl [1, 2, 0, 3] rfl)
  refine lv_iconst (v := 0) hx hb dX5_stays_0 (by decide) ?_
  refine lv_istore_n (lv' := [(2, .int 0), (0, .ref a_t), (1, .int s1)]) hx hb dX5_stays_1 rfl hl (by decide) rfl (fun ls hl => ?_)
  refine lv_iconst (v := 1) hx hb dX5_stays_2 (by decide) ?_
  refine lv_istore_n (lv' := [(3, .int 1), (2, .int 0), (0, .ref a_t), (1, .int s1)]) hx hb dX5_stays_3 rfl hl (by decide) rfl (fun ls hl => ?_)
  exact L4 _ _ _ _ _ hf (lv_sub hl [2, 3, 1, 0] rfl)

def f_X5_blowsAt_L5 (s1 : Int32) (s2 : Int32) (v_t_last : Int32) (f_t_rows : Nat → Int32) : Nat → Int32 → Int32 → Option (Int32)
  | 0, _, _ => none
  | n + 1, s3, s4 => (if v_t_last < s4 then some s3 else bd (f_X5_rowAt s4 f_t_rows) (fun q2 => nm (if (f_X6_bellAt q2 s2) = s1 then (s3 + 1) else s3) (fun (w4 : Int32) => (f_X5_blowsAt_L5 s1 s2 v_t_last f_t_rows n w4 (s4 + 1)))))
def f_X5_blowsAt (s1 : Int32) (s2 : Int32) (v_t_last : Int32) (f_t_rows : Nat → Int32) : Option (Int32) :=
  (f_X5_blowsAt_L5 s1 s2 v_t_last f_t_rows fu 0 1)
abbrev rm_X5_blowsAt : Room := { frames := 2, cells := 0, slots := 0, locals := 45 }
set_option maxHeartbeats 4000000 in
set_option maxRecDepth 100000 in
theorem c_X5_blowsAt (l : Launch) (D : va_G) (Y : ClassId × ClassId × ClassId × ClassId) (a_t a_t_rows a_t_firsts a_t_firstOfRank : Nat) (v_t_bells : Int32) (v_t_changes : Int32) (v_t_leads : Int32) (v_t_last : Int32) (f_t_rows : Nat → Int32) (s1 : Int32) (s2 : Int32) (R : Int32) (hf : f_X5_blowsAt s1 s2 v_t_last f_t_rows = some R) : Met l yX5_blowsAt (ws_ yX5_blowsAt cX5_blowsAt 5 (some .int)) rm_X5_blowsAt (va_Pc [.ref a_t, .int s1, .int s2] (RO D Y [(a_t, .inr (4, [.ref a_t_rows, .ref a_t_firsts, .ref a_t_firstOfRank, .int v_t_bells, .int v_t_changes, .int v_t_leads, .int v_t_last])), (a_t_rows, .inl (Y.1, 341, .inl f_t_rows))])) (OI R) 0 0 (fun _ => False) := by
  refine ro_start (by decide) (Nat.le_of_ble_eq_true rfl) ?_
  intro p e s m below meth c ls hx hb hml hr hlocks hown hts hP hE hl
  generalize hargs : List.toArray _ = args at hts ⊢
  have hown : s.vm.findClass RX5 = some m.cls := hown
  have E : EN p m c cX5_blowsAt 5 s args RX5 := ⟨hx, hb, hml, hown, hts⟩
  have hl : lv_has ls 5 [(0, .ref a_t), (1, .int s1), (2, .int s2)] := hl
  generalize hQ : MQ below _ args s 0 0 _ = Q
  unfold f_X5_blowsAt at hf
  have L5 : ∀ (n : Nat) (s1 : Int32) (s2 : Int32) (s3 : Int32) (s4 : Int32) (ls : Array Slot), f_X5_blowsAt_L5 s1 s2 v_t_last f_t_rows n s3 s4 = some R → lv_has ls 5 [(0, .ref a_t), (1, .int s1), (2, .int s2), (3, .int s3), (4, .int s4)] → W p l e rm_X5_blowsAt s m args below meth c s.heap [] 0 0 Q (F0 m 5 ls []) := by
    intro n
    induction n with
    | zero =>
      intro s1 s2 s3 s4 ls hf
      cases hf
    | succ n ih =>
      intro s1 s2 s3 s4 ls hf hl
      unfold f_X5_blowsAt_L5 at hf
      refine lv_iload hx hb dX5_blowsAt_5 (lv_at hl 4 rfl) ?_
      refine lv_aload_n hx hb dX5_blowsAt_7 rfl (lv_at hl 0 rfl) ?_
      refine va_get (D := D) (ci := 4) (v := .int v_t_last) (C := RX5) (T := TX5) (N := 7) hx hb hts inX5 hown hE.1 hP 0 rfl rfl 6 (by decide) (hts _ qw153) (fun _ h9 => h9) rfl dX5_blowsAt_8 ?_
      refine lv_icmp_gt (tgt := 37) hx hb dX5_blowsAt_11 (by decide) (fun c1 => ?_) (fun c1 => ?_)
      · have hf := ite_t c1 hf
        refine lv_iload_n hx hb dX5_blowsAt_37 rfl (lv_at hl 3 rfl) ?_
        obtain rfl := Option.some.inj hf
        subst hQ
        exact en_oi hx hb hr hlocks rfl dX5_blowsAt_38
      have hf := ite_f c1 hf
      refine lv_aload_n hx hb dX5_blowsAt_14 rfl (lv_at hl 0 rfl) ?_
      refine lv_iload hx hb dX5_blowsAt_15 (lv_at hl 4 rfl) ?_
      obtain ⟨q2, h3, hf⟩ := bd_s hf
      refine af_oi (run_V (As := [.int s4]) (rest := []) E (c_X5_rowAt l D Y a_t a_t_rows a_t_firsts a_t_firstOfRank v_t_bells v_t_changes v_t_leads v_t_last f_t_rows s4 q2 h3) qw427 qw428 qw429 qw24 qw430 rfl rfl hd_X5_rowAt ⟨Nat.le_of_ble_eq_true rfl, Nat.le_of_ble_eq_true rfl⟩ (pre_roV hP hE [0, 1] rfl (ci := 4) (q0 := 0) rfl rfl) rfl hl.1 rfl (Nat.le_of_ble_eq_true rfl) dX5_blowsAt_17 ⟨Nat.zero_le _, Nat.zero_le _⟩) ?_
      refine lv_iload_n hx hb dX5_blowsAt_20 rfl (lv_at hl 2 rfl) ?_
      refine af_oi (run_S (As := [.int q2, .int s2]) (rest := []) E (c_X6_bellAt l D Y q2 s2 (f_X6_bellAt q2 s2) rfl) qw616 qw417 qw34 qw418 rfl rfl hd_X6_bellAt ⟨Nat.le_of_ble_eq_true rfl, Nat.le_of_ble_eq_true rfl⟩ (pre_roS hP hE [] rfl) rfl hl.1 rfl (Nat.le_of_ble_eq_true rfl) dX5_blowsAt_21 ⟨Nat.zero_le _, Nat.zero_le _⟩) ?_
      refine lv_iload_n hx hb dX5_blowsAt_24 rfl (lv_at hl 1 rfl) ?_
      refine mg (P := fun (w4 : Int32) => ∀ (ls : Array Slot), lv_has ls 5 [(0, .ref a_t), (1, .int s1), (2, .int s2), (3, .int w4), (4, .int s4)] → W p l e rm_X5_blowsAt s m args below meth c s.heap [] 0 0 Q (F0 m 31 ls [])) hf (fun w4 hf ls hl => ?_) (fun hJ => ?_)
      · refine lv_iinc (v := (s4 + 1)) (lv' := [(4, .int (s4 + 1)), (0, .ref a_t), (1, .int s1), (2, .int s2), (3, .int w4)]) hx hb dX5_blowsAt_31 hl (k := 4) rfl rfl (by decide) rfl (fun ls hl => ?_)
        refine lv_goto (tgt := 5) hx hb dX5_blowsAt_34 (by decide) ?_
        exact ih _ _ _ _ _ hf (lv_sub hl [1, 2, 3, 4, 0] rfl)
      refine lv_icmp_ne (tgt := 31) hx hb dX5_blowsAt_25 (by decide) (fun c5 => ?_) (fun c5 => ?_)
      · have hf := nmi_f c5 hf
        exact hJ _ (nm_b hf) _ (lv_sub hl [0, 1, 2, 3, 4] rfl)
      have hf := nmi_t c5 hf
      refine lv_iinc (v := (s3 + 1)) (lv' := [(3, .int (s3 + 1)), (0, .ref a_t), (1, .int s1), (2, .int s2), (4, .int s4)]) hx hb dX5_blowsAt_28 hl (k := 3) rfl rfl (by decide) rfl (fun ls hl => ?_)
      exact hJ _ (nm_b hf) _ (lv_sub hl [1, 2, 3, 0, 4] rfl)
  refine lv_iconst (v := 0) hx hb dX5_blowsAt_0 (by decide) ?_
  refine lv_istore_n (lv' := [(3, .int 0), (0, .ref a_t), (1, .int s1), (2, .int s2)]) hx hb dX5_blowsAt_1 rfl hl (by decide) rfl (fun ls hl => ?_)
  refine lv_iconst (v := 1) hx hb dX5_blowsAt_2 (by decide) ?_
  refine lv_istore (lv' := [(4, .int 1), (3, .int 0), (0, .ref a_t), (1, .int s1), (2, .int s2)]) hx hb dX5_blowsAt_3 hl (by decide) rfl (fun ls hl => ?_)
  exact L5 _ _ _ _ _ _ hf (lv_sub hl [2, 3, 4, 1, 0] rfl)

def f_X5_dodgesAt (s1 : Int32) (s2 : Int32) (v_t_bells : Int32) (f_t_rows : Nat → Int32) : Option (Int32) :=
  bd (f_X5_placeIn s1 s2 v_t_bells f_t_rows) (fun q1 => bd (f_X5_placeIn (s1 + 1) s2 v_t_bells f_t_rows) (fun q3 => (if q1 = q3 then some 0 else bd (f_X5_placeIn (s1 + 2) s2 v_t_bells f_t_rows) (fun q6 => (if q6 = q1 then bd (f_X5_placeIn (s1 + 3) s2 v_t_bells f_t_rows) (fun q9 => (if q9 = q3 then some 1 else some 0)) else some 0)))))
abbrev rm_X5_dodgesAt : Room := { frames := 4, cells := 0, slots := 0, locals := 90 }
set_option maxHeartbeats 4000000 in
set_option maxRecDepth 100000 in
theorem c_X5_dodgesAt (l : Launch) (D : va_G) (Y : ClassId × ClassId × ClassId × ClassId) (a_t a_t_rows a_t_firsts a_t_firstOfRank : Nat) (v_t_bells : Int32) (v_t_changes : Int32) (v_t_leads : Int32) (v_t_last : Int32) (f_t_rows : Nat → Int32) (s1 : Int32) (s2 : Int32) (R : Int32) (hf : f_X5_dodgesAt s1 s2 v_t_bells f_t_rows = some R) : Met l yX5_dodgesAt (ws_ yX5_dodgesAt cX5_dodgesAt 5 (some .boolean)) rm_X5_dodgesAt (va_Pc [.ref a_t, .int s1, .int s2] (RO D Y [(a_t, .inr (4, [.ref a_t_rows, .ref a_t_firsts, .ref a_t_firstOfRank, .int v_t_bells, .int v_t_changes, .int v_t_leads, .int v_t_last])), (a_t_rows, .inl (Y.1, 341, .inl f_t_rows))])) (OZ R) 0 0 (fun _ => False) := by
  refine ro_start (by decide) (Nat.le_of_ble_eq_true rfl) ?_
  intro p e s m below meth c ls hx hb hml hr hlocks hown hts hP hE hl
  generalize hargs : List.toArray _ = args at hts ⊢
  have hown : s.vm.findClass RX5 = some m.cls := hown
  have E : EN p m c cX5_dodgesAt 5 s args RX5 := ⟨hx, hb, hml, hown, hts⟩
  have hl : lv_has ls 5 [(0, .ref a_t), (1, .int s1), (2, .int s2)] := hl
  generalize hQ : MQ below _ args s 0 0 _ = Q
  unfold f_X5_dodgesAt at hf
  refine lv_aload_n hx hb dX5_dodgesAt_0 rfl (lv_at hl 0 rfl) ?_
  refine lv_iload_n hx hb dX5_dodgesAt_1 rfl (lv_at hl 1 rfl) ?_
  refine lv_iload_n hx hb dX5_dodgesAt_2 rfl (lv_at hl 2 rfl) ?_
  obtain ⟨q1, h2, hf⟩ := bd_s hf
  refine af_oi (run_V (As := [.int s1, .int s2]) (rest := []) E (c_X5_placeIn l D Y a_t a_t_rows a_t_firsts a_t_firstOfRank v_t_bells v_t_changes v_t_leads v_t_last f_t_rows s1 s2 q1 h2) qw601 qw602 qw603 qw24 qw604 rfl rfl hd_X5_placeIn ⟨Nat.le_of_ble_eq_true rfl, Nat.le_of_ble_eq_true rfl⟩ (pre_roV hP hE [0, 1] rfl (ci := 4) (q0 := 0) rfl rfl) rfl hl.1 rfl (Nat.le_of_ble_eq_true rfl) dX5_dodgesAt_3 ⟨Nat.zero_le _, Nat.zero_le _⟩) ?_
  refine lv_istore_n (lv' := [(3, .int q1), (0, .ref a_t), (1, .int s1), (2, .int s2)]) hx hb dX5_dodgesAt_6 rfl hl (by decide) rfl (fun ls hl => ?_)
  refine lv_aload_n hx hb dX5_dodgesAt_7 rfl (lv_at hl 1 rfl) ?_
  refine lv_iload_n hx hb dX5_dodgesAt_8 rfl (lv_at hl 2 rfl) ?_
  refine lv_iconst (v := 1) hx hb dX5_dodgesAt_9 (by decide) ?_
  refine lv_iadd hx hb dX5_dodgesAt_10 ?_
  refine lv_iload_n hx hb dX5_dodgesAt_11 rfl (lv_at hl 3 rfl) ?_
  obtain ⟨q3, h4, hf⟩ := bd_s hf
  refine af_oi (run_V (As := [.int (s1 + 1), .int s2]) (rest := []) E (c_X5_placeIn l D Y a_t a_t_rows a_t_firsts a_t_firstOfRank v_t_bells v_t_changes v_t_leads v_t_last f_t_rows (s1 + 1) s2 q3 h4) qw601 qw602 qw603 qw24 qw604 rfl rfl hd_X5_placeIn ⟨Nat.le_of_ble_eq_true rfl, Nat.le_of_ble_eq_true rfl⟩ (pre_roV hP hE [0, 1] rfl (ci := 4) (q0 := 0) rfl rfl) rfl hl.1 rfl (Nat.le_of_ble_eq_true rfl) dX5_dodgesAt_12 ⟨Nat.zero_le _, Nat.zero_le _⟩) ?_
  refine lv_istore (lv' := [(4, .int q3), (3, .int q1), (0, .ref a_t), (1, .int s1), (2, .int s2)]) hx hb dX5_dodgesAt_15 hl (by decide) rfl (fun ls hl => ?_)
  refine lv_iload_n hx hb dX5_dodgesAt_17 rfl (lv_at hl 1 rfl) ?_
  refine lv_iload hx hb dX5_dodgesAt_18 (lv_at hl 0 rfl) ?_
  refine lv_icmp_eq (tgt := 52) hx hb dX5_dodgesAt_20 (by decide) (fun c5 => ?_) (fun c5 => ?_)
  · have hf := ite_t c5 hf
    refine lv_iconst (v := 0) hx hb dX5_dodgesAt_52 (by decide) ?_
    obtain rfl := Option.some.inj hf
    subst hQ
    exact en_oz hx hb hr hlocks rfl (Or.inl rfl) dX5_dodgesAt_53
  have hf := ite_f c5 hf
  refine lv_aload_n hx hb dX5_dodgesAt_23 rfl (lv_at hl 2 rfl) ?_
  refine lv_iload_n hx hb dX5_dodgesAt_24 rfl (lv_at hl 3 rfl) ?_
  refine lv_iconst (v := 2) hx hb dX5_dodgesAt_25 (by decide) ?_
  refine lv_iadd hx hb dX5_dodgesAt_26 ?_
  refine lv_iload_n hx hb dX5_dodgesAt_27 rfl (lv_at hl 4 rfl) ?_
  obtain ⟨q6, h7, hf⟩ := bd_s hf
  refine af_oi (run_V (As := [.int (s1 + 2), .int s2]) (rest := []) E (c_X5_placeIn l D Y a_t a_t_rows a_t_firsts a_t_firstOfRank v_t_bells v_t_changes v_t_leads v_t_last f_t_rows (s1 + 2) s2 q6 h7) qw601 qw602 qw603 qw24 qw604 rfl rfl hd_X5_placeIn ⟨Nat.le_of_ble_eq_true rfl, Nat.le_of_ble_eq_true rfl⟩ (pre_roV hP hE [0, 1] rfl (ci := 4) (q0 := 0) rfl rfl) rfl hl.1 rfl (Nat.le_of_ble_eq_true rfl) dX5_dodgesAt_28 ⟨Nat.zero_le _, Nat.zero_le _⟩) ?_
  refine lv_iload_n hx hb dX5_dodgesAt_31 rfl (lv_at hl 1 rfl) ?_
  refine lv_icmp_ne (tgt := 52) hx hb dX5_dodgesAt_32 (by decide) (fun c8 => ?_) (fun c8 => ?_)
  · have hf := ite_f c8 hf
    refine lv_iconst (v := 0) hx hb dX5_dodgesAt_52 (by decide) ?_
    obtain rfl := Option.some.inj hf
    subst hQ
    exact en_oz hx hb hr hlocks rfl (Or.inl rfl) dX5_dodgesAt_53
  have hf := ite_t c8 hf
  refine lv_aload_n hx hb dX5_dodgesAt_35 rfl (lv_at hl 2 rfl) ?_
  refine lv_iload_n hx hb dX5_dodgesAt_36 rfl (lv_at hl 3 rfl) ?_
  refine lv_iconst (v := 3) hx hb dX5_dodgesAt_37 (by decide) ?_
  refine lv_iadd hx hb dX5_dodgesAt_38 ?_
  refine lv_iload_n hx hb dX5_dodgesAt_39 rfl (lv_at hl 4 rfl) ?_
  obtain ⟨q9, h10, hf⟩ := bd_s hf
  refine af_oi (run_V (As := [.int (s1 + 3), .int s2]) (rest := []) E (c_X5_placeIn l D Y a_t a_t_rows a_t_firsts a_t_firstOfRank v_t_bells v_t_changes v_t_leads v_t_last f_t_rows (s1 + 3) s2 q9 h10) qw601 qw602 qw603 qw24 qw604 rfl rfl hd_X5_placeIn ⟨Nat.le_of_ble_eq_true rfl, Nat.le_of_ble_eq_true rfl⟩ (pre_roV hP hE [0, 1] rfl (ci := 4) (q0 := 0) rfl rfl) rfl hl.1 rfl (Nat.le_of_ble_eq_true rfl) dX5_dodgesAt_40 ⟨Nat.zero_le _, Nat.zero_le _⟩) ?_
  refine lv_iload hx hb dX5_dodgesAt_43 (lv_at hl 0 rfl) ?_
  refine lv_icmp_ne (tgt := 52) hx hb dX5_dodgesAt_45 (by decide) (fun c11 => ?_) (fun c11 => ?_)
  · have hf := ite_f c11 hf
    refine lv_iconst (v := 0) hx hb dX5_dodgesAt_52 (by decide) ?_
    obtain rfl := Option.some.inj hf
    subst hQ
    exact en_oz hx hb hr hlocks rfl (Or.inl rfl) dX5_dodgesAt_53
  have hf := ite_t c11 hf
  refine lv_iconst (v := 1) hx hb dX5_dodgesAt_48 (by decide) ?_
  refine lv_goto (tgt := 53) hx hb dX5_dodgesAt_49 (by decide) ?_
  obtain rfl := Option.some.inj hf
  subst hQ
  exact en_oz hx hb hr hlocks rfl (Or.inr rfl) dX5_dodgesAt_53

def f_X5_firstDodge_L2 (s1 : Int32) (v_t_bells : Int32) (v_t_last : Int32) (f_t_rows : Nat → Int32) : Nat → Int32 → Option (Int32)
  | 0, _ => none
  | n + 1, s2 => (if v_t_last < (s2 + 3) then some (-4) else bd (f_X5_dodgesAt s2 s1 v_t_bells f_t_rows) (fun q2 => (if q2 = 0 then (f_X5_firstDodge_L2 s1 v_t_bells v_t_last f_t_rows n (s2 + 1)) else some s2)))
def f_X5_firstDodge (s1 : Int32) (v_t_bells : Int32) (v_t_last : Int32) (f_t_rows : Nat → Int32) : Option (Int32) :=
  (f_X5_firstDodge_L2 s1 v_t_bells v_t_last f_t_rows fu 0)
abbrev rm_X5_firstDodge : Room := { frames := 5, cells := 0, slots := 0, locals := 114 }
set_option maxHeartbeats 4000000 in
set_option maxRecDepth 100000 in
theorem c_X5_firstDodge (l : Launch) (D : va_G) (Y : ClassId × ClassId × ClassId × ClassId) (a_t a_t_rows a_t_firsts a_t_firstOfRank : Nat) (v_t_bells : Int32) (v_t_changes : Int32) (v_t_leads : Int32) (v_t_last : Int32) (f_t_rows : Nat → Int32) (s1 : Int32) (R : Int32) (hf : f_X5_firstDodge s1 v_t_bells v_t_last f_t_rows = some R) : Met l yX5_firstDodge (ws_ yX5_firstDodge cX5_firstDodge 3 (some .int)) rm_X5_firstDodge (va_Pc [.ref a_t, .int s1] (RO D Y [(a_t, .inr (4, [.ref a_t_rows, .ref a_t_firsts, .ref a_t_firstOfRank, .int v_t_bells, .int v_t_changes, .int v_t_leads, .int v_t_last])), (a_t_rows, .inl (Y.1, 341, .inl f_t_rows))])) (OI R) 0 0 (fun _ => False) := by
  refine ro_start (by decide) (Nat.le_of_ble_eq_true rfl) ?_
  intro p e s m below meth c ls hx hb hml hr hlocks hown hts hP hE hl
  generalize hargs : List.toArray _ = args at hts ⊢
  have hown : s.vm.findClass RX5 = some m.cls := hown
  have E : EN p m c cX5_firstDodge 3 s args RX5 := ⟨hx, hb, hml, hown, hts⟩
  have hl : lv_has ls 3 [(0, .ref a_t), (1, .int s1)] := hl
  generalize hQ : MQ below _ args s 0 0 _ = Q
  unfold f_X5_firstDodge at hf
  have L2 : ∀ (n : Nat) (s1 : Int32) (s2 : Int32) (ls : Array Slot), f_X5_firstDodge_L2 s1 v_t_bells v_t_last f_t_rows n s2 = some R → lv_has ls 3 [(0, .ref a_t), (1, .int s1), (2, .int s2)] → W p l e rm_X5_firstDodge s m args below meth c s.heap [] 0 0 Q (F0 m 2 ls []) := by
    intro n
    induction n with
    | zero =>
      intro s1 s2 ls hf
      cases hf
    | succ n ih =>
      intro s1 s2 ls hf hl
      unfold f_X5_firstDodge_L2 at hf
      refine lv_iload_n hx hb dX5_firstDodge_2 rfl (lv_at hl 2 rfl) ?_
      refine lv_iconst (v := 3) hx hb dX5_firstDodge_3 (by decide) ?_
      refine lv_iadd hx hb dX5_firstDodge_4 ?_
      refine lv_aload_n hx hb dX5_firstDodge_5 rfl (lv_at hl 0 rfl) ?_
      refine va_get (D := D) (ci := 4) (v := .int v_t_last) (C := RX5) (T := TX5) (N := 7) hx hb hts inX5 hown hE.1 hP 0 rfl rfl 6 (by decide) (hts _ qw153) (fun _ h9 => h9) rfl dX5_firstDodge_6 ?_
      refine lv_icmp_gt (tgt := 29) hx hb dX5_firstDodge_9 (by decide) (fun c1 => ?_) (fun c1 => ?_)
      · have hf := ite_t c1 hf
        refine lv_bipush (v := (-4)) hx hb dX5_firstDodge_29 (by decide) ?_
        obtain rfl := Option.some.inj hf
        subst hQ
        exact en_oi hx hb hr hlocks rfl dX5_firstDodge_31
      have hf := ite_f c1 hf
      refine lv_aload_n hx hb dX5_firstDodge_12 rfl (lv_at hl 0 rfl) ?_
      refine lv_iload_n hx hb dX5_firstDodge_13 rfl (lv_at hl 2 rfl) ?_
      refine lv_iload_n hx hb dX5_firstDodge_14 rfl (lv_at hl 1 rfl) ?_
      obtain ⟨q2, h3, hf⟩ := bd_s hf
      refine af_oz (run_V (As := [.int s2, .int s1]) (rest := []) E (c_X5_dodgesAt l D Y a_t a_t_rows a_t_firsts a_t_firstOfRank v_t_bells v_t_changes v_t_leads v_t_last f_t_rows s2 s1 q2 h3) qw597 qw599 qw16 qw24 qw600 rfl rfl hd_X5_dodgesAt ⟨Nat.le_of_ble_eq_true rfl, Nat.le_of_ble_eq_true rfl⟩ (pre_roV hP hE [0, 1] rfl (ci := 4) (q0 := 0) rfl rfl) rfl hl.1 rfl (Nat.le_of_ble_eq_true rfl) dX5_firstDodge_15 ⟨Nat.zero_le _, Nat.zero_le _⟩) (fun z4 => ?_)
      refine lv_if_eq (tgt := 23) hx hb dX5_firstDodge_18 (by decide) (fun c5 => ?_) (fun c5 => ?_)
      · have hf := ite_t c5 hf
        refine lv_iinc (v := (s2 + 1)) (lv' := [(2, .int (s2 + 1)), (0, .ref a_t), (1, .int s1)]) hx hb dX5_firstDodge_23 hl (k := 2) rfl rfl (by decide) rfl (fun ls hl => ?_)
        refine lv_goto (tgt := 2) hx hb dX5_firstDodge_26 (by decide) ?_
        exact ih _ _ _ hf (lv_sub hl [1, 2, 0] rfl)
      have hf := ite_f c5 hf
      refine lv_iload_n hx hb dX5_firstDodge_21 rfl (lv_at hl 2 rfl) ?_
      obtain rfl := Option.some.inj hf
      subst hQ
      exact en_oi hx hb hr hlocks rfl dX5_firstDodge_22
  refine lv_iconst (v := 0) hx hb dX5_firstDodge_0 (by decide) ?_
  refine lv_istore_n (lv' := [(2, .int 0), (0, .ref a_t), (1, .int s1)]) hx hb dX5_firstDodge_1 rfl hl (by decide) rfl (fun ls hl => ?_)
  exact L2 _ _ _ _ hf (lv_sub hl [1, 2, 0] rfl)

def f_X5_dodges_L4 (s1 : Int32) (v_t_bells : Int32) (v_t_last : Int32) (f_t_rows : Nat → Int32) : Nat → Int32 → Int32 → Option (Int32)
  | 0, _, _ => none
  | n + 1, s2, s3 => (if v_t_last < (s3 + 3) then some s2 else bd (f_X5_dodgesAt s3 s1 v_t_bells f_t_rows) (fun q2 => nm (if q2 = 0 then s2 else (s2 + 1)) (fun (w5 : Int32) => (f_X5_dodges_L4 s1 v_t_bells v_t_last f_t_rows n w5 (s3 + 1)))))
def f_X5_dodges (s1 : Int32) (v_t_bells : Int32) (v_t_last : Int32) (f_t_rows : Nat → Int32) : Option (Int32) :=
  (f_X5_dodges_L4 s1 v_t_bells v_t_last f_t_rows fu 0 0)
abbrev rm_X5_dodges : Room := { frames := 5, cells := 0, slots := 0, locals := 114 }
set_option maxHeartbeats 4000000 in
set_option maxRecDepth 100000 in
theorem c_X5_dodges (l : Launch) (D : va_G) (Y : ClassId × ClassId × ClassId × ClassId) (a_t a_t_rows a_t_firsts a_t_firstOfRank : Nat) (v_t_bells : Int32) (v_t_changes : Int32) (v_t_leads : Int32) (v_t_last : Int32) (f_t_rows : Nat → Int32) (s1 : Int32) (R : Int32) (hf : f_X5_dodges s1 v_t_bells v_t_last f_t_rows = some R) : Met l yX5_dodges (ws_ yX5_dodges cX5_dodges 4 (some .int)) rm_X5_dodges (va_Pc [.ref a_t, .int s1] (RO D Y [(a_t, .inr (4, [.ref a_t_rows, .ref a_t_firsts, .ref a_t_firstOfRank, .int v_t_bells, .int v_t_changes, .int v_t_leads, .int v_t_last])), (a_t_rows, .inl (Y.1, 341, .inl f_t_rows))])) (OI R) 0 0 (fun _ => False) := by
  refine ro_start (by decide) (Nat.le_of_ble_eq_true rfl) ?_
  intro p e s m below meth c ls hx hb hml hr hlocks hown hts hP hE hl
  generalize hargs : List.toArray _ = args at hts ⊢
  have hown : s.vm.findClass RX5 = some m.cls := hown
  have E : EN p m c cX5_dodges 4 s args RX5 := ⟨hx, hb, hml, hown, hts⟩
  have hl : lv_has ls 4 [(0, .ref a_t), (1, .int s1)] := hl
  generalize hQ : MQ below _ args s 0 0 _ = Q
  unfold f_X5_dodges at hf
  have L4 : ∀ (n : Nat) (s1 : Int32) (s2 : Int32) (s3 : Int32) (ls : Array Slot), f_X5_dodges_L4 s1 v_t_bells v_t_last f_t_rows n s2 s3 = some R → lv_has ls 4 [(0, .ref a_t), (1, .int s1), (2, .int s2), (3, .int s3)] → W p l e rm_X5_dodges s m args below meth c s.heap [] 0 0 Q (F0 m 4 ls []) := by
    intro n
    induction n with
    | zero =>
      intro s1 s2 s3 ls hf
      cases hf
    | succ n ih =>
      intro s1 s2 s3 ls hf hl
      unfold f_X5_dodges_L4 at hf
      refine lv_iload_n hx hb dX5_dodges_4 rfl (lv_at hl 3 rfl) ?_
      refine lv_iconst (v := 3) hx hb dX5_dodges_5 (by decide) ?_
      refine lv_iadd hx hb dX5_dodges_6 ?_
      refine lv_aload_n hx hb dX5_dodges_7 rfl (lv_at hl 0 rfl) ?_
      refine va_get (D := D) (ci := 4) (v := .int v_t_last) (C := RX5) (T := TX5) (N := 7) hx hb hts inX5 hown hE.1 hP 0 rfl rfl 6 (by decide) (hts _ qw153) (fun _ h9 => h9) rfl dX5_dodges_8 ?_
      refine lv_icmp_gt (tgt := 32) hx hb dX5_dodges_11 (by decide) (fun c1 => ?_) (fun c1 => ?_)
      · have hf := ite_t c1 hf
        refine lv_iload_n hx hb dX5_dodges_32 rfl (lv_at hl 2 rfl) ?_
        obtain rfl := Option.some.inj hf
        subst hQ
        exact en_oi hx hb hr hlocks rfl dX5_dodges_33
      have hf := ite_f c1 hf
      refine lv_aload_n hx hb dX5_dodges_14 rfl (lv_at hl 0 rfl) ?_
      refine lv_iload_n hx hb dX5_dodges_15 rfl (lv_at hl 3 rfl) ?_
      refine lv_iload_n hx hb dX5_dodges_16 rfl (lv_at hl 1 rfl) ?_
      obtain ⟨q2, h3, hf⟩ := bd_s hf
      refine af_oz (run_V (As := [.int s3, .int s1]) (rest := []) E (c_X5_dodgesAt l D Y a_t a_t_rows a_t_firsts a_t_firstOfRank v_t_bells v_t_changes v_t_leads v_t_last f_t_rows s3 s1 q2 h3) qw597 qw599 qw16 qw24 qw600 rfl rfl hd_X5_dodgesAt ⟨Nat.le_of_ble_eq_true rfl, Nat.le_of_ble_eq_true rfl⟩ (pre_roV hP hE [0, 1] rfl (ci := 4) (q0 := 0) rfl rfl) rfl hl.1 rfl (Nat.le_of_ble_eq_true rfl) dX5_dodges_17 ⟨Nat.zero_le _, Nat.zero_le _⟩) (fun z4 => ?_)
      refine mg (P := fun (w5 : Int32) => ∀ (ls : Array Slot), lv_has ls 4 [(0, .ref a_t), (1, .int s1), (2, .int w5), (3, .int s3)] → W p l e rm_X5_dodges s m args below meth c s.heap [] 0 0 Q (F0 m 26 ls [])) hf (fun w5 hf ls hl => ?_) (fun hJ => ?_)
      · refine lv_iinc (v := (s3 + 1)) (lv' := [(3, .int (s3 + 1)), (0, .ref a_t), (1, .int s1), (2, .int w5)]) hx hb dX5_dodges_26 hl (k := 3) rfl rfl (by decide) rfl (fun ls hl => ?_)
        refine lv_goto (tgt := 4) hx hb dX5_dodges_29 (by decide) ?_
        exact ih _ _ _ _ hf (lv_sub hl [1, 2, 3, 0] rfl)
      refine lv_if_eq (tgt := 26) hx hb dX5_dodges_20 (by decide) (fun c6 => ?_) (fun c6 => ?_)
      · have hf := nmi_t c6 hf
        exact hJ _ (nm_b hf) _ (lv_sub hl [0, 1, 2, 3] rfl)
      have hf := nmi_f c6 hf
      refine lv_iinc (v := (s2 + 1)) (lv' := [(2, .int (s2 + 1)), (0, .ref a_t), (1, .int s1), (3, .int s3)]) hx hb dX5_dodges_23 hl (k := 2) rfl rfl (by decide) rfl (fun ls hl => ?_)
      exact hJ _ (nm_b hf) _ (lv_sub hl [1, 2, 0, 3] rfl)
  refine lv_iconst (v := 0) hx hb dX5_dodges_0 (by decide) ?_
  refine lv_istore_n (lv' := [(2, .int 0), (0, .ref a_t), (1, .int s1)]) hx hb dX5_dodges_1 rfl hl (by decide) rfl (fun ls hl => ?_)
  refine lv_iconst (v := 0) hx hb dX5_dodges_2 (by decide) ?_
  refine lv_istore_n (lv' := [(3, .int 0), (2, .int 0), (0, .ref a_t), (1, .int s1)]) hx hb dX5_dodges_3 rfl hl (by decide) rfl (fun ls hl => ?_)
  exact L4 _ _ _ _ _ hf (lv_sub hl [2, 3, 1, 0] rfl)

def f_X5_wellSounding_L4 (v_t_bells : Int32) (v_t_last : Int32) (f_t_rows : Nat → Int32) : Nat → Int32 → Int32 → Option (Int32)
  | 0, _, _ => none
  | n + 1, s1, s2 => (if v_t_last < s2 then some s1 else bd (f_X5_rowAt s2 f_t_rows) (fun q2 => nm (if (f_X6_soundsWell q2 v_t_bells) = 0 then s1 else (s1 + 1)) (fun (w5 : Int32) => (f_X5_wellSounding_L4 v_t_bells v_t_last f_t_rows n w5 (s2 + 1)))))
def f_X5_wellSounding (v_t_bells : Int32) (v_t_last : Int32) (f_t_rows : Nat → Int32) : Option (Int32) :=
  (f_X5_wellSounding_L4 v_t_bells v_t_last f_t_rows fu 0 1)
abbrev rm_X5_wellSounding : Room := { frames := 3, cells := 0, slots := 0, locals := 68 }
set_option maxHeartbeats 4000000 in
set_option maxRecDepth 100000 in
theorem c_X5_wellSounding (l : Launch) (D : va_G) (Y : ClassId × ClassId × ClassId × ClassId) (a_t a_t_rows a_t_firsts a_t_firstOfRank : Nat) (v_t_bells : Int32) (v_t_changes : Int32) (v_t_leads : Int32) (v_t_last : Int32) (f_t_rows : Nat → Int32) (R : Int32) (hf : f_X5_wellSounding v_t_bells v_t_last f_t_rows = some R) : Met l yX5_wellSounding (ws_ yX5_wellSounding cX5_wellSounding 3 (some .int)) rm_X5_wellSounding (va_Pc [.ref a_t] (RO D Y [(a_t, .inr (4, [.ref a_t_rows, .ref a_t_firsts, .ref a_t_firstOfRank, .int v_t_bells, .int v_t_changes, .int v_t_leads, .int v_t_last])), (a_t_rows, .inl (Y.1, 341, .inl f_t_rows))])) (OI R) 0 0 (fun _ => False) := by
  refine ro_start (by decide) (Nat.le_of_ble_eq_true rfl) ?_
  intro p e s m below meth c ls hx hb hml hr hlocks hown hts hP hE hl
  generalize hargs : List.toArray _ = args at hts ⊢
  have hown : s.vm.findClass RX5 = some m.cls := hown
  have E : EN p m c cX5_wellSounding 3 s args RX5 := ⟨hx, hb, hml, hown, hts⟩
  have hl : lv_has ls 3 [(0, .ref a_t)] := hl
  generalize hQ : MQ below _ args s 0 0 _ = Q
  unfold f_X5_wellSounding at hf
  have L4 : ∀ (n : Nat) (s1 : Int32) (s2 : Int32) (ls : Array Slot), f_X5_wellSounding_L4 v_t_bells v_t_last f_t_rows n s1 s2 = some R → lv_has ls 3 [(0, .ref a_t), (1, .int s1), (2, .int s2)] → W p l e rm_X5_wellSounding s m args below meth c s.heap [] 0 0 Q (F0 m 4 ls []) := by
    intro n
    induction n with
    | zero =>
      intro s1 s2 ls hf
      cases hf
    | succ n ih =>
      intro s1 s2 ls hf hl
      unfold f_X5_wellSounding_L4 at hf
      refine lv_iload_n hx hb dX5_wellSounding_4 rfl (lv_at hl 2 rfl) ?_
      refine lv_aload_n hx hb dX5_wellSounding_5 rfl (lv_at hl 0 rfl) ?_
      refine va_get (D := D) (ci := 4) (v := .int v_t_last) (C := RX5) (T := TX5) (N := 7) hx hb hts inX5 hown hE.1 hP 0 rfl rfl 6 (by decide) (hts _ qw153) (fun _ h9 => h9) rfl dX5_wellSounding_6 ?_
      refine lv_icmp_gt (tgt := 36) hx hb dX5_wellSounding_9 (by decide) (fun c1 => ?_) (fun c1 => ?_)
      · have hf := ite_t c1 hf
        refine lv_iload_n hx hb dX5_wellSounding_36 rfl (lv_at hl 1 rfl) ?_
        obtain rfl := Option.some.inj hf
        subst hQ
        exact en_oi hx hb hr hlocks rfl dX5_wellSounding_37
      have hf := ite_f c1 hf
      refine lv_aload_n hx hb dX5_wellSounding_12 rfl (lv_at hl 0 rfl) ?_
      refine lv_iload_n hx hb dX5_wellSounding_13 rfl (lv_at hl 2 rfl) ?_
      obtain ⟨q2, h3, hf⟩ := bd_s hf
      refine af_oi (run_V (As := [.int s2]) (rest := []) E (c_X5_rowAt l D Y a_t a_t_rows a_t_firsts a_t_firstOfRank v_t_bells v_t_changes v_t_leads v_t_last f_t_rows s2 q2 h3) qw427 qw428 qw429 qw24 qw430 rfl rfl hd_X5_rowAt ⟨Nat.le_of_ble_eq_true rfl, Nat.le_of_ble_eq_true rfl⟩ (pre_roV hP hE [0, 1] rfl (ci := 4) (q0 := 0) rfl rfl) rfl hl.1 rfl (Nat.le_of_ble_eq_true rfl) dX5_wellSounding_14 ⟨Nat.zero_le _, Nat.zero_le _⟩) ?_
      refine lv_aload_n hx hb dX5_wellSounding_17 rfl (lv_at hl 0 rfl) ?_
      refine va_get (D := D) (ci := 4) (v := .int v_t_bells) (C := RX5) (T := TX5) (N := 7) hx hb hts inX5 hown hE.1 hP 0 rfl rfl 3 (by decide) (hts _ qw150) (fun _ h9 => h9) rfl dX5_wellSounding_18 ?_
      refine af_oz (run_S (As := [.int q2, .int v_t_bells]) (rest := []) E (c_X6_soundsWell l D Y q2 v_t_bells (f_X6_soundsWell q2 v_t_bells) rfl) qw572 qw458 qw34 qw459 rfl rfl hd_X6_soundsWell ⟨Nat.le_of_ble_eq_true rfl, Nat.le_of_ble_eq_true rfl⟩ (pre_roS hP hE [] rfl) rfl hl.1 rfl (Nat.le_of_ble_eq_true rfl) dX5_wellSounding_21 ⟨Nat.zero_le _, Nat.zero_le _⟩) (fun z4 => ?_)
      refine mg (P := fun (w5 : Int32) => ∀ (ls : Array Slot), lv_has ls 3 [(0, .ref a_t), (1, .int w5), (2, .int s2)] → W p l e rm_X5_wellSounding s m args below meth c s.heap [] 0 0 Q (F0 m 30 ls [])) hf (fun w5 hf ls hl => ?_) (fun hJ => ?_)
      · refine lv_iinc (v := (s2 + 1)) (lv' := [(2, .int (s2 + 1)), (0, .ref a_t), (1, .int w5)]) hx hb dX5_wellSounding_30 hl (k := 2) rfl rfl (by decide) rfl (fun ls hl => ?_)
        refine lv_goto (tgt := 4) hx hb dX5_wellSounding_33 (by decide) ?_
        exact ih _ _ _ hf (lv_sub hl [1, 2, 0] rfl)
      refine lv_if_eq (tgt := 30) hx hb dX5_wellSounding_24 (by decide) (fun c6 => ?_) (fun c6 => ?_)
      · have hf := nmi_t c6 hf
        exact hJ _ (nm_b hf) _ (lv_sub hl [0, 1, 2] rfl)
      have hf := nmi_f c6 hf
      refine lv_iinc (v := (s1 + 1)) (lv' := [(1, .int (s1 + 1)), (0, .ref a_t), (2, .int s2)]) hx hb dX5_wellSounding_27 hl (k := 1) rfl rfl (by decide) rfl (fun ls hl => ?_)
      exact hJ _ (nm_b hf) _ (lv_sub hl [1, 0, 2] rfl)
  refine lv_iconst (v := 0) hx hb dX5_wellSounding_0 (by decide) ?_
  refine lv_istore_n (lv' := [(1, .int 0), (0, .ref a_t)]) hx hb dX5_wellSounding_1 rfl hl (by decide) rfl (fun ls hl => ?_)
  refine lv_iconst (v := 1) hx hb dX5_wellSounding_2 (by decide) ?_
  refine lv_istore_n (lv' := [(2, .int 1), (1, .int 0), (0, .ref a_t)]) hx hb dX5_wellSounding_3 rfl hl (by decide) rfl (fun ls hl => ?_)
  exact L4 _ _ _ _ hf (lv_sub hl [2, 1, 0] rfl)

def f_X5_areFalse_L13 (k : Int32 → Option (Int32)) (s1 : Int32) (s2 : Int32) (s3 : Int32) (v_t_changes : Int32) (f_t_rows : Nat → Int32) : Nat → Int32 → Option (Int32)
  | 0, _ => none
  | n + 1, s4 => (if v_t_changes < s4 then (k s4) else bd (f_X5_rowAt ((s1 * v_t_changes) + s3) f_t_rows) (fun q3 => bd (f_X5_rowAt ((s2 * v_t_changes) + s4) f_t_rows) (fun q5 => (if q3 = q5 then some 1 else (f_X5_areFalse_L13 k s1 s2 s3 v_t_changes f_t_rows n (s4 + 1))))))
def f_X5_areFalse_L2 (s1 : Int32) (s2 : Int32) (v_t_changes : Int32) (f_t_rows : Nat → Int32) : Nat → Int32 → Option (Int32)
  | 0, _ => none
  | n + 1, s3 => (if v_t_changes < s3 then some 0 else (f_X5_areFalse_L13 (fun (y8 : Int32) => (f_X5_areFalse_L2 s1 s2 v_t_changes f_t_rows n (s3 + 1))) s1 s2 s3 v_t_changes f_t_rows fu 1))
def f_X5_areFalse (s1 : Int32) (s2 : Int32) (v_t_changes : Int32) (f_t_rows : Nat → Int32) : Option (Int32) :=
  (f_X5_areFalse_L2 s1 s2 v_t_changes f_t_rows fu 1)
abbrev rm_X5_areFalse : Room := { frames := 2, cells := 0, slots := 0, locals := 45 }
set_option maxHeartbeats 4000000 in
set_option maxRecDepth 100000 in
theorem c_X5_areFalse (l : Launch) (D : va_G) (Y : ClassId × ClassId × ClassId × ClassId) (a_t a_t_rows a_t_firsts a_t_firstOfRank : Nat) (v_t_bells : Int32) (v_t_changes : Int32) (v_t_leads : Int32) (v_t_last : Int32) (f_t_rows : Nat → Int32) (s1 : Int32) (s2 : Int32) (R : Int32) (hf : f_X5_areFalse s1 s2 v_t_changes f_t_rows = some R) : Met l yX5_areFalse (ws_ yX5_areFalse cX5_areFalse 5 (some .boolean)) rm_X5_areFalse (va_Pc [.ref a_t, .int s1, .int s2] (RO D Y [(a_t, .inr (4, [.ref a_t_rows, .ref a_t_firsts, .ref a_t_firstOfRank, .int v_t_bells, .int v_t_changes, .int v_t_leads, .int v_t_last])), (a_t_rows, .inl (Y.1, 341, .inl f_t_rows))])) (OZ R) 0 0 (fun _ => False) := by
  refine ro_start (by decide) (Nat.le_of_ble_eq_true rfl) ?_
  intro p e s m below meth c ls hx hb hml hr hlocks hown hts hP hE hl
  generalize hargs : List.toArray _ = args at hts ⊢
  have hown : s.vm.findClass RX5 = some m.cls := hown
  have E : EN p m c cX5_areFalse 5 s args RX5 := ⟨hx, hb, hml, hown, hts⟩
  have hl : lv_has ls 5 [(0, .ref a_t), (1, .int s1), (2, .int s2)] := hl
  generalize hQ : MQ below _ args s 0 0 _ = Q
  unfold f_X5_areFalse at hf
  have L13 : ∀ (n : Nat) (k : Int32 → Option (Int32)) (s1 : Int32) (s2 : Int32) (s3 : Int32) (s4 : Int32) (ls : Array Slot), f_X5_areFalse_L13 k s1 s2 s3 v_t_changes f_t_rows n s4 = some R → lv_has ls 5 [(0, .ref a_t), (1, .int s1), (2, .int s2), (3, .int s3), (4, .int s4)] → (∀ (y_s4 : Int32) (ls : Array Slot), k y_s4 = some R → lv_has ls 5 [(0, .ref a_t), (1, .int s1), (2, .int s2), (3, .int s3)] → W p l e rm_X5_areFalse s m args below meth c s.heap [] 0 0 Q (F0 m 58 ls [])) → W p l e rm_X5_areFalse s m args below meth c s.heap [] 0 0 Q (F0 m 13 ls []) := by
    intro n
    induction n with
    | zero =>
      intro k s1 s2 s3 s4 ls hf
      cases hf
    | succ n ih =>
      intro k s1 s2 s3 s4 ls hf hl hk
      unfold f_X5_areFalse_L13 at hf
      refine lv_iload hx hb dX5_areFalse_13 (lv_at hl 4 rfl) ?_
      refine lv_aload_n hx hb dX5_areFalse_15 rfl (lv_at hl 0 rfl) ?_
      refine va_get (D := D) (ci := 4) (v := .int v_t_changes) (C := RX5) (T := TX5) (N := 7) hx hb hts inX5 hown hE.1 hP 0 rfl rfl 4 (by decide) (hts _ qw151) (fun _ h9 => h9) rfl dX5_areFalse_16 ?_
      refine lv_icmp_gt (tgt := 58) hx hb dX5_areFalse_19 (by decide) (fun c2 => ?_) (fun c2 => ?_)
      · have hf := ite_t c2 hf
        exact hk _ _ hf (lv_sub hl [0, 1, 2, 3] rfl)
      have hf := ite_f c2 hf
      refine lv_aload_n hx hb dX5_areFalse_22 rfl (lv_at hl 0 rfl) ?_
      refine lv_iload_n hx hb dX5_areFalse_23 rfl (lv_at hl 1 rfl) ?_
      refine lv_aload_n hx hb dX5_areFalse_24 rfl (lv_at hl 0 rfl) ?_
      refine va_get (D := D) (ci := 4) (v := .int v_t_changes) (C := RX5) (T := TX5) (N := 7) hx hb hts inX5 hown hE.1 hP 0 rfl rfl 4 (by decide) (hts _ qw151) (fun _ h9 => h9) rfl dX5_areFalse_25 ?_
      refine lv_imul hx hb dX5_areFalse_28 ?_
      refine lv_iload_n hx hb dX5_areFalse_29 rfl (lv_at hl 3 rfl) ?_
      refine lv_iadd hx hb dX5_areFalse_30 ?_
      obtain ⟨q3, h4, hf⟩ := bd_s hf
      refine af_oi (run_V (As := [.int ((s1 * v_t_changes) + s3)]) (rest := []) E (c_X5_rowAt l D Y a_t a_t_rows a_t_firsts a_t_firstOfRank v_t_bells v_t_changes v_t_leads v_t_last f_t_rows ((s1 * v_t_changes) + s3) q3 h4) qw427 qw428 qw429 qw24 qw430 rfl rfl hd_X5_rowAt ⟨Nat.le_of_ble_eq_true rfl, Nat.le_of_ble_eq_true rfl⟩ (pre_roV hP hE [0, 1] rfl (ci := 4) (q0 := 0) rfl rfl) rfl hl.1 rfl (Nat.le_of_ble_eq_true rfl) dX5_areFalse_31 ⟨Nat.zero_le _, Nat.zero_le _⟩) ?_
      refine lv_aload_n hx hb dX5_areFalse_34 rfl (lv_at hl 0 rfl) ?_
      refine lv_iload_n hx hb dX5_areFalse_35 rfl (lv_at hl 2 rfl) ?_
      refine lv_aload_n hx hb dX5_areFalse_36 rfl (lv_at hl 0 rfl) ?_
      refine va_get (D := D) (ci := 4) (v := .int v_t_changes) (C := RX5) (T := TX5) (N := 7) hx hb hts inX5 hown hE.1 hP 0 rfl rfl 4 (by decide) (hts _ qw151) (fun _ h9 => h9) rfl dX5_areFalse_37 ?_
      refine lv_imul hx hb dX5_areFalse_40 ?_
      refine lv_iload hx hb dX5_areFalse_41 (lv_at hl 4 rfl) ?_
      refine lv_iadd hx hb dX5_areFalse_43 ?_
      obtain ⟨q5, h6, hf⟩ := bd_s hf
      refine af_oi (run_V (As := [.int ((s2 * v_t_changes) + s4)]) (rest := [.int q3]) E (c_X5_rowAt l D Y a_t a_t_rows a_t_firsts a_t_firstOfRank v_t_bells v_t_changes v_t_leads v_t_last f_t_rows ((s2 * v_t_changes) + s4) q5 h6) qw427 qw428 qw429 qw24 qw430 rfl rfl hd_X5_rowAt ⟨Nat.le_of_ble_eq_true rfl, Nat.le_of_ble_eq_true rfl⟩ (pre_roV hP hE [0, 1] rfl (ci := 4) (q0 := 0) rfl rfl) rfl hl.1 rfl (Nat.le_of_ble_eq_true rfl) dX5_areFalse_44 ⟨Nat.zero_le _, Nat.zero_le _⟩) ?_
      refine lv_icmp_ne (tgt := 52) hx hb dX5_areFalse_47 (by decide) (fun c7 => ?_) (fun c7 => ?_)
      · have hf := ite_f c7 hf
        refine lv_iinc (v := (s4 + 1)) (lv' := [(4, .int (s4 + 1)), (0, .ref a_t), (1, .int s1), (2, .int s2), (3, .int s3)]) hx hb dX5_areFalse_52 hl (k := 4) rfl rfl (by decide) rfl (fun ls hl => ?_)
        refine lv_goto (tgt := 13) hx hb dX5_areFalse_55 (by decide) ?_
        exact ih _ _ _ _ _ _ hf (lv_sub hl [1, 2, 3, 4, 0] rfl) hk
      have hf := ite_t c7 hf
      refine lv_iconst (v := 1) hx hb dX5_areFalse_50 (by decide) ?_
      obtain rfl := Option.some.inj hf
      subst hQ
      exact en_oz hx hb hr hlocks rfl (Or.inr rfl) dX5_areFalse_51
  have L2 : ∀ (n : Nat) (s1 : Int32) (s2 : Int32) (s3 : Int32) (ls : Array Slot), f_X5_areFalse_L2 s1 s2 v_t_changes f_t_rows n s3 = some R → lv_has ls 5 [(0, .ref a_t), (1, .int s1), (2, .int s2), (3, .int s3)] → W p l e rm_X5_areFalse s m args below meth c s.heap [] 0 0 Q (F0 m 2 ls []) := by
    intro n
    induction n with
    | zero =>
      intro s1 s2 s3 ls hf
      cases hf
    | succ n ih =>
      intro s1 s2 s3 ls hf hl
      unfold f_X5_areFalse_L2 at hf
      refine lv_iload_n hx hb dX5_areFalse_2 rfl (lv_at hl 3 rfl) ?_
      refine lv_aload_n hx hb dX5_areFalse_3 rfl (lv_at hl 0 rfl) ?_
      refine va_get (D := D) (ci := 4) (v := .int v_t_changes) (C := RX5) (T := TX5) (N := 7) hx hb hts inX5 hown hE.1 hP 0 rfl rfl 4 (by decide) (hts _ qw151) (fun _ h9 => h9) rfl dX5_areFalse_4 ?_
      refine lv_icmp_gt (tgt := 64) hx hb dX5_areFalse_7 (by decide) (fun c1 => ?_) (fun c1 => ?_)
      · have hf := ite_t c1 hf
        refine lv_iconst (v := 0) hx hb dX5_areFalse_64 (by decide) ?_
        obtain rfl := Option.some.inj hf
        subst hQ
        exact en_oz hx hb hr hlocks rfl (Or.inl rfl) dX5_areFalse_65
      have hf := ite_f c1 hf
      refine lv_iconst (v := 1) hx hb dX5_areFalse_10 (by decide) ?_
      refine lv_istore (lv' := [(4, .int 1), (0, .ref a_t), (1, .int s1), (2, .int s2), (3, .int s3)]) hx hb dX5_areFalse_11 hl (by decide) rfl (fun ls hl => ?_)
      refine L13 _ _ _ _ _ _ _ hf (lv_sub hl [1, 2, 3, 4, 0] rfl) ?_
      intro y8 ls hf hl
      refine lv_iinc (v := (s3 + 1)) (lv' := [(3, .int (s3 + 1)), (0, .ref a_t), (1, .int s1), (2, .int s2)]) hx hb dX5_areFalse_58 hl (k := 3) rfl rfl (by decide) rfl (fun ls hl => ?_)
      refine lv_goto (tgt := 2) hx hb dX5_areFalse_61 (by decide) ?_
      exact ih _ _ _ _ hf (lv_sub hl [1, 2, 3, 0] rfl)
  refine lv_iconst (v := 1) hx hb dX5_areFalse_0 (by decide) ?_
  refine lv_istore_n (lv' := [(3, .int 1), (0, .ref a_t), (1, .int s1), (2, .int s2)]) hx hb dX5_areFalse_1 rfl hl (by decide) rfl (fun ls hl => ?_)
  exact L2 _ _ _ _ _ hf (lv_sub hl [1, 2, 3, 0] rfl)

def f_X5_falsePairs_L16 (k : Int32 → Int32 → Option (Int32)) (s2 : Int32) (v_t_changes : Int32) (v_t_leads : Int32) (f_t_rows : Nat → Int32) : Nat → Int32 → Int32 → Option (Int32)
  | 0, _, _ => none
  | n + 1, s1, s3 => (if v_t_leads ≤ s3 then (k s1 s3) else bd (f_X5_areFalse s2 s3 v_t_changes f_t_rows) (fun q4 => nm (if q4 = 0 then s1 else (s1 + 1)) (fun (w7 : Int32) => (f_X5_falsePairs_L16 k s2 v_t_changes v_t_leads f_t_rows n w7 (s3 + 1)))))
def f_X5_falsePairs_L4 (v_t_changes : Int32) (v_t_leads : Int32) (f_t_rows : Nat → Int32) : Nat → Int32 → Int32 → Option (Int32)
  | 0, _, _ => none
  | n + 1, s1, s2 => (if v_t_leads ≤ s2 then some s1 else nm (s2 + 1) (fun (x2 : Int32) => (f_X5_falsePairs_L16 (fun (y9 : Int32) (y10 : Int32) => (f_X5_falsePairs_L4 v_t_changes v_t_leads f_t_rows n y9 (s2 + 1))) s2 v_t_changes v_t_leads f_t_rows fu s1 x2)))
def f_X5_falsePairs (v_t_changes : Int32) (v_t_leads : Int32) (f_t_rows : Nat → Int32) : Option (Int32) :=
  (f_X5_falsePairs_L4 v_t_changes v_t_leads f_t_rows fu 0 0)
abbrev rm_X5_falsePairs : Room := { frames := 3, cells := 0, slots := 0, locals := 69 }
set_option maxHeartbeats 4000000 in
set_option maxRecDepth 100000 in
theorem c_X5_falsePairs (l : Launch) (D : va_G) (Y : ClassId × ClassId × ClassId × ClassId) (a_t a_t_rows a_t_firsts a_t_firstOfRank : Nat) (v_t_bells : Int32) (v_t_changes : Int32) (v_t_leads : Int32) (v_t_last : Int32) (f_t_rows : Nat → Int32) (R : Int32) (hf : f_X5_falsePairs v_t_changes v_t_leads f_t_rows = some R) : Met l yX5_falsePairs (ws_ yX5_falsePairs cX5_falsePairs 4 (some .int)) rm_X5_falsePairs (va_Pc [.ref a_t] (RO D Y [(a_t, .inr (4, [.ref a_t_rows, .ref a_t_firsts, .ref a_t_firstOfRank, .int v_t_bells, .int v_t_changes, .int v_t_leads, .int v_t_last])), (a_t_rows, .inl (Y.1, 341, .inl f_t_rows))])) (OI R) 0 0 (fun _ => False) := by
  refine ro_start (by decide) (Nat.le_of_ble_eq_true rfl) ?_
  intro p e s m below meth c ls hx hb hml hr hlocks hown hts hP hE hl
  generalize hargs : List.toArray _ = args at hts ⊢
  have hown : s.vm.findClass RX5 = some m.cls := hown
  have E : EN p m c cX5_falsePairs 4 s args RX5 := ⟨hx, hb, hml, hown, hts⟩
  have hl : lv_has ls 4 [(0, .ref a_t)] := hl
  generalize hQ : MQ below _ args s 0 0 _ = Q
  unfold f_X5_falsePairs at hf
  have L16 : ∀ (n : Nat) (k : Int32 → Int32 → Option (Int32)) (s2 : Int32) (s1 : Int32) (s3 : Int32) (ls : Array Slot), f_X5_falsePairs_L16 k s2 v_t_changes v_t_leads f_t_rows n s1 s3 = some R → lv_has ls 4 [(0, .ref a_t), (1, .int s1), (2, .int s2), (3, .int s3)] → (∀ (y_s1 : Int32) (y_s3 : Int32) (ls : Array Slot), k y_s1 y_s3 = some R → lv_has ls 4 [(0, .ref a_t), (1, .int y_s1), (2, .int s2)] → W p l e rm_X5_falsePairs s m args below meth c s.heap [] 0 0 Q (F0 m 42 ls [])) → W p l e rm_X5_falsePairs s m args below meth c s.heap [] 0 0 Q (F0 m 16 ls []) := by
    intro n
    induction n with
    | zero =>
      intro k s2 s1 s3 ls hf
      cases hf
    | succ n ih =>
      intro k s2 s1 s3 ls hf hl hk
      unfold f_X5_falsePairs_L16 at hf
      refine lv_iload_n hx hb dX5_falsePairs_16 rfl (lv_at hl 3 rfl) ?_
      refine lv_aload_n hx hb dX5_falsePairs_17 rfl (lv_at hl 0 rfl) ?_
      refine va_get (D := D) (ci := 4) (v := .int v_t_leads) (C := RX5) (T := TX5) (N := 7) hx hb hts inX5 hown hE.1 hP 0 rfl rfl 5 (by decide) (hts _ qw152) (fun _ h9 => h9) rfl dX5_falsePairs_18 ?_
      refine lv_icmp_ge (tgt := 42) hx hb dX5_falsePairs_21 (by decide) (fun c3 => ?_) (fun c3 => ?_)
      · have hf := ite_t c3 hf
        exact hk _ _ _ hf (lv_sub hl [0, 1, 2] rfl)
      have hf := ite_f c3 hf
      refine lv_aload_n hx hb dX5_falsePairs_24 rfl (lv_at hl 0 rfl) ?_
      refine lv_iload_n hx hb dX5_falsePairs_25 rfl (lv_at hl 2 rfl) ?_
      refine lv_iload_n hx hb dX5_falsePairs_26 rfl (lv_at hl 3 rfl) ?_
      obtain ⟨q4, h5, hf⟩ := bd_s hf
      refine af_oz (run_V (As := [.int s2, .int s3]) (rest := []) E (c_X5_areFalse l D Y a_t a_t_rows a_t_firsts a_t_firstOfRank v_t_bells v_t_changes v_t_leads v_t_last f_t_rows s2 s3 q4 h5) qw564 qw566 qw15 qw24 qw567 rfl rfl hd_X5_areFalse ⟨Nat.le_of_ble_eq_true rfl, Nat.le_of_ble_eq_true rfl⟩ (pre_roV hP hE [0, 1] rfl (ci := 4) (q0 := 0) rfl rfl) rfl hl.1 rfl (Nat.le_of_ble_eq_true rfl) dX5_falsePairs_27 ⟨Nat.zero_le _, Nat.zero_le _⟩) (fun z6 => ?_)
      refine mg (P := fun (w7 : Int32) => ∀ (ls : Array Slot), lv_has ls 4 [(0, .ref a_t), (1, .int w7), (2, .int s2), (3, .int s3)] → W p l e rm_X5_falsePairs s m args below meth c s.heap [] 0 0 Q (F0 m 36 ls [])) hf (fun w7 hf ls hl => ?_) (fun hJ => ?_)
      · refine lv_iinc (v := (s3 + 1)) (lv' := [(3, .int (s3 + 1)), (0, .ref a_t), (1, .int w7), (2, .int s2)]) hx hb dX5_falsePairs_36 hl (k := 3) rfl rfl (by decide) rfl (fun ls hl => ?_)
        refine lv_goto (tgt := 16) hx hb dX5_falsePairs_39 (by decide) ?_
        exact ih _ _ _ _ _ hf (lv_sub hl [1, 2, 3, 0] rfl) hk
      refine lv_if_eq (tgt := 36) hx hb dX5_falsePairs_30 (by decide) (fun c8 => ?_) (fun c8 => ?_)
      · have hf := nmi_t c8 hf
        exact hJ _ (nm_b hf) _ (lv_sub hl [0, 1, 2, 3] rfl)
      have hf := nmi_f c8 hf
      refine lv_iinc (v := (s1 + 1)) (lv' := [(1, .int (s1 + 1)), (0, .ref a_t), (2, .int s2), (3, .int s3)]) hx hb dX5_falsePairs_33 hl (k := 1) rfl rfl (by decide) rfl (fun ls hl => ?_)
      exact hJ _ (nm_b hf) _ (lv_sub hl [1, 0, 2, 3] rfl)
  have L4 : ∀ (n : Nat) (s1 : Int32) (s2 : Int32) (ls : Array Slot), f_X5_falsePairs_L4 v_t_changes v_t_leads f_t_rows n s1 s2 = some R → lv_has ls 4 [(0, .ref a_t), (1, .int s1), (2, .int s2)] → W p l e rm_X5_falsePairs s m args below meth c s.heap [] 0 0 Q (F0 m 4 ls []) := by
    intro n
    induction n with
    | zero =>
      intro s1 s2 ls hf
      cases hf
    | succ n ih =>
      intro s1 s2 ls hf hl
      unfold f_X5_falsePairs_L4 at hf
      refine lv_iload_n hx hb dX5_falsePairs_4 rfl (lv_at hl 2 rfl) ?_
      refine lv_aload_n hx hb dX5_falsePairs_5 rfl (lv_at hl 0 rfl) ?_
      refine va_get (D := D) (ci := 4) (v := .int v_t_leads) (C := RX5) (T := TX5) (N := 7) hx hb hts inX5 hown hE.1 hP 0 rfl rfl 5 (by decide) (hts _ qw152) (fun _ h9 => h9) rfl dX5_falsePairs_6 ?_
      refine lv_icmp_ge (tgt := 48) hx hb dX5_falsePairs_9 (by decide) (fun c1 => ?_) (fun c1 => ?_)
      · have hf := ite_t c1 hf
        refine lv_iload_n hx hb dX5_falsePairs_48 rfl (lv_at hl 1 rfl) ?_
        obtain rfl := Option.some.inj hf
        subst hQ
        exact en_oi hx hb hr hlocks rfl dX5_falsePairs_49
      have hf := ite_f c1 hf
      refine lv_iload_n hx hb dX5_falsePairs_12 rfl (lv_at hl 2 rfl) ?_
      refine lv_iconst (v := 1) hx hb dX5_falsePairs_13 (by decide) ?_
      refine lv_iadd hx hb dX5_falsePairs_14 ?_
      refine nm_W hf (fun x2 hf => ?_)
      refine lv_istore_n (lv' := [(3, .int x2), (0, .ref a_t), (1, .int s1), (2, .int s2)]) hx hb dX5_falsePairs_15 rfl hl (by decide) rfl (fun ls hl => ?_)
      refine L16 _ _ _ _ _ _ hf (lv_sub hl [1, 2, 3, 0] rfl) ?_
      intro y9 y10 ls hf hl
      refine lv_iinc (v := (s2 + 1)) (lv' := [(2, .int (s2 + 1)), (0, .ref a_t), (1, .int y9)]) hx hb dX5_falsePairs_42 hl (k := 2) rfl rfl (by decide) rfl (fun ls hl => ?_)
      refine lv_goto (tgt := 4) hx hb dX5_falsePairs_45 (by decide) ?_
      exact ih _ _ _ hf (lv_sub hl [1, 2, 0] rfl)
  refine lv_iconst (v := 0) hx hb dX5_falsePairs_0 (by decide) ?_
  refine lv_istore_n (lv' := [(1, .int 0), (0, .ref a_t)]) hx hb dX5_falsePairs_1 rfl hl (by decide) rfl (fun ls hl => ?_)
  refine lv_iconst (v := 0) hx hb dX5_falsePairs_2 (by decide) ?_
  refine lv_istore_n (lv' := [(2, .int 0), (1, .int 0), (0, .ref a_t)]) hx hb dX5_falsePairs_3 rfl hl (by decide) rfl (fun ls hl => ?_)
  exact L4 _ _ _ _ hf (lv_sub hl [2, 1, 0] rfl)

def f_X5_isFirst (s1 : Int32) (f_t_firsts : Nat → Int32) : Option (Int32) :=
  (if s1 < 0 then some 0 else (if (341 : Int32) ≤ s1 then some 0 else gd (inb s1 341) ((if (f_t_firsts s1.toNatClampNeg) = s1 then some 1 else some 0))))
abbrev rm_X5_isFirst : Room := { frames := 1, cells := 0, slots := 0, locals := 24 }
set_option maxHeartbeats 4000000 in
set_option maxRecDepth 100000 in
theorem c_X5_isFirst (l : Launch) (D : va_G) (Y : ClassId × ClassId × ClassId × ClassId) (a_t a_t_rows a_t_firsts a_t_firstOfRank : Nat) (v_t_bells : Int32) (v_t_changes : Int32) (v_t_leads : Int32) (v_t_last : Int32) (f_t_firsts : Nat → Int32) (s1 : Int32) (R : Int32) (hf : f_X5_isFirst s1 f_t_firsts = some R) : Met l yX5_isFirst (ws_ yX5_isFirst cX5_isFirst 2 (some .boolean)) rm_X5_isFirst (va_Pc [.ref a_t, .int s1] (RO D Y [(a_t, .inr (4, [.ref a_t_rows, .ref a_t_firsts, .ref a_t_firstOfRank, .int v_t_bells, .int v_t_changes, .int v_t_leads, .int v_t_last])), (a_t_firsts, .inl (Y.1, 341, .inl f_t_firsts))])) (OZ R) 0 0 (fun _ => False) := by
  refine ro_start (by decide) (Nat.le_of_ble_eq_true rfl) ?_
  intro p e s m below meth c ls hx hb hml hr hlocks hown hts hP hE hl
  generalize hargs : List.toArray _ = args at hts ⊢
  have hown : s.vm.findClass RX5 = some m.cls := hown
  have E : EN p m c cX5_isFirst 2 s args RX5 := ⟨hx, hb, hml, hown, hts⟩
  have hl : lv_has ls 2 [(0, .ref a_t), (1, .int s1)] := hl
  generalize hQ : MQ below _ args s 0 0 _ = Q
  unfold f_X5_isFirst at hf
  refine lv_iload_n hx hb dX5_isFirst_0 rfl (lv_at hl 1 rfl) ?_
  refine lv_if_lt (tgt := 27) hx hb dX5_isFirst_1 (by decide) (fun c1 => ?_) (fun c1 => ?_)
  · have hf := ite_t c1 hf
    refine lv_iconst (v := 0) hx hb dX5_isFirst_27 (by decide) ?_
    obtain rfl := Option.some.inj hf
    subst hQ
    exact en_oz hx hb hr hlocks rfl (Or.inl rfl) dX5_isFirst_28
  have hf := ite_f c1 hf
  refine lv_iload_n hx hb dX5_isFirst_4 rfl (lv_at hl 1 rfl) ?_
  refine lv_aload_n hx hb dX5_isFirst_5 rfl (lv_at hl 0 rfl) ?_
  refine va_get (D := D) (ci := 4) (v := .ref a_t_firsts) (C := RX5) (T := TX5) (N := 7) hx hb hts inX5 hown hE.1 hP 0 rfl rfl 1 (by decide) (hts _ qw148) (fun _ h9 => h9) rfl dX5_isFirst_6 ?_
  refine va_alen (v := 341) hx hb hE.1 hP 1 0 rfl rfl rfl dX5_isFirst_9 ?_
  refine lv_icmp_ge (tgt := 27) hx hb dX5_isFirst_10 (by decide) (fun c2 => ?_) (fun c2 => ?_)
  · have hf := ite_t c2 hf
    refine lv_iconst (v := 0) hx hb dX5_isFirst_27 (by decide) ?_
    obtain rfl := Option.some.inj hf
    subst hQ
    exact en_oz hx hb hr hlocks rfl (Or.inl rfl) dX5_isFirst_28
  have hf := ite_f c2 hf
  refine lv_aload_n hx hb dX5_isFirst_13 rfl (lv_at hl 0 rfl) ?_
  refine va_get (D := D) (ci := 4) (v := .ref a_t_firsts) (C := RX5) (T := TX5) (N := 7) hx hb hts inX5 hown hE.1 hP 0 rfl rfl 1 (by decide) (hts _ qw148) (fun _ h9 => h9) rfl dX5_isFirst_14 ?_
  refine lv_iload_n hx hb dX5_isFirst_17 rfl (lv_at hl 1 rfl) ?_
  obtain ⟨g3, hf⟩ := gd_s hf
  refine va_iald hx hb hE.1 hP 1 0 rfl rfl (inb_in g3) dX5_isFirst_18 ?_
  refine lv_iload_n hx hb dX5_isFirst_19 rfl (lv_at hl 1 rfl) ?_
  refine lv_icmp_ne (tgt := 27) hx hb dX5_isFirst_20 (by decide) (fun c4 => ?_) (fun c4 => ?_)
  · have hf := ite_f c4 hf
    refine lv_iconst (v := 0) hx hb dX5_isFirst_27 (by decide) ?_
    obtain rfl := Option.some.inj hf
    subst hQ
    exact en_oz hx hb hr hlocks rfl (Or.inl rfl) dX5_isFirst_28
  have hf := ite_t c4 hf
  refine lv_iconst (v := 1) hx hb dX5_isFirst_23 (by decide) ?_
  refine lv_goto (tgt := 28) hx hb dX5_isFirst_24 (by decide) ?_
  obtain rfl := Option.some.inj hf
  subst hQ
  exact en_oz hx hb hr hlocks rfl (Or.inr rfl) dX5_isFirst_28

def f_X5_differentRows_L4 (v_t_last : Int32) (f_t_firsts : Nat → Int32) : Nat → Int32 → Int32 → Option (Int32)
  | 0, _, _ => none
  | n + 1, s1, s2 => (if v_t_last < s2 then some s1 else bd (f_X5_isFirst s2 f_t_firsts) (fun q2 => nm (if q2 = 0 then s1 else (s1 + 1)) (fun (w5 : Int32) => (f_X5_differentRows_L4 v_t_last f_t_firsts n w5 (s2 + 1)))))
def f_X5_differentRows (v_t_last : Int32) (f_t_firsts : Nat → Int32) : Option (Int32) :=
  (f_X5_differentRows_L4 v_t_last f_t_firsts fu 0 1)
abbrev rm_X5_differentRows : Room := { frames := 2, cells := 0, slots := 0, locals := 45 }
set_option maxHeartbeats 4000000 in
set_option maxRecDepth 100000 in
theorem c_X5_differentRows (l : Launch) (D : va_G) (Y : ClassId × ClassId × ClassId × ClassId) (a_t a_t_rows a_t_firsts a_t_firstOfRank : Nat) (v_t_bells : Int32) (v_t_changes : Int32) (v_t_leads : Int32) (v_t_last : Int32) (f_t_firsts : Nat → Int32) (R : Int32) (hf : f_X5_differentRows v_t_last f_t_firsts = some R) : Met l yX5_differentRows (ws_ yX5_differentRows cX5_differentRows 3 (some .int)) rm_X5_differentRows (va_Pc [.ref a_t] (RO D Y [(a_t, .inr (4, [.ref a_t_rows, .ref a_t_firsts, .ref a_t_firstOfRank, .int v_t_bells, .int v_t_changes, .int v_t_leads, .int v_t_last])), (a_t_firsts, .inl (Y.1, 341, .inl f_t_firsts))])) (OI R) 0 0 (fun _ => False) := by
  refine ro_start (by decide) (Nat.le_of_ble_eq_true rfl) ?_
  intro p e s m below meth c ls hx hb hml hr hlocks hown hts hP hE hl
  generalize hargs : List.toArray _ = args at hts ⊢
  have hown : s.vm.findClass RX5 = some m.cls := hown
  have E : EN p m c cX5_differentRows 3 s args RX5 := ⟨hx, hb, hml, hown, hts⟩
  have hl : lv_has ls 3 [(0, .ref a_t)] := hl
  generalize hQ : MQ below _ args s 0 0 _ = Q
  unfold f_X5_differentRows at hf
  have L4 : ∀ (n : Nat) (s1 : Int32) (s2 : Int32) (ls : Array Slot), f_X5_differentRows_L4 v_t_last f_t_firsts n s1 s2 = some R → lv_has ls 3 [(0, .ref a_t), (1, .int s1), (2, .int s2)] → W p l e rm_X5_differentRows s m args below meth c s.heap [] 0 0 Q (F0 m 4 ls []) := by
    intro n
    induction n with
    | zero =>
      intro s1 s2 ls hf
      cases hf
    | succ n ih =>
      intro s1 s2 ls hf hl
      unfold f_X5_differentRows_L4 at hf
      refine lv_iload_n hx hb dX5_differentRows_4 rfl (lv_at hl 2 rfl) ?_
      refine lv_aload_n hx hb dX5_differentRows_5 rfl (lv_at hl 0 rfl) ?_
      refine va_get (D := D) (ci := 4) (v := .int v_t_last) (C := RX5) (T := TX5) (N := 7) hx hb hts inX5 hown hE.1 hP 0 rfl rfl 6 (by decide) (hts _ qw153) (fun _ h9 => h9) rfl dX5_differentRows_6 ?_
      refine lv_icmp_gt (tgt := 29) hx hb dX5_differentRows_9 (by decide) (fun c1 => ?_) (fun c1 => ?_)
      · have hf := ite_t c1 hf
        refine lv_iload_n hx hb dX5_differentRows_29 rfl (lv_at hl 1 rfl) ?_
        obtain rfl := Option.some.inj hf
        subst hQ
        exact en_oi hx hb hr hlocks rfl dX5_differentRows_30
      have hf := ite_f c1 hf
      refine lv_aload_n hx hb dX5_differentRows_12 rfl (lv_at hl 0 rfl) ?_
      refine lv_iload_n hx hb dX5_differentRows_13 rfl (lv_at hl 2 rfl) ?_
      obtain ⟨q2, h3, hf⟩ := bd_s hf
      refine af_oz (run_V (As := [.int s2]) (rest := []) E (c_X5_isFirst l D Y a_t a_t_rows a_t_firsts a_t_firstOfRank v_t_bells v_t_changes v_t_leads v_t_last f_t_firsts s2 q2 h3) qw551 qw553 qw14 qw24 qw554 rfl rfl hd_X5_isFirst ⟨Nat.le_of_ble_eq_true rfl, Nat.le_of_ble_eq_true rfl⟩ (pre_roV hP hE [0, 1] rfl (ci := 4) (q0 := 0) rfl rfl) rfl hl.1 rfl (Nat.le_of_ble_eq_true rfl) dX5_differentRows_14 ⟨Nat.zero_le _, Nat.zero_le _⟩) (fun z4 => ?_)
      refine mg (P := fun (w5 : Int32) => ∀ (ls : Array Slot), lv_has ls 3 [(0, .ref a_t), (1, .int w5), (2, .int s2)] → W p l e rm_X5_differentRows s m args below meth c s.heap [] 0 0 Q (F0 m 23 ls [])) hf (fun w5 hf ls hl => ?_) (fun hJ => ?_)
      · refine lv_iinc (v := (s2 + 1)) (lv' := [(2, .int (s2 + 1)), (0, .ref a_t), (1, .int w5)]) hx hb dX5_differentRows_23 hl (k := 2) rfl rfl (by decide) rfl (fun ls hl => ?_)
        refine lv_goto (tgt := 4) hx hb dX5_differentRows_26 (by decide) ?_
        exact ih _ _ _ hf (lv_sub hl [1, 2, 0] rfl)
      refine lv_if_eq (tgt := 23) hx hb dX5_differentRows_17 (by decide) (fun c6 => ?_) (fun c6 => ?_)
      · have hf := nmi_t c6 hf
        exact hJ _ (nm_b hf) _ (lv_sub hl [0, 1, 2] rfl)
      have hf := nmi_f c6 hf
      refine lv_iinc (v := (s1 + 1)) (lv' := [(1, .int (s1 + 1)), (0, .ref a_t), (2, .int s2)]) hx hb dX5_differentRows_20 hl (k := 1) rfl rfl (by decide) rfl (fun ls hl => ?_)
      exact hJ _ (nm_b hf) _ (lv_sub hl [1, 0, 2] rfl)
  refine lv_iconst (v := 0) hx hb dX5_differentRows_0 (by decide) ?_
  refine lv_istore_n (lv' := [(1, .int 0), (0, .ref a_t)]) hx hb dX5_differentRows_1 rfl hl (by decide) rfl (fun ls hl => ?_)
  refine lv_iconst (v := 1) hx hb dX5_differentRows_2 (by decide) ?_
  refine lv_istore_n (lv' := [(2, .int 1), (1, .int 0), (0, .ref a_t)]) hx hb dX5_differentRows_3 rfl hl (by decide) rfl (fun ls hl => ?_)
  exact L4 _ _ _ _ hf (lv_sub hl [2, 1, 0] rfl)

def f_X5_firstRepeat_L2 (v_t_last : Int32) (f_t_firsts : Nat → Int32) : Nat → Int32 → Option (Int32)
  | 0, _ => none
  | n + 1, s1 => (if v_t_last < s1 then some (-4) else bd (f_X5_isFirst s1 f_t_firsts) (fun q2 => (if q2 = 0 then some s1 else (f_X5_firstRepeat_L2 v_t_last f_t_firsts n (s1 + 1)))))
def f_X5_firstRepeat (v_t_last : Int32) (f_t_firsts : Nat → Int32) : Option (Int32) :=
  (f_X5_firstRepeat_L2 v_t_last f_t_firsts fu 1)
abbrev rm_X5_firstRepeat : Room := { frames := 2, cells := 0, slots := 0, locals := 45 }
set_option maxHeartbeats 4000000 in
set_option maxRecDepth 100000 in
theorem c_X5_firstRepeat (l : Launch) (D : va_G) (Y : ClassId × ClassId × ClassId × ClassId) (a_t a_t_rows a_t_firsts a_t_firstOfRank : Nat) (v_t_bells : Int32) (v_t_changes : Int32) (v_t_leads : Int32) (v_t_last : Int32) (f_t_firsts : Nat → Int32) (R : Int32) (hf : f_X5_firstRepeat v_t_last f_t_firsts = some R) : Met l yX5_firstRepeat (ws_ yX5_firstRepeat cX5_firstRepeat 2 (some .int)) rm_X5_firstRepeat (va_Pc [.ref a_t] (RO D Y [(a_t, .inr (4, [.ref a_t_rows, .ref a_t_firsts, .ref a_t_firstOfRank, .int v_t_bells, .int v_t_changes, .int v_t_leads, .int v_t_last])), (a_t_firsts, .inl (Y.1, 341, .inl f_t_firsts))])) (OI R) 0 0 (fun _ => False) := by
  refine ro_start (by decide) (Nat.le_of_ble_eq_true rfl) ?_
  intro p e s m below meth c ls hx hb hml hr hlocks hown hts hP hE hl
  generalize hargs : List.toArray _ = args at hts ⊢
  have hown : s.vm.findClass RX5 = some m.cls := hown
  have E : EN p m c cX5_firstRepeat 2 s args RX5 := ⟨hx, hb, hml, hown, hts⟩
  have hl : lv_has ls 2 [(0, .ref a_t)] := hl
  generalize hQ : MQ below _ args s 0 0 _ = Q
  unfold f_X5_firstRepeat at hf
  have L2 : ∀ (n : Nat) (s1 : Int32) (ls : Array Slot), f_X5_firstRepeat_L2 v_t_last f_t_firsts n s1 = some R → lv_has ls 2 [(0, .ref a_t), (1, .int s1)] → W p l e rm_X5_firstRepeat s m args below meth c s.heap [] 0 0 Q (F0 m 2 ls []) := by
    intro n
    induction n with
    | zero =>
      intro s1 ls hf
      cases hf
    | succ n ih =>
      intro s1 ls hf hl
      unfold f_X5_firstRepeat_L2 at hf
      refine lv_iload_n hx hb dX5_firstRepeat_2 rfl (lv_at hl 1 rfl) ?_
      refine lv_aload_n hx hb dX5_firstRepeat_3 rfl (lv_at hl 0 rfl) ?_
      refine va_get (D := D) (ci := 4) (v := .int v_t_last) (C := RX5) (T := TX5) (N := 7) hx hb hts inX5 hown hE.1 hP 0 rfl rfl 6 (by decide) (hts _ qw153) (fun _ h9 => h9) rfl dX5_firstRepeat_4 ?_
      refine lv_icmp_gt (tgt := 26) hx hb dX5_firstRepeat_7 (by decide) (fun c1 => ?_) (fun c1 => ?_)
      · have hf := ite_t c1 hf
        refine lv_bipush (v := (-4)) hx hb dX5_firstRepeat_26 (by decide) ?_
        obtain rfl := Option.some.inj hf
        subst hQ
        exact en_oi hx hb hr hlocks rfl dX5_firstRepeat_28
      have hf := ite_f c1 hf
      refine lv_aload_n hx hb dX5_firstRepeat_10 rfl (lv_at hl 0 rfl) ?_
      refine lv_iload_n hx hb dX5_firstRepeat_11 rfl (lv_at hl 1 rfl) ?_
      obtain ⟨q2, h3, hf⟩ := bd_s hf
      refine af_oz (run_V (As := [.int s1]) (rest := []) E (c_X5_isFirst l D Y a_t a_t_rows a_t_firsts a_t_firstOfRank v_t_bells v_t_changes v_t_leads v_t_last f_t_firsts s1 q2 h3) qw551 qw553 qw14 qw24 qw554 rfl rfl hd_X5_isFirst ⟨Nat.le_of_ble_eq_true rfl, Nat.le_of_ble_eq_true rfl⟩ (pre_roV hP hE [0, 1] rfl (ci := 4) (q0 := 0) rfl rfl) rfl hl.1 rfl (Nat.le_of_ble_eq_true rfl) dX5_firstRepeat_12 ⟨Nat.zero_le _, Nat.zero_le _⟩) (fun z4 => ?_)
      refine lv_if_ne (tgt := 20) hx hb dX5_firstRepeat_15 (by decide) (fun c5 => ?_) (fun c5 => ?_)
      · have hf := ite_f c5 hf
        refine lv_iinc (v := (s1 + 1)) (lv' := [(1, .int (s1 + 1)), (0, .ref a_t)]) hx hb dX5_firstRepeat_20 hl (k := 1) rfl rfl (by decide) rfl (fun ls hl => ?_)
        refine lv_goto (tgt := 2) hx hb dX5_firstRepeat_23 (by decide) ?_
        exact ih _ _ hf (lv_sub hl [1, 0] rfl)
      have hf := ite_t c5 hf
      refine lv_iload_n hx hb dX5_firstRepeat_18 rfl (lv_at hl 1 rfl) ?_
      obtain rfl := Option.some.inj hf
      subst hQ
      exact en_oi hx hb hr hlocks rfl dX5_firstRepeat_19
  refine lv_iconst (v := 1) hx hb dX5_firstRepeat_0 (by decide) ?_
  refine lv_istore_n (lv' := [(1, .int 1), (0, .ref a_t)]) hx hb dX5_firstRepeat_1 rfl hl (by decide) rfl (fun ls hl => ?_)
  exact L2 _ _ _ hf (lv_sub hl [1, 0] rfl)

def f_X5_isTrue (v_t_last : Int32) (f_t_firsts : Nat → Int32) : Option (Int32) :=
  bd (f_X5_firstRepeat v_t_last f_t_firsts) (fun q1 => (if q1 = (-4) then some 1 else some 0))
abbrev rm_X5_isTrue : Room := { frames := 3, cells := 0, slots := 0, locals := 66 }
set_option maxHeartbeats 4000000 in
set_option maxRecDepth 100000 in
theorem c_X5_isTrue (l : Launch) (D : va_G) (Y : ClassId × ClassId × ClassId × ClassId) (a_t a_t_rows a_t_firsts a_t_firstOfRank : Nat) (v_t_bells : Int32) (v_t_changes : Int32) (v_t_leads : Int32) (v_t_last : Int32) (f_t_firsts : Nat → Int32) (R : Int32) (hf : f_X5_isTrue v_t_last f_t_firsts = some R) : Met l yX5_isTrue (ws_ yX5_isTrue cX5_isTrue 1 (some .boolean)) rm_X5_isTrue (va_Pc [.ref a_t] (RO D Y [(a_t, .inr (4, [.ref a_t_rows, .ref a_t_firsts, .ref a_t_firstOfRank, .int v_t_bells, .int v_t_changes, .int v_t_leads, .int v_t_last])), (a_t_firsts, .inl (Y.1, 341, .inl f_t_firsts))])) (OZ R) 0 0 (fun _ => False) := by
  refine ro_start (by decide) (Nat.le_of_ble_eq_true rfl) ?_
  intro p e s m below meth c ls hx hb hml hr hlocks hown hts hP hE hl
  generalize hargs : List.toArray _ = args at hts ⊢
  have hown : s.vm.findClass RX5 = some m.cls := hown
  have E : EN p m c cX5_isTrue 1 s args RX5 := ⟨hx, hb, hml, hown, hts⟩
  have hl : lv_has ls 1 [(0, .ref a_t)] := hl
  generalize hQ : MQ below _ args s 0 0 _ = Q
  unfold f_X5_isTrue at hf
  refine lv_aload_n hx hb dX5_isTrue_0 rfl (lv_at hl 0 rfl) ?_
  obtain ⟨q1, h2, hf⟩ := bd_s hf
  refine af_oi (run_V (As := []) (rest := []) E (c_X5_firstRepeat l D Y a_t a_t_rows a_t_firsts a_t_firstOfRank v_t_bells v_t_changes v_t_leads v_t_last f_t_firsts q1 h2) qw547 qw548 qw549 qw24 qw550 rfl rfl hd_X5_firstRepeat ⟨Nat.le_of_ble_eq_true rfl, Nat.le_of_ble_eq_true rfl⟩ (pre_roV hP hE [0, 1] rfl (ci := 4) (q0 := 0) rfl rfl) rfl hl.1 rfl (Nat.le_of_ble_eq_true rfl) dX5_isTrue_1 ⟨Nat.zero_le _, Nat.zero_le _⟩) ?_
  refine lv_bipush (v := (-4)) hx hb dX5_isTrue_4 (by decide) ?_
  refine lv_icmp_ne (tgt := 13) hx hb dX5_isTrue_6 (by decide) (fun c3 => ?_) (fun c3 => ?_)
  · have hf := ite_f c3 hf
    refine lv_iconst (v := 0) hx hb dX5_isTrue_13 (by decide) ?_
    obtain rfl := Option.some.inj hf
    subst hQ
    exact en_oz hx hb hr hlocks rfl (Or.inl rfl) dX5_isTrue_14
  have hf := ite_t c3 hf
  refine lv_iconst (v := 1) hx hb dX5_isTrue_9 (by decide) ?_
  refine lv_goto (tgt := 14) hx hb dX5_isTrue_10 (by decide) ?_
  obtain rfl := Option.some.inj hf
  subst hQ
  exact en_oz hx hb hr hlocks rfl (Or.inr rfl) dX5_isTrue_14

def f_X5_comesRound_L2 (v_t_last : Int32) (f_t_rows : Nat → Int32) : Nat → Int32 → Option (Int32)
  | 0, _ => none
  | n + 1, s1 => (if v_t_last < s1 then some (-4) else bd (f_X5_rowAt s1 f_t_rows) (fun q2 => (if q2 = (f_t_rows (0 : Int32).toNatClampNeg) then some s1 else (f_X5_comesRound_L2 v_t_last f_t_rows n (s1 + 1)))))
def f_X5_comesRound (v_t_last : Int32) (f_t_rows : Nat → Int32) : Option (Int32) :=
  (f_X5_comesRound_L2 v_t_last f_t_rows fu 1)
abbrev rm_X5_comesRound : Room := { frames := 2, cells := 0, slots := 0, locals := 45 }
set_option maxHeartbeats 4000000 in
set_option maxRecDepth 100000 in
theorem c_X5_comesRound (l : Launch) (D : va_G) (Y : ClassId × ClassId × ClassId × ClassId) (a_t a_t_rows a_t_firsts a_t_firstOfRank : Nat) (v_t_bells : Int32) (v_t_changes : Int32) (v_t_leads : Int32) (v_t_last : Int32) (f_t_rows : Nat → Int32) (R : Int32) (hf : f_X5_comesRound v_t_last f_t_rows = some R) : Met l yX5_comesRound (ws_ yX5_comesRound cX5_comesRound 2 (some .int)) rm_X5_comesRound (va_Pc [.ref a_t] (RO D Y [(a_t, .inr (4, [.ref a_t_rows, .ref a_t_firsts, .ref a_t_firstOfRank, .int v_t_bells, .int v_t_changes, .int v_t_leads, .int v_t_last])), (a_t_rows, .inl (Y.1, 341, .inl f_t_rows))])) (OI R) 0 0 (fun _ => False) := by
  refine ro_start (by decide) (Nat.le_of_ble_eq_true rfl) ?_
  intro p e s m below meth c ls hx hb hml hr hlocks hown hts hP hE hl
  generalize hargs : List.toArray _ = args at hts ⊢
  have hown : s.vm.findClass RX5 = some m.cls := hown
  have E : EN p m c cX5_comesRound 2 s args RX5 := ⟨hx, hb, hml, hown, hts⟩
  have hl : lv_has ls 2 [(0, .ref a_t)] := hl
  generalize hQ : MQ below _ args s 0 0 _ = Q
  unfold f_X5_comesRound at hf
  have L2 : ∀ (n : Nat) (s1 : Int32) (ls : Array Slot), f_X5_comesRound_L2 v_t_last f_t_rows n s1 = some R → lv_has ls 2 [(0, .ref a_t), (1, .int s1)] → W p l e rm_X5_comesRound s m args below meth c s.heap [] 0 0 Q (F0 m 2 ls []) := by
    intro n
    induction n with
    | zero =>
      intro s1 ls hf
      cases hf
    | succ n ih =>
      intro s1 ls hf hl
      unfold f_X5_comesRound_L2 at hf
      refine lv_iload_n hx hb dX5_comesRound_2 rfl (lv_at hl 1 rfl) ?_
      refine lv_aload_n hx hb dX5_comesRound_3 rfl (lv_at hl 0 rfl) ?_
      refine va_get (D := D) (ci := 4) (v := .int v_t_last) (C := RX5) (T := TX5) (N := 7) hx hb hts inX5 hown hE.1 hP 0 rfl rfl 6 (by decide) (hts _ qw153) (fun _ h9 => h9) rfl dX5_comesRound_4 ?_
      refine lv_icmp_gt (tgt := 32) hx hb dX5_comesRound_7 (by decide) (fun c1 => ?_) (fun c1 => ?_)
      · have hf := ite_t c1 hf
        refine lv_bipush (v := (-4)) hx hb dX5_comesRound_32 (by decide) ?_
        obtain rfl := Option.some.inj hf
        subst hQ
        exact en_oi hx hb hr hlocks rfl dX5_comesRound_34
      have hf := ite_f c1 hf
      refine lv_aload_n hx hb dX5_comesRound_10 rfl (lv_at hl 0 rfl) ?_
      refine lv_iload_n hx hb dX5_comesRound_11 rfl (lv_at hl 1 rfl) ?_
      obtain ⟨q2, h3, hf⟩ := bd_s hf
      refine af_oi (run_V (As := [.int s1]) (rest := []) E (c_X5_rowAt l D Y a_t a_t_rows a_t_firsts a_t_firstOfRank v_t_bells v_t_changes v_t_leads v_t_last f_t_rows s1 q2 h3) qw427 qw428 qw429 qw24 qw430 rfl rfl hd_X5_rowAt ⟨Nat.le_of_ble_eq_true rfl, Nat.le_of_ble_eq_true rfl⟩ (pre_roV hP hE [0, 1] rfl (ci := 4) (q0 := 0) rfl rfl) rfl hl.1 rfl (Nat.le_of_ble_eq_true rfl) dX5_comesRound_12 ⟨Nat.zero_le _, Nat.zero_le _⟩) ?_
      refine lv_aload_n hx hb dX5_comesRound_15 rfl (lv_at hl 0 rfl) ?_
      refine va_get (D := D) (ci := 4) (v := .ref a_t_rows) (C := RX5) (T := TX5) (N := 7) hx hb hts inX5 hown hE.1 hP 0 rfl rfl 0 (by decide) (hts _ qw147) (fun _ h9 => h9) rfl dX5_comesRound_16 ?_
      refine lv_iconst (v := 0) hx hb dX5_comesRound_19 (by decide) ?_
      refine va_iald hx hb hE.1 hP 1 0 rfl rfl (inb_in (by decide)) dX5_comesRound_20 ?_
      refine lv_icmp_ne (tgt := 26) hx hb dX5_comesRound_21 (by decide) (fun c4 => ?_) (fun c4 => ?_)
      · have hf := ite_f c4 hf
        refine lv_iinc (v := (s1 + 1)) (lv' := [(1, .int (s1 + 1)), (0, .ref a_t)]) hx hb dX5_comesRound_26 hl (k := 1) rfl rfl (by decide) rfl (fun ls hl => ?_)
        refine lv_goto (tgt := 2) hx hb dX5_comesRound_29 (by decide) ?_
        exact ih _ _ hf (lv_sub hl [1, 0] rfl)
      have hf := ite_t c4 hf
      refine lv_iload_n hx hb dX5_comesRound_24 rfl (lv_at hl 1 rfl) ?_
      obtain rfl := Option.some.inj hf
      subst hQ
      exact en_oi hx hb hr hlocks rfl dX5_comesRound_25
  refine lv_iconst (v := 1) hx hb dX5_comesRound_0 (by decide) ?_
  refine lv_istore_n (lv' := [(1, .int 1), (0, .ref a_t)]) hx hb dX5_comesRound_1 rfl hl (by decide) rfl (fun ls hl => ?_)
  exact L2 _ _ _ hf (lv_sub hl [1, 0] rfl)
