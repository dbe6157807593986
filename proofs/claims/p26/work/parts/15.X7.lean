def f_J7_fill_53178_L5 (s1 : Int32) (s3 : Int32) (n_p0 : Nat) : Nat → Int32 → (Nat → Int32) → Option ((Nat → Int32))
  | 0, _, _ => none
  | n + 1, s2, f_p0 => (if s3 ≤ s2 then some f_p0 else gd (inb s2 n_p0) ((f_J7_fill_53178_L5 s1 s3 n_p0 n (s2 + 1) (upd f_p0 s2.toNatClampNeg s1))))
def f_J7_fill_53178 (s1 : Int32) (n_p0 : Nat) (f_p0 : Nat → Int32) : Option ((Nat → Int32)) :=
  nm (nI n_p0) (fun (x1 : Int32) => (f_J7_fill_53178_L5 s1 x1 n_p0 fu 0 f_p0))
abbrev rm_J7_fill_53178 : Room := { frames := 1, cells := 0, slots := 0, locals := 24 }
set_option maxHeartbeats 4000000 in
set_option maxRecDepth 100000 in
theorem c_J7_fill_53178 (l : Launch) (D : va_G) (Y : ClassId × ClassId × ClassId × ClassId) (a_p0 : Nat) (n_p0 : Nat) (f_p0 : Nat → Int32) (s1 : Int32) (sz : Nat) (R : (Nat → Int32)) (hf : f_J7_fill_53178 s1 n_p0 f_p0 = some R) : Met l yJ7_fill_53178 (ws_ yJ7_fill_53178 cJ7_fill_53178 4 none) rm_J7_fill_53178 (va_Pc [.ref a_p0, .int s1] (RW D Y sz [(a_p0, .inl (Y.1, n_p0, .inl f_p0))])) (QV D [(a_p0, .inl (Y.1, n_p0, .inl R))] (va_A [(a_p0, .inl (Y.1, n_p0, .inl f_p0))] sz)) 0 0 (va_A [(a_p0, .inl (Y.1, n_p0, .inl f_p0))] sz) := by
  refine rw_start (Qc := fun A => QV D [(a_p0, .inl (Y.1, n_p0, .inl R))] A) (by decide) (Nat.le_of_ble_eq_true rfl) ?_
  intro p e s m below meth c ls A hx hb hml hr hlocks hown hts hnm hA hP hD hS hE hl
  generalize hargs : List.toArray _ = args at hts ⊢
  have hown : s.vm.findClass RJ7 = some m.cls := hown
  have E : EN p m c cJ7_fill_53178 4 s args RJ7 := ⟨hx, hb, hml, hown, hts⟩
  have hl : lv_has ls 4 [(0, .ref a_p0), (1, .int s1)] := hl
  generalize hQ : MQ below _ args s 0 0 _ = Q
  unfold f_J7_fill_53178 at hf
  have L5 : ∀ (n : Nat) (s1 : Int32) (s3 : Int32) (s2 : Int32) (f_p0 : Nat → Int32) (H : Heap) (locs : List Loc) (ls : Array Slot), f_J7_fill_53178_L5 s1 s3 n_p0 n s2 f_p0 = some R → va_P D vwCl [(a_p0, .inl (Y.1, n_p0, .inl f_p0))] H → va_D A [(a_p0, .inl (Y.1, n_p0, .inl f_p0))] → va_S A s.heap H locs → lv_has ls 4 [(0, .ref a_p0), (1, .int s1), (2, .int s2), (3, .int s3)] → W p l e rm_J7_fill_53178 s m args below meth c H locs 0 0 Q (F0 m 5 ls []) := by
    intro n
    induction n with
    | zero =>
      intro s1 s3 s2 f_p0 H locs ls hf
      cases hf
    | succ n ih =>
      intro s1 s3 s2 f_p0 H locs ls hf hP hD hS hl
      unfold f_J7_fill_53178_L5 at hf
      refine lv_iload_n hx hb dJ7_fill_53178_5 rfl (lv_at hl 2 rfl) ?_
      refine lv_iload_n hx hb dJ7_fill_53178_6 rfl (lv_at hl 3 rfl) ?_
      refine lv_icmp_ge (tgt := 20) hx hb dJ7_fill_53178_7 (by decide) (fun c2 => ?_) (fun c2 => ?_)
      · have hf := ite_t c2 hf
        obtain rfl := Option.some.inj hf
        subst hQ
        exact en_v hx hb hr hlocks hP hD hS dJ7_fill_53178_20
      have hf := ite_f c2 hf
      refine lv_aload_n hx hb dJ7_fill_53178_10 rfl (lv_at hl 0 rfl) ?_
      refine lv_iload_n hx hb dJ7_fill_53178_11 rfl (lv_at hl 2 rfl) ?_
      refine lv_iload_n hx hb dJ7_fill_53178_12 rfl (lv_at hl 1 rfl) ?_
      obtain ⟨g3, hf⟩ := gd_s hf
      refine va_iast hx hb hE.1 hP hD hS 0 0 rfl rfl (inb_in g3) dJ7_fill_53178_13 (fun H locs hP hD hS => ?_)
      have hP : va_P D vwCl [(a_p0, .inl (Y.1, n_p0, .inl (upd f_p0 s2.toNatClampNeg s1)))] H := hP
      have hD : va_D A [(a_p0, .inl (Y.1, n_p0, .inl (upd f_p0 s2.toNatClampNeg s1)))] := hD
      refine lv_iinc (v := (s2 + 1)) (lv' := [(2, .int (s2 + 1)), (0, .ref a_p0), (1, .int s1), (3, .int s3)]) hx hb dJ7_fill_53178_14 hl (k := 2) rfl rfl (by decide) rfl (fun ls hl => ?_)
      refine lv_goto (tgt := 5) hx hb dJ7_fill_53178_17 (by decide) ?_
      exact ih _ _ _ _ _ _ _ hf hP hD hS (lv_sub hl [1, 2, 0, 3] rfl)
  refine lv_iconst (v := 0) hx hb dJ7_fill_53178_0 (by decide) ?_
  refine lv_istore_n (lv' := [(2, .int 0), (0, .ref a_p0), (1, .int s1)]) hx hb dJ7_fill_53178_1 rfl hl (by decide) rfl (fun ls hl => ?_)
  refine lv_aload_n hx hb dJ7_fill_53178_2 rfl (lv_at hl 1 rfl) ?_
  refine va_alen (v := (nI n_p0)) hx hb hE.1 hP 0 0 rfl rfl rfl dJ7_fill_53178_3 ?_
  refine nm_W hf (fun x1 hf => ?_)
  refine lv_istore_n (lv' := [(3, .int x1), (2, .int 0), (0, .ref a_p0), (1, .int s1)]) hx hb dJ7_fill_53178_4 rfl hl (by decide) rfl (fun ls hl => ?_)
  exact L5 _ _ _ _ _ _ _ _ hf hP hD hS (lv_sub hl [2, 3, 1, 0] rfl)

def f_X7_reach (s1 : Int32) (s2 : Int32) (v_t_bells : Int32) (v_t_size : Int32) (f_t_fewest : Nat → Int32) (f_t_reached : Nat → Int32) : Option (Int32 × (Nat → Int32) × (Nat → Int32)) :=
  bd (f_X6_rank s1 v_t_bells) (fun q1 => (if q1 < 0 then some (v_t_size, f_t_fewest, f_t_reached) else (if (5040 : Int32) ≤ q1 then some (v_t_size, f_t_fewest, f_t_reached) else gd (inb q1 5040) ((if (f_t_fewest q1.toNatClampNeg) = (-4) then (if v_t_size < 0 then some (v_t_size, (upd f_t_fewest q1.toNatClampNeg s2), f_t_reached) else (if (5040 : Int32) ≤ v_t_size then some (v_t_size, (upd f_t_fewest q1.toNatClampNeg s2), f_t_reached) else gd (inb v_t_size 5040) (nm (v_t_size + 1) (fun (x10 : Int32) => some (x10, (upd f_t_fewest q1.toNatClampNeg s2), (upd f_t_reached v_t_size.toNatClampNeg s1)))))) else some (v_t_size, f_t_fewest, f_t_reached))))))
abbrev rm_X7_reach : Room := { frames := 3, cells := 0, slots := 0, locals := 72 }
set_option maxHeartbeats 4000000 in
set_option maxRecDepth 100000 in
theorem c_X7_reach (l : Launch) (D : va_G) (Y : ClassId × ClassId × ClassId × ClassId) (a_t a_t_fewest a_t_reached : Nat) (v_t_bells : Int32) (v_t_size : Int32) (f_t_fewest : Nat → Int32) (f_t_reached : Nat → Int32) (s1 : Int32) (s2 : Int32) (sz : Nat) (R : Int32 × (Nat → Int32) × (Nat → Int32)) (hf : f_X7_reach s1 s2 v_t_bells v_t_size f_t_fewest f_t_reached = some R) : Met l yX7_reach (ws_ yX7_reach cX7_reach 4 none) rm_X7_reach (va_Pc [.ref a_t, .int s1, .int s2] (RW D Y sz [(a_t, .inr (5, [.ref a_t_fewest, .ref a_t_reached, .int v_t_bells, .int v_t_size])), (a_t_fewest, .inl (Y.1, 5040, .inl f_t_fewest)), (a_t_reached, .inl (Y.1, 5040, .inl f_t_reached))])) (QV D [(a_t, .inr (5, [.ref a_t_fewest, .ref a_t_reached, .int v_t_bells, .int R.1])), (a_t_fewest, .inl (Y.1, 5040, .inl R.2.1)), (a_t_reached, .inl (Y.1, 5040, .inl R.2.2))] (va_A [(a_t, .inr (5, [.ref a_t_fewest, .ref a_t_reached, .int v_t_bells, .int v_t_size])), (a_t_fewest, .inl (Y.1, 5040, .inl f_t_fewest)), (a_t_reached, .inl (Y.1, 5040, .inl f_t_reached))] sz)) 0 0 (va_A [(a_t, .inr (5, [.ref a_t_fewest, .ref a_t_reached, .int v_t_bells, .int v_t_size])), (a_t_fewest, .inl (Y.1, 5040, .inl f_t_fewest)), (a_t_reached, .inl (Y.1, 5040, .inl f_t_reached))] sz) := by
  refine rw_start (Qc := fun A => QV D [(a_t, .inr (5, [.ref a_t_fewest, .ref a_t_reached, .int v_t_bells, .int R.1])), (a_t_fewest, .inl (Y.1, 5040, .inl R.2.1)), (a_t_reached, .inl (Y.1, 5040, .inl R.2.2))] A) (by decide) (Nat.le_of_ble_eq_true rfl) ?_
  intro p e s m below meth c ls A hx hb hml hr hlocks hown hts hnm hA hP hD hS hE hl
  generalize hargs : List.toArray _ = args at hts ⊢
  have hown : s.vm.findClass RX7 = some m.cls := hown
  have E : EN p m c cX7_reach 4 s args RX7 := ⟨hx, hb, hml, hown, hts⟩
  have hl : lv_has ls 4 [(0, .ref a_t), (1, .int s1), (2, .int s2)] := hl
  generalize hQ : MQ below _ args s 0 0 _ = Q
  unfold f_X7_reach at hf
  refine lv_iload_n hx hb dX7_reach_0 rfl (lv_at hl 1 rfl) ?_
  refine lv_aload_n hx hb dX7_reach_1 rfl (lv_at hl 0 rfl) ?_
  refine va_get (D := D) (ci := 5) (v := .int v_t_bells) (C := RX7) (T := TX7) (N := 4) hx hb hts inX7 hown hE.1 hP 0 rfl rfl 2 (by decide) (hts _ qw184) (fun _ h9 => h9) rfl dX7_reach_2 ?_
  obtain ⟨q1, h2, hf⟩ := bd_s hf
  refine af_oi (run_S (As := [.int s1, .int v_t_bells]) (rest := []) E (c_X6_rank l D Y s1 v_t_bells q1 h2) qw493 qw432 qw34 qw433 rfl rfl hd_X6_rank ⟨Nat.le_of_ble_eq_true rfl, Nat.le_of_ble_eq_true rfl⟩ (pre_roS hP hE [] rfl) rfl hl.1 rfl (Nat.le_of_ble_eq_true rfl) dX7_reach_5 ⟨Nat.zero_le _, Nat.zero_le _⟩) ?_
  refine lv_istore_n (lv' := [(3, .int q1), (0, .ref a_t), (1, .int s1), (2, .int s2)]) hx hb dX7_reach_8 rfl hl (by decide) rfl (fun ls hl => ?_)
  refine lv_iload_n hx hb dX7_reach_9 rfl (lv_at hl 0 rfl) ?_
  refine lv_if_lt (tgt := 33) hx hb dX7_reach_10 (by decide) (fun c3 => ?_) (fun c3 => ?_)
  · have hf := ite_t c3 hf
    obtain rfl := Option.some.inj hf
    subst hQ
    exact en_v hx hb hr hlocks hP hD hS dX7_reach_33
  have hf := ite_f c3 hf
  refine lv_iload_n hx hb dX7_reach_13 rfl (lv_at hl 0 rfl) ?_
  refine lv_aload_n hx hb dX7_reach_14 rfl (lv_at hl 1 rfl) ?_
  refine va_get (D := D) (ci := 5) (v := .ref a_t_fewest) (C := RX7) (T := TX7) (N := 4) hx hb hts inX7 hown hE.1 hP 0 rfl rfl 0 (by decide) (hts _ qw182) (fun _ h9 => h9) rfl dX7_reach_15 ?_
  refine va_alen (v := 5040) hx hb hE.1 hP 1 0 rfl rfl rfl dX7_reach_18 ?_
  refine lv_icmp_ge (tgt := 33) hx hb dX7_reach_19 (by decide) (fun c4 => ?_) (fun c4 => ?_)
  · have hf := ite_t c4 hf
    obtain rfl := Option.some.inj hf
    subst hQ
    exact en_v hx hb hr hlocks hP hD hS dX7_reach_33
  have hf := ite_f c4 hf
  refine lv_aload_n hx hb dX7_reach_22 rfl (lv_at hl 1 rfl) ?_
  refine va_get (D := D) (ci := 5) (v := .ref a_t_fewest) (C := RX7) (T := TX7) (N := 4) hx hb hts inX7 hown hE.1 hP 0 rfl rfl 0 (by decide) (hts _ qw182) (fun _ h9 => h9) rfl dX7_reach_23 ?_
  refine lv_iload_n hx hb dX7_reach_26 rfl (lv_at hl 0 rfl) ?_
  obtain ⟨g5, hf⟩ := gd_s hf
  refine va_iald hx hb hE.1 hP 1 0 rfl rfl (inb_in g5) dX7_reach_27 ?_
  refine lv_bipush (v := (-4)) hx hb dX7_reach_28 (by decide) ?_
  refine lv_icmp_eq (tgt := 34) hx hb dX7_reach_30 (by decide) (fun c6 => ?_) (fun c6 => ?_)
  · have hf := ite_t c6 hf
    refine lv_aload_n hx hb dX7_reach_34 rfl (lv_at hl 1 rfl) ?_
    refine va_get (D := D) (ci := 5) (v := .ref a_t_fewest) (C := RX7) (T := TX7) (N := 4) hx hb hts inX7 hown hE.1 hP 0 rfl rfl 0 (by decide) (hts _ qw182) (fun _ h9 => h9) rfl dX7_reach_35 ?_
    refine lv_iload_n hx hb dX7_reach_38 rfl (lv_at hl 0 rfl) ?_
    refine lv_iload_n hx hb dX7_reach_39 rfl (lv_at hl 3 rfl) ?_
    refine va_iast hx hb hE.1 hP hD hS 1 0 rfl rfl (inb_in g5) dX7_reach_40 (fun H locs hP hD hS => ?_)
    have hP : va_P D vwCl [(a_t, .inr (5, [.ref a_t_fewest, .ref a_t_reached, .int v_t_bells, .int v_t_size])), (a_t_fewest, .inl (Y.1, 5040, .inl (upd f_t_fewest q1.toNatClampNeg s2))), (a_t_reached, .inl (Y.1, 5040, .inl f_t_reached))] H := hP
    have hD : va_D A [(a_t, .inr (5, [.ref a_t_fewest, .ref a_t_reached, .int v_t_bells, .int v_t_size])), (a_t_fewest, .inl (Y.1, 5040, .inl (upd f_t_fewest q1.toNatClampNeg s2))), (a_t_reached, .inl (Y.1, 5040, .inl f_t_reached))] := hD
    refine lv_aload_n hx hb dX7_reach_41 rfl (lv_at hl 1 rfl) ?_
    refine va_get (D := D) (ci := 5) (v := .int v_t_size) (C := RX7) (T := TX7) (N := 4) hx hb hts inX7 hown hE.1 hP 0 rfl rfl 3 (by decide) (hts _ qw185) (fun _ h9 => h9) rfl dX7_reach_42 ?_
    refine lv_if_lt (tgt := 80) hx hb dX7_reach_45 (by decide) (fun c7 => ?_) (fun c7 => ?_)
    · have hf := ite_t c7 hf
      obtain rfl := Option.some.inj hf
      subst hQ
      exact en_v hx hb hr hlocks hP hD hS dX7_reach_80
    have hf := ite_f c7 hf
    refine lv_aload_n hx hb dX7_reach_48 rfl (lv_at hl 1 rfl) ?_
    refine va_get (D := D) (ci := 5) (v := .int v_t_size) (C := RX7) (T := TX7) (N := 4) hx hb hts inX7 hown hE.1 hP 0 rfl rfl 3 (by decide) (hts _ qw185) (fun _ h9 => h9) rfl dX7_reach_49 ?_
    refine lv_aload_n hx hb dX7_reach_52 rfl (lv_at hl 1 rfl) ?_
    refine va_get (D := D) (ci := 5) (v := .ref a_t_reached) (C := RX7) (T := TX7) (N := 4) hx hb hts inX7 hown hE.1 hP 0 rfl rfl 1 (by decide) (hts _ qw183) (fun _ h9 => h9) rfl dX7_reach_53 ?_
    refine va_alen (v := 5040) hx hb hE.1 hP 2 0 rfl rfl rfl dX7_reach_56 ?_
    refine lv_icmp_ge (tgt := 80) hx hb dX7_reach_57 (by decide) (fun c8 => ?_) (fun c8 => ?_)
    · have hf := ite_t c8 hf
      obtain rfl := Option.some.inj hf
      subst hQ
      exact en_v hx hb hr hlocks hP hD hS dX7_reach_80
    have hf := ite_f c8 hf
    refine lv_aload_n hx hb dX7_reach_60 rfl (lv_at hl 1 rfl) ?_
    refine va_get (D := D) (ci := 5) (v := .ref a_t_reached) (C := RX7) (T := TX7) (N := 4) hx hb hts inX7 hown hE.1 hP 0 rfl rfl 1 (by decide) (hts _ qw183) (fun _ h9 => h9) rfl dX7_reach_61 ?_
    refine lv_aload_n hx hb dX7_reach_64 rfl (lv_at hl 1 rfl) ?_
    refine va_get (D := D) (ci := 5) (v := .int v_t_size) (C := RX7) (T := TX7) (N := 4) hx hb hts inX7 hown hE.1 hP 0 rfl rfl 3 (by decide) (hts _ qw185) (fun _ h9 => h9) rfl dX7_reach_65 ?_
    refine lv_iload_n hx hb dX7_reach_68 rfl (lv_at hl 2 rfl) ?_
    obtain ⟨g9, hf⟩ := gd_s hf
    refine va_iast hx hb hE.1 hP hD hS 2 0 rfl rfl (inb_in g9) dX7_reach_69 (fun H locs hP hD hS => ?_)
    have hP : va_P D vwCl [(a_t, .inr (5, [.ref a_t_fewest, .ref a_t_reached, .int v_t_bells, .int v_t_size])), (a_t_fewest, .inl (Y.1, 5040, .inl (upd f_t_fewest q1.toNatClampNeg s2))), (a_t_reached, .inl (Y.1, 5040, .inl (upd f_t_reached v_t_size.toNatClampNeg s1)))] H := hP
    have hD : va_D A [(a_t, .inr (5, [.ref a_t_fewest, .ref a_t_reached, .int v_t_bells, .int v_t_size])), (a_t_fewest, .inl (Y.1, 5040, .inl (upd f_t_fewest q1.toNatClampNeg s2))), (a_t_reached, .inl (Y.1, 5040, .inl (upd f_t_reached v_t_size.toNatClampNeg s1)))] := hD
    refine lv_aload_n hx hb dX7_reach_70 rfl (lv_at hl 1 rfl) ?_
    refine lv_dup hx hb dX7_reach_71 rfl ?_
    refine va_get (D := D) (ci := 5) (v := .int v_t_size) (C := RX7) (T := TX7) (N := 4) hx hb hts inX7 hown hE.1 hP 0 rfl rfl 3 (by decide) (hts _ qw185) (fun _ h9 => h9) rfl dX7_reach_72 ?_
    refine lv_iconst (v := 1) hx hb dX7_reach_75 (by decide) ?_
    refine lv_iadd hx hb dX7_reach_76 ?_
    refine nm_W hf (fun x10 hf => ?_)
    refine va_put (D := D) (ci := 5) (v := .int x10) (ty := .int) (C := RX7) (T := TX7) (N := 4) hx hb hts inX7 tyX7 tyX7_ok nmX7 hown hE.1 hP hD hS 0 rfl rfl 3 (by decide) (hts _ qw185) (fun _ h9 => h9) rfl (tyX7_ok 3 (by decide)) rfl rfl (Nat.le_of_ble_eq_true rfl) dX7_reach_77 (fun H locs hP hD hS => ?_)
    have hP : va_P D vwCl [(a_t, .inr (5, [.ref a_t_fewest, .ref a_t_reached, .int v_t_bells, .int x10])), (a_t_fewest, .inl (Y.1, 5040, .inl (upd f_t_fewest q1.toNatClampNeg s2))), (a_t_reached, .inl (Y.1, 5040, .inl (upd f_t_reached v_t_size.toNatClampNeg s1)))] H := hP
    have hD : va_D A [(a_t, .inr (5, [.ref a_t_fewest, .ref a_t_reached, .int v_t_bells, .int x10])), (a_t_fewest, .inl (Y.1, 5040, .inl (upd f_t_fewest q1.toNatClampNeg s2))), (a_t_reached, .inl (Y.1, 5040, .inl (upd f_t_reached v_t_size.toNatClampNeg s1)))] := hD
    obtain rfl := Option.some.inj hf
    subst hQ
    exact en_v hx hb hr hlocks hP hD hS dX7_reach_80
  have hf := ite_f c6 hf
  obtain rfl := Option.some.inj hf
  subst hQ
  exact en_v hx hb hr hlocks hP hD hS dX7_reach_33

def f_X7_fewestTo (s1 : Int32) (v_t_bells : Int32) (f_t_fewest : Nat → Int32) : Option (Int32) :=
  bd (f_X6_rank s1 v_t_bells) (fun q1 => (if q1 < 0 then some (-4) else (if (5040 : Int32) ≤ q1 then some (-4) else gd (inb q1 5040) (some (f_t_fewest q1.toNatClampNeg)))))
abbrev rm_X7_fewestTo : Room := { frames := 3, cells := 0, slots := 0, locals := 72 }
set_option maxHeartbeats 4000000 in
set_option maxRecDepth 100000 in
theorem c_X7_fewestTo (l : Launch) (D : va_G) (Y : ClassId × ClassId × ClassId × ClassId) (a_t a_t_fewest a_t_reached : Nat) (v_t_bells : Int32) (v_t_size : Int32) (f_t_fewest : Nat → Int32) (s1 : Int32) (R : Int32) (hf : f_X7_fewestTo s1 v_t_bells f_t_fewest = some R) : Met l yX7_fewestTo (ws_ yX7_fewestTo cX7_fewestTo 3 (some .int)) rm_X7_fewestTo (va_Pc [.ref a_t, .int s1] (RO D Y [(a_t, .inr (5, [.ref a_t_fewest, .ref a_t_reached, .int v_t_bells, .int v_t_size])), (a_t_fewest, .inl (Y.1, 5040, .inl f_t_fewest))])) (OI R) 0 0 (fun _ => False) := by
  refine ro_start (by decide) (Nat.le_of_ble_eq_true rfl) ?_
  intro p e s m below meth c ls hx hb hml hr hlocks hown hts hP hE hl
  generalize hargs : List.toArray _ = args at hts ⊢
  have hown : s.vm.findClass RX7 = some m.cls := hown
  have E : EN p m c cX7_fewestTo 3 s args RX7 := ⟨hx, hb, hml, hown, hts⟩
  have hl : lv_has ls 3 [(0, .ref a_t), (1, .int s1)] := hl
  generalize hQ : MQ below _ args s 0 0 _ = Q
  unfold f_X7_fewestTo at hf
  refine lv_iload_n hx hb dX7_fewestTo_0 rfl (lv_at hl 1 rfl) ?_
  refine lv_aload_n hx hb dX7_fewestTo_1 rfl (lv_at hl 0 rfl) ?_
  refine va_get (D := D) (ci := 5) (v := .int v_t_bells) (C := RX7) (T := TX7) (N := 4) hx hb hts inX7 hown hE.1 hP 0 rfl rfl 2 (by decide) (hts _ qw184) (fun _ h9 => h9) rfl dX7_fewestTo_2 ?_
  obtain ⟨q1, h2, hf⟩ := bd_s hf
  refine af_oi (run_S (As := [.int s1, .int v_t_bells]) (rest := []) E (c_X6_rank l D Y s1 v_t_bells q1 h2) qw493 qw432 qw34 qw433 rfl rfl hd_X6_rank ⟨Nat.le_of_ble_eq_true rfl, Nat.le_of_ble_eq_true rfl⟩ (pre_roS hP hE [] rfl) rfl hl.1 rfl (Nat.le_of_ble_eq_true rfl) dX7_fewestTo_5 ⟨Nat.zero_le _, Nat.zero_le _⟩) ?_
  refine lv_istore_n (lv' := [(2, .int q1), (0, .ref a_t), (1, .int s1)]) hx hb dX7_fewestTo_8 rfl hl (by decide) rfl (fun ls hl => ?_)
  refine lv_iload_n hx hb dX7_fewestTo_9 rfl (lv_at hl 0 rfl) ?_
  refine lv_if_lt (tgt := 31) hx hb dX7_fewestTo_10 (by decide) (fun c3 => ?_) (fun c3 => ?_)
  · have hf := ite_t c3 hf
    refine lv_bipush (v := (-4)) hx hb dX7_fewestTo_31 (by decide) ?_
    obtain rfl := Option.some.inj hf
    subst hQ
    exact en_oi hx hb hr hlocks rfl dX7_fewestTo_33
  have hf := ite_f c3 hf
  refine lv_iload_n hx hb dX7_fewestTo_13 rfl (lv_at hl 0 rfl) ?_
  refine lv_aload_n hx hb dX7_fewestTo_14 rfl (lv_at hl 1 rfl) ?_
  refine va_get (D := D) (ci := 5) (v := .ref a_t_fewest) (C := RX7) (T := TX7) (N := 4) hx hb hts inX7 hown hE.1 hP 0 rfl rfl 0 (by decide) (hts _ qw182) (fun _ h9 => h9) rfl dX7_fewestTo_15 ?_
  refine va_alen (v := 5040) hx hb hE.1 hP 1 0 rfl rfl rfl dX7_fewestTo_18 ?_
  refine lv_icmp_ge (tgt := 31) hx hb dX7_fewestTo_19 (by decide) (fun c4 => ?_) (fun c4 => ?_)
  · have hf := ite_t c4 hf
    refine lv_bipush (v := (-4)) hx hb dX7_fewestTo_31 (by decide) ?_
    obtain rfl := Option.some.inj hf
    subst hQ
    exact en_oi hx hb hr hlocks rfl dX7_fewestTo_33
  have hf := ite_f c4 hf
  refine lv_aload_n hx hb dX7_fewestTo_22 rfl (lv_at hl 1 rfl) ?_
  refine va_get (D := D) (ci := 5) (v := .ref a_t_fewest) (C := RX7) (T := TX7) (N := 4) hx hb hts inX7 hown hE.1 hP 0 rfl rfl 0 (by decide) (hts _ qw182) (fun _ h9 => h9) rfl dX7_fewestTo_23 ?_
  refine lv_iload_n hx hb dX7_fewestTo_26 rfl (lv_at hl 0 rfl) ?_
  obtain ⟨g5, hf⟩ := gd_s hf
  refine va_iald hx hb hE.1 hP 1 0 rfl rfl (inb_in g5) dX7_fewestTo_27 ?_
  refine lv_goto (tgt := 33) hx hb dX7_fewestTo_28 (by decide) ?_
  obtain rfl := Option.some.inj hf
  subst hQ
  exact en_oi hx hb hr hlocks rfl dX7_fewestTo_33

def f_X7_from_L77 (k : Int32 → Int32 → (Nat → Int32) → (Nat → Int32) → Option (Int32 × Int32 × (Nat → Int32) × (Nat → Int32))) (s2 : Int32) (s4 : Int32) (s5 : Int32) (s6 : Int32) (s7 : Int32) (n_p3 : Nat) (v_t_bells : Int32) (f_p3 : Nat → Int32) : Nat → Int32 → Int32 → (Nat → Int32) → (Nat → Int32) → Option (Int32 × Int32 × (Nat → Int32) × (Nat → Int32))
  | 0, _, _, _, _ => none
  | n + 1, s8, v_t_size, f_t_fewest, f_t_reached => (if (nI n_p3) ≤ s8 then (k s8 v_t_size f_t_fewest f_t_reached) else gd (inb s8 n_p3) (bd (f_X6_behindLead s6 (f_p3 s8.toNatClampNeg) s4) (fun q15 => bd (f_X7_reach q15 s7 v_t_bells v_t_size f_t_fewest f_t_reached) (fun q17 => (f_X7_from_L77 k s2 s4 s5 s6 s7 n_p3 v_t_bells f_p3 n (s8 + 1) q17.1 q17.2.1 q17.2.2)))))
def f_X7_from_L29 (s2 : Int32) (s4 : Int32) (n_p3 : Nat) (v_t_bells : Int32) (f_p3 : Nat → Int32) : Nat → Int32 → Int32 → (Nat → Int32) → (Nat → Int32) → Option (Int32 × Int32 × (Nat → Int32) × (Nat → Int32))
  | 0, _, _, _, _ => none
  | n + 1, s5, v_t_size, f_t_fewest, f_t_reached => (if v_t_size ≤ s5 then some (v_t_bells, v_t_size, f_t_fewest, f_t_reached) else (if (5040 : Int32) ≤ s5 then some (v_t_bells, v_t_size, f_t_fewest, f_t_reached) else gd (inb s5 5040) (nm (f_t_reached s5.toNatClampNeg) (fun (x8 : Int32) => (if x8 = s2 then some (v_t_bells, v_t_size, f_t_fewest, f_t_reached) else bd (f_X7_fewestTo x8 v_t_bells f_t_fewest) (fun q10 => nm (q10 + 1) (fun (x12 : Int32) => (f_X7_from_L77 (fun (y19 : Int32) (y20 : Int32) (y21 : Nat → Int32) (y22 : Nat → Int32) => (f_X7_from_L29 s2 s4 n_p3 v_t_bells f_p3 n (s5 + 1) y20 y21 y22)) s2 s4 s5 x8 x12 n_p3 v_t_bells f_p3 fu 0 v_t_size f_t_fewest f_t_reached))))))))
def f_X7_from (s1 : Int32) (s2 : Int32) (s4 : Int32) (n_p3 : Nat) (v_t_bells : Int32) (v_t_size : Int32) (f_t_fewest : Nat → Int32) (f_t_reached : Nat → Int32) (f_p3 : Nat → Int32) : Option (Int32 × Int32 × (Nat → Int32) × (Nat → Int32)) :=
  bd (f_J7_fill_53178 (-4) 5040 f_t_fewest) (fun q1 => bd (f_X7_reach s1 0 s4 0 q1 f_t_reached) (fun q3 => (f_X7_from_L29 s2 s4 n_p3 s4 f_p3 fu 0 q3.1 q3.2.1 q3.2.2)))
abbrev rm_X7_from : Room := { frames := 4, cells := 0, slots := 0, locals := 95 }
set_option maxHeartbeats 4000000 in
set_option maxRecDepth 100000 in
theorem c_X7_from (l : Launch) (D : va_G) (Y : ClassId × ClassId × ClassId × ClassId) (a_t a_t_fewest a_t_reached a_p3 : Nat) (n_p3 : Nat) (v_t_bells : Int32) (v_t_size : Int32) (f_t_fewest : Nat → Int32) (f_t_reached : Nat → Int32) (f_p3 : Nat → Int32) (s1 : Int32) (s2 : Int32) (s4 : Int32) (sz : Nat) (R : Int32 × Int32 × (Nat → Int32) × (Nat → Int32)) (hf : f_X7_from s1 s2 s4 n_p3 v_t_bells v_t_size f_t_fewest f_t_reached f_p3 = some R) : Met l yX7_from (ws_ yX7_from cX7_from 9 none) rm_X7_from (va_Pc [.ref a_t, .int s1, .int s2, .ref a_p3, .int s4] (RW D Y sz [(a_t, .inr (5, [.ref a_t_fewest, .ref a_t_reached, .int v_t_bells, .int v_t_size])), (a_t_fewest, .inl (Y.1, 5040, .inl f_t_fewest)), (a_t_reached, .inl (Y.1, 5040, .inl f_t_reached)), (a_p3, .inl (Y.1, n_p3, .inl f_p3))])) (QV D [(a_t, .inr (5, [.ref a_t_fewest, .ref a_t_reached, .int R.1, .int R.2.1])), (a_t_fewest, .inl (Y.1, 5040, .inl R.2.2.1)), (a_t_reached, .inl (Y.1, 5040, .inl R.2.2.2)), (a_p3, .inl (Y.1, n_p3, .inl f_p3))] (va_A [(a_t, .inr (5, [.ref a_t_fewest, .ref a_t_reached, .int v_t_bells, .int v_t_size])), (a_t_fewest, .inl (Y.1, 5040, .inl f_t_fewest)), (a_t_reached, .inl (Y.1, 5040, .inl f_t_reached)), (a_p3, .inl (Y.1, n_p3, .inl f_p3))] sz)) 0 0 (va_A [(a_t, .inr (5, [.ref a_t_fewest, .ref a_t_reached, .int v_t_bells, .int v_t_size])), (a_t_fewest, .inl (Y.1, 5040, .inl f_t_fewest)), (a_t_reached, .inl (Y.1, 5040, .inl f_t_reached)), (a_p3, .inl (Y.1, n_p3, .inl f_p3))] sz) := by
  refine rw_start (Qc := fun A => QV D [(a_t, .inr (5, [.ref a_t_fewest, .ref a_t_reached, .int R.1, .int R.2.1])), (a_t_fewest, .inl (Y.1, 5040, .inl R.2.2.1)), (a_t_reached, .inl (Y.1, 5040, .inl R.2.2.2)), (a_p3, .inl (Y.1, n_p3, .inl f_p3))] A) (by decide) (Nat.le_of_ble_eq_true rfl) ?_
  intro p e s m below meth c ls A hx hb hml hr hlocks hown hts hnm hA hP hD hS hE hl
  generalize hargs : List.toArray _ = args at hts ⊢
  have hown : s.vm.findClass RX7 = some m.cls := hown
  have E : EN p m c cX7_from 9 s args RX7 := ⟨hx, hb, hml, hown, hts⟩
  have hl : lv_has ls 9 [(0, .ref a_t), (1, .int s1), (2, .int s2), (3, .ref a_p3), (4, .int s4)] := hl
  generalize hQ : MQ below _ args s 0 0 _ = Q
  unfold f_X7_from at hf
  have L77 : ∀ (n : Nat) (k : Int32 → Int32 → (Nat → Int32) → (Nat → Int32) → Option (Int32 × Int32 × (Nat → Int32) × (Nat → Int32))) (s2 : Int32) (s4 : Int32) (s5 : Int32) (s6 : Int32) (s7 : Int32) (v_t_bells : Int32) (s8 : Int32) (v_t_size : Int32) (f_t_fewest : Nat → Int32) (f_t_reached : Nat → Int32) (H : Heap) (locs : List Loc) (ls : Array Slot), f_X7_from_L77 k s2 s4 s5 s6 s7 n_p3 v_t_bells f_p3 n s8 v_t_size f_t_fewest f_t_reached = some R → va_P D vwCl [(a_t, .inr (5, [.ref a_t_fewest, .ref a_t_reached, .int v_t_bells, .int v_t_size])), (a_t_fewest, .inl (Y.1, 5040, .inl f_t_fewest)), (a_t_reached, .inl (Y.1, 5040, .inl f_t_reached)), (a_p3, .inl (Y.1, n_p3, .inl f_p3))] H → va_D A [(a_t, .inr (5, [.ref a_t_fewest, .ref a_t_reached, .int v_t_bells, .int v_t_size])), (a_t_fewest, .inl (Y.1, 5040, .inl f_t_fewest)), (a_t_reached, .inl (Y.1, 5040, .inl f_t_reached)), (a_p3, .inl (Y.1, n_p3, .inl f_p3))] → va_S A s.heap H locs → lv_has ls 9 [(0, .ref a_t), (2, .int s2), (3, .ref a_p3), (4, .int s4), (5, .int s5), (6, .int s6), (7, .int s7), (8, .int s8)] → (∀ (y_s8 : Int32) (y_v_t_size : Int32) (y_f_t_fewest : Nat → Int32) (y_f_t_reached : Nat → Int32) (H : Heap) (locs : List Loc) (ls : Array Slot), k y_s8 y_v_t_size y_f_t_fewest y_f_t_reached = some R → va_P D vwCl [(a_t, .inr (5, [.ref a_t_fewest, .ref a_t_reached, .int v_t_bells, .int y_v_t_size])), (a_t_fewest, .inl (Y.1, 5040, .inl y_f_t_fewest)), (a_t_reached, .inl (Y.1, 5040, .inl y_f_t_reached)), (a_p3, .inl (Y.1, n_p3, .inl f_p3))] H → va_D A [(a_t, .inr (5, [.ref a_t_fewest, .ref a_t_reached, .int v_t_bells, .int y_v_t_size])), (a_t_fewest, .inl (Y.1, 5040, .inl y_f_t_fewest)), (a_t_reached, .inl (Y.1, 5040, .inl y_f_t_reached)), (a_p3, .inl (Y.1, n_p3, .inl f_p3))] → va_S A s.heap H locs → lv_has ls 9 [(0, .ref a_t), (2, .int s2), (3, .ref a_p3), (4, .int s4), (5, .int s5)] → W p l e rm_X7_from s m args below meth c H locs 0 0 Q (F0 m 107 ls [])) → W p l e rm_X7_from s m args below meth c H locs 0 0 Q (F0 m 77 ls []) := by
    intro n
    induction n with
    | zero =>
      intro k s2 s4 s5 s6 s7 v_t_bells s8 v_t_size f_t_fewest f_t_reached H locs ls hf
      cases hf
    | succ n ih =>
      intro k s2 s4 s5 s6 s7 v_t_bells s8 v_t_size f_t_fewest f_t_reached H locs ls hf hP hD hS hl hk
      unfold f_X7_from_L77 at hf
      refine lv_iload hx hb dX7_from_77 (lv_at hl 7 rfl) ?_
      refine lv_aload_n hx hb dX7_from_79 rfl (lv_at hl 2 rfl) ?_
      refine va_alen (v := (nI n_p3)) hx hb hE.1 hP 3 0 rfl rfl rfl dX7_from_80 ?_
      refine lv_icmp_ge (tgt := 107) hx hb dX7_from_81 (by decide) (fun c13 => ?_) (fun c13 => ?_)
      · have hf := ite_t c13 hf
        exact hk _ _ _ _ _ _ _ hf hP hD hS (lv_sub hl [0, 1, 2, 3, 4] rfl)
      have hf := ite_f c13 hf
      refine lv_aload_n hx hb dX7_from_84 rfl (lv_at hl 0 rfl) ?_
      refine lv_iload hx hb dX7_from_85 (lv_at hl 5 rfl) ?_
      refine lv_aload_n hx hb dX7_from_87 rfl (lv_at hl 2 rfl) ?_
      refine lv_iload hx hb dX7_from_88 (lv_at hl 7 rfl) ?_
      obtain ⟨g14, hf⟩ := gd_s hf
      refine va_iald hx hb hE.1 hP 3 0 rfl rfl (inb_in g14) dX7_from_90 ?_
      refine lv_iload hx hb dX7_from_91 (lv_at hl 3 rfl) ?_
      obtain ⟨q15, h16, hf⟩ := bd_s hf
      refine af_oi (run_S (As := [.int s6, .int (f_p3 s8.toNatClampNeg), .int s4]) (rest := [.ref a_t]) E (c_X6_behindLead l D Y s6 (f_p3 s8.toNatClampNeg) s4 q15 h16) qw498 qw499 qw34 qw500 rfl rfl hd_X6_behindLead ⟨Nat.le_of_ble_eq_true rfl, Nat.le_of_ble_eq_true rfl⟩ (pre_roS hP hE [] rfl) rfl hl.1 rfl (Nat.le_of_ble_eq_true rfl) dX7_from_93 ⟨Nat.zero_le _, Nat.zero_le _⟩) ?_
      refine lv_iload hx hb dX7_from_96 (lv_at hl 6 rfl) ?_
      obtain ⟨q17, h18, hf⟩ := bd_s hf
      refine af_v0 (wc := [(a_t, .inr (5, [.ref a_t_fewest, .ref a_t_reached, .int v_t_bells, .int v_t_size])), (a_t_fewest, .inl (Y.1, 5040, .inl f_t_fewest)), (a_t_reached, .inl (Y.1, 5040, .inl f_t_reached))]) (wr := [(a_p3, .inl (Y.1, n_p3, .inl f_p3))]) (wn := [(a_t, .inr (5, [.ref a_t_fewest, .ref a_t_reached, .int v_t_bells, .int q17.1])), (a_t_fewest, .inl (Y.1, 5040, .inl q17.2.1)), (a_t_reached, .inl (Y.1, 5040, .inl q17.2.2)), (a_p3, .inl (Y.1, n_p3, .inl f_p3))]) (run_V (As := [.int q15, .int s7]) (rest := []) E (c_X7_reach l D Y a_t a_t_fewest a_t_reached v_t_bells v_t_size f_t_fewest f_t_reached q15 s7 H.size q17 h18) qw489 qw491 qw12 qw26 qw492 rfl rfl hd_X7_reach ⟨Nat.le_of_ble_eq_true rfl, Nat.le_of_ble_eq_true rfl⟩ (pre_rwV hP hD hE [0, 1, 2] rfl (by decide) rfl (ci := 5) (q0 := 0) rfl rfl) rfl hl.1 rfl (Nat.le_of_ble_eq_true rfl) dX7_from_98 ⟨Nat.zero_le _, Nat.zero_le _⟩) hP hD hS hA [0, 1, 2] [3] [1, 2, 3, 0] rfl rfl (by decide) (by decide) rfl rfl (by decide) (fun H locs  hP hD hS => ?_)
      refine lv_iinc (v := (s8 + 1)) (lv' := [(8, .int (s8 + 1)), (0, .ref a_t), (2, .int s2), (3, .ref a_p3), (4, .int s4), (5, .int s5), (6, .int s6), (7, .int s7)]) hx hb dX7_from_101 hl (k := 7) rfl rfl (by decide) rfl (fun ls hl => ?_)
      refine lv_goto (tgt := 77) hx hb dX7_from_104 (by decide) ?_
      exact ih _ _ _ _ _ _ _ _ _ _ _ _ _ _ hf hP hD hS (lv_sub hl [1, 2, 3, 4, 5, 6, 7, 0] rfl) hk
  have L29 : ∀ (n : Nat) (s2 : Int32) (s4 : Int32) (v_t_bells : Int32) (s5 : Int32) (v_t_size : Int32) (f_t_fewest : Nat → Int32) (f_t_reached : Nat → Int32) (H : Heap) (locs : List Loc) (ls : Array Slot), f_X7_from_L29 s2 s4 n_p3 v_t_bells f_p3 n s5 v_t_size f_t_fewest f_t_reached = some R → va_P D vwCl [(a_t, .inr (5, [.ref a_t_fewest, .ref a_t_reached, .int v_t_bells, .int v_t_size])), (a_t_fewest, .inl (Y.1, 5040, .inl f_t_fewest)), (a_t_reached, .inl (Y.1, 5040, .inl f_t_reached)), (a_p3, .inl (Y.1, n_p3, .inl f_p3))] H → va_D A [(a_t, .inr (5, [.ref a_t_fewest, .ref a_t_reached, .int v_t_bells, .int v_t_size])), (a_t_fewest, .inl (Y.1, 5040, .inl f_t_fewest)), (a_t_reached, .inl (Y.1, 5040, .inl f_t_reached)), (a_p3, .inl (Y.1, n_p3, .inl f_p3))] → va_S A s.heap H locs → lv_has ls 9 [(0, .ref a_t), (2, .int s2), (3, .ref a_p3), (4, .int s4), (5, .int s5)] → W p l e rm_X7_from s m args below meth c H locs 0 0 Q (F0 m 29 ls []) := by
    intro n
    induction n with
    | zero =>
      intro s2 s4 v_t_bells s5 v_t_size f_t_fewest f_t_reached H locs ls hf
      cases hf
    | succ n ih =>
      intro s2 s4 v_t_bells s5 v_t_size f_t_fewest f_t_reached H locs ls hf hP hD hS hl
      unfold f_X7_from_L29 at hf
      refine lv_iload hx hb dX7_from_29 (lv_at hl 4 rfl) ?_
      refine lv_aload_n hx hb dX7_from_31 rfl (lv_at hl 0 rfl) ?_
      refine va_get (D := D) (ci := 5) (v := .int v_t_size) (C := RX7) (T := TX7) (N := 4) hx hb hts inX7 hown hE.1 hP 0 rfl rfl 3 (by decide) (hts _ qw185) (fun _ h9 => h9) rfl dX7_from_32 ?_
      refine lv_icmp_ge (tgt := 113) hx hb dX7_from_35 (by decide) (fun c5 => ?_) (fun c5 => ?_)
      · have hf := ite_t c5 hf
        obtain rfl := Option.some.inj hf
        subst hQ
        exact en_v hx hb hr hlocks hP hD hS dX7_from_113
      have hf := ite_f c5 hf
      refine lv_iload hx hb dX7_from_38 (lv_at hl 4 rfl) ?_
      refine lv_aload_n hx hb dX7_from_40 rfl (lv_at hl 0 rfl) ?_
      refine va_get (D := D) (ci := 5) (v := .ref a_t_reached) (C := RX7) (T := TX7) (N := 4) hx hb hts inX7 hown hE.1 hP 0 rfl rfl 1 (by decide) (hts _ qw183) (fun _ h9 => h9) rfl dX7_from_41 ?_
      refine va_alen (v := 5040) hx hb hE.1 hP 2 0 rfl rfl rfl dX7_from_44 ?_
      refine lv_icmp_ge (tgt := 113) hx hb dX7_from_45 (by decide) (fun c6 => ?_) (fun c6 => ?_)
      · have hf := ite_t c6 hf
        obtain rfl := Option.some.inj hf
        subst hQ
        exact en_v hx hb hr hlocks hP hD hS dX7_from_113
      have hf := ite_f c6 hf
      refine lv_aload_n hx hb dX7_from_48 rfl (lv_at hl 0 rfl) ?_
      refine va_get (D := D) (ci := 5) (v := .ref a_t_reached) (C := RX7) (T := TX7) (N := 4) hx hb hts inX7 hown hE.1 hP 0 rfl rfl 1 (by decide) (hts _ qw183) (fun _ h9 => h9) rfl dX7_from_49 ?_
      refine lv_iload hx hb dX7_from_52 (lv_at hl 4 rfl) ?_
      obtain ⟨g7, hf⟩ := gd_s hf
      refine va_iald hx hb hE.1 hP 2 0 rfl rfl (inb_in g7) dX7_from_54 ?_
      refine nm_W hf (fun x8 hf => ?_)
      refine lv_istore (lv' := [(6, .int x8), (0, .ref a_t), (2, .int s2), (3, .ref a_p3), (4, .int s4), (5, .int s5)]) hx hb dX7_from_55 hl (by decide) rfl (fun ls hl => ?_)
      refine lv_iload hx hb dX7_from_57 (lv_at hl 0 rfl) ?_
      refine lv_iload_n hx hb dX7_from_59 rfl (lv_at hl 2 rfl) ?_
      refine lv_icmp_ne (tgt := 64) hx hb dX7_from_60 (by decide) (fun c9 => ?_) (fun c9 => ?_)
      · have hf := ite_f c9 hf
        refine lv_aload_n hx hb dX7_from_64 rfl (lv_at hl 1 rfl) ?_
        refine lv_iload hx hb dX7_from_65 (lv_at hl 0 rfl) ?_
        obtain ⟨q10, h11, hf⟩ := bd_s hf
        refine af_oi (run_V (As := [.int x8]) (rest := []) E (c_X7_fewestTo l D Y a_t a_t_fewest a_t_reached v_t_bells v_t_size f_t_fewest x8 q10 h11) qw494 qw495 qw496 qw26 qw497 rfl rfl hd_X7_fewestTo ⟨Nat.le_of_ble_eq_true rfl, Nat.le_of_ble_eq_true rfl⟩ (pre_roV hP hE [0, 1] rfl (ci := 5) (q0 := 0) rfl rfl) rfl hl.1 rfl (Nat.le_of_ble_eq_true rfl) dX7_from_67 ⟨Nat.zero_le _, Nat.zero_le _⟩) ?_
        refine lv_iconst (v := 1) hx hb dX7_from_70 (by decide) ?_
        refine lv_iadd hx hb dX7_from_71 ?_
        refine nm_W hf (fun x12 hf => ?_)
        refine lv_istore (lv' := [(7, .int x12), (6, .int x8), (0, .ref a_t), (2, .int s2), (3, .ref a_p3), (4, .int s4), (5, .int s5)]) hx hb dX7_from_72 hl (by decide) rfl (fun ls hl => ?_)
        refine lv_iconst (v := 0) hx hb dX7_from_74 (by decide) ?_
        refine lv_istore (lv' := [(8, .int 0), (7, .int x12), (6, .int x8), (0, .ref a_t), (2, .int s2), (3, .ref a_p3), (4, .int s4), (5, .int s5)]) hx hb dX7_from_75 hl (by decide) rfl (fun ls hl => ?_)
        refine L77 _ _ _ _ _ _ _ _ _ _ _ _ _ _ _ hf hP hD hS (lv_sub hl [3, 4, 5, 6, 7, 2, 1, 0] rfl) ?_
        intro y19 y20 y21 y22 H locs ls hf hP hD hS hl
        refine lv_iinc (v := (s5 + 1)) (lv' := [(5, .int (s5 + 1)), (0, .ref a_t), (2, .int s2), (3, .ref a_p3), (4, .int s4)]) hx hb dX7_from_107 hl (k := 4) rfl rfl (by decide) rfl (fun ls hl => ?_)
        refine lv_goto (tgt := 29) hx hb dX7_from_110 (by decide) ?_
        exact ih _ _ _ _ _ _ _ _ _ _ hf hP hD hS (lv_sub hl [1, 2, 3, 4, 0] rfl)
      have hf := ite_t c9 hf
      obtain rfl := Option.some.inj hf
      subst hQ
      exact en_v hx hb hr hlocks hP hD hS dX7_from_63
  refine lv_aload_n hx hb dX7_from_0 rfl (lv_at hl 0 rfl) ?_
  refine lv_iload hx hb dX7_from_1 (lv_at hl 4 rfl) ?_
  refine va_put (D := D) (ci := 5) (v := .int s4) (ty := .int) (C := RX7) (T := TX7) (N := 4) hx hb hts inX7 tyX7 tyX7_ok nmX7 hown hE.1 hP hD hS 0 rfl rfl 2 (by decide) (hts _ qw184) (fun _ h9 => h9) rfl (tyX7_ok 2 (by decide)) rfl rfl (Nat.le_of_ble_eq_true rfl) dX7_from_3 (fun H locs hP hD hS => ?_)
  have hP : va_P D vwCl [(a_t, .inr (5, [.ref a_t_fewest, .ref a_t_reached, .int s4, .int v_t_size])), (a_t_fewest, .inl (Y.1, 5040, .inl f_t_fewest)), (a_t_reached, .inl (Y.1, 5040, .inl f_t_reached)), (a_p3, .inl (Y.1, n_p3, .inl f_p3))] H := hP
  have hD : va_D A [(a_t, .inr (5, [.ref a_t_fewest, .ref a_t_reached, .int s4, .int v_t_size])), (a_t_fewest, .inl (Y.1, 5040, .inl f_t_fewest)), (a_t_reached, .inl (Y.1, 5040, .inl f_t_reached)), (a_p3, .inl (Y.1, n_p3, .inl f_p3))] := hD
  refine lv_aload_n hx hb dX7_from_6 rfl (lv_at hl 0 rfl) ?_
  refine lv_iconst (v := 0) hx hb dX7_from_7 (by decide) ?_
  refine va_put (D := D) (ci := 5) (v := .int 0) (ty := .int) (C := RX7) (T := TX7) (N := 4) hx hb hts inX7 tyX7 tyX7_ok nmX7 hown hE.1 hP hD hS 0 rfl rfl 3 (by decide) (hts _ qw185) (fun _ h9 => h9) rfl (tyX7_ok 3 (by decide)) rfl rfl (Nat.le_of_ble_eq_true rfl) dX7_from_8 (fun H locs hP hD hS => ?_)
  have hP : va_P D vwCl [(a_t, .inr (5, [.ref a_t_fewest, .ref a_t_reached, .int s4, .int 0])), (a_t_fewest, .inl (Y.1, 5040, .inl f_t_fewest)), (a_t_reached, .inl (Y.1, 5040, .inl f_t_reached)), (a_p3, .inl (Y.1, n_p3, .inl f_p3))] H := hP
  have hD : va_D A [(a_t, .inr (5, [.ref a_t_fewest, .ref a_t_reached, .int s4, .int 0])), (a_t_fewest, .inl (Y.1, 5040, .inl f_t_fewest)), (a_t_reached, .inl (Y.1, 5040, .inl f_t_reached)), (a_p3, .inl (Y.1, n_p3, .inl f_p3))] := hD
  refine lv_aload_n hx hb dX7_from_11 rfl (lv_at hl 0 rfl) ?_
  refine va_get (D := D) (ci := 5) (v := .ref a_t_fewest) (C := RX7) (T := TX7) (N := 4) hx hb hts inX7 hown hE.1 hP 0 rfl rfl 0 (by decide) (hts _ qw182) (fun _ h9 => h9) rfl dX7_from_12 ?_
  refine lv_bipush (v := (-4)) hx hb dX7_from_15 (by decide) ?_
  obtain ⟨q1, h2, hf⟩ := bd_s hf
  refine af_v0 (wc := [(a_t_fewest, .inl (Y.1, 5040, .inl f_t_fewest))]) (wr := [(a_t, .inr (5, [.ref a_t_fewest, .ref a_t_reached, .int s4, .int 0])), (a_t_reached, .inl (Y.1, 5040, .inl f_t_reached)), (a_p3, .inl (Y.1, n_p3, .inl f_p3))]) (wn := [(a_t, .inr (5, [.ref a_t_fewest, .ref a_t_reached, .int s4, .int 0])), (a_t_fewest, .inl (Y.1, 5040, .inl q1)), (a_t_reached, .inl (Y.1, 5040, .inl f_t_reached)), (a_p3, .inl (Y.1, n_p3, .inl f_p3))]) (run_S (As := [.ref a_t_fewest, .int (-4)]) (rest := []) E (c_J7_fill_53178 l D Y a_t_fewest 5040 f_t_fewest (-4) H.size q1 h2) qw486 qw487 qw36 qw488 rfl rfl hd_J7_fill_53178 ⟨Nat.le_of_ble_eq_true rfl, Nat.le_of_ble_eq_true rfl⟩ (pre_rwS hP hD hE [1] rfl (by decide) rfl) rfl hl.1 rfl (Nat.le_of_ble_eq_true rfl) dX7_from_17 ⟨Nat.zero_le _, Nat.zero_le _⟩) hP hD hS hA [1] [0, 2, 3] [0, 3, 1, 2] rfl rfl (by decide) (by decide) rfl rfl (by decide) (fun H locs  hP hD hS => ?_)
  refine lv_aload_n hx hb dX7_from_20 rfl (lv_at hl 0 rfl) ?_
  refine lv_iload_n hx hb dX7_from_21 rfl (lv_at hl 1 rfl) ?_
  refine lv_iconst (v := 0) hx hb dX7_from_22 (by decide) ?_
  obtain ⟨q3, h4, hf⟩ := bd_s hf
  refine af_v0 (wc := [(a_t, .inr (5, [.ref a_t_fewest, .ref a_t_reached, .int s4, .int 0])), (a_t_fewest, .inl (Y.1, 5040, .inl q1)), (a_t_reached, .inl (Y.1, 5040, .inl f_t_reached))]) (wr := [(a_p3, .inl (Y.1, n_p3, .inl f_p3))]) (wn := [(a_t, .inr (5, [.ref a_t_fewest, .ref a_t_reached, .int s4, .int q3.1])), (a_t_fewest, .inl (Y.1, 5040, .inl q3.2.1)), (a_t_reached, .inl (Y.1, 5040, .inl q3.2.2)), (a_p3, .inl (Y.1, n_p3, .inl f_p3))]) (run_V (As := [.int s1, .int 0]) (rest := []) E (c_X7_reach l D Y a_t a_t_fewest a_t_reached s4 0 q1 f_t_reached s1 0 H.size q3 h4) qw489 qw491 qw12 qw26 qw492 rfl rfl hd_X7_reach ⟨Nat.le_of_ble_eq_true rfl, Nat.le_of_ble_eq_true rfl⟩ (pre_rwV hP hD hE [0, 1, 2] rfl (by decide) rfl (ci := 5) (q0 := 0) rfl rfl) rfl hl.1 rfl (Nat.le_of_ble_eq_true rfl) dX7_from_23 ⟨Nat.zero_le _, Nat.zero_le _⟩) hP hD hS hA [0, 1, 2] [3] [1, 2, 3, 0] rfl rfl (by decide) (by decide) rfl rfl (by decide) (fun H locs  hP hD hS => ?_)
  refine lv_iconst (v := 0) hx hb dX7_from_26 (by decide) ?_
  refine lv_istore (lv' := [(5, .int 0), (0, .ref a_t), (1, .int s1), (2, .int s2), (3, .ref a_p3), (4, .int s4)]) hx hb dX7_from_27 hl (by decide) rfl (fun ls hl => ?_)
  exact L29 _ _ _ _ _ _ _ _ _ _ _ hf hP hD hS (lv_sub hl [1, 3, 4, 5, 0] rfl)

def f_X1_learn_L27 (k : Int32 → Int32 → (Nat → Int32) → (Nat → Int32) → Option (Int32 × Int32 × Int32 × (Nat → Int32) × (Nat → Int32) × (Nat → Int32) × (Nat → Int32))) (v_t_bells : Int32) (v_t_fromRounds_bells : Int32) (v_t_fromRounds_size : Int32) (f_t_fromRounds_fewest : Nat → Int32) (f_t_fromRounds_reached : Nat → Int32) (v_p1_bells : Int32) (v_p1_changes : Int32) (v_p1_bob : Int32) (v_p1_single : Int32) (f_p1_places : Nat → Int32) : Nat → Int32 → Int32 → (Nat → Int32) → (Nat → Int32) → Option (Int32 × Int32 × Int32 × (Nat → Int32) × (Nat → Int32) × (Nat → Int32) × (Nat → Int32))
  | 0, _, _, _, _ => none
  | n + 1, s2, s3, f_t_leads, f_t_leadsBack => (if (3 : Int32) ≤ s3 then (k s2 s3 f_t_leads f_t_leadsBack) else (if (3 : Int32) ≤ s3 then (k s2 s3 f_t_leads f_t_leadsBack) else bd (f_X9_roundsBehindLead s3 v_p1_bells v_p1_changes v_p1_bob v_p1_single f_p1_places) (fun q4 => (if s2 = 0 then gd (inb s3 3) (bd (f_X6_backwards q4 v_t_bells) (fun q8 => (f_X1_learn_L27 k v_t_bells v_t_fromRounds_bells v_t_fromRounds_size f_t_fromRounds_fewest f_t_fromRounds_reached v_p1_bells v_p1_changes v_p1_bob v_p1_single f_p1_places n 0 (s3 + 1) (upd f_t_leads s3.toNatClampNeg q4) (upd f_t_leadsBack s3.toNatClampNeg q8)))) else gd (inb s3 3) (nm (if q4 = (f_t_leads s3.toNatClampNeg) then (1 : Int32) else (0 : Int32)) (fun (w11 : Int32) => bd (f_X6_backwards q4 v_t_bells) (fun q12 => (f_X1_learn_L27 k v_t_bells v_t_fromRounds_bells v_t_fromRounds_size f_t_fromRounds_fewest f_t_fromRounds_reached v_p1_bells v_p1_changes v_p1_bob v_p1_single f_p1_places n w11 (s3 + 1) (upd f_t_leads s3.toNatClampNeg q4) (upd f_t_leadsBack s3.toNatClampNeg q12)))))))))
def f_X1_learn (v_t_bells : Int32) (v_t_fromRounds_bells : Int32) (v_t_fromRounds_size : Int32) (f_t_fromRounds_fewest : Nat → Int32) (f_t_fromRounds_reached : Nat → Int32) (f_t_leads : Nat → Int32) (f_t_leadsBack : Nat → Int32) (v_p1_bells : Int32) (v_p1_changes : Int32) (v_p1_bob : Int32) (v_p1_single : Int32) (f_p1_places : Nat → Int32) : Option (Int32 × Int32 × Int32 × (Nat → Int32) × (Nat → Int32) × (Nat → Int32) × (Nat → Int32)) :=
  nm (if v_t_bells = v_p1_bells then (1 : Int32) else (0 : Int32)) (fun (w1 : Int32) => (f_X1_learn_L27 (fun (y15 : Int32) (y16 : Int32) (y17 : Nat → Int32) (y18 : Nat → Int32) => (if y15 = 0 then bd (f_X6_rounds v_p1_bells) (fun q20 => bd (f_X7_from q20 0 v_p1_bells 3 v_t_fromRounds_bells v_t_fromRounds_size f_t_fromRounds_fewest f_t_fromRounds_reached y18) (fun q22 => some (v_p1_bells, q22.1, q22.2.1, q22.2.2.1, q22.2.2.2, y17, y18))) else some (v_p1_bells, v_t_fromRounds_bells, v_t_fromRounds_size, f_t_fromRounds_fewest, f_t_fromRounds_reached, y17, y18))) v_p1_bells v_t_fromRounds_bells v_t_fromRounds_size f_t_fromRounds_fewest f_t_fromRounds_reached v_p1_bells v_p1_changes v_p1_bob v_p1_single f_p1_places fu w1 0 f_t_leads f_t_leadsBack))
abbrev rm_X1_learn : Room := { frames := 5, cells := 0, slots := 0, locals := 123 }
set_option maxHeartbeats 4000000 in
set_option maxRecDepth 100000 in
theorem c_X1_learn (l : Launch) (D : va_G) (Y : ClassId × ClassId × ClassId × ClassId) (a_t a_t_fromRounds a_t_fromRow a_t_leads a_t_leadsBack a_t_fromRounds_fewest a_t_fromRounds_reached a_p1 a_p1_places a_p1_kinds : Nat) (v_t_bells : Int32) (v_t_fromRounds_bells : Int32) (v_t_fromRounds_size : Int32) (f_t_fromRounds_fewest : Nat → Int32) (f_t_fromRounds_reached : Nat → Int32) (f_t_leads : Nat → Int32) (f_t_leadsBack : Nat → Int32) (v_p1_bells : Int32) (v_p1_changes : Int32) (v_p1_bob : Int32) (v_p1_single : Int32) (v_p1_leads : Int32) (f_p1_places : Nat → Int32) (sz : Nat) (R : Int32 × Int32 × Int32 × (Nat → Int32) × (Nat → Int32) × (Nat → Int32) × (Nat → Int32)) (hf : f_X1_learn v_t_bells v_t_fromRounds_bells v_t_fromRounds_size f_t_fromRounds_fewest f_t_fromRounds_reached f_t_leads f_t_leadsBack v_p1_bells v_p1_changes v_p1_bob v_p1_single f_p1_places = some R) : Met l yX1_learn (ws_ yX1_learn cX1_learn 5 none) rm_X1_learn (va_Pc [.ref a_t, .ref a_p1] (RW D Y sz [(a_t, .inr (1, [.ref a_t_fromRounds, .ref a_t_fromRow, .ref a_t_leads, .ref a_t_leadsBack, .int v_t_bells])), (a_t_fromRounds, .inr (5, [.ref a_t_fromRounds_fewest, .ref a_t_fromRounds_reached, .int v_t_fromRounds_bells, .int v_t_fromRounds_size])), (a_t_fromRounds_fewest, .inl (Y.1, 5040, .inl f_t_fromRounds_fewest)), (a_t_fromRounds_reached, .inl (Y.1, 5040, .inl f_t_fromRounds_reached)), (a_t_leads, .inl (Y.1, 3, .inl f_t_leads)), (a_t_leadsBack, .inl (Y.1, 3, .inl f_t_leadsBack)), (a_p1, .inr (6, [.int v_p1_bells, .int v_p1_changes, .int v_p1_bob, .int v_p1_single, .int v_p1_leads, .ref a_p1_places, .ref a_p1_kinds])), (a_p1_places, .inl (Y.1, 20, .inl f_p1_places))])) (QV D [(a_t, .inr (1, [.ref a_t_fromRounds, .ref a_t_fromRow, .ref a_t_leads, .ref a_t_leadsBack, .int R.1])), (a_t_fromRounds, .inr (5, [.ref a_t_fromRounds_fewest, .ref a_t_fromRounds_reached, .int R.2.1, .int R.2.2.1])), (a_t_fromRounds_fewest, .inl (Y.1, 5040, .inl R.2.2.2.1)), (a_t_fromRounds_reached, .inl (Y.1, 5040, .inl R.2.2.2.2.1)), (a_t_leads, .inl (Y.1, 3, .inl R.2.2.2.2.2.1)), (a_t_leadsBack, .inl (Y.1, 3, .inl R.2.2.2.2.2.2)), (a_p1, .inr (6, [.int v_p1_bells, .int v_p1_changes, .int v_p1_bob, .int v_p1_single, .int v_p1_leads, .ref a_p1_places, .ref a_p1_kinds])), (a_p1_places, .inl (Y.1, 20, .inl f_p1_places))] (va_A [(a_t, .inr (1, [.ref a_t_fromRounds, .ref a_t_fromRow, .ref a_t_leads, .ref a_t_leadsBack, .int v_t_bells])), (a_t_fromRounds, .inr (5, [.ref a_t_fromRounds_fewest, .ref a_t_fromRounds_reached, .int v_t_fromRounds_bells, .int v_t_fromRounds_size])), (a_t_fromRounds_fewest, .inl (Y.1, 5040, .inl f_t_fromRounds_fewest)), (a_t_fromRounds_reached, .inl (Y.1, 5040, .inl f_t_fromRounds_reached)), (a_t_leads, .inl (Y.1, 3, .inl f_t_leads)), (a_t_leadsBack, .inl (Y.1, 3, .inl f_t_leadsBack)), (a_p1, .inr (6, [.int v_p1_bells, .int v_p1_changes, .int v_p1_bob, .int v_p1_single, .int v_p1_leads, .ref a_p1_places, .ref a_p1_kinds])), (a_p1_places, .inl (Y.1, 20, .inl f_p1_places))] sz)) 0 0 (va_A [(a_t, .inr (1, [.ref a_t_fromRounds, .ref a_t_fromRow, .ref a_t_leads, .ref a_t_leadsBack, .int v_t_bells])), (a_t_fromRounds, .inr (5, [.ref a_t_fromRounds_fewest, .ref a_t_fromRounds_reached, .int v_t_fromRounds_bells, .int v_t_fromRounds_size])), (a_t_fromRounds_fewest, .inl (Y.1, 5040, .inl f_t_fromRounds_fewest)), (a_t_fromRounds_reached, .inl (Y.1, 5040, .inl f_t_fromRounds_reached)), (a_t_leads, .inl (Y.1, 3, .inl f_t_leads)), (a_t_leadsBack, .inl (Y.1, 3, .inl f_t_leadsBack)), (a_p1, .inr (6, [.int v_p1_bells, .int v_p1_changes, .int v_p1_bob, .int v_p1_single, .int v_p1_leads, .ref a_p1_places, .ref a_p1_kinds])), (a_p1_places, .inl (Y.1, 20, .inl f_p1_places))] sz) := by
  refine rw_start (Qc := fun A => QV D [(a_t, .inr (1, [.ref a_t_fromRounds, .ref a_t_fromRow, .ref a_t_leads, .ref a_t_leadsBack, .int R.1])), (a_t_fromRounds, .inr (5, [.ref a_t_fromRounds_fewest, .ref a_t_fromRounds_reached, .int R.2.1, .int R.2.2.1])), (a_t_fromRounds_fewest, .inl (Y.1, 5040, .inl R.2.2.2.1)), (a_t_fromRounds_reached, .inl (Y.1, 5040, .inl R.2.2.2.2.1)), (a_t_leads, .inl (Y.1, 3, .inl R.2.2.2.2.2.1)), (a_t_leadsBack, .inl (Y.1, 3, .inl R.2.2.2.2.2.2)), (a_p1, .inr (6, [.int v_p1_bells, .int v_p1_changes, .int v_p1_bob, .int v_p1_single, .int v_p1_leads, .ref a_p1_places, .ref a_p1_kinds])), (a_p1_places, .inl (Y.1, 20, .inl f_p1_places))] A) (by decide) (Nat.le_of_ble_eq_true rfl) ?_
  intro p e s m below meth c ls A hx hb hml hr hlocks hown hts hnm hA hP hD hS hE hl
  generalize hargs : List.toArray _ = args at hts ⊢
  have hown : s.vm.findClass RX1 = some m.cls := hown
  have E : EN p m c cX1_learn 5 s args RX1 := ⟨hx, hb, hml, hown, hts⟩
  have hl : lv_has ls 5 [(0, .ref a_t), (1, .ref a_p1)] := hl
  generalize hQ : MQ below _ args s 0 0 _ = Q
  unfold f_X1_learn at hf
  have L27 : ∀ (n : Nat) (k : Int32 → Int32 → (Nat → Int32) → (Nat → Int32) → Option (Int32 × Int32 × Int32 × (Nat → Int32) × (Nat → Int32) × (Nat → Int32) × (Nat → Int32))) (v_t_bells : Int32) (v_t_fromRounds_bells : Int32) (v_t_fromRounds_size : Int32) (f_t_fromRounds_fewest : Nat → Int32) (f_t_fromRounds_reached : Nat → Int32) (s2 : Int32) (s3 : Int32) (f_t_leads : Nat → Int32) (f_t_leadsBack : Nat → Int32) (H : Heap) (locs : List Loc) (ls : Array Slot), f_X1_learn_L27 k v_t_bells v_t_fromRounds_bells v_t_fromRounds_size f_t_fromRounds_fewest f_t_fromRounds_reached v_p1_bells v_p1_changes v_p1_bob v_p1_single f_p1_places n s2 s3 f_t_leads f_t_leadsBack = some R → va_P D vwCl [(a_t, .inr (1, [.ref a_t_fromRounds, .ref a_t_fromRow, .ref a_t_leads, .ref a_t_leadsBack, .int v_t_bells])), (a_t_fromRounds, .inr (5, [.ref a_t_fromRounds_fewest, .ref a_t_fromRounds_reached, .int v_t_fromRounds_bells, .int v_t_fromRounds_size])), (a_t_fromRounds_fewest, .inl (Y.1, 5040, .inl f_t_fromRounds_fewest)), (a_t_fromRounds_reached, .inl (Y.1, 5040, .inl f_t_fromRounds_reached)), (a_t_leads, .inl (Y.1, 3, .inl f_t_leads)), (a_t_leadsBack, .inl (Y.1, 3, .inl f_t_leadsBack)), (a_p1, .inr (6, [.int v_p1_bells, .int v_p1_changes, .int v_p1_bob, .int v_p1_single, .int v_p1_leads, .ref a_p1_places, .ref a_p1_kinds])), (a_p1_places, .inl (Y.1, 20, .inl f_p1_places))] H → va_D A [(a_t, .inr (1, [.ref a_t_fromRounds, .ref a_t_fromRow, .ref a_t_leads, .ref a_t_leadsBack, .int v_t_bells])), (a_t_fromRounds, .inr (5, [.ref a_t_fromRounds_fewest, .ref a_t_fromRounds_reached, .int v_t_fromRounds_bells, .int v_t_fromRounds_size])), (a_t_fromRounds_fewest, .inl (Y.1, 5040, .inl f_t_fromRounds_fewest)), (a_t_fromRounds_reached, .inl (Y.1, 5040, .inl f_t_fromRounds_reached)), (a_t_leads, .inl (Y.1, 3, .inl f_t_leads)), (a_t_leadsBack, .inl (Y.1, 3, .inl f_t_leadsBack)), (a_p1, .inr (6, [.int v_p1_bells, .int v_p1_changes, .int v_p1_bob, .int v_p1_single, .int v_p1_leads, .ref a_p1_places, .ref a_p1_kinds])), (a_p1_places, .inl (Y.1, 20, .inl f_p1_places))] → va_S A s.heap H locs → lv_has ls 5 [(0, .ref a_t), (1, .ref a_p1), (2, .int s2), (3, .int s3)] → (∀ (y_s2 : Int32) (y_s3 : Int32) (y_f_t_leads : Nat → Int32) (y_f_t_leadsBack : Nat → Int32) (H : Heap) (locs : List Loc) (ls : Array Slot), k y_s2 y_s3 y_f_t_leads y_f_t_leadsBack = some R → va_P D vwCl [(a_t, .inr (1, [.ref a_t_fromRounds, .ref a_t_fromRow, .ref a_t_leads, .ref a_t_leadsBack, .int v_t_bells])), (a_t_fromRounds, .inr (5, [.ref a_t_fromRounds_fewest, .ref a_t_fromRounds_reached, .int v_t_fromRounds_bells, .int v_t_fromRounds_size])), (a_t_fromRounds_fewest, .inl (Y.1, 5040, .inl f_t_fromRounds_fewest)), (a_t_fromRounds_reached, .inl (Y.1, 5040, .inl f_t_fromRounds_reached)), (a_t_leads, .inl (Y.1, 3, .inl y_f_t_leads)), (a_t_leadsBack, .inl (Y.1, 3, .inl y_f_t_leadsBack)), (a_p1, .inr (6, [.int v_p1_bells, .int v_p1_changes, .int v_p1_bob, .int v_p1_single, .int v_p1_leads, .ref a_p1_places, .ref a_p1_kinds])), (a_p1_places, .inl (Y.1, 20, .inl f_p1_places))] H → va_D A [(a_t, .inr (1, [.ref a_t_fromRounds, .ref a_t_fromRow, .ref a_t_leads, .ref a_t_leadsBack, .int v_t_bells])), (a_t_fromRounds, .inr (5, [.ref a_t_fromRounds_fewest, .ref a_t_fromRounds_reached, .int v_t_fromRounds_bells, .int v_t_fromRounds_size])), (a_t_fromRounds_fewest, .inl (Y.1, 5040, .inl f_t_fromRounds_fewest)), (a_t_fromRounds_reached, .inl (Y.1, 5040, .inl f_t_fromRounds_reached)), (a_t_leads, .inl (Y.1, 3, .inl y_f_t_leads)), (a_t_leadsBack, .inl (Y.1, 3, .inl y_f_t_leadsBack)), (a_p1, .inr (6, [.int v_p1_bells, .int v_p1_changes, .int v_p1_bob, .int v_p1_single, .int v_p1_leads, .ref a_p1_places, .ref a_p1_kinds])), (a_p1_places, .inl (Y.1, 20, .inl f_p1_places))] → va_S A s.heap H locs → lv_has ls 5 [(0, .ref a_t), (2, .int y_s2)] → W p l e rm_X1_learn s m args below meth c H locs 0 0 Q (F0 m 102 ls [])) → W p l e rm_X1_learn s m args below meth c H locs 0 0 Q (F0 m 27 ls []) := by
    intro n
    induction n with
    | zero =>
      intro k v_t_bells v_t_fromRounds_bells v_t_fromRounds_size f_t_fromRounds_fewest f_t_fromRounds_reached s2 s3 f_t_leads f_t_leadsBack H locs ls hf
      cases hf
    | succ n ih =>
      intro k v_t_bells v_t_fromRounds_bells v_t_fromRounds_size f_t_fromRounds_fewest f_t_fromRounds_reached s2 s3 f_t_leads f_t_leadsBack H locs ls hf hP hD hS hl hk
      unfold f_X1_learn_L27 at hf
      refine lv_iload_n hx hb dX1_learn_27 rfl (lv_at hl 3 rfl) ?_
      refine lv_aload_n hx hb dX1_learn_28 rfl (lv_at hl 0 rfl) ?_
      refine va_get (D := D) (ci := 1) (v := .ref a_t_leads) (C := RX1) (T := TX1) (N := 5) hx hb hts inX1 hown hE.1 hP 0 rfl rfl 2 (by decide) (hts _ qw197) (fun _ h9 => h9) rfl dX1_learn_29 ?_
      refine va_alen (v := 3) hx hb hE.1 hP 4 0 rfl rfl rfl dX1_learn_32 ?_
      refine lv_icmp_ge (tgt := 102) hx hb dX1_learn_33 (by decide) (fun c2 => ?_) (fun c2 => ?_)
      · have hf := ite_t c2 hf
        exact hk _ _ _ _ _ _ _ hf hP hD hS (lv_sub hl [0, 2] rfl)
      have hf := ite_f c2 hf
      refine lv_iload_n hx hb dX1_learn_36 rfl (lv_at hl 3 rfl) ?_
      refine lv_aload_n hx hb dX1_learn_37 rfl (lv_at hl 0 rfl) ?_
      refine va_get (D := D) (ci := 1) (v := .ref a_t_leadsBack) (C := RX1) (T := TX1) (N := 5) hx hb hts inX1 hown hE.1 hP 0 rfl rfl 3 (by decide) (hts _ qw198) (fun _ h9 => h9) rfl dX1_learn_38 ?_
      refine va_alen (v := 3) hx hb hE.1 hP 5 0 rfl rfl rfl dX1_learn_41 ?_
      refine lv_icmp_ge (tgt := 102) hx hb dX1_learn_42 (by decide) (fun c3 => ?_) (fun c3 => ?_)
      · have hf := ite_t c3 hf
        exact hk _ _ _ _ _ _ _ hf hP hD hS (lv_sub hl [0, 2] rfl)
      have hf := ite_f c3 hf
      refine lv_aload_n hx hb dX1_learn_45 rfl (lv_at hl 1 rfl) ?_
      refine lv_iload_n hx hb dX1_learn_46 rfl (lv_at hl 3 rfl) ?_
      obtain ⟨q4, h5, hf⟩ := bd_s hf
      refine af_oi (run_V (As := [.int s3]) (rest := []) E (c_X9_roundsBehindLead l D Y a_p1 a_p1_places a_p1_kinds v_p1_bells v_p1_changes v_p1_bob v_p1_single v_p1_leads f_p1_places s3 q4 h5) qw471 qw472 qw473 qw20 qw474 rfl rfl hd_X9_roundsBehindLead ⟨Nat.le_of_ble_eq_true rfl, Nat.le_of_ble_eq_true rfl⟩ (pre_roV hP hE [6, 7] rfl (ci := 6) (q0 := 6) rfl rfl) rfl hl.1 rfl (Nat.le_of_ble_eq_true rfl) dX1_learn_47 ⟨Nat.zero_le _, Nat.zero_le _⟩) ?_
      refine lv_istore (lv' := [(4, .int q4), (0, .ref a_t), (1, .ref a_p1), (2, .int s2), (3, .int s3)]) hx hb dX1_learn_50 hl (by decide) rfl (fun ls hl => ?_)
      refine lv_iload_n hx hb dX1_learn_52 rfl (lv_at hl 3 rfl) ?_
      refine lv_if_eq (tgt := 71) hx hb dX1_learn_53 (by decide) (fun c6 => ?_) (fun c6 => ?_)
      · have hf := ite_t c6 hf
        refine lv_iconst (v := 0) hx hb dX1_learn_71 (by decide) ?_
        refine lv_istore_n (lv' := [(2, .int 0), (4, .int q4), (0, .ref a_t), (1, .ref a_p1), (3, .int s3)]) hx hb dX1_learn_72 rfl hl (by decide) rfl (fun ls hl => ?_)
        refine lv_aload_n hx hb dX1_learn_73 rfl (lv_at hl 2 rfl) ?_
        refine va_get (D := D) (ci := 1) (v := .ref a_t_leads) (C := RX1) (T := TX1) (N := 5) hx hb hts inX1 hown hE.1 hP 0 rfl rfl 2 (by decide) (hts _ qw197) (fun _ h9 => h9) rfl dX1_learn_74 ?_
        refine lv_iload_n hx hb dX1_learn_77 rfl (lv_at hl 4 rfl) ?_
        refine lv_iload hx hb dX1_learn_78 (lv_at hl 1 rfl) ?_
        obtain ⟨g7, hf⟩ := gd_s hf
        refine va_iast hx hb hE.1 hP hD hS 4 0 rfl rfl (inb_in g7) dX1_learn_80 (fun H locs hP hD hS => ?_)
        have hP : va_P D vwCl [(a_t, .inr (1, [.ref a_t_fromRounds, .ref a_t_fromRow, .ref a_t_leads, .ref a_t_leadsBack, .int v_t_bells])), (a_t_fromRounds, .inr (5, [.ref a_t_fromRounds_fewest, .ref a_t_fromRounds_reached, .int v_t_fromRounds_bells, .int v_t_fromRounds_size])), (a_t_fromRounds_fewest, .inl (Y.1, 5040, .inl f_t_fromRounds_fewest)), (a_t_fromRounds_reached, .inl (Y.1, 5040, .inl f_t_fromRounds_reached)), (a_t_leads, .inl (Y.1, 3, .inl (upd f_t_leads s3.toNatClampNeg q4))), (a_t_leadsBack, .inl (Y.1, 3, .inl f_t_leadsBack)), (a_p1, .inr (6, [.int v_p1_bells, .int v_p1_changes, .int v_p1_bob, .int v_p1_single, .int v_p1_leads, .ref a_p1_places, .ref a_p1_kinds])), (a_p1_places, .inl (Y.1, 20, .inl f_p1_places))] H := hP
        have hD : va_D A [(a_t, .inr (1, [.ref a_t_fromRounds, .ref a_t_fromRow, .ref a_t_leads, .ref a_t_leadsBack, .int v_t_bells])), (a_t_fromRounds, .inr (5, [.ref a_t_fromRounds_fewest, .ref a_t_fromRounds_reached, .int v_t_fromRounds_bells, .int v_t_fromRounds_size])), (a_t_fromRounds_fewest, .inl (Y.1, 5040, .inl f_t_fromRounds_fewest)), (a_t_fromRounds_reached, .inl (Y.1, 5040, .inl f_t_fromRounds_reached)), (a_t_leads, .inl (Y.1, 3, .inl (upd f_t_leads s3.toNatClampNeg q4))), (a_t_leadsBack, .inl (Y.1, 3, .inl f_t_leadsBack)), (a_p1, .inr (6, [.int v_p1_bells, .int v_p1_changes, .int v_p1_bob, .int v_p1_single, .int v_p1_leads, .ref a_p1_places, .ref a_p1_kinds])), (a_p1_places, .inl (Y.1, 20, .inl f_p1_places))] := hD
        refine lv_aload_n hx hb dX1_learn_81 rfl (lv_at hl 2 rfl) ?_
        refine va_get (D := D) (ci := 1) (v := .ref a_t_leadsBack) (C := RX1) (T := TX1) (N := 5) hx hb hts inX1 hown hE.1 hP 0 rfl rfl 3 (by decide) (hts _ qw198) (fun _ h9 => h9) rfl dX1_learn_82 ?_
        refine lv_iload_n hx hb dX1_learn_85 rfl (lv_at hl 4 rfl) ?_
        refine lv_iload hx hb dX1_learn_86 (lv_at hl 1 rfl) ?_
        refine lv_aload_n hx hb dX1_learn_88 rfl (lv_at hl 2 rfl) ?_
        refine va_get (D := D) (ci := 1) (v := .int v_t_bells) (C := RX1) (T := TX1) (N := 5) hx hb hts inX1 hown hE.1 hP 0 rfl rfl 4 (by decide) (hts _ qw199) (fun _ h9 => h9) rfl dX1_learn_89 ?_
        obtain ⟨q8, h9, hf⟩ := bd_s hf
        refine af_oi (run_S (As := [.int q4, .int v_t_bells]) (rest := [.int s3, .ref a_t_leadsBack]) E (c_X6_backwards l D Y q4 v_t_bells q8 h9) qw478 qw479 qw34 qw480 rfl rfl hd_X6_backwards ⟨Nat.le_of_ble_eq_true rfl, Nat.le_of_ble_eq_true rfl⟩ (pre_roS hP hE [] rfl) rfl hl.1 rfl (Nat.le_of_ble_eq_true rfl) dX1_learn_92 ⟨Nat.zero_le _, Nat.zero_le _⟩) ?_
        refine va_iast hx hb hE.1 hP hD hS 5 0 rfl rfl (inb_in g7) dX1_learn_95 (fun H locs hP hD hS => ?_)
        have hP : va_P D vwCl [(a_t, .inr (1, [.ref a_t_fromRounds, .ref a_t_fromRow, .ref a_t_leads, .ref a_t_leadsBack, .int v_t_bells])), (a_t_fromRounds, .inr (5, [.ref a_t_fromRounds_fewest, .ref a_t_fromRounds_reached, .int v_t_fromRounds_bells, .int v_t_fromRounds_size])), (a_t_fromRounds_fewest, .inl (Y.1, 5040, .inl f_t_fromRounds_fewest)), (a_t_fromRounds_reached, .inl (Y.1, 5040, .inl f_t_fromRounds_reached)), (a_t_leads, .inl (Y.1, 3, .inl (upd f_t_leads s3.toNatClampNeg q4))), (a_t_leadsBack, .inl (Y.1, 3, .inl (upd f_t_leadsBack s3.toNatClampNeg q8))), (a_p1, .inr (6, [.int v_p1_bells, .int v_p1_changes, .int v_p1_bob, .int v_p1_single, .int v_p1_leads, .ref a_p1_places, .ref a_p1_kinds])), (a_p1_places, .inl (Y.1, 20, .inl f_p1_places))] H := hP
        have hD : va_D A [(a_t, .inr (1, [.ref a_t_fromRounds, .ref a_t_fromRow, .ref a_t_leads, .ref a_t_leadsBack, .int v_t_bells])), (a_t_fromRounds, .inr (5, [.ref a_t_fromRounds_fewest, .ref a_t_fromRounds_reached, .int v_t_fromRounds_bells, .int v_t_fromRounds_size])), (a_t_fromRounds_fewest, .inl (Y.1, 5040, .inl f_t_fromRounds_fewest)), (a_t_fromRounds_reached, .inl (Y.1, 5040, .inl f_t_fromRounds_reached)), (a_t_leads, .inl (Y.1, 3, .inl (upd f_t_leads s3.toNatClampNeg q4))), (a_t_leadsBack, .inl (Y.1, 3, .inl (upd f_t_leadsBack s3.toNatClampNeg q8))), (a_p1, .inr (6, [.int v_p1_bells, .int v_p1_changes, .int v_p1_bob, .int v_p1_single, .int v_p1_leads, .ref a_p1_places, .ref a_p1_kinds])), (a_p1_places, .inl (Y.1, 20, .inl f_p1_places))] := hD
        refine lv_iinc (v := (s3 + 1)) (lv' := [(3, .int (s3 + 1)), (2, .int 0), (4, .int q4), (0, .ref a_t), (1, .ref a_p1)]) hx hb dX1_learn_96 hl (k := 4) rfl rfl (by decide) rfl (fun ls hl => ?_)
        refine lv_goto (tgt := 27) hx hb dX1_learn_99 (by decide) ?_
        exact ih _ _ _ _ _ _ _ _ _ _ _ _ _ hf hP hD hS (lv_sub hl [3, 4, 1, 0] rfl) hk
      have hf := ite_f c6 hf
      refine lv_iload hx hb dX1_learn_56 (lv_at hl 0 rfl) ?_
      refine lv_aload_n hx hb dX1_learn_58 rfl (lv_at hl 1 rfl) ?_
      refine va_get (D := D) (ci := 1) (v := .ref a_t_leads) (C := RX1) (T := TX1) (N := 5) hx hb hts inX1 hown hE.1 hP 0 rfl rfl 2 (by decide) (hts _ qw197) (fun _ h9 => h9) rfl dX1_learn_59 ?_
      refine lv_iload_n hx hb dX1_learn_62 rfl (lv_at hl 4 rfl) ?_
      obtain ⟨g10, hf⟩ := gd_s hf
      refine va_iald hx hb hE.1 hP 4 0 rfl rfl (inb_in g10) dX1_learn_63 ?_
      refine mg (P := fun (w11 : Int32) => ∀ (ls : Array Slot), lv_has ls 5 [(0, .ref a_t), (1, .ref a_p1), (3, .int s3), (4, .int q4)] → W p l e rm_X1_learn s m args below meth c H locs 0 0 Q (F0 m 72 ls [.int w11])) hf (fun w11 hf ls hl => ?_) (fun hJ => ?_)
      · refine lv_istore_n (lv' := [(2, .int w11), (0, .ref a_t), (1, .ref a_p1), (3, .int s3), (4, .int q4)]) hx hb dX1_learn_72 rfl hl (by decide) rfl (fun ls hl => ?_)
        refine lv_aload_n hx hb dX1_learn_73 rfl (lv_at hl 1 rfl) ?_
        refine va_get (D := D) (ci := 1) (v := .ref a_t_leads) (C := RX1) (T := TX1) (N := 5) hx hb hts inX1 hown hE.1 hP 0 rfl rfl 2 (by decide) (hts _ qw197) (fun _ h9 => h9) rfl dX1_learn_74 ?_
        refine lv_iload_n hx hb dX1_learn_77 rfl (lv_at hl 3 rfl) ?_
        refine lv_iload hx hb dX1_learn_78 (lv_at hl 4 rfl) ?_
        refine va_iast hx hb hE.1 hP hD hS 4 0 rfl rfl (inb_in g10) dX1_learn_80 (fun H locs hP hD hS => ?_)
        have hP : va_P D vwCl [(a_t, .inr (1, [.ref a_t_fromRounds, .ref a_t_fromRow, .ref a_t_leads, .ref a_t_leadsBack, .int v_t_bells])), (a_t_fromRounds, .inr (5, [.ref a_t_fromRounds_fewest, .ref a_t_fromRounds_reached, .int v_t_fromRounds_bells, .int v_t_fromRounds_size])), (a_t_fromRounds_fewest, .inl (Y.1, 5040, .inl f_t_fromRounds_fewest)), (a_t_fromRounds_reached, .inl (Y.1, 5040, .inl f_t_fromRounds_reached)), (a_t_leads, .inl (Y.1, 3, .inl (upd f_t_leads s3.toNatClampNeg q4))), (a_t_leadsBack, .inl (Y.1, 3, .inl f_t_leadsBack)), (a_p1, .inr (6, [.int v_p1_bells, .int v_p1_changes, .int v_p1_bob, .int v_p1_single, .int v_p1_leads, .ref a_p1_places, .ref a_p1_kinds])), (a_p1_places, .inl (Y.1, 20, .inl f_p1_places))] H := hP
        have hD : va_D A [(a_t, .inr (1, [.ref a_t_fromRounds, .ref a_t_fromRow, .ref a_t_leads, .ref a_t_leadsBack, .int v_t_bells])), (a_t_fromRounds, .inr (5, [.ref a_t_fromRounds_fewest, .ref a_t_fromRounds_reached, .int v_t_fromRounds_bells, .int v_t_fromRounds_size])), (a_t_fromRounds_fewest, .inl (Y.1, 5040, .inl f_t_fromRounds_fewest)), (a_t_fromRounds_reached, .inl (Y.1, 5040, .inl f_t_fromRounds_reached)), (a_t_leads, .inl (Y.1, 3, .inl (upd f_t_leads s3.toNatClampNeg q4))), (a_t_leadsBack, .inl (Y.1, 3, .inl f_t_leadsBack)), (a_p1, .inr (6, [.int v_p1_bells, .int v_p1_changes, .int v_p1_bob, .int v_p1_single, .int v_p1_leads, .ref a_p1_places, .ref a_p1_kinds])), (a_p1_places, .inl (Y.1, 20, .inl f_p1_places))] := hD
        refine lv_aload_n hx hb dX1_learn_81 rfl (lv_at hl 1 rfl) ?_
        refine va_get (D := D) (ci := 1) (v := .ref a_t_leadsBack) (C := RX1) (T := TX1) (N := 5) hx hb hts inX1 hown hE.1 hP 0 rfl rfl 3 (by decide) (hts _ qw198) (fun _ h9 => h9) rfl dX1_learn_82 ?_
        refine lv_iload_n hx hb dX1_learn_85 rfl (lv_at hl 3 rfl) ?_
        refine lv_iload hx hb dX1_learn_86 (lv_at hl 4 rfl) ?_
        refine lv_aload_n hx hb dX1_learn_88 rfl (lv_at hl 1 rfl) ?_
        refine va_get (D := D) (ci := 1) (v := .int v_t_bells) (C := RX1) (T := TX1) (N := 5) hx hb hts inX1 hown hE.1 hP 0 rfl rfl 4 (by decide) (hts _ qw199) (fun _ h9 => h9) rfl dX1_learn_89 ?_
        obtain ⟨q12, h13, hf⟩ := bd_s hf
        refine af_oi (run_S (As := [.int q4, .int v_t_bells]) (rest := [.int s3, .ref a_t_leadsBack]) E (c_X6_backwards l D Y q4 v_t_bells q12 h13) qw478 qw479 qw34 qw480 rfl rfl hd_X6_backwards ⟨Nat.le_of_ble_eq_true rfl, Nat.le_of_ble_eq_true rfl⟩ (pre_roS hP hE [] rfl) rfl hl.1 rfl (Nat.le_of_ble_eq_true rfl) dX1_learn_92 ⟨Nat.zero_le _, Nat.zero_le _⟩) ?_
        refine va_iast hx hb hE.1 hP hD hS 5 0 rfl rfl (inb_in g10) dX1_learn_95 (fun H locs hP hD hS => ?_)
        have hP : va_P D vwCl [(a_t, .inr (1, [.ref a_t_fromRounds, .ref a_t_fromRow, .ref a_t_leads, .ref a_t_leadsBack, .int v_t_bells])), (a_t_fromRounds, .inr (5, [.ref a_t_fromRounds_fewest, .ref a_t_fromRounds_reached, .int v_t_fromRounds_bells, .int v_t_fromRounds_size])), (a_t_fromRounds_fewest, .inl (Y.1, 5040, .inl f_t_fromRounds_fewest)), (a_t_fromRounds_reached, .inl (Y.1, 5040, .inl f_t_fromRounds_reached)), (a_t_leads, .inl (Y.1, 3, .inl (upd f_t_leads s3.toNatClampNeg q4))), (a_t_leadsBack, .inl (Y.1, 3, .inl (upd f_t_leadsBack s3.toNatClampNeg q12))), (a_p1, .inr (6, [.int v_p1_bells, .int v_p1_changes, .int v_p1_bob, .int v_p1_single, .int v_p1_leads, .ref a_p1_places, .ref a_p1_kinds])), (a_p1_places, .inl (Y.1, 20, .inl f_p1_places))] H := hP
        have hD : va_D A [(a_t, .inr (1, [.ref a_t_fromRounds, .ref a_t_fromRow, .ref a_t_leads, .ref a_t_leadsBack, .int v_t_bells])), (a_t_fromRounds, .inr (5, [.ref a_t_fromRounds_fewest, .ref a_t_fromRounds_reached, .int v_t_fromRounds_bells, .int v_t_fromRounds_size])), (a_t_fromRounds_fewest, .inl (Y.1, 5040, .inl f_t_fromRounds_fewest)), (a_t_fromRounds_reached, .inl (Y.1, 5040, .inl f_t_fromRounds_reached)), (a_t_leads, .inl (Y.1, 3, .inl (upd f_t_leads s3.toNatClampNeg q4))), (a_t_leadsBack, .inl (Y.1, 3, .inl (upd f_t_leadsBack s3.toNatClampNeg q12))), (a_p1, .inr (6, [.int v_p1_bells, .int v_p1_changes, .int v_p1_bob, .int v_p1_single, .int v_p1_leads, .ref a_p1_places, .ref a_p1_kinds])), (a_p1_places, .inl (Y.1, 20, .inl f_p1_places))] := hD
        refine lv_iinc (v := (s3 + 1)) (lv' := [(3, .int (s3 + 1)), (2, .int w11), (0, .ref a_t), (1, .ref a_p1), (4, .int q4)]) hx hb dX1_learn_96 hl (k := 3) rfl rfl (by decide) rfl (fun ls hl => ?_)
        refine lv_goto (tgt := 27) hx hb dX1_learn_99 (by decide) ?_
        exact ih _ _ _ _ _ _ _ _ _ _ _ _ _ hf hP hD hS (lv_sub hl [2, 3, 1, 0] rfl) hk
      refine lv_icmp_ne (tgt := 71) hx hb dX1_learn_64 (by decide) (fun c14 => ?_) (fun c14 => ?_)
      · have hf := nmi_f c14 hf
        refine lv_iconst (v := 0) hx hb dX1_learn_71 (by decide) ?_
        exact hJ _ (nm_b hf) _ (lv_sub hl [1, 2, 4, 0] rfl)
      have hf := nmi_t c14 hf
      refine lv_iconst (v := 1) hx hb dX1_learn_67 (by decide) ?_
      refine lv_goto (tgt := 72) hx hb dX1_learn_68 (by decide) ?_
      exact hJ _ (nm_b hf) _ (lv_sub hl [1, 2, 4, 0] rfl)
  refine lv_aload_n hx hb dX1_learn_0 rfl (lv_at hl 0 rfl) ?_
  refine va_get (D := D) (ci := 1) (v := .int v_t_bells) (C := RX1) (T := TX1) (N := 5) hx hb hts inX1 hown hE.1 hP 0 rfl rfl 4 (by decide) (hts _ qw199) (fun _ h9 => h9) rfl dX1_learn_1 ?_
  refine lv_aload_n hx hb dX1_learn_4 rfl (lv_at hl 1 rfl) ?_
  refine va_getN (D := D) (ci := 6) (v := .int v_p1_bells) (C := RX9) (T := TX9) (N := 7) hx hb hts inX9 hown hE.1 hP 6 rfl rfl 0 (by decide) (va_Nw.use rfl (hE.2.1 _ qw53)) (fun _ h9 => h9) rfl dX1_learn_5 ?_
  refine mg (P := fun (w1 : Int32) => ∀ (ls : Array Slot), lv_has ls 5 [(0, .ref a_t), (1, .ref a_p1)] → W p l e rm_X1_learn s m args below meth c s.heap [] 0 0 Q (F0 m 16 ls [.int w1])) hf (fun w1 hf ls hl => ?_) (fun hJ => ?_)
  · refine lv_istore_n (lv' := [(2, .int w1), (0, .ref a_t), (1, .ref a_p1)]) hx hb dX1_learn_16 rfl hl (by decide) rfl (fun ls hl => ?_)
    refine lv_aload_n hx hb dX1_learn_17 rfl (lv_at hl 1 rfl) ?_
    refine lv_aload_n hx hb dX1_learn_18 rfl (lv_at hl 2 rfl) ?_
    refine va_getN (D := D) (ci := 6) (v := .int v_p1_bells) (C := RX9) (T := TX9) (N := 7) hx hb hts inX9 hown hE.1 hP 6 rfl rfl 0 (by decide) (va_Nw.use rfl (hE.2.1 _ qw53)) (fun _ h9 => h9) rfl dX1_learn_19 ?_
    refine va_put (D := D) (ci := 1) (v := .int v_p1_bells) (ty := .int) (C := RX1) (T := TX1) (N := 5) hx hb hts inX1 tyX1 tyX1_ok nmX1 hown hE.1 hP hD hS 0 rfl rfl 4 (by decide) (hts _ qw199) (fun _ h9 => h9) rfl (tyX1_ok 4 (by decide)) rfl rfl (Nat.le_of_ble_eq_true rfl) dX1_learn_22 (fun H locs hP hD hS => ?_)
    have hP : va_P D vwCl [(a_t, .inr (1, [.ref a_t_fromRounds, .ref a_t_fromRow, .ref a_t_leads, .ref a_t_leadsBack, .int v_p1_bells])), (a_t_fromRounds, .inr (5, [.ref a_t_fromRounds_fewest, .ref a_t_fromRounds_reached, .int v_t_fromRounds_bells, .int v_t_fromRounds_size])), (a_t_fromRounds_fewest, .inl (Y.1, 5040, .inl f_t_fromRounds_fewest)), (a_t_fromRounds_reached, .inl (Y.1, 5040, .inl f_t_fromRounds_reached)), (a_t_leads, .inl (Y.1, 3, .inl f_t_leads)), (a_t_leadsBack, .inl (Y.1, 3, .inl f_t_leadsBack)), (a_p1, .inr (6, [.int v_p1_bells, .int v_p1_changes, .int v_p1_bob, .int v_p1_single, .int v_p1_leads, .ref a_p1_places, .ref a_p1_kinds])), (a_p1_places, .inl (Y.1, 20, .inl f_p1_places))] H := hP
    have hD : va_D A [(a_t, .inr (1, [.ref a_t_fromRounds, .ref a_t_fromRow, .ref a_t_leads, .ref a_t_leadsBack, .int v_p1_bells])), (a_t_fromRounds, .inr (5, [.ref a_t_fromRounds_fewest, .ref a_t_fromRounds_reached, .int v_t_fromRounds_bells, .int v_t_fromRounds_size])), (a_t_fromRounds_fewest, .inl (Y.1, 5040, .inl f_t_fromRounds_fewest)), (a_t_fromRounds_reached, .inl (Y.1, 5040, .inl f_t_fromRounds_reached)), (a_t_leads, .inl (Y.1, 3, .inl f_t_leads)), (a_t_leadsBack, .inl (Y.1, 3, .inl f_t_leadsBack)), (a_p1, .inr (6, [.int v_p1_bells, .int v_p1_changes, .int v_p1_bob, .int v_p1_single, .int v_p1_leads, .ref a_p1_places, .ref a_p1_kinds])), (a_p1_places, .inl (Y.1, 20, .inl f_p1_places))] := hD
    refine lv_iconst (v := 0) hx hb dX1_learn_25 (by decide) ?_
    refine lv_istore_n (lv' := [(3, .int 0), (2, .int w1), (0, .ref a_t), (1, .ref a_p1)]) hx hb dX1_learn_26 rfl hl (by decide) rfl (fun ls hl => ?_)
    refine L27 _ _ _ _ _ _ _ _ _ _ _ _ _ _ hf hP hD hS (lv_sub hl [2, 3, 1, 0] rfl) ?_
    intro y15 y16 y17 y18 H locs ls hf hP hD hS hl
    refine lv_iload_n hx hb dX1_learn_102 rfl (lv_at hl 1 rfl) ?_
    refine lv_if_ne (tgt := 129) hx hb dX1_learn_103 (by decide) (fun c19 => ?_) (fun c19 => ?_)
    · have hf := ite_f c19 hf
      obtain rfl := Option.some.inj hf
      subst hQ
      exact en_v hx hb hr hlocks hP hD hS dX1_learn_129
    have hf := ite_t c19 hf
    refine lv_aload_n hx hb dX1_learn_106 rfl (lv_at hl 0 rfl) ?_
    refine va_get (D := D) (ci := 1) (v := .ref a_t_fromRounds) (C := RX1) (T := TX1) (N := 5) hx hb hts inX1 hown hE.1 hP 0 rfl rfl 0 (by decide) (hts _ qw195) (fun _ h9 => h9) rfl dX1_learn_107 ?_
    refine lv_aload_n hx hb dX1_learn_110 rfl (lv_at hl 0 rfl) ?_
    refine va_get (D := D) (ci := 1) (v := .int v_p1_bells) (C := RX1) (T := TX1) (N := 5) hx hb hts inX1 hown hE.1 hP 0 rfl rfl 4 (by decide) (hts _ qw199) (fun _ h9 => h9) rfl dX1_learn_111 ?_
    obtain ⟨q20, h21, hf⟩ := bd_s hf
    refine af_oi (run_S (As := [.int v_p1_bells]) (rest := [.ref a_t_fromRounds]) E (c_X6_rounds l D Y v_p1_bells q20 h21) qw481 qw396 qw34 qw397 rfl rfl hd_X6_rounds ⟨Nat.le_of_ble_eq_true rfl, Nat.le_of_ble_eq_true rfl⟩ (pre_roS hP hE [] rfl) rfl hl.1 rfl (Nat.le_of_ble_eq_true rfl) dX1_learn_114 ⟨Nat.zero_le _, Nat.zero_le _⟩) ?_
    refine lv_iconst (v := 0) hx hb dX1_learn_117 (by decide) ?_
    refine lv_aload_n hx hb dX1_learn_118 rfl (lv_at hl 0 rfl) ?_
    refine va_get (D := D) (ci := 1) (v := .ref a_t_leadsBack) (C := RX1) (T := TX1) (N := 5) hx hb hts inX1 hown hE.1 hP 0 rfl rfl 3 (by decide) (hts _ qw198) (fun _ h9 => h9) rfl dX1_learn_119 ?_
    refine lv_aload_n hx hb dX1_learn_122 rfl (lv_at hl 0 rfl) ?_
    refine va_get (D := D) (ci := 1) (v := .int v_p1_bells) (C := RX1) (T := TX1) (N := 5) hx hb hts inX1 hown hE.1 hP 0 rfl rfl 4 (by decide) (hts _ qw199) (fun _ h9 => h9) rfl dX1_learn_123 ?_
    obtain ⟨q22, h23, hf⟩ := bd_s hf
    refine af_v0 (wc := [(a_t_fromRounds, .inr (5, [.ref a_t_fromRounds_fewest, .ref a_t_fromRounds_reached, .int v_t_fromRounds_bells, .int v_t_fromRounds_size])), (a_t_fromRounds_fewest, .inl (Y.1, 5040, .inl f_t_fromRounds_fewest)), (a_t_fromRounds_reached, .inl (Y.1, 5040, .inl f_t_fromRounds_reached)), (a_t_leadsBack, .inl (Y.1, 3, .inl y18))]) (wr := [(a_t, .inr (1, [.ref a_t_fromRounds, .ref a_t_fromRow, .ref a_t_leads, .ref a_t_leadsBack, .int v_p1_bells])), (a_t_leads, .inl (Y.1, 3, .inl y17)), (a_p1, .inr (6, [.int v_p1_bells, .int v_p1_changes, .int v_p1_bob, .int v_p1_single, .int v_p1_leads, .ref a_p1_places, .ref a_p1_kinds])), (a_p1_places, .inl (Y.1, 20, .inl f_p1_places))]) (wn := [(a_t, .inr (1, [.ref a_t_fromRounds, .ref a_t_fromRow, .ref a_t_leads, .ref a_t_leadsBack, .int v_p1_bells])), (a_t_fromRounds, .inr (5, [.ref a_t_fromRounds_fewest, .ref a_t_fromRounds_reached, .int q22.1, .int q22.2.1])), (a_t_fromRounds_fewest, .inl (Y.1, 5040, .inl q22.2.2.1)), (a_t_fromRounds_reached, .inl (Y.1, 5040, .inl q22.2.2.2)), (a_t_leads, .inl (Y.1, 3, .inl y17)), (a_t_leadsBack, .inl (Y.1, 3, .inl y18)), (a_p1, .inr (6, [.int v_p1_bells, .int v_p1_changes, .int v_p1_bob, .int v_p1_single, .int v_p1_leads, .ref a_p1_places, .ref a_p1_kinds])), (a_p1_places, .inl (Y.1, 20, .inl f_p1_places))]) (run_V (As := [.int q20, .int 0, .ref a_t_leadsBack, .int v_p1_bells]) (rest := []) E (c_X7_from l D Y a_t_fromRounds a_t_fromRounds_fewest a_t_fromRounds_reached a_t_leadsBack 3 v_t_fromRounds_bells v_t_fromRounds_size f_t_fromRounds_fewest f_t_fromRounds_reached y18 q20 0 v_p1_bells H.size q22 h23) qw482 qw483 qw484 qw26 qw485 rfl rfl hd_X7_from ⟨Nat.le_of_ble_eq_true rfl, Nat.le_of_ble_eq_true rfl⟩ (pre_rwV hP hD hE [1, 2, 3, 5] rfl (by decide) rfl (ci := 5) (q0 := 1) rfl rfl) rfl hl.1 rfl (Nat.le_of_ble_eq_true rfl) dX1_learn_126 ⟨Nat.zero_le _, Nat.zero_le _⟩) hP hD hS hA [1, 2, 3, 5] [0, 4, 6, 7] [0, 4, 5, 6, 1, 7, 2, 3] rfl rfl (by decide) (by decide) rfl rfl (by decide) (fun H locs  hP hD hS => ?_)
    obtain rfl := Option.some.inj hf
    subst hQ
    exact en_v hx hb hr hlocks hP hD hS dX1_learn_129
  refine lv_icmp_ne (tgt := 15) hx hb dX1_learn_8 (by decide) (fun c24 => ?_) (fun c24 => ?_)
  · have hf := nmi_f c24 hf
    refine lv_iconst (v := 0) hx hb dX1_learn_15 (by decide) ?_
    exact hJ _ (nm_b hf) _ (lv_sub hl [0, 1] rfl)
  have hf := nmi_t c24 hf
  refine lv_iconst (v := 1) hx hb dX1_learn_11 (by decide) ?_
  refine lv_goto (tgt := 16) hx hb dX1_learn_12 (by decide) ?_
  exact hJ _ (nm_b hf) _ (lv_sub hl [0, 1] rfl)

def f_X1_leadsFrom (s1 : Int32) (v_t_fromRounds_bells : Int32) (f_t_fromRounds_fewest : Nat → Int32) : Option (Int32) :=
  bd (f_X7_fewestTo s1 v_t_fromRounds_bells f_t_fromRounds_fewest) (fun q1 => some q1)
abbrev rm_X1_leadsFrom : Room := { frames := 4, cells := 0, slots := 0, locals := 94 }
set_option maxHeartbeats 4000000 in
set_option maxRecDepth 100000 in
theorem c_X1_leadsFrom (l : Launch) (D : va_G) (Y : ClassId × ClassId × ClassId × ClassId) (a_t a_t_fromRounds a_t_fromRow a_t_leads a_t_leadsBack a_t_fromRounds_fewest a_t_fromRounds_reached : Nat) (v_t_bells : Int32) (v_t_fromRounds_bells : Int32) (v_t_fromRounds_size : Int32) (f_t_fromRounds_fewest : Nat → Int32) (s1 : Int32) (R : Int32) (hf : f_X1_leadsFrom s1 v_t_fromRounds_bells f_t_fromRounds_fewest = some R) : Met l yX1_leadsFrom (ws_ yX1_leadsFrom cX1_leadsFrom 2 (some .int)) rm_X1_leadsFrom (va_Pc [.ref a_t, .int s1] (RO D Y [(a_t, .inr (1, [.ref a_t_fromRounds, .ref a_t_fromRow, .ref a_t_leads, .ref a_t_leadsBack, .int v_t_bells])), (a_t_fromRounds, .inr (5, [.ref a_t_fromRounds_fewest, .ref a_t_fromRounds_reached, .int v_t_fromRounds_bells, .int v_t_fromRounds_size])), (a_t_fromRounds_fewest, .inl (Y.1, 5040, .inl f_t_fromRounds_fewest))])) (OI R) 0 0 (fun _ => False) := by
  refine ro_start (by decide) (Nat.le_of_ble_eq_true rfl) ?_
  intro p e s m below meth c ls hx hb hml hr hlocks hown hts hP hE hl
  generalize hargs : List.toArray _ = args at hts ⊢
  have hown : s.vm.findClass RX1 = some m.cls := hown
  have E : EN p m c cX1_leadsFrom 2 s args RX1 := ⟨hx, hb, hml, hown, hts⟩
  have hl : lv_has ls 2 [(0, .ref a_t), (1, .int s1)] := hl
  generalize hQ : MQ below _ args s 0 0 _ = Q
  unfold f_X1_leadsFrom at hf
  refine lv_aload_n hx hb dX1_leadsFrom_0 rfl (lv_at hl 0 rfl) ?_
  refine va_get (D := D) (ci := 1) (v := .ref a_t_fromRounds) (C := RX1) (T := TX1) (N := 5) hx hb hts inX1 hown hE.1 hP 0 rfl rfl 0 (by decide) (hts _ qw195) (fun _ h9 => h9) rfl dX1_leadsFrom_1 ?_
  refine lv_iload_n hx hb dX1_leadsFrom_4 rfl (lv_at hl 1 rfl) ?_
  obtain ⟨q1, h2, hf⟩ := bd_s hf
  refine af_oi (run_V (As := [.int s1]) (rest := []) E (c_X7_fewestTo l D Y a_t_fromRounds a_t_fromRounds_fewest a_t_fromRounds_reached v_t_fromRounds_bells v_t_fromRounds_size f_t_fromRounds_fewest s1 q1 h2) qw505 qw495 qw496 qw26 qw497 rfl rfl hd_X7_fewestTo ⟨Nat.le_of_ble_eq_true rfl, Nat.le_of_ble_eq_true rfl⟩ (pre_roV hP hE [1, 2] rfl (ci := 5) (q0 := 1) rfl rfl) rfl hl.1 rfl (Nat.le_of_ble_eq_true rfl) dX1_leadsFrom_5 ⟨Nat.zero_le _, Nat.zero_le _⟩) ?_
  obtain rfl := Option.some.inj hf
  subst hQ
  exact en_oi hx hb hr hlocks rfl dX1_leadsFrom_8
