def f_X11_isAt (s1 : Int32) (s2 : Int32) (v_t_typed : Int32) (v_t_spot : Int32) (f_t_pad : Nat → Int32) : Option (Int32) :=
  (if v_t_typed ≤ v_t_spot then some 0 else gd (inb v_t_spot 80) ((if (f_X11_in (f_t_pad v_t_spot.toNatClampNeg) s1 s2) = 0 then some 0 else some 1)))
abbrev rm_X11_isAt : Room := { frames := 2, cells := 0, slots := 0, locals := 46 }
set_option maxHeartbeats 4000000 in
set_option maxRecDepth 100000 in
theorem c_X11_isAt (l : Launch) (D : va_G) (Y : ClassId × ClassId × ClassId) (a_t a_t_s a_t_past a_t_kept a_t_pad a_t_cell a_t_other a_t_rows a_t_read a_t_track a_t_lead a_t_distance a_t_line : Nat) (v_t_isKept : Int32) (v_t_pasts : Int32) (v_t_typed : Int32) (v_t_ends : Int32) (v_t_many : Int32) (v_t_spot : Int32) (f_t_pad : Nat → Int32) (s1 : Int32) (s2 : Int32) (R : Int32) (hf : f_X11_isAt s1 s2 v_t_typed v_t_spot f_t_pad = some R) : Met l yX11_isAt (ws_ yX11_isAt cX11_isAt 3 (some .boolean)) rm_X11_isAt (va_Pc [.ref a_t, .int s1, .int s2] (RO D Y [(a_t, .inr (8, [.ref a_t_s, .ref a_t_past, .ref a_t_kept, .int v_t_isKept, .int v_t_pasts, .ref a_t_pad, .int v_t_typed, .ref a_t_cell, .ref a_t_other, .ref a_t_rows, .int v_t_ends, .ref a_t_read, .int v_t_many, .int v_t_spot, .ref a_t_track, .ref a_t_lead, .ref a_t_distance, .ref a_t_line])), (a_t_pad, .inl (Y.1, 80, .inl f_t_pad))])) (OZ R) 0 0 (fun _ => False) := by
  refine ro_start (by decide) (Nat.le_of_ble_eq_true rfl) ?_
  intro p e s m below meth c ls hx hb hml hr hlocks hown hts hP hE hl
  generalize hargs : List.toArray _ = args at hts ⊢
  have hown : s.vm.findClass RX11 = some m.cls := hown
  have E : EN p m c cX11_isAt 3 s args RX11 := ⟨hx, hb, hml, hown, hts⟩
  have hl : lv_has ls 3 [(0, .ref a_t), (1, .int s1), (2, .int s2)] := hl
  generalize hQ : MQ below _ args s 0 0 _ = Q
  unfold f_X11_isAt at hf
  refine lv_aload_n hx hb dX11_isAt_0 rfl (lv_at hl 0 rfl) ?_
  refine va_get (D := D) (ci := 8) (v := .int v_t_spot) (C := RX11) (T := TX11) (N := 18) hx hb hts inX11 hown hE.1 hP 0 rfl rfl 13 (by decide) (hts _ qw774) (fun _ h9 => h9) rfl dX11_isAt_1 ?_
  refine lv_aload_n hx hb dX11_isAt_4 rfl (lv_at hl 0 rfl) ?_
  refine va_get (D := D) (ci := 8) (v := .int v_t_typed) (C := RX11) (T := TX11) (N := 18) hx hb hts inX11 hown hE.1 hP 0 rfl rfl 6 (by decide) (hts _ qw767) (fun _ h9 => h9) rfl dX11_isAt_5 ?_
  refine lv_icmp_ge (tgt := 32) hx hb dX11_isAt_8 (by decide) (fun c1 => ?_) (fun c1 => ?_)
  · have hf := ite_t c1 hf
    refine lv_iconst (v := 0) hx hb dX11_isAt_32 (by decide) ?_
    obtain rfl := Option.some.inj hf
    subst hQ
    exact en_oz hx hb hr hlocks rfl (Or.inl rfl) dX11_isAt_33
  have hf := ite_f c1 hf
  refine lv_aload_n hx hb dX11_isAt_11 rfl (lv_at hl 0 rfl) ?_
  refine va_get (D := D) (ci := 8) (v := .ref a_t_pad) (C := RX11) (T := TX11) (N := 18) hx hb hts inX11 hown hE.1 hP 0 rfl rfl 5 (by decide) (hts _ qw766) (fun _ h9 => h9) rfl dX11_isAt_12 ?_
  refine lv_aload_n hx hb dX11_isAt_15 rfl (lv_at hl 0 rfl) ?_
  refine va_get (D := D) (ci := 8) (v := .int v_t_spot) (C := RX11) (T := TX11) (N := 18) hx hb hts inX11 hown hE.1 hP 0 rfl rfl 13 (by decide) (hts _ qw774) (fun _ h9 => h9) rfl dX11_isAt_16 ?_
  obtain ⟨g2, hf⟩ := gd_s hf
  refine va_iald hx hb hE.1 hP 1 0 rfl rfl (inb_in g2) dX11_isAt_19 ?_
  refine lv_iload_n hx hb dX11_isAt_20 rfl (lv_at hl 1 rfl) ?_
  refine lv_iload_n hx hb dX11_isAt_21 rfl (lv_at hl 2 rfl) ?_
  refine af_oz (run_S (As := [.int (f_t_pad v_t_spot.toNatClampNeg), .int s1, .int s2]) (rest := []) E (c_X11_in l D Y (f_t_pad v_t_spot.toNatClampNeg) s1 s2 (f_X11_in (f_t_pad v_t_spot.toNatClampNeg) s1 s2) rfl) qw820 qw821 qw76 qw822 rfl rfl hd_X11_in ⟨Nat.le_of_ble_eq_true rfl, Nat.le_of_ble_eq_true rfl⟩ (pre_roS hP hE [] rfl) rfl hl.1 rfl (Nat.le_of_ble_eq_true rfl) dX11_isAt_22 ⟨Nat.zero_le _, Nat.zero_le _⟩) (fun z3 => ?_)
  refine lv_if_eq (tgt := 32) hx hb dX11_isAt_25 (by decide) (fun c4 => ?_) (fun c4 => ?_)
  · have hf := ite_t c4 hf
    refine lv_iconst (v := 0) hx hb dX11_isAt_32 (by decide) ?_
    obtain rfl := Option.some.inj hf
    subst hQ
    exact en_oz hx hb hr hlocks rfl (Or.inl rfl) dX11_isAt_33
  have hf := ite_f c4 hf
  refine lv_iconst (v := 1) hx hb dX11_isAt_28 (by decide) ?_
  refine lv_goto (tgt := 33) hx hb dX11_isAt_29 (by decide) ?_
  obtain rfl := Option.some.inj hf
  subst hQ
  exact en_oz hx hb hr hlocks rfl (Or.inr rfl) dX11_isAt_33

def f_X11_couldBeRight_L5 (s1 : Int32) (s2 : Int32) (f_t_s : Nat → Int32) : Nat → Int32 → Int32 → Option (Int32)
  | 0, _, _ => none
  | n + 1, s3, s4 => (if ((1 : Int32) <<< (((f_t_s (0 : Int32).toNatClampNeg) - s2) &&& 31)) ≤ s4 then gd (zob s3) (some s3) else (if s3 = 0 then bd (f_X11_isRight (s1 ||| (s4 <<< (s2 &&& 31))) f_t_s) (fun q4 => nm (if q4 = 0 then (0 : Int32) else (1 : Int32)) (fun (w7 : Int32) => (f_X11_couldBeRight_L5 s1 s2 f_t_s n w7 (s4 + 1)))) else (f_X11_couldBeRight_L5 s1 s2 f_t_s n 1 (s4 + 1))))
def f_X11_couldBeRight (s1 : Int32) (s2 : Int32) (f_t_s : Nat → Int32) : Option (Int32) :=
  (f_X11_couldBeRight_L5 s1 s2 f_t_s fu 0 0)
abbrev rm_X11_couldBeRight : Room := { frames := 3, cells := 0, slots := 0, locals := 69 }
set_option maxHeartbeats 4000000 in
set_option maxRecDepth 100000 in
theorem c_X11_couldBeRight (l : Launch) (D : va_G) (Y : ClassId × ClassId × ClassId) (a_t a_t_s a_t_past a_t_kept a_t_pad a_t_cell a_t_other a_t_rows a_t_read a_t_track a_t_lead a_t_distance a_t_line : Nat) (v_t_isKept : Int32) (v_t_pasts : Int32) (v_t_typed : Int32) (v_t_ends : Int32) (v_t_many : Int32) (v_t_spot : Int32) (f_t_s : Nat → Int32) (s1 : Int32) (s2 : Int32) (R : Int32) (hf : f_X11_couldBeRight s1 s2 f_t_s = some R) : Met l yX11_couldBeRight (ws_ yX11_couldBeRight cX11_couldBeRight 5 (some .boolean)) rm_X11_couldBeRight (va_Pc [.ref a_t, .int s1, .int s2] (RO D Y [(a_t, .inr (8, [.ref a_t_s, .ref a_t_past, .ref a_t_kept, .int v_t_isKept, .int v_t_pasts, .ref a_t_pad, .int v_t_typed, .ref a_t_cell, .ref a_t_other, .ref a_t_rows, .int v_t_ends, .ref a_t_read, .int v_t_many, .int v_t_spot, .ref a_t_track, .ref a_t_lead, .ref a_t_distance, .ref a_t_line])), (a_t_s, .inl (Y.1, 41, .inl f_t_s))])) (OZ R) 0 0 (fun _ => False) := by
  refine ro_start (by decide) (Nat.le_of_ble_eq_true rfl) ?_
  intro p e s m below meth c ls hx hb hml hr hlocks hown hts hP hE hl
  generalize hargs : List.toArray _ = args at hts ⊢
  have hown : s.vm.findClass RX11 = some m.cls := hown
  have E : EN p m c cX11_couldBeRight 5 s args RX11 := ⟨hx, hb, hml, hown, hts⟩
  have hl : lv_has ls 5 [(0, .ref a_t), (1, .int s1), (2, .int s2)] := hl
  generalize hQ : MQ below _ args s 0 0 _ = Q
  unfold f_X11_couldBeRight at hf
  have L5 : ∀ (n : Nat) (s1 : Int32) (s2 : Int32) (s3 : Int32) (s4 : Int32) (ls : Array Slot), f_X11_couldBeRight_L5 s1 s2 f_t_s n s3 s4 = some R → lv_has ls 5 [(0, .ref a_t), (1, .int s1), (2, .int s2), (3, .int s3), (4, .int s4)] → W p l e rm_X11_couldBeRight s m args below meth c s.heap [] 0 0 Q (F0 m 5 ls []) := by
    intro n
    induction n with
    | zero =>
      intro s1 s2 s3 s4 ls hf
      cases hf
    | succ n ih =>
      intro s1 s2 s3 s4 ls hf hl
      unfold f_X11_couldBeRight_L5 at hf
      refine lv_iload hx hb dX11_couldBeRight_5 (lv_at hl 4 rfl) ?_
      refine lv_iconst (v := 1) hx hb dX11_couldBeRight_7 (by decide) ?_
      refine lv_aload_n hx hb dX11_couldBeRight_8 rfl (lv_at hl 0 rfl) ?_
      refine va_get (D := D) (ci := 8) (v := .ref a_t_s) (C := RX11) (T := TX11) (N := 18) hx hb hts inX11 hown hE.1 hP 0 rfl rfl 0 (by decide) (hts _ qw761) (fun _ h9 => h9) rfl dX11_couldBeRight_9 ?_
      refine lv_iconst (v := 0) hx hb dX11_couldBeRight_12 (by decide) ?_
      refine va_iald hx hb hE.1 hP 1 0 rfl rfl (inb_in (by decide)) dX11_couldBeRight_13 ?_
      refine lv_iload_n hx hb dX11_couldBeRight_14 rfl (lv_at hl 2 rfl) ?_
      refine lv_isub hx hb dX11_couldBeRight_15 ?_
      refine lv_ishl hx hb dX11_couldBeRight_16 ?_
      refine lv_icmp_ge (tgt := 49) hx hb dX11_couldBeRight_17 (by decide) (fun c1 => ?_) (fun c1 => ?_)
      · have hf := ite_t c1 hf
        refine lv_iload_n hx hb dX11_couldBeRight_49 rfl (lv_at hl 3 rfl) ?_
        obtain ⟨g2, hf⟩ := gd_s hf
        obtain rfl := Option.some.inj hf
        subst hQ
        exact en_oz hx hb hr hlocks rfl (zob_s g2) dX11_couldBeRight_50
      have hf := ite_f c1 hf
      refine lv_iload_n hx hb dX11_couldBeRight_20 rfl (lv_at hl 3 rfl) ?_
      refine lv_if_ne (tgt := 37) hx hb dX11_couldBeRight_21 (by decide) (fun c3 => ?_) (fun c3 => ?_)
      · have hf := ite_f c3 hf
        refine lv_iconst (v := 1) hx hb dX11_couldBeRight_37 (by decide) ?_
        refine lv_goto (tgt := 42) hx hb dX11_couldBeRight_38 (by decide) ?_
        refine lv_istore_n (lv' := [(3, .int 1), (0, .ref a_t), (1, .int s1), (2, .int s2), (4, .int s4)]) hx hb dX11_couldBeRight_42 rfl hl (by decide) rfl (fun ls hl => ?_)
        refine lv_iinc (v := (s4 + 1)) (lv' := [(4, .int (s4 + 1)), (3, .int 1), (0, .ref a_t), (1, .int s1), (2, .int s2)]) hx hb dX11_couldBeRight_43 hl (k := 4) rfl rfl (by decide) rfl (fun ls hl => ?_)
        refine lv_goto (tgt := 5) hx hb dX11_couldBeRight_46 (by decide) ?_
        exact ih _ _ _ _ _ hf (lv_sub hl [2, 3, 4, 1, 0] rfl)
      have hf := ite_t c3 hf
      refine lv_aload_n hx hb dX11_couldBeRight_24 rfl (lv_at hl 0 rfl) ?_
      refine lv_iload_n hx hb dX11_couldBeRight_25 rfl (lv_at hl 1 rfl) ?_
      refine lv_iload hx hb dX11_couldBeRight_26 (lv_at hl 4 rfl) ?_
      refine lv_iload_n hx hb dX11_couldBeRight_28 rfl (lv_at hl 2 rfl) ?_
      refine lv_ishl hx hb dX11_couldBeRight_29 ?_
      refine lv_ior hx hb dX11_couldBeRight_30 ?_
      obtain ⟨q4, h5, hf⟩ := bd_s hf
      refine af_oz (run_V (As := [.int (s1 ||| (s4 <<< (s2 &&& 31)))]) (rest := []) E (c_X11_isRight l D Y a_t a_t_s a_t_past a_t_kept a_t_pad a_t_cell a_t_other a_t_rows a_t_read a_t_track a_t_lead a_t_distance a_t_line v_t_isKept v_t_pasts v_t_typed v_t_ends v_t_many v_t_spot f_t_s (s1 ||| (s4 <<< (s2 &&& 31))) q4 h5) qw843 qw845 qw26 qw76 qw846 rfl rfl hd_X11_isRight ⟨Nat.le_of_ble_eq_true rfl, Nat.le_of_ble_eq_true rfl⟩ (pre_roV hP hE [0, 1] rfl (ci := 8) (q0 := 0) rfl rfl) rfl hl.1 rfl (Nat.le_of_ble_eq_true rfl) dX11_couldBeRight_31 ⟨Nat.zero_le _, Nat.zero_le _⟩) (fun z6 => ?_)
      refine mg (P := fun (w7 : Int32) => ∀ (ls : Array Slot), lv_has ls 5 [(0, .ref a_t), (1, .int s1), (2, .int s2), (4, .int s4)] → W p l e rm_X11_couldBeRight s m args below meth c s.heap [] 0 0 Q (F0 m 42 ls [.int w7])) hf (fun w7 hf ls hl => ?_) (fun hJ => ?_)
      · refine lv_istore_n (lv' := [(3, .int w7), (0, .ref a_t), (1, .int s1), (2, .int s2), (4, .int s4)]) hx hb dX11_couldBeRight_42 rfl hl (by decide) rfl (fun ls hl => ?_)
        refine lv_iinc (v := (s4 + 1)) (lv' := [(4, .int (s4 + 1)), (3, .int w7), (0, .ref a_t), (1, .int s1), (2, .int s2)]) hx hb dX11_couldBeRight_43 hl (k := 4) rfl rfl (by decide) rfl (fun ls hl => ?_)
        refine lv_goto (tgt := 5) hx hb dX11_couldBeRight_46 (by decide) ?_
        exact ih _ _ _ _ _ hf (lv_sub hl [2, 3, 4, 1, 0] rfl)
      refine lv_if_eq (tgt := 41) hx hb dX11_couldBeRight_34 (by decide) (fun c8 => ?_) (fun c8 => ?_)
      · have hf := nmi_t c8 hf
        refine lv_iconst (v := 0) hx hb dX11_couldBeRight_41 (by decide) ?_
        exact hJ _ (nm_b hf) _ (lv_sub hl [0, 1, 2, 4] rfl)
      have hf := nmi_f c8 hf
      refine lv_iconst (v := 1) hx hb dX11_couldBeRight_37 (by decide) ?_
      refine lv_goto (tgt := 42) hx hb dX11_couldBeRight_38 (by decide) ?_
      exact hJ _ (nm_b hf) _ (lv_sub hl [0, 1, 2, 4] rfl)
  refine lv_iconst (v := 0) hx hb dX11_couldBeRight_0 (by decide) ?_
  refine lv_istore_n (lv' := [(3, .int 0), (0, .ref a_t), (1, .int s1), (2, .int s2)]) hx hb dX11_couldBeRight_1 rfl hl (by decide) rfl (fun ls hl => ?_)
  refine lv_iconst (v := 0) hx hb dX11_couldBeRight_2 (by decide) ?_
  refine lv_istore (lv' := [(4, .int 0), (3, .int 0), (0, .ref a_t), (1, .int s1), (2, .int s2)]) hx hb dX11_couldBeRight_3 hl (by decide) rfl (fun ls hl => ?_)
  exact L5 _ _ _ _ _ _ hf (lv_sub hl [2, 3, 4, 1, 0] rfl)

def f_X11_readsChange_L43 (k : Int32 → Int32 → (Nat → Int32) → Option (Int32 × Int32 × (Nat → Int32))) (v_t_typed : Int32) (v_t_many : Int32) (f_t_s : Nat → Int32) (f_t_pad : Nat → Int32) : Nat → Int32 → Int32 → (Nat → Int32) → Option (Int32 × Int32 × (Nat → Int32))
  | 0, _, _, _ => none
  | n + 1, s1, v_t_spot, f_t_read => bd (f_X11_isAt ((49 : Int32) + s1) ((48 : Int32) + (f_t_s (0 : Int32).toNatClampNeg)) v_t_typed v_t_spot f_t_pad) (fun q6 => (if q6 = 0 then (k s1 v_t_spot f_t_read) else gd (inb v_t_spot 80) (nm ((f_t_pad v_t_spot.toNatClampNeg) - 48) (fun (x11 : Int32) => gd (inb v_t_many 21) (nm ((f_t_read v_t_many.toNatClampNeg) ||| ((1 : Int32) <<< ((x11 - 1) &&& 31))) (fun (x13 : Int32) => bd (f_X11_couldBeRight x13 x11 f_t_s) (fun q14 => (if q14 = 0 then some (0, v_t_spot, f_t_read) else nm (v_t_spot + 1) (fun (x18 : Int32) => (f_X11_readsChange_L43 k v_t_typed v_t_many f_t_s f_t_pad n x11 x18 (upd f_t_read v_t_many.toNatClampNeg x13)))))))))))
def f_X11_readsChange (v_t_typed : Int32) (v_t_many : Int32) (v_t_spot : Int32) (f_t_s : Nat → Int32) (f_t_pad : Nat → Int32) (f_t_read : Nat → Int32) : Option (Int32 × Int32 × (Nat → Int32)) :=
  gd (inb v_t_many 21) (bd (f_X11_isAt 120 120 v_t_typed v_t_spot f_t_pad) (fun q2 => (if q2 = 0 then (f_X11_readsChange_L43 (fun (y19 : Int32) (y20 : Int32) (y21 : Nat → Int32) => (if y19 ≤ 0 then some (0, y20, y21) else gd (inb v_t_many 21) (bd (f_X11_isRight (y21 v_t_many.toNatClampNeg) f_t_s) (fun q24 => (if q24 = 0 then some (0, y20, y21) else some (1, y20, y21)))))) v_t_typed v_t_many f_t_s f_t_pad fu 0 v_t_spot (upd f_t_read v_t_many.toNatClampNeg 0)) else bd (f_X11_isRight 0 f_t_s) (fun q28 => (if q28 = 0 then (f_X11_readsChange_L43 (fun (y32 : Int32) (y33 : Int32) (y34 : Nat → Int32) => (if y32 ≤ 0 then some (0, y33, y34) else gd (inb v_t_many 21) (bd (f_X11_isRight (y34 v_t_many.toNatClampNeg) f_t_s) (fun q37 => (if q37 = 0 then some (0, y33, y34) else some (1, y33, y34)))))) v_t_typed v_t_many f_t_s f_t_pad fu 0 v_t_spot (upd f_t_read v_t_many.toNatClampNeg 0)) else nm (v_t_spot + 1) (fun (x41 : Int32) => some (1, x41, (upd f_t_read v_t_many.toNatClampNeg 0))))))))
abbrev rm_X11_readsChange : Room := { frames := 4, cells := 0, slots := 0, locals := 93 }
set_option maxHeartbeats 4000000 in
set_option maxRecDepth 100000 in
theorem c_X11_readsChange (l : Launch) (D : va_G) (Y : ClassId × ClassId × ClassId) (a_t a_t_s a_t_past a_t_kept a_t_pad a_t_cell a_t_other a_t_rows a_t_read a_t_track a_t_lead a_t_distance a_t_line : Nat) (v_t_isKept : Int32) (v_t_pasts : Int32) (v_t_typed : Int32) (v_t_ends : Int32) (v_t_many : Int32) (v_t_spot : Int32) (f_t_s : Nat → Int32) (f_t_pad : Nat → Int32) (f_t_read : Nat → Int32) (sz : Nat) (R : Int32 × Int32 × (Nat → Int32)) (hf : f_X11_readsChange v_t_typed v_t_many v_t_spot f_t_s f_t_pad f_t_read = some R) : Met l yX11_readsChange (ws_ yX11_readsChange cX11_readsChange 4 (some .boolean)) rm_X11_readsChange (va_Pc [.ref a_t] (RW D Y sz [(a_t, .inr (8, [.ref a_t_s, .ref a_t_past, .ref a_t_kept, .int v_t_isKept, .int v_t_pasts, .ref a_t_pad, .int v_t_typed, .ref a_t_cell, .ref a_t_other, .ref a_t_rows, .int v_t_ends, .ref a_t_read, .int v_t_many, .int v_t_spot, .ref a_t_track, .ref a_t_lead, .ref a_t_distance, .ref a_t_line])), (a_t_s, .inl (Y.1, 41, .inl f_t_s)), (a_t_pad, .inl (Y.1, 80, .inl f_t_pad)), (a_t_read, .inl (Y.1, 21, .inl f_t_read))])) (QZ D R.1 [(a_t, .inr (8, [.ref a_t_s, .ref a_t_past, .ref a_t_kept, .int v_t_isKept, .int v_t_pasts, .ref a_t_pad, .int v_t_typed, .ref a_t_cell, .ref a_t_other, .ref a_t_rows, .int v_t_ends, .ref a_t_read, .int v_t_many, .int R.2.1, .ref a_t_track, .ref a_t_lead, .ref a_t_distance, .ref a_t_line])), (a_t_s, .inl (Y.1, 41, .inl f_t_s)), (a_t_pad, .inl (Y.1, 80, .inl f_t_pad)), (a_t_read, .inl (Y.1, 21, .inl R.2.2))] (va_A [(a_t, .inr (8, [.ref a_t_s, .ref a_t_past, .ref a_t_kept, .int v_t_isKept, .int v_t_pasts, .ref a_t_pad, .int v_t_typed, .ref a_t_cell, .ref a_t_other, .ref a_t_rows, .int v_t_ends, .ref a_t_read, .int v_t_many, .int v_t_spot, .ref a_t_track, .ref a_t_lead, .ref a_t_distance, .ref a_t_line])), (a_t_s, .inl (Y.1, 41, .inl f_t_s)), (a_t_pad, .inl (Y.1, 80, .inl f_t_pad)), (a_t_read, .inl (Y.1, 21, .inl f_t_read))] sz)) 0 0 (va_A [(a_t, .inr (8, [.ref a_t_s, .ref a_t_past, .ref a_t_kept, .int v_t_isKept, .int v_t_pasts, .ref a_t_pad, .int v_t_typed, .ref a_t_cell, .ref a_t_other, .ref a_t_rows, .int v_t_ends, .ref a_t_read, .int v_t_many, .int v_t_spot, .ref a_t_track, .ref a_t_lead, .ref a_t_distance, .ref a_t_line])), (a_t_s, .inl (Y.1, 41, .inl f_t_s)), (a_t_pad, .inl (Y.1, 80, .inl f_t_pad)), (a_t_read, .inl (Y.1, 21, .inl f_t_read))] sz) := by
  refine rw_start (Qc := fun A => QZ D R.1 [(a_t, .inr (8, [.ref a_t_s, .ref a_t_past, .ref a_t_kept, .int v_t_isKept, .int v_t_pasts, .ref a_t_pad, .int v_t_typed, .ref a_t_cell, .ref a_t_other, .ref a_t_rows, .int v_t_ends, .ref a_t_read, .int v_t_many, .int R.2.1, .ref a_t_track, .ref a_t_lead, .ref a_t_distance, .ref a_t_line])), (a_t_s, .inl (Y.1, 41, .inl f_t_s)), (a_t_pad, .inl (Y.1, 80, .inl f_t_pad)), (a_t_read, .inl (Y.1, 21, .inl R.2.2))] A) (by decide) (Nat.le_of_ble_eq_true rfl) ?_
  intro p e s m below meth c ls A hx hb hml hr hlocks hown hts hnm hA hP hD hS hE hl
  generalize hargs : List.toArray _ = args at hts ⊢
  have hown : s.vm.findClass RX11 = some m.cls := hown
  have E : EN p m c cX11_readsChange 4 s args RX11 := ⟨hx, hb, hml, hown, hts⟩
  have hl : lv_has ls 4 [(0, .ref a_t)] := hl
  generalize hQ : MQ below _ args s 0 0 _ = Q
  unfold f_X11_readsChange at hf
  have L43 : ∀ (n : Nat) (k : Int32 → Int32 → (Nat → Int32) → Option (Int32 × Int32 × (Nat → Int32))) (s1 : Int32) (v_t_spot : Int32) (f_t_read : Nat → Int32) (H : Heap) (locs : List Loc) (ls : Array Slot), f_X11_readsChange_L43 k v_t_typed v_t_many f_t_s f_t_pad n s1 v_t_spot f_t_read = some R → va_P D vwCl [(a_t, .inr (8, [.ref a_t_s, .ref a_t_past, .ref a_t_kept, .int v_t_isKept, .int v_t_pasts, .ref a_t_pad, .int v_t_typed, .ref a_t_cell, .ref a_t_other, .ref a_t_rows, .int v_t_ends, .ref a_t_read, .int v_t_many, .int v_t_spot, .ref a_t_track, .ref a_t_lead, .ref a_t_distance, .ref a_t_line])), (a_t_s, .inl (Y.1, 41, .inl f_t_s)), (a_t_pad, .inl (Y.1, 80, .inl f_t_pad)), (a_t_read, .inl (Y.1, 21, .inl f_t_read))] H → va_D A [(a_t, .inr (8, [.ref a_t_s, .ref a_t_past, .ref a_t_kept, .int v_t_isKept, .int v_t_pasts, .ref a_t_pad, .int v_t_typed, .ref a_t_cell, .ref a_t_other, .ref a_t_rows, .int v_t_ends, .ref a_t_read, .int v_t_many, .int v_t_spot, .ref a_t_track, .ref a_t_lead, .ref a_t_distance, .ref a_t_line])), (a_t_s, .inl (Y.1, 41, .inl f_t_s)), (a_t_pad, .inl (Y.1, 80, .inl f_t_pad)), (a_t_read, .inl (Y.1, 21, .inl f_t_read))] → va_S A s.heap H locs → lv_has ls 4 [(0, .ref a_t), (1, .int s1)] → (∀ (y_s1 : Int32) (y_v_t_spot : Int32) (y_f_t_read : Nat → Int32) (H : Heap) (locs : List Loc) (ls : Array Slot), k y_s1 y_v_t_spot y_f_t_read = some R → va_P D vwCl [(a_t, .inr (8, [.ref a_t_s, .ref a_t_past, .ref a_t_kept, .int v_t_isKept, .int v_t_pasts, .ref a_t_pad, .int v_t_typed, .ref a_t_cell, .ref a_t_other, .ref a_t_rows, .int v_t_ends, .ref a_t_read, .int v_t_many, .int y_v_t_spot, .ref a_t_track, .ref a_t_lead, .ref a_t_distance, .ref a_t_line])), (a_t_s, .inl (Y.1, 41, .inl f_t_s)), (a_t_pad, .inl (Y.1, 80, .inl f_t_pad)), (a_t_read, .inl (Y.1, 21, .inl y_f_t_read))] H → va_D A [(a_t, .inr (8, [.ref a_t_s, .ref a_t_past, .ref a_t_kept, .int v_t_isKept, .int v_t_pasts, .ref a_t_pad, .int v_t_typed, .ref a_t_cell, .ref a_t_other, .ref a_t_rows, .int v_t_ends, .ref a_t_read, .int v_t_many, .int y_v_t_spot, .ref a_t_track, .ref a_t_lead, .ref a_t_distance, .ref a_t_line])), (a_t_s, .inl (Y.1, 41, .inl f_t_s)), (a_t_pad, .inl (Y.1, 80, .inl f_t_pad)), (a_t_read, .inl (Y.1, 21, .inl y_f_t_read))] → va_S A s.heap H locs → lv_has ls 4 [(0, .ref a_t), (1, .int y_s1)] → W p l e rm_X11_readsChange s m args below meth c H locs 0 0 Q (F0 m 128 ls [])) → W p l e rm_X11_readsChange s m args below meth c H locs 0 0 Q (F0 m 43 ls []) := by
    intro n
    induction n with
    | zero =>
      intro k s1 v_t_spot f_t_read H locs ls hf
      cases hf
    | succ n ih =>
      intro k s1 v_t_spot f_t_read H locs ls hf hP hD hS hl hk
      unfold f_X11_readsChange_L43 at hf
      refine lv_aload_n hx hb dX11_readsChange_43 rfl (lv_at hl 0 rfl) ?_
      refine lv_bipush (v := 49) hx hb dX11_readsChange_44 (by decide) ?_
      refine lv_iload_n hx hb dX11_readsChange_46 rfl (lv_at hl 1 rfl) ?_
      refine lv_iadd hx hb dX11_readsChange_47 ?_
      refine lv_bipush (v := 48) hx hb dX11_readsChange_48 (by decide) ?_
      refine lv_aload_n hx hb dX11_readsChange_50 rfl (lv_at hl 0 rfl) ?_
      refine va_get (D := D) (ci := 8) (v := .ref a_t_s) (C := RX11) (T := TX11) (N := 18) hx hb hts inX11 hown hE.1 hP 0 rfl rfl 0 (by decide) (hts _ qw761) (fun _ h9 => h9) rfl dX11_readsChange_51 ?_
      refine lv_iconst (v := 0) hx hb dX11_readsChange_54 (by decide) ?_
      refine va_iald hx hb hE.1 hP 1 0 rfl rfl (inb_in (by decide)) dX11_readsChange_55 ?_
      refine lv_iadd hx hb dX11_readsChange_56 ?_
      obtain ⟨q6, h7, hf⟩ := bd_s hf
      refine af_oz (run_V (As := [.int ((49 : Int32) + s1), .int ((48 : Int32) + (f_t_s (0 : Int32).toNatClampNeg))]) (rest := []) E (c_X11_isAt l D Y a_t a_t_s a_t_past a_t_kept a_t_pad a_t_cell a_t_other a_t_rows a_t_read a_t_track a_t_lead a_t_distance a_t_line v_t_isKept v_t_pasts v_t_typed v_t_ends v_t_many v_t_spot f_t_pad ((49 : Int32) + s1) ((48 : Int32) + (f_t_s (0 : Int32).toNatClampNeg)) q6 h7) qw839 qw841 qw25 qw76 qw842 rfl rfl hd_X11_isAt ⟨Nat.le_of_ble_eq_true rfl, Nat.le_of_ble_eq_true rfl⟩ (pre_roV hP hE [0, 2] rfl (ci := 8) (q0 := 0) rfl rfl) rfl hl.1 rfl (Nat.le_of_ble_eq_true rfl) dX11_readsChange_57 ⟨Nat.zero_le _, Nat.zero_le _⟩) (fun z8 => ?_)
      refine lv_if_eq (tgt := 128) hx hb dX11_readsChange_60 (by decide) (fun c9 => ?_) (fun c9 => ?_)
      · have hf := ite_t c9 hf
        exact hk _ _ _ _ _ _ hf hP hD hS (lv_sub hl [0, 1] rfl)
      have hf := ite_f c9 hf
      refine lv_aload_n hx hb dX11_readsChange_63 rfl (lv_at hl 0 rfl) ?_
      refine va_get (D := D) (ci := 8) (v := .ref a_t_pad) (C := RX11) (T := TX11) (N := 18) hx hb hts inX11 hown hE.1 hP 0 rfl rfl 5 (by decide) (hts _ qw766) (fun _ h9 => h9) rfl dX11_readsChange_64 ?_
      refine lv_aload_n hx hb dX11_readsChange_67 rfl (lv_at hl 0 rfl) ?_
      refine va_get (D := D) (ci := 8) (v := .int v_t_spot) (C := RX11) (T := TX11) (N := 18) hx hb hts inX11 hown hE.1 hP 0 rfl rfl 13 (by decide) (hts _ qw774) (fun _ h9 => h9) rfl dX11_readsChange_68 ?_
      obtain ⟨g10, hf⟩ := gd_s hf
      refine va_iald hx hb hE.1 hP 2 0 rfl rfl (inb_in g10) dX11_readsChange_71 ?_
      refine lv_bipush (v := 48) hx hb dX11_readsChange_72 (by decide) ?_
      refine lv_isub hx hb dX11_readsChange_74 ?_
      refine nm_W hf (fun x11 hf => ?_)
      refine lv_istore_n (lv' := [(2, .int x11), (0, .ref a_t), (1, .int s1)]) hx hb dX11_readsChange_75 rfl hl (by decide) rfl (fun ls hl => ?_)
      refine lv_aload_n hx hb dX11_readsChange_76 rfl (lv_at hl 1 rfl) ?_
      refine va_get (D := D) (ci := 8) (v := .ref a_t_read) (C := RX11) (T := TX11) (N := 18) hx hb hts inX11 hown hE.1 hP 0 rfl rfl 11 (by decide) (hts _ qw772) (fun _ h9 => h9) rfl dX11_readsChange_77 ?_
      refine lv_aload_n hx hb dX11_readsChange_80 rfl (lv_at hl 1 rfl) ?_
      refine va_get (D := D) (ci := 8) (v := .int v_t_many) (C := RX11) (T := TX11) (N := 18) hx hb hts inX11 hown hE.1 hP 0 rfl rfl 12 (by decide) (hts _ qw773) (fun _ h9 => h9) rfl dX11_readsChange_81 ?_
      obtain ⟨g12, hf⟩ := gd_s hf
      refine va_iald hx hb hE.1 hP 3 0 rfl rfl (inb_in g12) dX11_readsChange_84 ?_
      refine lv_iconst (v := 1) hx hb dX11_readsChange_85 (by decide) ?_
      refine lv_iload_n hx hb dX11_readsChange_86 rfl (lv_at hl 0 rfl) ?_
      refine lv_iconst (v := 1) hx hb dX11_readsChange_87 (by decide) ?_
      refine lv_isub hx hb dX11_readsChange_88 ?_
      refine lv_ishl hx hb dX11_readsChange_89 ?_
      refine lv_ior hx hb dX11_readsChange_90 ?_
      refine nm_W hf (fun x13 hf => ?_)
      refine lv_istore_n (lv' := [(3, .int x13), (2, .int x11), (0, .ref a_t), (1, .int s1)]) hx hb dX11_readsChange_91 rfl hl (by decide) rfl (fun ls hl => ?_)
      refine lv_aload_n hx hb dX11_readsChange_92 rfl (lv_at hl 2 rfl) ?_
      refine lv_iload_n hx hb dX11_readsChange_93 rfl (lv_at hl 0 rfl) ?_
      refine lv_iload_n hx hb dX11_readsChange_94 rfl (lv_at hl 1 rfl) ?_
      obtain ⟨q14, h15, hf⟩ := bd_s hf
      refine af_oz (run_V (As := [.int x13, .int x11]) (rest := []) E (c_X11_couldBeRight l D Y a_t a_t_s a_t_past a_t_kept a_t_pad a_t_cell a_t_other a_t_rows a_t_read a_t_track a_t_lead a_t_distance a_t_line v_t_isKept v_t_pasts v_t_typed v_t_ends v_t_many v_t_spot f_t_s x13 x11 q14 h15) qw847 qw849 qw27 qw76 qw850 rfl rfl hd_X11_couldBeRight ⟨Nat.le_of_ble_eq_true rfl, Nat.le_of_ble_eq_true rfl⟩ (pre_roV hP hE [0, 1] rfl (ci := 8) (q0 := 0) rfl rfl) rfl hl.1 rfl (Nat.le_of_ble_eq_true rfl) dX11_readsChange_95 ⟨Nat.zero_le _, Nat.zero_le _⟩) (fun z16 => ?_)
      refine lv_if_ne (tgt := 103) hx hb dX11_readsChange_98 (by decide) (fun c17 => ?_) (fun c17 => ?_)
      · have hf := ite_f c17 hf
        refine lv_aload_n hx hb dX11_readsChange_103 rfl (lv_at hl 2 rfl) ?_
        refine va_get (D := D) (ci := 8) (v := .ref a_t_read) (C := RX11) (T := TX11) (N := 18) hx hb hts inX11 hown hE.1 hP 0 rfl rfl 11 (by decide) (hts _ qw772) (fun _ h9 => h9) rfl dX11_readsChange_104 ?_
        refine lv_aload_n hx hb dX11_readsChange_107 rfl (lv_at hl 2 rfl) ?_
        refine va_get (D := D) (ci := 8) (v := .int v_t_many) (C := RX11) (T := TX11) (N := 18) hx hb hts inX11 hown hE.1 hP 0 rfl rfl 12 (by decide) (hts _ qw773) (fun _ h9 => h9) rfl dX11_readsChange_108 ?_
        refine lv_iload_n hx hb dX11_readsChange_111 rfl (lv_at hl 0 rfl) ?_
        refine va_iast hx hb hE.1 hP hD hS 3 0 rfl rfl (inb_in g12) dX11_readsChange_112 (fun H locs hP hD hS => ?_)
        have hP : va_P D vwCl [(a_t, .inr (8, [.ref a_t_s, .ref a_t_past, .ref a_t_kept, .int v_t_isKept, .int v_t_pasts, .ref a_t_pad, .int v_t_typed, .ref a_t_cell, .ref a_t_other, .ref a_t_rows, .int v_t_ends, .ref a_t_read, .int v_t_many, .int v_t_spot, .ref a_t_track, .ref a_t_lead, .ref a_t_distance, .ref a_t_line])), (a_t_s, .inl (Y.1, 41, .inl f_t_s)), (a_t_pad, .inl (Y.1, 80, .inl f_t_pad)), (a_t_read, .inl (Y.1, 21, .inl (upd f_t_read v_t_many.toNatClampNeg x13)))] H := hP
        have hD : va_D A [(a_t, .inr (8, [.ref a_t_s, .ref a_t_past, .ref a_t_kept, .int v_t_isKept, .int v_t_pasts, .ref a_t_pad, .int v_t_typed, .ref a_t_cell, .ref a_t_other, .ref a_t_rows, .int v_t_ends, .ref a_t_read, .int v_t_many, .int v_t_spot, .ref a_t_track, .ref a_t_lead, .ref a_t_distance, .ref a_t_line])), (a_t_s, .inl (Y.1, 41, .inl f_t_s)), (a_t_pad, .inl (Y.1, 80, .inl f_t_pad)), (a_t_read, .inl (Y.1, 21, .inl (upd f_t_read v_t_many.toNatClampNeg x13)))] := hD
        refine lv_iload_n hx hb dX11_readsChange_113 rfl (lv_at hl 1 rfl) ?_
        refine lv_istore_n (lv' := [(1, .int x11), (3, .int x13), (2, .int x11), (0, .ref a_t)]) hx hb dX11_readsChange_114 rfl hl (by decide) rfl (fun ls hl => ?_)
        refine lv_aload_n hx hb dX11_readsChange_115 rfl (lv_at hl 3 rfl) ?_
        refine lv_dup hx hb dX11_readsChange_116 rfl ?_
        refine va_get (D := D) (ci := 8) (v := .int v_t_spot) (C := RX11) (T := TX11) (N := 18) hx hb hts inX11 hown hE.1 hP 0 rfl rfl 13 (by decide) (hts _ qw774) (fun _ h9 => h9) rfl dX11_readsChange_117 ?_
        refine lv_iconst (v := 1) hx hb dX11_readsChange_120 (by decide) ?_
        refine lv_iadd hx hb dX11_readsChange_121 ?_
        refine nm_W hf (fun x18 hf => ?_)
        refine va_put (D := D) (ci := 8) (v := .int x18) (ty := .int) (C := RX11) (T := TX11) (N := 18) hx hb hts inX11 tyX11 tyX11_ok nmX11 hown hE.1 hP hD hS 0 rfl rfl 13 (by decide) (hts _ qw774) (fun _ h9 => h9) rfl (tyX11_ok 13 (by decide)) rfl rfl (Nat.le_of_ble_eq_true rfl) dX11_readsChange_122 (fun H locs hP hD hS => ?_)
        have hP : va_P D vwCl [(a_t, .inr (8, [.ref a_t_s, .ref a_t_past, .ref a_t_kept, .int v_t_isKept, .int v_t_pasts, .ref a_t_pad, .int v_t_typed, .ref a_t_cell, .ref a_t_other, .ref a_t_rows, .int v_t_ends, .ref a_t_read, .int v_t_many, .int x18, .ref a_t_track, .ref a_t_lead, .ref a_t_distance, .ref a_t_line])), (a_t_s, .inl (Y.1, 41, .inl f_t_s)), (a_t_pad, .inl (Y.1, 80, .inl f_t_pad)), (a_t_read, .inl (Y.1, 21, .inl (upd f_t_read v_t_many.toNatClampNeg x13)))] H := hP
        have hD : va_D A [(a_t, .inr (8, [.ref a_t_s, .ref a_t_past, .ref a_t_kept, .int v_t_isKept, .int v_t_pasts, .ref a_t_pad, .int v_t_typed, .ref a_t_cell, .ref a_t_other, .ref a_t_rows, .int v_t_ends, .ref a_t_read, .int v_t_many, .int x18, .ref a_t_track, .ref a_t_lead, .ref a_t_distance, .ref a_t_line])), (a_t_s, .inl (Y.1, 41, .inl f_t_s)), (a_t_pad, .inl (Y.1, 80, .inl f_t_pad)), (a_t_read, .inl (Y.1, 21, .inl (upd f_t_read v_t_many.toNatClampNeg x13)))] := hD
        refine lv_goto (tgt := 43) hx hb dX11_readsChange_125 (by decide) ?_
        exact ih _ _ _ _ _ _ _ hf hP hD hS (lv_sub hl [3, 0] rfl) hk
      have hf := ite_t c17 hf
      refine lv_iconst (v := 0) hx hb dX11_readsChange_101 (by decide) ?_
      obtain rfl := Option.some.inj hf
      subst hQ
      exact en_z hx hb hr hlocks hP hD hS rfl (Or.inl rfl) dX11_readsChange_102
  refine lv_aload_n hx hb dX11_readsChange_0 rfl (lv_at hl 0 rfl) ?_
  refine va_get (D := D) (ci := 8) (v := .ref a_t_read) (C := RX11) (T := TX11) (N := 18) hx hb hts inX11 hown hE.1 hP 0 rfl rfl 11 (by decide) (hts _ qw772) (fun _ h9 => h9) rfl dX11_readsChange_1 ?_
  refine lv_aload_n hx hb dX11_readsChange_4 rfl (lv_at hl 0 rfl) ?_
  refine va_get (D := D) (ci := 8) (v := .int v_t_many) (C := RX11) (T := TX11) (N := 18) hx hb hts inX11 hown hE.1 hP 0 rfl rfl 12 (by decide) (hts _ qw773) (fun _ h9 => h9) rfl dX11_readsChange_5 ?_
  refine lv_iconst (v := 0) hx hb dX11_readsChange_8 (by decide) ?_
  obtain ⟨g1, hf⟩ := gd_s hf
  refine va_iast hx hb hE.1 hP hD hS 3 0 rfl rfl (inb_in g1) dX11_readsChange_9 (fun H locs hP hD hS => ?_)
  have hP : va_P D vwCl [(a_t, .inr (8, [.ref a_t_s, .ref a_t_past, .ref a_t_kept, .int v_t_isKept, .int v_t_pasts, .ref a_t_pad, .int v_t_typed, .ref a_t_cell, .ref a_t_other, .ref a_t_rows, .int v_t_ends, .ref a_t_read, .int v_t_many, .int v_t_spot, .ref a_t_track, .ref a_t_lead, .ref a_t_distance, .ref a_t_line])), (a_t_s, .inl (Y.1, 41, .inl f_t_s)), (a_t_pad, .inl (Y.1, 80, .inl f_t_pad)), (a_t_read, .inl (Y.1, 21, .inl (upd f_t_read v_t_many.toNatClampNeg 0)))] H := hP
  have hD : va_D A [(a_t, .inr (8, [.ref a_t_s, .ref a_t_past, .ref a_t_kept, .int v_t_isKept, .int v_t_pasts, .ref a_t_pad, .int v_t_typed, .ref a_t_cell, .ref a_t_other, .ref a_t_rows, .int v_t_ends, .ref a_t_read, .int v_t_many, .int v_t_spot, .ref a_t_track, .ref a_t_lead, .ref a_t_distance, .ref a_t_line])), (a_t_s, .inl (Y.1, 41, .inl f_t_s)), (a_t_pad, .inl (Y.1, 80, .inl f_t_pad)), (a_t_read, .inl (Y.1, 21, .inl (upd f_t_read v_t_many.toNatClampNeg 0)))] := hD
  refine lv_aload_n hx hb dX11_readsChange_10 rfl (lv_at hl 0 rfl) ?_
  refine lv_bipush (v := 120) hx hb dX11_readsChange_11 (by decide) ?_
  refine lv_bipush (v := 120) hx hb dX11_readsChange_13 (by decide) ?_
  obtain ⟨q2, h3, hf⟩ := bd_s hf
  refine af_oz (run_V (As := [.int 120, .int 120]) (rest := []) E (c_X11_isAt l D Y a_t a_t_s a_t_past a_t_kept a_t_pad a_t_cell a_t_other a_t_rows a_t_read a_t_track a_t_lead a_t_distance a_t_line v_t_isKept v_t_pasts v_t_typed v_t_ends v_t_many v_t_spot f_t_pad 120 120 q2 h3) qw839 qw841 qw25 qw76 qw842 rfl rfl hd_X11_isAt ⟨Nat.le_of_ble_eq_true rfl, Nat.le_of_ble_eq_true rfl⟩ (pre_roV hP hE [0, 2] rfl (ci := 8) (q0 := 0) rfl rfl) rfl hl.1 rfl (Nat.le_of_ble_eq_true rfl) dX11_readsChange_15 ⟨Nat.zero_le _, Nat.zero_le _⟩) (fun z4 => ?_)
  refine lv_if_eq (tgt := 41) hx hb dX11_readsChange_18 (by decide) (fun c5 => ?_) (fun c5 => ?_)
  · have hf := ite_t c5 hf
    refine lv_iconst (v := 0) hx hb dX11_readsChange_41 (by decide) ?_
    refine lv_istore_n (lv' := [(1, .int 0), (0, .ref a_t)]) hx hb dX11_readsChange_42 rfl hl (by decide) rfl (fun ls hl => ?_)
    refine L43 _ _ _ _ _ _ _ _ hf hP hD hS (lv_sub hl [1, 0] rfl) ?_
    intro y19 y20 y21 H locs ls hf hP hD hS hl
    refine lv_iload_n hx hb dX11_readsChange_128 rfl (lv_at hl 1 rfl) ?_
    refine lv_if_le (tgt := 152) hx hb dX11_readsChange_129 (by decide) (fun c22 => ?_) (fun c22 => ?_)
    · have hf := ite_t c22 hf
      refine lv_iconst (v := 0) hx hb dX11_readsChange_152 (by decide) ?_
      obtain rfl := Option.some.inj hf
      subst hQ
      exact en_z hx hb hr hlocks hP hD hS rfl (Or.inl rfl) dX11_readsChange_153
    have hf := ite_f c22 hf
    refine lv_aload_n hx hb dX11_readsChange_132 rfl (lv_at hl 0 rfl) ?_
    refine lv_aload_n hx hb dX11_readsChange_133 rfl (lv_at hl 0 rfl) ?_
    refine va_get (D := D) (ci := 8) (v := .ref a_t_read) (C := RX11) (T := TX11) (N := 18) hx hb hts inX11 hown hE.1 hP 0 rfl rfl 11 (by decide) (hts _ qw772) (fun _ h9 => h9) rfl dX11_readsChange_134 ?_
    refine lv_aload_n hx hb dX11_readsChange_137 rfl (lv_at hl 0 rfl) ?_
    refine va_get (D := D) (ci := 8) (v := .int v_t_many) (C := RX11) (T := TX11) (N := 18) hx hb hts inX11 hown hE.1 hP 0 rfl rfl 12 (by decide) (hts _ qw773) (fun _ h9 => h9) rfl dX11_readsChange_138 ?_
    obtain ⟨g23, hf⟩ := gd_s hf
    refine va_iald hx hb hE.1 hP 3 0 rfl rfl (inb_in g23) dX11_readsChange_141 ?_
    obtain ⟨q24, h25, hf⟩ := bd_s hf
    refine af_oz (run_V (As := [.int (y21 v_t_many.toNatClampNeg)]) (rest := []) E (c_X11_isRight l D Y a_t a_t_s a_t_past a_t_kept a_t_pad a_t_cell a_t_other a_t_rows a_t_read a_t_track a_t_lead a_t_distance a_t_line v_t_isKept v_t_pasts v_t_typed v_t_ends v_t_many y20 f_t_s (y21 v_t_many.toNatClampNeg) q24 h25) qw843 qw845 qw26 qw76 qw846 rfl rfl hd_X11_isRight ⟨Nat.le_of_ble_eq_true rfl, Nat.le_of_ble_eq_true rfl⟩ (pre_roV hP hE [0, 1] rfl (ci := 8) (q0 := 0) rfl rfl) rfl hl.1 rfl (Nat.le_of_ble_eq_true rfl) dX11_readsChange_142 ⟨Nat.zero_le _, Nat.zero_le _⟩) (fun z26 => ?_)
    refine lv_if_eq (tgt := 152) hx hb dX11_readsChange_145 (by decide) (fun c27 => ?_) (fun c27 => ?_)
    · have hf := ite_t c27 hf
      refine lv_iconst (v := 0) hx hb dX11_readsChange_152 (by decide) ?_
      obtain rfl := Option.some.inj hf
      subst hQ
      exact en_z hx hb hr hlocks hP hD hS rfl (Or.inl rfl) dX11_readsChange_153
    have hf := ite_f c27 hf
    refine lv_iconst (v := 1) hx hb dX11_readsChange_148 (by decide) ?_
    refine lv_goto (tgt := 153) hx hb dX11_readsChange_149 (by decide) ?_
    obtain rfl := Option.some.inj hf
    subst hQ
    exact en_z hx hb hr hlocks hP hD hS rfl (Or.inr rfl) dX11_readsChange_153
  have hf := ite_f c5 hf
  refine lv_aload_n hx hb dX11_readsChange_21 rfl (lv_at hl 0 rfl) ?_
  refine lv_iconst (v := 0) hx hb dX11_readsChange_22 (by decide) ?_
  obtain ⟨q28, h29, hf⟩ := bd_s hf
  refine af_oz (run_V (As := [.int 0]) (rest := []) E (c_X11_isRight l D Y a_t a_t_s a_t_past a_t_kept a_t_pad a_t_cell a_t_other a_t_rows a_t_read a_t_track a_t_lead a_t_distance a_t_line v_t_isKept v_t_pasts v_t_typed v_t_ends v_t_many v_t_spot f_t_s 0 q28 h29) qw843 qw845 qw26 qw76 qw846 rfl rfl hd_X11_isRight ⟨Nat.le_of_ble_eq_true rfl, Nat.le_of_ble_eq_true rfl⟩ (pre_roV hP hE [0, 1] rfl (ci := 8) (q0 := 0) rfl rfl) rfl hl.1 rfl (Nat.le_of_ble_eq_true rfl) dX11_readsChange_23 ⟨Nat.zero_le _, Nat.zero_le _⟩) (fun z30 => ?_)
  refine lv_if_eq (tgt := 41) hx hb dX11_readsChange_26 (by decide) (fun c31 => ?_) (fun c31 => ?_)
  · have hf := ite_t c31 hf
    refine lv_iconst (v := 0) hx hb dX11_readsChange_41 (by decide) ?_
    refine lv_istore_n (lv' := [(1, .int 0), (0, .ref a_t)]) hx hb dX11_readsChange_42 rfl hl (by decide) rfl (fun ls hl => ?_)
    refine L43 _ _ _ _ _ _ _ _ hf hP hD hS (lv_sub hl [1, 0] rfl) ?_
    intro y32 y33 y34 H locs ls hf hP hD hS hl
    refine lv_iload_n hx hb dX11_readsChange_128 rfl (lv_at hl 1 rfl) ?_
    refine lv_if_le (tgt := 152) hx hb dX11_readsChange_129 (by decide) (fun c35 => ?_) (fun c35 => ?_)
    · have hf := ite_t c35 hf
      refine lv_iconst (v := 0) hx hb dX11_readsChange_152 (by decide) ?_
      obtain rfl := Option.some.inj hf
      subst hQ
      exact en_z hx hb hr hlocks hP hD hS rfl (Or.inl rfl) dX11_readsChange_153
    have hf := ite_f c35 hf
    refine lv_aload_n hx hb dX11_readsChange_132 rfl (lv_at hl 0 rfl) ?_
    refine lv_aload_n hx hb dX11_readsChange_133 rfl (lv_at hl 0 rfl) ?_
    refine va_get (D := D) (ci := 8) (v := .ref a_t_read) (C := RX11) (T := TX11) (N := 18) hx hb hts inX11 hown hE.1 hP 0 rfl rfl 11 (by decide) (hts _ qw772) (fun _ h9 => h9) rfl dX11_readsChange_134 ?_
    refine lv_aload_n hx hb dX11_readsChange_137 rfl (lv_at hl 0 rfl) ?_
    refine va_get (D := D) (ci := 8) (v := .int v_t_many) (C := RX11) (T := TX11) (N := 18) hx hb hts inX11 hown hE.1 hP 0 rfl rfl 12 (by decide) (hts _ qw773) (fun _ h9 => h9) rfl dX11_readsChange_138 ?_
    obtain ⟨g36, hf⟩ := gd_s hf
    refine va_iald hx hb hE.1 hP 3 0 rfl rfl (inb_in g36) dX11_readsChange_141 ?_
    obtain ⟨q37, h38, hf⟩ := bd_s hf
    refine af_oz (run_V (As := [.int (y34 v_t_many.toNatClampNeg)]) (rest := []) E (c_X11_isRight l D Y a_t a_t_s a_t_past a_t_kept a_t_pad a_t_cell a_t_other a_t_rows a_t_read a_t_track a_t_lead a_t_distance a_t_line v_t_isKept v_t_pasts v_t_typed v_t_ends v_t_many y33 f_t_s (y34 v_t_many.toNatClampNeg) q37 h38) qw843 qw845 qw26 qw76 qw846 rfl rfl hd_X11_isRight ⟨Nat.le_of_ble_eq_true rfl, Nat.le_of_ble_eq_true rfl⟩ (pre_roV hP hE [0, 1] rfl (ci := 8) (q0 := 0) rfl rfl) rfl hl.1 rfl (Nat.le_of_ble_eq_true rfl) dX11_readsChange_142 ⟨Nat.zero_le _, Nat.zero_le _⟩) (fun z39 => ?_)
    refine lv_if_eq (tgt := 152) hx hb dX11_readsChange_145 (by decide) (fun c40 => ?_) (fun c40 => ?_)
    · have hf := ite_t c40 hf
      refine lv_iconst (v := 0) hx hb dX11_readsChange_152 (by decide) ?_
      obtain rfl := Option.some.inj hf
      subst hQ
      exact en_z hx hb hr hlocks hP hD hS rfl (Or.inl rfl) dX11_readsChange_153
    have hf := ite_f c40 hf
    refine lv_iconst (v := 1) hx hb dX11_readsChange_148 (by decide) ?_
    refine lv_goto (tgt := 153) hx hb dX11_readsChange_149 (by decide) ?_
    obtain rfl := Option.some.inj hf
    subst hQ
    exact en_z hx hb hr hlocks hP hD hS rfl (Or.inr rfl) dX11_readsChange_153
  have hf := ite_f c31 hf
  refine lv_aload_n hx hb dX11_readsChange_29 rfl (lv_at hl 0 rfl) ?_
  refine lv_dup hx hb dX11_readsChange_30 rfl ?_
  refine va_get (D := D) (ci := 8) (v := .int v_t_spot) (C := RX11) (T := TX11) (N := 18) hx hb hts inX11 hown hE.1 hP 0 rfl rfl 13 (by decide) (hts _ qw774) (fun _ h9 => h9) rfl dX11_readsChange_31 ?_
  refine lv_iconst (v := 1) hx hb dX11_readsChange_34 (by decide) ?_
  refine lv_iadd hx hb dX11_readsChange_35 ?_
  refine nm_W hf (fun x41 hf => ?_)
  refine va_put (D := D) (ci := 8) (v := .int x41) (ty := .int) (C := RX11) (T := TX11) (N := 18) hx hb hts inX11 tyX11 tyX11_ok nmX11 hown hE.1 hP hD hS 0 rfl rfl 13 (by decide) (hts _ qw774) (fun _ h9 => h9) rfl (tyX11_ok 13 (by decide)) rfl rfl (Nat.le_of_ble_eq_true rfl) dX11_readsChange_36 (fun H locs hP hD hS => ?_)
  have hP : va_P D vwCl [(a_t, .inr (8, [.ref a_t_s, .ref a_t_past, .ref a_t_kept, .int v_t_isKept, .int v_t_pasts, .ref a_t_pad, .int v_t_typed, .ref a_t_cell, .ref a_t_other, .ref a_t_rows, .int v_t_ends, .ref a_t_read, .int v_t_many, .int x41, .ref a_t_track, .ref a_t_lead, .ref a_t_distance, .ref a_t_line])), (a_t_s, .inl (Y.1, 41, .inl f_t_s)), (a_t_pad, .inl (Y.1, 80, .inl f_t_pad)), (a_t_read, .inl (Y.1, 21, .inl (upd f_t_read v_t_many.toNatClampNeg 0)))] H := hP
  have hD : va_D A [(a_t, .inr (8, [.ref a_t_s, .ref a_t_past, .ref a_t_kept, .int v_t_isKept, .int v_t_pasts, .ref a_t_pad, .int v_t_typed, .ref a_t_cell, .ref a_t_other, .ref a_t_rows, .int v_t_ends, .ref a_t_read, .int v_t_many, .int x41, .ref a_t_track, .ref a_t_lead, .ref a_t_distance, .ref a_t_line])), (a_t_s, .inl (Y.1, 41, .inl f_t_s)), (a_t_pad, .inl (Y.1, 80, .inl f_t_pad)), (a_t_read, .inl (Y.1, 21, .inl (upd f_t_read v_t_many.toNatClampNeg 0)))] := hD
  refine lv_iconst (v := 1) hx hb dX11_readsChange_39 (by decide) ?_
  obtain rfl := Option.some.inj hf
  subst hQ
  exact en_z hx hb hr hlocks hP hD hS rfl (Or.inr rfl) dX11_readsChange_40

def f_X11_methodFault_L12 (k : Int32 → Int32 → Int32 → (Nat → Int32) → Option (Int32 × Int32 × Int32 × (Nat → Int32))) (v_t_typed : Int32) (f_t_s : Nat → Int32) (f_t_pad : Nat → Int32) : Nat → Int32 → Int32 → Int32 → (Nat → Int32) → Option (Int32 × Int32 × Int32 × (Nat → Int32))
  | 0, _, _, _, _ => none
  | n + 1, s1, v_t_many, v_t_spot, f_t_read => (if s1 = 0 then (k s1 v_t_many v_t_spot f_t_read) else bd (f_X11_readsChange v_t_typed v_t_many v_t_spot f_t_s f_t_pad f_t_read) (fun q2 => (if q2.1 = 0 then some (q2.2.1, v_t_many, q2.2.1, q2.2.2) else nm (v_t_many + 1) (fun (x6 : Int32) => (if (20 : Int32) ≤ x6 then nm (if (0 : Int32) = 0 then (0 : Int32) else (1 : Int32)) (fun (w8 : Int32) => nm (q2.2.1 + w8) (fun (x9 : Int32) => (f_X11_methodFault_L12 k v_t_typed f_t_s f_t_pad n 0 x6 x9 q2.2.2))) else bd (f_X11_isAt 46 46 v_t_typed q2.2.1 f_t_pad) (fun q11 => nm (if q11 = 0 then (0 : Int32) else (1 : Int32)) (fun (w14 : Int32) => nm (if w14 = 0 then (0 : Int32) else (1 : Int32)) (fun (w15 : Int32) => nm (q2.2.1 + w15) (fun (x16 : Int32) => (f_X11_methodFault_L12 k v_t_typed f_t_s f_t_pad n w14 x6 x16 q2.2.2))))))))))
def f_X11_methodFault (v_t_typed : Int32) (v_t_many : Int32) (v_t_spot : Int32) (f_t_s : Nat → Int32) (f_t_pad : Nat → Int32) (f_t_read : Nat → Int32) : Option (Int32 × Int32 × Int32 × (Nat → Int32)) :=
  (f_X11_methodFault_L12 (fun (y19 : Int32) (y20 : Int32) (y21 : Int32) (y22 : Nat → Int32) => (if y21 = v_t_typed then some ((-4), y20, y21, y22) else some (y21, y20, y21, y22))) v_t_typed f_t_s f_t_pad fu 1 0 0 f_t_read)
abbrev rm_X11_methodFault : Room := { frames := 5, cells := 0, slots := 0, locals := 116 }
set_option maxHeartbeats 4000000 in
set_option maxRecDepth 100000 in
theorem c_X11_methodFault (l : Launch) (D : va_G) (Y : ClassId × ClassId × ClassId) (a_t a_t_s a_t_past a_t_kept a_t_pad a_t_cell a_t_other a_t_rows a_t_read a_t_track a_t_lead a_t_distance a_t_line : Nat) (v_t_isKept : Int32) (v_t_pasts : Int32) (v_t_typed : Int32) (v_t_ends : Int32) (v_t_many : Int32) (v_t_spot : Int32) (f_t_s : Nat → Int32) (f_t_pad : Nat → Int32) (f_t_read : Nat → Int32) (sz : Nat) (R : Int32 × Int32 × Int32 × (Nat → Int32)) (hf : f_X11_methodFault v_t_typed v_t_many v_t_spot f_t_s f_t_pad f_t_read = some R) : Met l yX11_methodFault (ws_ yX11_methodFault cX11_methodFault 2 (some .int)) rm_X11_methodFault (va_Pc [.ref a_t] (RW D Y sz [(a_t, .inr (8, [.ref a_t_s, .ref a_t_past, .ref a_t_kept, .int v_t_isKept, .int v_t_pasts, .ref a_t_pad, .int v_t_typed, .ref a_t_cell, .ref a_t_other, .ref a_t_rows, .int v_t_ends, .ref a_t_read, .int v_t_many, .int v_t_spot, .ref a_t_track, .ref a_t_lead, .ref a_t_distance, .ref a_t_line])), (a_t_s, .inl (Y.1, 41, .inl f_t_s)), (a_t_pad, .inl (Y.1, 80, .inl f_t_pad)), (a_t_read, .inl (Y.1, 21, .inl f_t_read))])) (QI D R.1 [(a_t, .inr (8, [.ref a_t_s, .ref a_t_past, .ref a_t_kept, .int v_t_isKept, .int v_t_pasts, .ref a_t_pad, .int v_t_typed, .ref a_t_cell, .ref a_t_other, .ref a_t_rows, .int v_t_ends, .ref a_t_read, .int R.2.1, .int R.2.2.1, .ref a_t_track, .ref a_t_lead, .ref a_t_distance, .ref a_t_line])), (a_t_s, .inl (Y.1, 41, .inl f_t_s)), (a_t_pad, .inl (Y.1, 80, .inl f_t_pad)), (a_t_read, .inl (Y.1, 21, .inl R.2.2.2))] (va_A [(a_t, .inr (8, [.ref a_t_s, .ref a_t_past, .ref a_t_kept, .int v_t_isKept, .int v_t_pasts, .ref a_t_pad, .int v_t_typed, .ref a_t_cell, .ref a_t_other, .ref a_t_rows, .int v_t_ends, .ref a_t_read, .int v_t_many, .int v_t_spot, .ref a_t_track, .ref a_t_lead, .ref a_t_distance, .ref a_t_line])), (a_t_s, .inl (Y.1, 41, .inl f_t_s)), (a_t_pad, .inl (Y.1, 80, .inl f_t_pad)), (a_t_read, .inl (Y.1, 21, .inl f_t_read))] sz)) 0 0 (va_A [(a_t, .inr (8, [.ref a_t_s, .ref a_t_past, .ref a_t_kept, .int v_t_isKept, .int v_t_pasts, .ref a_t_pad, .int v_t_typed, .ref a_t_cell, .ref a_t_other, .ref a_t_rows, .int v_t_ends, .ref a_t_read, .int v_t_many, .int v_t_spot, .ref a_t_track, .ref a_t_lead, .ref a_t_distance, .ref a_t_line])), (a_t_s, .inl (Y.1, 41, .inl f_t_s)), (a_t_pad, .inl (Y.1, 80, .inl f_t_pad)), (a_t_read, .inl (Y.1, 21, .inl f_t_read))] sz) := by
  refine rw_start (Qc := fun A => QI D R.1 [(a_t, .inr (8, [.ref a_t_s, .ref a_t_past, .ref a_t_kept, .int v_t_isKept, .int v_t_pasts, .ref a_t_pad, .int v_t_typed, .ref a_t_cell, .ref a_t_other, .ref a_t_rows, .int v_t_ends, .ref a_t_read, .int R.2.1, .int R.2.2.1, .ref a_t_track, .ref a_t_lead, .ref a_t_distance, .ref a_t_line])), (a_t_s, .inl (Y.1, 41, .inl f_t_s)), (a_t_pad, .inl (Y.1, 80, .inl f_t_pad)), (a_t_read, .inl (Y.1, 21, .inl R.2.2.2))] A) (by decide) (Nat.le_of_ble_eq_true rfl) ?_
  intro p e s m below meth c ls A hx hb hml hr hlocks hown hts hnm hA hP hD hS hE hl
  generalize hargs : List.toArray _ = args at hts ⊢
  have hown : s.vm.findClass RX11 = some m.cls := hown
  have E : EN p m c cX11_methodFault 2 s args RX11 := ⟨hx, hb, hml, hown, hts⟩
  have hl : lv_has ls 2 [(0, .ref a_t)] := hl
  generalize hQ : MQ below _ args s 0 0 _ = Q
  unfold f_X11_methodFault at hf
  have L12 : ∀ (n : Nat) (k : Int32 → Int32 → Int32 → (Nat → Int32) → Option (Int32 × Int32 × Int32 × (Nat → Int32))) (s1 : Int32) (v_t_many : Int32) (v_t_spot : Int32) (f_t_read : Nat → Int32) (H : Heap) (locs : List Loc) (ls : Array Slot), f_X11_methodFault_L12 k v_t_typed f_t_s f_t_pad n s1 v_t_many v_t_spot f_t_read = some R → va_P D vwCl [(a_t, .inr (8, [.ref a_t_s, .ref a_t_past, .ref a_t_kept, .int v_t_isKept, .int v_t_pasts, .ref a_t_pad, .int v_t_typed, .ref a_t_cell, .ref a_t_other, .ref a_t_rows, .int v_t_ends, .ref a_t_read, .int v_t_many, .int v_t_spot, .ref a_t_track, .ref a_t_lead, .ref a_t_distance, .ref a_t_line])), (a_t_s, .inl (Y.1, 41, .inl f_t_s)), (a_t_pad, .inl (Y.1, 80, .inl f_t_pad)), (a_t_read, .inl (Y.1, 21, .inl f_t_read))] H → va_D A [(a_t, .inr (8, [.ref a_t_s, .ref a_t_past, .ref a_t_kept, .int v_t_isKept, .int v_t_pasts, .ref a_t_pad, .int v_t_typed, .ref a_t_cell, .ref a_t_other, .ref a_t_rows, .int v_t_ends, .ref a_t_read, .int v_t_many, .int v_t_spot, .ref a_t_track, .ref a_t_lead, .ref a_t_distance, .ref a_t_line])), (a_t_s, .inl (Y.1, 41, .inl f_t_s)), (a_t_pad, .inl (Y.1, 80, .inl f_t_pad)), (a_t_read, .inl (Y.1, 21, .inl f_t_read))] → va_S A s.heap H locs → lv_has ls 2 [(0, .ref a_t), (1, .int s1)] → (∀ (y_s1 : Int32) (y_v_t_many : Int32) (y_v_t_spot : Int32) (y_f_t_read : Nat → Int32) (H : Heap) (locs : List Loc) (ls : Array Slot), k y_s1 y_v_t_many y_v_t_spot y_f_t_read = some R → va_P D vwCl [(a_t, .inr (8, [.ref a_t_s, .ref a_t_past, .ref a_t_kept, .int v_t_isKept, .int v_t_pasts, .ref a_t_pad, .int v_t_typed, .ref a_t_cell, .ref a_t_other, .ref a_t_rows, .int v_t_ends, .ref a_t_read, .int y_v_t_many, .int y_v_t_spot, .ref a_t_track, .ref a_t_lead, .ref a_t_distance, .ref a_t_line])), (a_t_s, .inl (Y.1, 41, .inl f_t_s)), (a_t_pad, .inl (Y.1, 80, .inl f_t_pad)), (a_t_read, .inl (Y.1, 21, .inl y_f_t_read))] H → va_D A [(a_t, .inr (8, [.ref a_t_s, .ref a_t_past, .ref a_t_kept, .int v_t_isKept, .int v_t_pasts, .ref a_t_pad, .int v_t_typed, .ref a_t_cell, .ref a_t_other, .ref a_t_rows, .int v_t_ends, .ref a_t_read, .int y_v_t_many, .int y_v_t_spot, .ref a_t_track, .ref a_t_lead, .ref a_t_distance, .ref a_t_line])), (a_t_s, .inl (Y.1, 41, .inl f_t_s)), (a_t_pad, .inl (Y.1, 80, .inl f_t_pad)), (a_t_read, .inl (Y.1, 21, .inl y_f_t_read))] → va_S A s.heap H locs → lv_has ls 2 [(0, .ref a_t)] → W p l e rm_X11_methodFault s m args below meth c H locs 0 0 Q (F0 m 85 ls [])) → W p l e rm_X11_methodFault s m args below meth c H locs 0 0 Q (F0 m 12 ls []) := by
    intro n
    induction n with
    | zero =>
      intro k s1 v_t_many v_t_spot f_t_read H locs ls hf
      cases hf
    | succ n ih =>
      intro k s1 v_t_many v_t_spot f_t_read H locs ls hf hP hD hS hl hk
      unfold f_X11_methodFault_L12 at hf
      refine lv_iload_n hx hb dX11_methodFault_12 rfl (lv_at hl 1 rfl) ?_
      refine lv_if_eq (tgt := 85) hx hb dX11_methodFault_13 (by decide) (fun c1 => ?_) (fun c1 => ?_)
      · have hf := ite_t c1 hf
        exact hk _ _ _ _ _ _ _ hf hP hD hS (lv_sub hl [0] rfl)
      have hf := ite_f c1 hf
      refine lv_aload_n hx hb dX11_methodFault_16 rfl (lv_at hl 0 rfl) ?_
      obtain ⟨q2, h3, hf⟩ := bd_s hf
      refine af_z0 (wc := [(a_t, .inr (8, [.ref a_t_s, .ref a_t_past, .ref a_t_kept, .int v_t_isKept, .int v_t_pasts, .ref a_t_pad, .int v_t_typed, .ref a_t_cell, .ref a_t_other, .ref a_t_rows, .int v_t_ends, .ref a_t_read, .int v_t_many, .int v_t_spot, .ref a_t_track, .ref a_t_lead, .ref a_t_distance, .ref a_t_line])), (a_t_s, .inl (Y.1, 41, .inl f_t_s)), (a_t_pad, .inl (Y.1, 80, .inl f_t_pad)), (a_t_read, .inl (Y.1, 21, .inl f_t_read))]) (wr := []) (wn := [(a_t, .inr (8, [.ref a_t_s, .ref a_t_past, .ref a_t_kept, .int v_t_isKept, .int v_t_pasts, .ref a_t_pad, .int v_t_typed, .ref a_t_cell, .ref a_t_other, .ref a_t_rows, .int v_t_ends, .ref a_t_read, .int v_t_many, .int q2.2.1, .ref a_t_track, .ref a_t_lead, .ref a_t_distance, .ref a_t_line])), (a_t_s, .inl (Y.1, 41, .inl f_t_s)), (a_t_pad, .inl (Y.1, 80, .inl f_t_pad)), (a_t_read, .inl (Y.1, 21, .inl q2.2.2))]) (run_V (As := []) (rest := []) E (c_X11_readsChange l D Y a_t a_t_s a_t_past a_t_kept a_t_pad a_t_cell a_t_other a_t_rows a_t_read a_t_track a_t_lead a_t_distance a_t_line v_t_isKept v_t_pasts v_t_typed v_t_ends v_t_many v_t_spot f_t_s f_t_pad f_t_read H.size q2 h3) qw835 qw837 qw24 qw76 qw838 rfl rfl hd_X11_readsChange ⟨Nat.le_of_ble_eq_true rfl, Nat.le_of_ble_eq_true rfl⟩ (pre_rwV hP hD hE [0, 1, 2, 3] rfl (by decide) rfl (ci := 8) (q0 := 0) rfl rfl) rfl hl.1 rfl (Nat.le_of_ble_eq_true rfl) dX11_methodFault_17 ⟨Nat.zero_le _, Nat.zero_le _⟩) hP hD hS hA [0, 1, 2, 3] [] [0, 1, 2, 3] rfl rfl (by decide) (by decide) rfl rfl (by decide) (fun H locs z4 hP hD hS => ?_)
      refine lv_if_ne (tgt := 28) hx hb dX11_methodFault_20 (by decide) (fun c5 => ?_) (fun c5 => ?_)
      · have hf := ite_f c5 hf
        refine lv_aload_n hx hb dX11_methodFault_28 rfl (lv_at hl 0 rfl) ?_
        refine lv_dup hx hb dX11_methodFault_29 rfl ?_
        refine va_get (D := D) (ci := 8) (v := .int v_t_many) (C := RX11) (T := TX11) (N := 18) hx hb hts inX11 hown hE.1 hP 0 rfl rfl 12 (by decide) (hts _ qw773) (fun _ h9 => h9) rfl dX11_methodFault_30 ?_
        refine lv_iconst (v := 1) hx hb dX11_methodFault_33 (by decide) ?_
        refine lv_iadd hx hb dX11_methodFault_34 ?_
        refine nm_W hf (fun x6 hf => ?_)
        refine va_put (D := D) (ci := 8) (v := .int x6) (ty := .int) (C := RX11) (T := TX11) (N := 18) hx hb hts inX11 tyX11 tyX11_ok nmX11 hown hE.1 hP hD hS 0 rfl rfl 12 (by decide) (hts _ qw773) (fun _ h9 => h9) rfl (tyX11_ok 12 (by decide)) rfl rfl (Nat.le_of_ble_eq_true rfl) dX11_methodFault_35 (fun H locs hP hD hS => ?_)
        have hP : va_P D vwCl [(a_t, .inr (8, [.ref a_t_s, .ref a_t_past, .ref a_t_kept, .int v_t_isKept, .int v_t_pasts, .ref a_t_pad, .int v_t_typed, .ref a_t_cell, .ref a_t_other, .ref a_t_rows, .int v_t_ends, .ref a_t_read, .int x6, .int q2.2.1, .ref a_t_track, .ref a_t_lead, .ref a_t_distance, .ref a_t_line])), (a_t_s, .inl (Y.1, 41, .inl f_t_s)), (a_t_pad, .inl (Y.1, 80, .inl f_t_pad)), (a_t_read, .inl (Y.1, 21, .inl q2.2.2))] H := hP
        have hD : va_D A [(a_t, .inr (8, [.ref a_t_s, .ref a_t_past, .ref a_t_kept, .int v_t_isKept, .int v_t_pasts, .ref a_t_pad, .int v_t_typed, .ref a_t_cell, .ref a_t_other, .ref a_t_rows, .int v_t_ends, .ref a_t_read, .int x6, .int q2.2.1, .ref a_t_track, .ref a_t_lead, .ref a_t_distance, .ref a_t_line])), (a_t_s, .inl (Y.1, 41, .inl f_t_s)), (a_t_pad, .inl (Y.1, 80, .inl f_t_pad)), (a_t_read, .inl (Y.1, 21, .inl q2.2.2))] := hD
        refine lv_aload_n hx hb dX11_methodFault_38 rfl (lv_at hl 0 rfl) ?_
        refine va_get (D := D) (ci := 8) (v := .int x6) (C := RX11) (T := TX11) (N := 18) hx hb hts inX11 hown hE.1 hP 0 rfl rfl 12 (by decide) (hts _ qw773) (fun _ h9 => h9) rfl dX11_methodFault_39 ?_
        refine lv_bipush (v := 20) hx hb dX11_methodFault_42 (by decide) ?_
        refine lv_icmp_ge (tgt := 62) hx hb dX11_methodFault_44 (by decide) (fun c7 => ?_) (fun c7 => ?_)
        · have hf := ite_t c7 hf
          refine lv_iconst (v := 0) hx hb dX11_methodFault_62 (by decide) ?_
          refine lv_istore_n (lv' := [(1, .int 0), (0, .ref a_t)]) hx hb dX11_methodFault_63 rfl hl (by decide) rfl (fun ls hl => ?_)
          refine lv_aload_n hx hb dX11_methodFault_64 rfl (lv_at hl 1 rfl) ?_
          refine lv_dup hx hb dX11_methodFault_65 rfl ?_
          refine va_get (D := D) (ci := 8) (v := .int q2.2.1) (C := RX11) (T := TX11) (N := 18) hx hb hts inX11 hown hE.1 hP 0 rfl rfl 13 (by decide) (hts _ qw774) (fun _ h9 => h9) rfl dX11_methodFault_66 ?_
          refine lv_iload_n hx hb dX11_methodFault_69 rfl (lv_at hl 0 rfl) ?_
          refine mg (P := fun (w8 : Int32) => ∀ (ls : Array Slot), lv_has ls 2 [(0, .ref a_t), (1, .int 0)] → W p l e rm_X11_methodFault s m args below meth c H locs 0 0 Q (F0 m 78 ls [.int w8, .int q2.2.1, .ref a_t])) hf (fun w8 hf ls hl => ?_) (fun hJ => ?_)
          · refine lv_iadd hx hb dX11_methodFault_78 ?_
            refine nm_W hf (fun x9 hf => ?_)
            refine va_put (D := D) (ci := 8) (v := .int x9) (ty := .int) (C := RX11) (T := TX11) (N := 18) hx hb hts inX11 tyX11 tyX11_ok nmX11 hown hE.1 hP hD hS 0 rfl rfl 13 (by decide) (hts _ qw774) (fun _ h9 => h9) rfl (tyX11_ok 13 (by decide)) rfl rfl (Nat.le_of_ble_eq_true rfl) dX11_methodFault_79 (fun H locs hP hD hS => ?_)
            have hP : va_P D vwCl [(a_t, .inr (8, [.ref a_t_s, .ref a_t_past, .ref a_t_kept, .int v_t_isKept, .int v_t_pasts, .ref a_t_pad, .int v_t_typed, .ref a_t_cell, .ref a_t_other, .ref a_t_rows, .int v_t_ends, .ref a_t_read, .int x6, .int x9, .ref a_t_track, .ref a_t_lead, .ref a_t_distance, .ref a_t_line])), (a_t_s, .inl (Y.1, 41, .inl f_t_s)), (a_t_pad, .inl (Y.1, 80, .inl f_t_pad)), (a_t_read, .inl (Y.1, 21, .inl q2.2.2))] H := hP
            have hD : va_D A [(a_t, .inr (8, [.ref a_t_s, .ref a_t_past, .ref a_t_kept, .int v_t_isKept, .int v_t_pasts, .ref a_t_pad, .int v_t_typed, .ref a_t_cell, .ref a_t_other, .ref a_t_rows, .int v_t_ends, .ref a_t_read, .int x6, .int x9, .ref a_t_track, .ref a_t_lead, .ref a_t_distance, .ref a_t_line])), (a_t_s, .inl (Y.1, 41, .inl f_t_s)), (a_t_pad, .inl (Y.1, 80, .inl f_t_pad)), (a_t_read, .inl (Y.1, 21, .inl q2.2.2))] := hD
            refine lv_goto (tgt := 12) hx hb dX11_methodFault_82 (by decide) ?_
            exact ih _ _ _ _ _ _ _ _ hf hP hD hS (lv_sub hl [0, 1] rfl) hk
          refine lv_if_eq (tgt := 77) hx hb dX11_methodFault_70 (by decide) (fun c10 => ?_) (fun c10 => ?_)
          · have hf := nmi_t c10 hf
            refine lv_iconst (v := 0) hx hb dX11_methodFault_77 (by decide) ?_
            exact hJ _ (nm_b hf) _ (lv_sub hl [1, 0] rfl)
          have hf := nmi_f c10 hf
          refine lv_iconst (v := 1) hx hb dX11_methodFault_73 (by decide) ?_
          refine lv_goto (tgt := 78) hx hb dX11_methodFault_74 (by decide) ?_
          exact hJ _ (nm_b hf) _ (lv_sub hl [1, 0] rfl)
        have hf := ite_f c7 hf
        refine lv_aload_n hx hb dX11_methodFault_47 rfl (lv_at hl 0 rfl) ?_
        refine lv_bipush (v := 46) hx hb dX11_methodFault_48 (by decide) ?_
        refine lv_bipush (v := 46) hx hb dX11_methodFault_50 (by decide) ?_
        obtain ⟨q11, h12, hf⟩ := bd_s hf
        refine af_oz (run_V (As := [.int 46, .int 46]) (rest := []) E (c_X11_isAt l D Y a_t a_t_s a_t_past a_t_kept a_t_pad a_t_cell a_t_other a_t_rows a_t_read a_t_track a_t_lead a_t_distance a_t_line v_t_isKept v_t_pasts v_t_typed v_t_ends x6 q2.2.1 f_t_pad 46 46 q11 h12) qw839 qw841 qw25 qw76 qw842 rfl rfl hd_X11_isAt ⟨Nat.le_of_ble_eq_true rfl, Nat.le_of_ble_eq_true rfl⟩ (pre_roV hP hE [0, 2] rfl (ci := 8) (q0 := 0) rfl rfl) rfl hl.1 rfl (Nat.le_of_ble_eq_true rfl) dX11_methodFault_52 ⟨Nat.zero_le _, Nat.zero_le _⟩) (fun z13 => ?_)
        refine mg (P := fun (w14 : Int32) => ∀ (ls : Array Slot), lv_has ls 2 [(0, .ref a_t)] → W p l e rm_X11_methodFault s m args below meth c H locs 0 0 Q (F0 m 63 ls [.int w14])) hf (fun w14 hf ls hl => ?_) (fun hJ => ?_)
        · refine lv_istore_n (lv' := [(1, .int w14), (0, .ref a_t)]) hx hb dX11_methodFault_63 rfl hl (by decide) rfl (fun ls hl => ?_)
          refine lv_aload_n hx hb dX11_methodFault_64 rfl (lv_at hl 1 rfl) ?_
          refine lv_dup hx hb dX11_methodFault_65 rfl ?_
          refine va_get (D := D) (ci := 8) (v := .int q2.2.1) (C := RX11) (T := TX11) (N := 18) hx hb hts inX11 hown hE.1 hP 0 rfl rfl 13 (by decide) (hts _ qw774) (fun _ h9 => h9) rfl dX11_methodFault_66 ?_
          refine lv_iload_n hx hb dX11_methodFault_69 rfl (lv_at hl 0 rfl) ?_
          refine mg (P := fun (w15 : Int32) => ∀ (ls : Array Slot), lv_has ls 2 [(0, .ref a_t), (1, .int w14)] → W p l e rm_X11_methodFault s m args below meth c H locs 0 0 Q (F0 m 78 ls [.int w15, .int q2.2.1, .ref a_t])) hf (fun w15 hf ls hl => ?_) (fun hJ => ?_)
          · refine lv_iadd hx hb dX11_methodFault_78 ?_
            refine nm_W hf (fun x16 hf => ?_)
            refine va_put (D := D) (ci := 8) (v := .int x16) (ty := .int) (C := RX11) (T := TX11) (N := 18) hx hb hts inX11 tyX11 tyX11_ok nmX11 hown hE.1 hP hD hS 0 rfl rfl 13 (by decide) (hts _ qw774) (fun _ h9 => h9) rfl (tyX11_ok 13 (by decide)) rfl rfl (Nat.le_of_ble_eq_true rfl) dX11_methodFault_79 (fun H locs hP hD hS => ?_)
            have hP : va_P D vwCl [(a_t, .inr (8, [.ref a_t_s, .ref a_t_past, .ref a_t_kept, .int v_t_isKept, .int v_t_pasts, .ref a_t_pad, .int v_t_typed, .ref a_t_cell, .ref a_t_other, .ref a_t_rows, .int v_t_ends, .ref a_t_read, .int x6, .int x16, .ref a_t_track, .ref a_t_lead, .ref a_t_distance, .ref a_t_line])), (a_t_s, .inl (Y.1, 41, .inl f_t_s)), (a_t_pad, .inl (Y.1, 80, .inl f_t_pad)), (a_t_read, .inl (Y.1, 21, .inl q2.2.2))] H := hP
            have hD : va_D A [(a_t, .inr (8, [.ref a_t_s, .ref a_t_past, .ref a_t_kept, .int v_t_isKept, .int v_t_pasts, .ref a_t_pad, .int v_t_typed, .ref a_t_cell, .ref a_t_other, .ref a_t_rows, .int v_t_ends, .ref a_t_read, .int x6, .int x16, .ref a_t_track, .ref a_t_lead, .ref a_t_distance, .ref a_t_line])), (a_t_s, .inl (Y.1, 41, .inl f_t_s)), (a_t_pad, .inl (Y.1, 80, .inl f_t_pad)), (a_t_read, .inl (Y.1, 21, .inl q2.2.2))] := hD
            refine lv_goto (tgt := 12) hx hb dX11_methodFault_82 (by decide) ?_
            exact ih _ _ _ _ _ _ _ _ hf hP hD hS (lv_sub hl [0, 1] rfl) hk
          refine lv_if_eq (tgt := 77) hx hb dX11_methodFault_70 (by decide) (fun c17 => ?_) (fun c17 => ?_)
          · have hf := nmi_t c17 hf
            refine lv_iconst (v := 0) hx hb dX11_methodFault_77 (by decide) ?_
            exact hJ _ (nm_b hf) _ (lv_sub hl [1, 0] rfl)
          have hf := nmi_f c17 hf
          refine lv_iconst (v := 1) hx hb dX11_methodFault_73 (by decide) ?_
          refine lv_goto (tgt := 78) hx hb dX11_methodFault_74 (by decide) ?_
          exact hJ _ (nm_b hf) _ (lv_sub hl [1, 0] rfl)
        refine lv_if_eq (tgt := 62) hx hb dX11_methodFault_55 (by decide) (fun c18 => ?_) (fun c18 => ?_)
        · have hf := nmi_t c18 hf
          refine lv_iconst (v := 0) hx hb dX11_methodFault_62 (by decide) ?_
          exact hJ _ (nm_b hf) _ (lv_sub hl [0] rfl)
        have hf := nmi_f c18 hf
        refine lv_iconst (v := 1) hx hb dX11_methodFault_58 (by decide) ?_
        refine lv_goto (tgt := 63) hx hb dX11_methodFault_59 (by decide) ?_
        exact hJ _ (nm_b hf) _ (lv_sub hl [0] rfl)
      have hf := ite_t c5 hf
      refine lv_aload_n hx hb dX11_methodFault_23 rfl (lv_at hl 0 rfl) ?_
      refine va_get (D := D) (ci := 8) (v := .int q2.2.1) (C := RX11) (T := TX11) (N := 18) hx hb hts inX11 hown hE.1 hP 0 rfl rfl 13 (by decide) (hts _ qw774) (fun _ h9 => h9) rfl dX11_methodFault_24 ?_
      obtain rfl := Option.some.inj hf
      subst hQ
      exact en_i hx hb hr hlocks hP hD hS rfl dX11_methodFault_27
  refine lv_aload_n hx hb dX11_methodFault_0 rfl (lv_at hl 0 rfl) ?_
  refine lv_iconst (v := 0) hx hb dX11_methodFault_1 (by decide) ?_
  refine va_put (D := D) (ci := 8) (v := .int 0) (ty := .int) (C := RX11) (T := TX11) (N := 18) hx hb hts inX11 tyX11 tyX11_ok nmX11 hown hE.1 hP hD hS 0 rfl rfl 13 (by decide) (hts _ qw774) (fun _ h9 => h9) rfl (tyX11_ok 13 (by decide)) rfl rfl (Nat.le_of_ble_eq_true rfl) dX11_methodFault_2 (fun H locs hP hD hS => ?_)
  have hP : va_P D vwCl [(a_t, .inr (8, [.ref a_t_s, .ref a_t_past, .ref a_t_kept, .int v_t_isKept, .int v_t_pasts, .ref a_t_pad, .int v_t_typed, .ref a_t_cell, .ref a_t_other, .ref a_t_rows, .int v_t_ends, .ref a_t_read, .int v_t_many, .int 0, .ref a_t_track, .ref a_t_lead, .ref a_t_distance, .ref a_t_line])), (a_t_s, .inl (Y.1, 41, .inl f_t_s)), (a_t_pad, .inl (Y.1, 80, .inl f_t_pad)), (a_t_read, .inl (Y.1, 21, .inl f_t_read))] H := hP
  have hD : va_D A [(a_t, .inr (8, [.ref a_t_s, .ref a_t_past, .ref a_t_kept, .int v_t_isKept, .int v_t_pasts, .ref a_t_pad, .int v_t_typed, .ref a_t_cell, .ref a_t_other, .ref a_t_rows, .int v_t_ends, .ref a_t_read, .int v_t_many, .int 0, .ref a_t_track, .ref a_t_lead, .ref a_t_distance, .ref a_t_line])), (a_t_s, .inl (Y.1, 41, .inl f_t_s)), (a_t_pad, .inl (Y.1, 80, .inl f_t_pad)), (a_t_read, .inl (Y.1, 21, .inl f_t_read))] := hD
  refine lv_aload_n hx hb dX11_methodFault_5 rfl (lv_at hl 0 rfl) ?_
  refine lv_iconst (v := 0) hx hb dX11_methodFault_6 (by decide) ?_
  refine va_put (D := D) (ci := 8) (v := .int 0) (ty := .int) (C := RX11) (T := TX11) (N := 18) hx hb hts inX11 tyX11 tyX11_ok nmX11 hown hE.1 hP hD hS 0 rfl rfl 12 (by decide) (hts _ qw773) (fun _ h9 => h9) rfl (tyX11_ok 12 (by decide)) rfl rfl (Nat.le_of_ble_eq_true rfl) dX11_methodFault_7 (fun H locs hP hD hS => ?_)
  have hP : va_P D vwCl [(a_t, .inr (8, [.ref a_t_s, .ref a_t_past, .ref a_t_kept, .int v_t_isKept, .int v_t_pasts, .ref a_t_pad, .int v_t_typed, .ref a_t_cell, .ref a_t_other, .ref a_t_rows, .int v_t_ends, .ref a_t_read, .int 0, .int 0, .ref a_t_track, .ref a_t_lead, .ref a_t_distance, .ref a_t_line])), (a_t_s, .inl (Y.1, 41, .inl f_t_s)), (a_t_pad, .inl (Y.1, 80, .inl f_t_pad)), (a_t_read, .inl (Y.1, 21, .inl f_t_read))] H := hP
  have hD : va_D A [(a_t, .inr (8, [.ref a_t_s, .ref a_t_past, .ref a_t_kept, .int v_t_isKept, .int v_t_pasts, .ref a_t_pad, .int v_t_typed, .ref a_t_cell, .ref a_t_other, .ref a_t_rows, .int v_t_ends, .ref a_t_read, .int 0, .int 0, .ref a_t_track, .ref a_t_lead, .ref a_t_distance, .ref a_t_line])), (a_t_s, .inl (Y.1, 41, .inl f_t_s)), (a_t_pad, .inl (Y.1, 80, .inl f_t_pad)), (a_t_read, .inl (Y.1, 21, .inl f_t_read))] := hD
  refine lv_iconst (v := 1) hx hb dX11_methodFault_10 (by decide) ?_
  refine lv_istore_n (lv' := [(1, .int 1), (0, .ref a_t)]) hx hb dX11_methodFault_11 rfl hl (by decide) rfl (fun ls hl => ?_)
  refine L12 _ _ _ _ _ _ _ _ _ hf hP hD hS (lv_sub hl [1, 0] rfl) ?_
  intro y19 y20 y21 y22 H locs ls hf hP hD hS hl
  refine lv_aload_n hx hb dX11_methodFault_85 rfl (lv_at hl 0 rfl) ?_
  refine va_get (D := D) (ci := 8) (v := .int y21) (C := RX11) (T := TX11) (N := 18) hx hb hts inX11 hown hE.1 hP 0 rfl rfl 13 (by decide) (hts _ qw774) (fun _ h9 => h9) rfl dX11_methodFault_86 ?_
  refine lv_aload_n hx hb dX11_methodFault_89 rfl (lv_at hl 0 rfl) ?_
  refine va_get (D := D) (ci := 8) (v := .int v_t_typed) (C := RX11) (T := TX11) (N := 18) hx hb hts inX11 hown hE.1 hP 0 rfl rfl 6 (by decide) (hts _ qw767) (fun _ h9 => h9) rfl dX11_methodFault_90 ?_
  refine lv_icmp_ne (tgt := 101) hx hb dX11_methodFault_93 (by decide) (fun c23 => ?_) (fun c23 => ?_)
  · have hf := ite_f c23 hf
    refine lv_aload_n hx hb dX11_methodFault_101 rfl (lv_at hl 0 rfl) ?_
    refine va_get (D := D) (ci := 8) (v := .int y21) (C := RX11) (T := TX11) (N := 18) hx hb hts inX11 hown hE.1 hP 0 rfl rfl 13 (by decide) (hts _ qw774) (fun _ h9 => h9) rfl dX11_methodFault_102 ?_
    obtain rfl := Option.some.inj hf
    subst hQ
    exact en_i hx hb hr hlocks hP hD hS rfl dX11_methodFault_105
  have hf := ite_t c23 hf
  refine lv_bipush (v := (-4)) hx hb dX11_methodFault_96 (by decide) ?_
  refine lv_goto (tgt := 105) hx hb dX11_methodFault_98 (by decide) ?_
  obtain rfl := Option.some.inj hf
  subst hQ
  exact en_i hx hb hr hlocks hP hD hS rfl dX11_methodFault_105

def f_X11_kindOf (s0 : Int32) : Int32 :=
  (if s0 = 112 then 0 else (if s0 = 98 then 1 else (if s0 = 115 then 2 else (-4))))
abbrev rm_X11_kindOf : Room := { frames := 1, cells := 0, slots := 0, locals := 24 }
set_option maxHeartbeats 4000000 in
set_option maxRecDepth 100000 in
theorem c_X11_kindOf (l : Launch) (D : va_G) (Y : ClassId × ClassId × ClassId) (s0 : Int32) (R : Int32) (hf : f_X11_kindOf s0 = R) : Met l yX11_kindOf (ws_ yX11_kindOf cX11_kindOf 1 (some .int)) rm_X11_kindOf (va_Pc [.int s0] (RO D Y [])) (OI R) 0 0 (fun _ => False) := by
  refine ro_start (by decide) (Nat.le_of_ble_eq_true rfl) ?_
  intro p e s m below meth c ls hx hb hml hr hlocks hown hts hP hE hl
  generalize hargs : List.toArray _ = args at hts ⊢
  have hown : s.vm.findClass RX11 = some m.cls := hown
  have E : EN p m c cX11_kindOf 1 s args RX11 := ⟨hx, hb, hml, hown, hts⟩
  have hl : lv_has ls 1 [(0, .int s0)] := hl
  generalize hQ : MQ below _ args s 0 0 _ = Q
  unfold f_X11_kindOf at hf
  refine lv_iload_n hx hb dX11_kindOf_0 rfl (lv_at hl 0 rfl) ?_
  refine lv_bipush (v := 112) hx hb dX11_kindOf_1 (by decide) ?_
  refine lv_icmp_ne (tgt := 10) hx hb dX11_kindOf_3 (by decide) (fun c1 => ?_) (fun c1 => ?_)
  · have hf := ite_f c1 hf
    refine lv_iload_n hx hb dX11_kindOf_10 rfl (lv_at hl 0 rfl) ?_
    refine lv_bipush (v := 98) hx hb dX11_kindOf_11 (by decide) ?_
    refine lv_icmp_ne (tgt := 20) hx hb dX11_kindOf_13 (by decide) (fun c2 => ?_) (fun c2 => ?_)
    · have hf := ite_f c2 hf
      refine lv_iload_n hx hb dX11_kindOf_20 rfl (lv_at hl 0 rfl) ?_
      refine lv_bipush (v := 115) hx hb dX11_kindOf_21 (by decide) ?_
      refine lv_icmp_ne (tgt := 30) hx hb dX11_kindOf_23 (by decide) (fun c3 => ?_) (fun c3 => ?_)
      · have hf := ite_f c3 hf
        refine lv_bipush (v := (-4)) hx hb dX11_kindOf_30 (by decide) ?_
        subst hf
        subst hQ
        exact en_oi hx hb hr hlocks rfl dX11_kindOf_32
      have hf := ite_t c3 hf
      refine lv_iconst (v := 2) hx hb dX11_kindOf_26 (by decide) ?_
      refine lv_goto (tgt := 32) hx hb dX11_kindOf_27 (by decide) ?_
      subst hf
      subst hQ
      exact en_oi hx hb hr hlocks rfl dX11_kindOf_32
    have hf := ite_t c2 hf
    refine lv_iconst (v := 1) hx hb dX11_kindOf_16 (by decide) ?_
    refine lv_goto (tgt := 32) hx hb dX11_kindOf_17 (by decide) ?_
    subst hf
    subst hQ
    exact en_oi hx hb hr hlocks rfl dX11_kindOf_32
  have hf := ite_t c1 hf
  refine lv_iconst (v := 0) hx hb dX11_kindOf_6 (by decide) ?_
  refine lv_goto (tgt := 32) hx hb dX11_kindOf_7 (by decide) ?_
  subst hf
  subst hQ
  exact en_oi hx hb hr hlocks rfl dX11_kindOf_32

def f_X11_touchFault_L2 (k : Int32 → Option (Int32)) (v_t_typed : Int32) (f_t_pad : Nat → Int32) : Nat → Int32 → Option (Int32)
  | 0, _ => none
  | n + 1, s1 => (if v_t_typed ≤ s1 then (k s1) else (if s1 = 16 then some s1 else gd (inb s1 80) ((if (0 : Int32) ≤ (f_X11_kindOf (f_t_pad s1.toNatClampNeg)) then (f_X11_touchFault_L2 k v_t_typed f_t_pad n (s1 + 1)) else some s1))))
def f_X11_touchFault (v_t_typed : Int32) (f_t_pad : Nat → Int32) : Option (Int32) :=
  (f_X11_touchFault_L2 (fun (y5 : Int32) => (if v_t_typed = 0 then some 0 else some (-4))) v_t_typed f_t_pad fu 0)
abbrev rm_X11_touchFault : Room := { frames := 2, cells := 0, slots := 0, locals := 44 }
set_option maxHeartbeats 4000000 in
set_option maxRecDepth 100000 in
theorem c_X11_touchFault (l : Launch) (D : va_G) (Y : ClassId × ClassId × ClassId) (a_t a_t_s a_t_past a_t_kept a_t_pad a_t_cell a_t_other a_t_rows a_t_read a_t_track a_t_lead a_t_distance a_t_line : Nat) (v_t_isKept : Int32) (v_t_pasts : Int32) (v_t_typed : Int32) (v_t_ends : Int32) (v_t_many : Int32) (v_t_spot : Int32) (f_t_pad : Nat → Int32) (R : Int32) (hf : f_X11_touchFault v_t_typed f_t_pad = some R) : Met l yX11_touchFault (ws_ yX11_touchFault cX11_touchFault 2 (some .int)) rm_X11_touchFault (va_Pc [.ref a_t] (RO D Y [(a_t, .inr (8, [.ref a_t_s, .ref a_t_past, .ref a_t_kept, .int v_t_isKept, .int v_t_pasts, .ref a_t_pad, .int v_t_typed, .ref a_t_cell, .ref a_t_other, .ref a_t_rows, .int v_t_ends, .ref a_t_read, .int v_t_many, .int v_t_spot, .ref a_t_track, .ref a_t_lead, .ref a_t_distance, .ref a_t_line])), (a_t_pad, .inl (Y.1, 80, .inl f_t_pad))])) (OI R) 0 0 (fun _ => False) := by
  refine ro_start (by decide) (Nat.le_of_ble_eq_true rfl) ?_
  intro p e s m below meth c ls hx hb hml hr hlocks hown hts hP hE hl
  generalize hargs : List.toArray _ = args at hts ⊢
  have hown : s.vm.findClass RX11 = some m.cls := hown
  have E : EN p m c cX11_touchFault 2 s args RX11 := ⟨hx, hb, hml, hown, hts⟩
  have hl : lv_has ls 2 [(0, .ref a_t)] := hl
  generalize hQ : MQ below _ args s 0 0 _ = Q
  unfold f_X11_touchFault at hf
  have L2 : ∀ (n : Nat) (k : Int32 → Option (Int32)) (s1 : Int32) (ls : Array Slot), f_X11_touchFault_L2 k v_t_typed f_t_pad n s1 = some R → lv_has ls 2 [(0, .ref a_t), (1, .int s1)] → (∀ (y_s1 : Int32) (ls : Array Slot), k y_s1 = some R → lv_has ls 2 [(0, .ref a_t)] → W p l e rm_X11_touchFault s m args below meth c s.heap [] 0 0 Q (F0 m 36 ls [])) → W p l e rm_X11_touchFault s m args below meth c s.heap [] 0 0 Q (F0 m 2 ls []) := by
    intro n
    induction n with
    | zero =>
      intro k s1 ls hf
      cases hf
    | succ n ih =>
      intro k s1 ls hf hl hk
      unfold f_X11_touchFault_L2 at hf
      refine lv_iload_n hx hb dX11_touchFault_2 rfl (lv_at hl 1 rfl) ?_
      refine lv_aload_n hx hb dX11_touchFault_3 rfl (lv_at hl 0 rfl) ?_
      refine va_get (D := D) (ci := 8) (v := .int v_t_typed) (C := RX11) (T := TX11) (N := 18) hx hb hts inX11 hown hE.1 hP 0 rfl rfl 6 (by decide) (hts _ qw767) (fun _ h9 => h9) rfl dX11_touchFault_4 ?_
      refine lv_icmp_ge (tgt := 36) hx hb dX11_touchFault_7 (by decide) (fun c1 => ?_) (fun c1 => ?_)
      · have hf := ite_t c1 hf
        exact hk _ _ hf (lv_sub hl [0] rfl)
      have hf := ite_f c1 hf
      refine lv_iload_n hx hb dX11_touchFault_10 rfl (lv_at hl 1 rfl) ?_
      refine lv_bipush (v := 16) hx hb dX11_touchFault_11 (by decide) ?_
      refine lv_icmp_eq (tgt := 28) hx hb dX11_touchFault_13 (by decide) (fun c2 => ?_) (fun c2 => ?_)
      · have hf := ite_t c2 hf
        refine lv_iload_n hx hb dX11_touchFault_28 rfl (lv_at hl 1 rfl) ?_
        obtain rfl := Option.some.inj hf
        subst hQ
        exact en_oi hx hb hr hlocks rfl dX11_touchFault_29
      have hf := ite_f c2 hf
      refine lv_aload_n hx hb dX11_touchFault_16 rfl (lv_at hl 0 rfl) ?_
      refine va_get (D := D) (ci := 8) (v := .ref a_t_pad) (C := RX11) (T := TX11) (N := 18) hx hb hts inX11 hown hE.1 hP 0 rfl rfl 5 (by decide) (hts _ qw766) (fun _ h9 => h9) rfl dX11_touchFault_17 ?_
      refine lv_iload_n hx hb dX11_touchFault_20 rfl (lv_at hl 1 rfl) ?_
      obtain ⟨g3, hf⟩ := gd_s hf
      refine va_iald hx hb hE.1 hP 1 0 rfl rfl (inb_in g3) dX11_touchFault_21 ?_
      refine af_oi (run_S (As := [.int (f_t_pad s1.toNatClampNeg)]) (rest := []) E (c_X11_kindOf l D Y (f_t_pad s1.toNatClampNeg) (f_X11_kindOf (f_t_pad s1.toNatClampNeg)) rfl) qw863 qw864 qw76 qw865 rfl rfl hd_X11_kindOf ⟨Nat.le_of_ble_eq_true rfl, Nat.le_of_ble_eq_true rfl⟩ (pre_roS hP hE [] rfl) rfl hl.1 rfl (Nat.le_of_ble_eq_true rfl) dX11_touchFault_22 ⟨Nat.zero_le _, Nat.zero_le _⟩) ?_
      refine lv_if_ge (tgt := 30) hx hb dX11_touchFault_25 (by decide) (fun c4 => ?_) (fun c4 => ?_)
      · have hf := ite_t c4 hf
        refine lv_iinc (v := (s1 + 1)) (lv' := [(1, .int (s1 + 1)), (0, .ref a_t)]) hx hb dX11_touchFault_30 hl (k := 1) rfl rfl (by decide) rfl (fun ls hl => ?_)
        refine lv_goto (tgt := 2) hx hb dX11_touchFault_33 (by decide) ?_
        exact ih _ _ _ hf (lv_sub hl [1, 0] rfl) hk
      have hf := ite_f c4 hf
      refine lv_iload_n hx hb dX11_touchFault_28 rfl (lv_at hl 1 rfl) ?_
      obtain rfl := Option.some.inj hf
      subst hQ
      exact en_oi hx hb hr hlocks rfl dX11_touchFault_29
  refine lv_iconst (v := 0) hx hb dX11_touchFault_0 (by decide) ?_
  refine lv_istore_n (lv' := [(1, .int 0), (0, .ref a_t)]) hx hb dX11_touchFault_1 rfl hl (by decide) rfl (fun ls hl => ?_)
  refine L2 _ _ _ _ hf (lv_sub hl [1, 0] rfl) ?_
  intro y5 ls hf hl
  refine lv_aload_n hx hb dX11_touchFault_36 rfl (lv_at hl 0 rfl) ?_
  refine va_get (D := D) (ci := 8) (v := .int v_t_typed) (C := RX11) (T := TX11) (N := 18) hx hb hts inX11 hown hE.1 hP 0 rfl rfl 6 (by decide) (hts _ qw767) (fun _ h9 => h9) rfl dX11_touchFault_37 ?_
  refine lv_if_ne (tgt := 47) hx hb dX11_touchFault_40 (by decide) (fun c6 => ?_) (fun c6 => ?_)
  · have hf := ite_f c6 hf
    refine lv_bipush (v := (-4)) hx hb dX11_touchFault_47 (by decide) ?_
    obtain rfl := Option.some.inj hf
    subst hQ
    exact en_oi hx hb hr hlocks rfl dX11_touchFault_49
  have hf := ite_t c6 hf
  refine lv_iconst (v := 0) hx hb dX11_touchFault_43 (by decide) ?_
  refine lv_goto (tgt := 49) hx hb dX11_touchFault_44 (by decide) ?_
  obtain rfl := Option.some.inj hf
  subst hQ
  exact en_oi hx hb hr hlocks rfl dX11_touchFault_49

def f_X11_method_L28 (k : Int32 → (Nat → Int32) → Option (Int32 × Int32 × Int32 × Int32 × Int32 × (Nat → Int32) × (Nat → Int32) × (Nat → Int32))) (v_t_pasts : Int32) (v_t_typed : Int32) (v_t_many : Int32) (v_t_spot : Int32) (f_t_past : Nat → Int32) (f_t_pad : Nat → Int32) (f_t_read : Nat → Int32) : Nat → Int32 → (Nat → Int32) → Option (Int32 × Int32 × Int32 × Int32 × Int32 × (Nat → Int32) × (Nat → Int32) × (Nat → Int32))
  | 0, _, _ => none
  | n + 1, s1, f_t_s => (if (20 : Int32) ≤ s1 then (k s1 f_t_s) else (if v_t_many ≤ s1 then gd (inb ((5 : Int32) + s1) 41) ((f_X11_method_L28 k v_t_pasts v_t_typed v_t_many v_t_spot f_t_past f_t_pad f_t_read n (s1 + 1) (upd f_t_s ((5 : Int32) + s1).toNatClampNeg 0))) else gd (inb s1 21) (gd (inb ((5 : Int32) + s1) 41) ((f_X11_method_L28 k v_t_pasts v_t_typed v_t_many v_t_spot f_t_past f_t_pad f_t_read n (s1 + 1) (upd f_t_s ((5 : Int32) + s1).toNatClampNeg (f_t_read s1.toNatClampNeg)))))))
def f_X11_method (v_t_pasts : Int32) (v_t_typed : Int32) (v_t_many : Int32) (v_t_spot : Int32) (f_t_s : Nat → Int32) (f_t_past : Nat → Int32) (f_t_pad : Nat → Int32) (f_t_read : Nat → Int32) : Option (Int32 × Int32 × Int32 × Int32 × Int32 × (Nat → Int32) × (Nat → Int32) × (Nat → Int32)) :=
  bd (f_X11_methodFault v_t_typed v_t_many v_t_spot f_t_s f_t_pad f_t_read) (fun q1 => (if q1.1 = (-4) then bd (f_X11_changes v_t_pasts f_t_s f_t_past) (fun q4 => (f_X11_method_L28 (fun (y11 : Int32) (y12 : Nat → Int32) => some (q1.2.1, q4.1, 0, q1.2.1, q1.2.2.1, y12, q4.2, q1.2.2.2)) q4.1 v_t_typed q1.2.1 q1.2.2.1 q4.2 f_t_pad q1.2.2.2 fu 0 (upd f_t_s (1 : Int32).toNatClampNeg q1.2.1))) else some ((-2), v_t_pasts, v_t_typed, q1.2.1, q1.2.2.1, f_t_s, f_t_past, q1.2.2.2)))
abbrev rm_X11_method : Room := { frames := 6, cells := 0, slots := 0, locals := 137 }
set_option maxHeartbeats 4000000 in
set_option maxRecDepth 100000 in
theorem c_X11_method (l : Launch) (D : va_G) (Y : ClassId × ClassId × ClassId) (a_t a_t_s a_t_past a_t_kept a_t_pad a_t_cell a_t_other a_t_rows a_t_read a_t_track a_t_lead a_t_distance a_t_line : Nat) (v_t_isKept : Int32) (v_t_pasts : Int32) (v_t_typed : Int32) (v_t_ends : Int32) (v_t_many : Int32) (v_t_spot : Int32) (f_t_s : Nat → Int32) (f_t_past : Nat → Int32) (f_t_pad : Nat → Int32) (f_t_read : Nat → Int32) (sz : Nat) (R : Int32 × Int32 × Int32 × Int32 × Int32 × (Nat → Int32) × (Nat → Int32) × (Nat → Int32)) (hf : f_X11_method v_t_pasts v_t_typed v_t_many v_t_spot f_t_s f_t_past f_t_pad f_t_read = some R) : Met l yX11_method (ws_ yX11_method cX11_method 2 (some .int)) rm_X11_method (va_Pc [.ref a_t] (RW D Y sz [(a_t, .inr (8, [.ref a_t_s, .ref a_t_past, .ref a_t_kept, .int v_t_isKept, .int v_t_pasts, .ref a_t_pad, .int v_t_typed, .ref a_t_cell, .ref a_t_other, .ref a_t_rows, .int v_t_ends, .ref a_t_read, .int v_t_many, .int v_t_spot, .ref a_t_track, .ref a_t_lead, .ref a_t_distance, .ref a_t_line])), (a_t_s, .inl (Y.1, 41, .inl f_t_s)), (a_t_past, .inl (Y.1, 164, .inl f_t_past)), (a_t_pad, .inl (Y.1, 80, .inl f_t_pad)), (a_t_read, .inl (Y.1, 21, .inl f_t_read))])) (QI D R.1 [(a_t, .inr (8, [.ref a_t_s, .ref a_t_past, .ref a_t_kept, .int v_t_isKept, .int R.2.1, .ref a_t_pad, .int R.2.2.1, .ref a_t_cell, .ref a_t_other, .ref a_t_rows, .int v_t_ends, .ref a_t_read, .int R.2.2.2.1, .int R.2.2.2.2.1, .ref a_t_track, .ref a_t_lead, .ref a_t_distance, .ref a_t_line])), (a_t_s, .inl (Y.1, 41, .inl R.2.2.2.2.2.1)), (a_t_past, .inl (Y.1, 164, .inl R.2.2.2.2.2.2.1)), (a_t_pad, .inl (Y.1, 80, .inl f_t_pad)), (a_t_read, .inl (Y.1, 21, .inl R.2.2.2.2.2.2.2))] (va_A [(a_t, .inr (8, [.ref a_t_s, .ref a_t_past, .ref a_t_kept, .int v_t_isKept, .int v_t_pasts, .ref a_t_pad, .int v_t_typed, .ref a_t_cell, .ref a_t_other, .ref a_t_rows, .int v_t_ends, .ref a_t_read, .int v_t_many, .int v_t_spot, .ref a_t_track, .ref a_t_lead, .ref a_t_distance, .ref a_t_line])), (a_t_s, .inl (Y.1, 41, .inl f_t_s)), (a_t_past, .inl (Y.1, 164, .inl f_t_past)), (a_t_pad, .inl (Y.1, 80, .inl f_t_pad)), (a_t_read, .inl (Y.1, 21, .inl f_t_read))] sz)) 0 0 (va_A [(a_t, .inr (8, [.ref a_t_s, .ref a_t_past, .ref a_t_kept, .int v_t_isKept, .int v_t_pasts, .ref a_t_pad, .int v_t_typed, .ref a_t_cell, .ref a_t_other, .ref a_t_rows, .int v_t_ends, .ref a_t_read, .int v_t_many, .int v_t_spot, .ref a_t_track, .ref a_t_lead, .ref a_t_distance, .ref a_t_line])), (a_t_s, .inl (Y.1, 41, .inl f_t_s)), (a_t_past, .inl (Y.1, 164, .inl f_t_past)), (a_t_pad, .inl (Y.1, 80, .inl f_t_pad)), (a_t_read, .inl (Y.1, 21, .inl f_t_read))] sz) := by
  refine rw_start (Qc := fun A => QI D R.1 [(a_t, .inr (8, [.ref a_t_s, .ref a_t_past, .ref a_t_kept, .int v_t_isKept, .int R.2.1, .ref a_t_pad, .int R.2.2.1, .ref a_t_cell, .ref a_t_other, .ref a_t_rows, .int v_t_ends, .ref a_t_read, .int R.2.2.2.1, .int R.2.2.2.2.1, .ref a_t_track, .ref a_t_lead, .ref a_t_distance, .ref a_t_line])), (a_t_s, .inl (Y.1, 41, .inl R.2.2.2.2.2.1)), (a_t_past, .inl (Y.1, 164, .inl R.2.2.2.2.2.2.1)), (a_t_pad, .inl (Y.1, 80, .inl f_t_pad)), (a_t_read, .inl (Y.1, 21, .inl R.2.2.2.2.2.2.2))] A) (by decide) (Nat.le_of_ble_eq_true rfl) ?_
  intro p e s m below meth c ls A hx hb hml hr hlocks hown hts hnm hA hP hD hS hE hl
  generalize hargs : List.toArray _ = args at hts ⊢
  have hown : s.vm.findClass RX11 = some m.cls := hown
  have E : EN p m c cX11_method 2 s args RX11 := ⟨hx, hb, hml, hown, hts⟩
  have hl : lv_has ls 2 [(0, .ref a_t)] := hl
  generalize hQ : MQ below _ args s 0 0 _ = Q
  unfold f_X11_method at hf
  have L28 : ∀ (n : Nat) (k : Int32 → (Nat → Int32) → Option (Int32 × Int32 × Int32 × Int32 × Int32 × (Nat → Int32) × (Nat → Int32) × (Nat → Int32))) (v_t_pasts : Int32) (v_t_typed : Int32) (v_t_many : Int32) (v_t_spot : Int32) (f_t_past : Nat → Int32) (f_t_read : Nat → Int32) (s1 : Int32) (f_t_s : Nat → Int32) (H : Heap) (locs : List Loc) (ls : Array Slot), f_X11_method_L28 k v_t_pasts v_t_typed v_t_many v_t_spot f_t_past f_t_pad f_t_read n s1 f_t_s = some R → va_P D vwCl [(a_t, .inr (8, [.ref a_t_s, .ref a_t_past, .ref a_t_kept, .int v_t_isKept, .int v_t_pasts, .ref a_t_pad, .int v_t_typed, .ref a_t_cell, .ref a_t_other, .ref a_t_rows, .int v_t_ends, .ref a_t_read, .int v_t_many, .int v_t_spot, .ref a_t_track, .ref a_t_lead, .ref a_t_distance, .ref a_t_line])), (a_t_s, .inl (Y.1, 41, .inl f_t_s)), (a_t_past, .inl (Y.1, 164, .inl f_t_past)), (a_t_pad, .inl (Y.1, 80, .inl f_t_pad)), (a_t_read, .inl (Y.1, 21, .inl f_t_read))] H → va_D A [(a_t, .inr (8, [.ref a_t_s, .ref a_t_past, .ref a_t_kept, .int v_t_isKept, .int v_t_pasts, .ref a_t_pad, .int v_t_typed, .ref a_t_cell, .ref a_t_other, .ref a_t_rows, .int v_t_ends, .ref a_t_read, .int v_t_many, .int v_t_spot, .ref a_t_track, .ref a_t_lead, .ref a_t_distance, .ref a_t_line])), (a_t_s, .inl (Y.1, 41, .inl f_t_s)), (a_t_past, .inl (Y.1, 164, .inl f_t_past)), (a_t_pad, .inl (Y.1, 80, .inl f_t_pad)), (a_t_read, .inl (Y.1, 21, .inl f_t_read))] → va_S A s.heap H locs → lv_has ls 2 [(0, .ref a_t), (1, .int s1)] → (∀ (y_s1 : Int32) (y_f_t_s : Nat → Int32) (H : Heap) (locs : List Loc) (ls : Array Slot), k y_s1 y_f_t_s = some R → va_P D vwCl [(a_t, .inr (8, [.ref a_t_s, .ref a_t_past, .ref a_t_kept, .int v_t_isKept, .int v_t_pasts, .ref a_t_pad, .int v_t_typed, .ref a_t_cell, .ref a_t_other, .ref a_t_rows, .int v_t_ends, .ref a_t_read, .int v_t_many, .int v_t_spot, .ref a_t_track, .ref a_t_lead, .ref a_t_distance, .ref a_t_line])), (a_t_s, .inl (Y.1, 41, .inl y_f_t_s)), (a_t_past, .inl (Y.1, 164, .inl f_t_past)), (a_t_pad, .inl (Y.1, 80, .inl f_t_pad)), (a_t_read, .inl (Y.1, 21, .inl f_t_read))] H → va_D A [(a_t, .inr (8, [.ref a_t_s, .ref a_t_past, .ref a_t_kept, .int v_t_isKept, .int v_t_pasts, .ref a_t_pad, .int v_t_typed, .ref a_t_cell, .ref a_t_other, .ref a_t_rows, .int v_t_ends, .ref a_t_read, .int v_t_many, .int v_t_spot, .ref a_t_track, .ref a_t_lead, .ref a_t_distance, .ref a_t_line])), (a_t_s, .inl (Y.1, 41, .inl y_f_t_s)), (a_t_past, .inl (Y.1, 164, .inl f_t_past)), (a_t_pad, .inl (Y.1, 80, .inl f_t_pad)), (a_t_read, .inl (Y.1, 21, .inl f_t_read))] → va_S A s.heap H locs → lv_has ls 2 [(0, .ref a_t)] → W p l e rm_X11_method s m args below meth c H locs 0 0 Q (F0 m 66 ls [])) → W p l e rm_X11_method s m args below meth c H locs 0 0 Q (F0 m 28 ls []) := by
    intro n
    induction n with
    | zero =>
      intro k v_t_pasts v_t_typed v_t_many v_t_spot f_t_past f_t_read s1 f_t_s H locs ls hf
      cases hf
    | succ n ih =>
      intro k v_t_pasts v_t_typed v_t_many v_t_spot f_t_past f_t_read s1 f_t_s H locs ls hf hP hD hS hl hk
      unfold f_X11_method_L28 at hf
      refine lv_iload_n hx hb dX11_method_28 rfl (lv_at hl 1 rfl) ?_
      refine lv_bipush (v := 20) hx hb dX11_method_29 (by decide) ?_
      refine lv_icmp_ge (tgt := 66) hx hb dX11_method_31 (by decide) (fun c6 => ?_) (fun c6 => ?_)
      · have hf := ite_t c6 hf
        exact hk _ _ _ _ _ hf hP hD hS (lv_sub hl [0] rfl)
      have hf := ite_f c6 hf
      refine lv_aload_n hx hb dX11_method_34 rfl (lv_at hl 0 rfl) ?_
      refine va_get (D := D) (ci := 8) (v := .ref a_t_s) (C := RX11) (T := TX11) (N := 18) hx hb hts inX11 hown hE.1 hP 0 rfl rfl 0 (by decide) (hts _ qw761) (fun _ h9 => h9) rfl dX11_method_35 ?_
      refine lv_iconst (v := 5) hx hb dX11_method_38 (by decide) ?_
      refine lv_iload_n hx hb dX11_method_39 rfl (lv_at hl 1 rfl) ?_
      refine lv_iadd hx hb dX11_method_40 ?_
      refine lv_iload_n hx hb dX11_method_41 rfl (lv_at hl 1 rfl) ?_
      refine lv_aload_n hx hb dX11_method_42 rfl (lv_at hl 0 rfl) ?_
      refine va_get (D := D) (ci := 8) (v := .int v_t_many) (C := RX11) (T := TX11) (N := 18) hx hb hts inX11 hown hE.1 hP 0 rfl rfl 12 (by decide) (hts _ qw773) (fun _ h9 => h9) rfl dX11_method_43 ?_
      refine lv_icmp_ge (tgt := 58) hx hb dX11_method_46 (by decide) (fun c7 => ?_) (fun c7 => ?_)
      · have hf := ite_t c7 hf
        refine lv_iconst (v := 0) hx hb dX11_method_58 (by decide) ?_
        obtain ⟨g8, hf⟩ := gd_s hf
        refine va_iast hx hb hE.1 hP hD hS 1 0 rfl rfl (inb_in g8) dX11_method_59 (fun H locs hP hD hS => ?_)
        have hP : va_P D vwCl [(a_t, .inr (8, [.ref a_t_s, .ref a_t_past, .ref a_t_kept, .int v_t_isKept, .int v_t_pasts, .ref a_t_pad, .int v_t_typed, .ref a_t_cell, .ref a_t_other, .ref a_t_rows, .int v_t_ends, .ref a_t_read, .int v_t_many, .int v_t_spot, .ref a_t_track, .ref a_t_lead, .ref a_t_distance, .ref a_t_line])), (a_t_s, .inl (Y.1, 41, .inl (upd f_t_s ((5 : Int32) + s1).toNatClampNeg 0))), (a_t_past, .inl (Y.1, 164, .inl f_t_past)), (a_t_pad, .inl (Y.1, 80, .inl f_t_pad)), (a_t_read, .inl (Y.1, 21, .inl f_t_read))] H := hP
        have hD : va_D A [(a_t, .inr (8, [.ref a_t_s, .ref a_t_past, .ref a_t_kept, .int v_t_isKept, .int v_t_pasts, .ref a_t_pad, .int v_t_typed, .ref a_t_cell, .ref a_t_other, .ref a_t_rows, .int v_t_ends, .ref a_t_read, .int v_t_many, .int v_t_spot, .ref a_t_track, .ref a_t_lead, .ref a_t_distance, .ref a_t_line])), (a_t_s, .inl (Y.1, 41, .inl (upd f_t_s ((5 : Int32) + s1).toNatClampNeg 0))), (a_t_past, .inl (Y.1, 164, .inl f_t_past)), (a_t_pad, .inl (Y.1, 80, .inl f_t_pad)), (a_t_read, .inl (Y.1, 21, .inl f_t_read))] := hD
        refine lv_iinc (v := (s1 + 1)) (lv' := [(1, .int (s1 + 1)), (0, .ref a_t)]) hx hb dX11_method_60 hl (k := 1) rfl rfl (by decide) rfl (fun ls hl => ?_)
        refine lv_goto (tgt := 28) hx hb dX11_method_63 (by decide) ?_
        exact ih _ _ _ _ _ _ _ _ _ _ _ _ hf hP hD hS (lv_sub hl [1, 0] rfl) hk
      have hf := ite_f c7 hf
      refine lv_aload_n hx hb dX11_method_49 rfl (lv_at hl 0 rfl) ?_
      refine va_get (D := D) (ci := 8) (v := .ref a_t_read) (C := RX11) (T := TX11) (N := 18) hx hb hts inX11 hown hE.1 hP 0 rfl rfl 11 (by decide) (hts _ qw772) (fun _ h9 => h9) rfl dX11_method_50 ?_
      refine lv_iload_n hx hb dX11_method_53 rfl (lv_at hl 1 rfl) ?_
      obtain ⟨g9, hf⟩ := gd_s hf
      refine va_iald hx hb hE.1 hP 4 0 rfl rfl (inb_in g9) dX11_method_54 ?_
      refine lv_goto (tgt := 59) hx hb dX11_method_55 (by decide) ?_
      obtain ⟨g10, hf⟩ := gd_s hf
      refine va_iast hx hb hE.1 hP hD hS 1 0 rfl rfl (inb_in g10) dX11_method_59 (fun H locs hP hD hS => ?_)
      have hP : va_P D vwCl [(a_t, .inr (8, [.ref a_t_s, .ref a_t_past, .ref a_t_kept, .int v_t_isKept, .int v_t_pasts, .ref a_t_pad, .int v_t_typed, .ref a_t_cell, .ref a_t_other, .ref a_t_rows, .int v_t_ends, .ref a_t_read, .int v_t_many, .int v_t_spot, .ref a_t_track, .ref a_t_lead, .ref a_t_distance, .ref a_t_line])), (a_t_s, .inl (Y.1, 41, .inl (upd f_t_s ((5 : Int32) + s1).toNatClampNeg (f_t_read s1.toNatClampNeg)))), (a_t_past, .inl (Y.1, 164, .inl f_t_past)), (a_t_pad, .inl (Y.1, 80, .inl f_t_pad)), (a_t_read, .inl (Y.1, 21, .inl f_t_read))] H := hP
      have hD : va_D A [(a_t, .inr (8, [.ref a_t_s, .ref a_t_past, .ref a_t_kept, .int v_t_isKept, .int v_t_pasts, .ref a_t_pad, .int v_t_typed, .ref a_t_cell, .ref a_t_other, .ref a_t_rows, .int v_t_ends, .ref a_t_read, .int v_t_many, .int v_t_spot, .ref a_t_track, .ref a_t_lead, .ref a_t_distance, .ref a_t_line])), (a_t_s, .inl (Y.1, 41, .inl (upd f_t_s ((5 : Int32) + s1).toNatClampNeg (f_t_read s1.toNatClampNeg)))), (a_t_past, .inl (Y.1, 164, .inl f_t_past)), (a_t_pad, .inl (Y.1, 80, .inl f_t_pad)), (a_t_read, .inl (Y.1, 21, .inl f_t_read))] := hD
      refine lv_iinc (v := (s1 + 1)) (lv' := [(1, .int (s1 + 1)), (0, .ref a_t)]) hx hb dX11_method_60 hl (k := 1) rfl rfl (by decide) rfl (fun ls hl => ?_)
      refine lv_goto (tgt := 28) hx hb dX11_method_63 (by decide) ?_
      exact ih _ _ _ _ _ _ _ _ _ _ _ _ hf hP hD hS (lv_sub hl [1, 0] rfl) hk
  refine lv_aload_n hx hb dX11_method_0 rfl (lv_at hl 0 rfl) ?_
  obtain ⟨q1, h2, hf⟩ := bd_s hf
  refine af_i0 (wc := [(a_t, .inr (8, [.ref a_t_s, .ref a_t_past, .ref a_t_kept, .int v_t_isKept, .int v_t_pasts, .ref a_t_pad, .int v_t_typed, .ref a_t_cell, .ref a_t_other, .ref a_t_rows, .int v_t_ends, .ref a_t_read, .int v_t_many, .int v_t_spot, .ref a_t_track, .ref a_t_lead, .ref a_t_distance, .ref a_t_line])), (a_t_s, .inl (Y.1, 41, .inl f_t_s)), (a_t_pad, .inl (Y.1, 80, .inl f_t_pad)), (a_t_read, .inl (Y.1, 21, .inl f_t_read))]) (wr := [(a_t_past, .inl (Y.1, 164, .inl f_t_past))]) (wn := [(a_t, .inr (8, [.ref a_t_s, .ref a_t_past, .ref a_t_kept, .int v_t_isKept, .int v_t_pasts, .ref a_t_pad, .int v_t_typed, .ref a_t_cell, .ref a_t_other, .ref a_t_rows, .int v_t_ends, .ref a_t_read, .int q1.2.1, .int q1.2.2.1, .ref a_t_track, .ref a_t_lead, .ref a_t_distance, .ref a_t_line])), (a_t_s, .inl (Y.1, 41, .inl f_t_s)), (a_t_past, .inl (Y.1, 164, .inl f_t_past)), (a_t_pad, .inl (Y.1, 80, .inl f_t_pad)), (a_t_read, .inl (Y.1, 21, .inl q1.2.2.2))]) (run_V (As := []) (rest := []) E (c_X11_methodFault l D Y a_t a_t_s a_t_past a_t_kept a_t_pad a_t_cell a_t_other a_t_rows a_t_read a_t_track a_t_lead a_t_distance a_t_line v_t_isKept v_t_pasts v_t_typed v_t_ends v_t_many v_t_spot f_t_s f_t_pad f_t_read s.heap.size q1 h2) qw831 qw833 qw23 qw76 qw834 rfl rfl hd_X11_methodFault ⟨Nat.le_of_ble_eq_true rfl, Nat.le_of_ble_eq_true rfl⟩ (pre_rwV hP hD hE [0, 1, 3, 4] rfl (by decide) rfl (ci := 8) (q0 := 0) rfl rfl) rfl hl.1 rfl (Nat.le_of_ble_eq_true rfl) dX11_method_1 ⟨Nat.zero_le _, Nat.zero_le _⟩) hP hD hS hA [0, 1, 3, 4] [2] [1, 2, 0, 3, 4] rfl rfl (by decide) (by decide) rfl rfl (by decide) (fun H locs  hP hD hS => ?_)
  refine lv_bipush (v := (-4)) hx hb dX11_method_4 (by decide) ?_
  refine lv_icmp_eq (tgt := 12) hx hb dX11_method_6 (by decide) (fun c3 => ?_) (fun c3 => ?_)
  · have hf := ite_t c3 hf
    refine lv_aload_n hx hb dX11_method_12 rfl (lv_at hl 0 rfl) ?_
    obtain ⟨q4, h5, hf⟩ := bd_s hf
    refine af_v0 (wc := [(a_t, .inr (8, [.ref a_t_s, .ref a_t_past, .ref a_t_kept, .int v_t_isKept, .int v_t_pasts, .ref a_t_pad, .int v_t_typed, .ref a_t_cell, .ref a_t_other, .ref a_t_rows, .int v_t_ends, .ref a_t_read, .int q1.2.1, .int q1.2.2.1, .ref a_t_track, .ref a_t_lead, .ref a_t_distance, .ref a_t_line])), (a_t_s, .inl (Y.1, 41, .inl f_t_s)), (a_t_past, .inl (Y.1, 164, .inl f_t_past))]) (wr := [(a_t_pad, .inl (Y.1, 80, .inl f_t_pad)), (a_t_read, .inl (Y.1, 21, .inl q1.2.2.2))]) (wn := [(a_t, .inr (8, [.ref a_t_s, .ref a_t_past, .ref a_t_kept, .int v_t_isKept, .int q4.1, .ref a_t_pad, .int v_t_typed, .ref a_t_cell, .ref a_t_other, .ref a_t_rows, .int v_t_ends, .ref a_t_read, .int q1.2.1, .int q1.2.2.1, .ref a_t_track, .ref a_t_lead, .ref a_t_distance, .ref a_t_line])), (a_t_s, .inl (Y.1, 41, .inl f_t_s)), (a_t_past, .inl (Y.1, 164, .inl q4.2)), (a_t_pad, .inl (Y.1, 80, .inl f_t_pad)), (a_t_read, .inl (Y.1, 21, .inl q1.2.2.2))]) (run_V (As := []) (rest := []) E (c_X11_changes l D Y a_t a_t_s a_t_past a_t_kept a_t_pad a_t_cell a_t_other a_t_rows a_t_read a_t_track a_t_lead a_t_distance a_t_line v_t_isKept v_t_pasts v_t_typed v_t_ends q1.2.1 q1.2.2.1 f_t_s f_t_past H.size q4 h5) qw823 qw825 qw22 qw76 qw826 rfl rfl hd_X11_changes ⟨Nat.le_of_ble_eq_true rfl, Nat.le_of_ble_eq_true rfl⟩ (pre_rwV hP hD hE [0, 1, 2] rfl (by decide) rfl (ci := 8) (q0 := 0) rfl rfl) rfl hl.1 rfl (Nat.le_of_ble_eq_true rfl) dX11_method_13 ⟨Nat.zero_le _, Nat.zero_le _⟩) hP hD hS hA [0, 1, 2] [3, 4] [2, 3, 4, 0, 1] rfl rfl (by decide) (by decide) rfl rfl (by decide) (fun H locs  hP hD hS => ?_)
    refine lv_aload_n hx hb dX11_method_16 rfl (lv_at hl 0 rfl) ?_
    refine va_get (D := D) (ci := 8) (v := .ref a_t_s) (C := RX11) (T := TX11) (N := 18) hx hb hts inX11 hown hE.1 hP 0 rfl rfl 0 (by decide) (hts _ qw761) (fun _ h9 => h9) rfl dX11_method_17 ?_
    refine lv_iconst (v := 1) hx hb dX11_method_20 (by decide) ?_
    refine lv_aload_n hx hb dX11_method_21 rfl (lv_at hl 0 rfl) ?_
    refine va_get (D := D) (ci := 8) (v := .int q1.2.1) (C := RX11) (T := TX11) (N := 18) hx hb hts inX11 hown hE.1 hP 0 rfl rfl 12 (by decide) (hts _ qw773) (fun _ h9 => h9) rfl dX11_method_22 ?_
    refine va_iast hx hb hE.1 hP hD hS 1 0 rfl rfl (inb_in (by decide)) dX11_method_25 (fun H locs hP hD hS => ?_)
    have hP : va_P D vwCl [(a_t, .inr (8, [.ref a_t_s, .ref a_t_past, .ref a_t_kept, .int v_t_isKept, .int q4.1, .ref a_t_pad, .int v_t_typed, .ref a_t_cell, .ref a_t_other, .ref a_t_rows, .int v_t_ends, .ref a_t_read, .int q1.2.1, .int q1.2.2.1, .ref a_t_track, .ref a_t_lead, .ref a_t_distance, .ref a_t_line])), (a_t_s, .inl (Y.1, 41, .inl (upd f_t_s (1 : Int32).toNatClampNeg q1.2.1))), (a_t_past, .inl (Y.1, 164, .inl q4.2)), (a_t_pad, .inl (Y.1, 80, .inl f_t_pad)), (a_t_read, .inl (Y.1, 21, .inl q1.2.2.2))] H := hP
    have hD : va_D A [(a_t, .inr (8, [.ref a_t_s, .ref a_t_past, .ref a_t_kept, .int v_t_isKept, .int q4.1, .ref a_t_pad, .int v_t_typed, .ref a_t_cell, .ref a_t_other, .ref a_t_rows, .int v_t_ends, .ref a_t_read, .int q1.2.1, .int q1.2.2.1, .ref a_t_track, .ref a_t_lead, .ref a_t_distance, .ref a_t_line])), (a_t_s, .inl (Y.1, 41, .inl (upd f_t_s (1 : Int32).toNatClampNeg q1.2.1))), (a_t_past, .inl (Y.1, 164, .inl q4.2)), (a_t_pad, .inl (Y.1, 80, .inl f_t_pad)), (a_t_read, .inl (Y.1, 21, .inl q1.2.2.2))] := hD
    refine lv_iconst (v := 0) hx hb dX11_method_26 (by decide) ?_
    refine lv_istore_n (lv' := [(1, .int 0), (0, .ref a_t)]) hx hb dX11_method_27 rfl hl (by decide) rfl (fun ls hl => ?_)
    refine L28 _ _ _ _ _ _ _ _ _ _ _ _ _ hf hP hD hS (lv_sub hl [1, 0] rfl) ?_
    intro y11 y12 H locs ls hf hP hD hS hl
    refine lv_aload_n hx hb dX11_method_66 rfl (lv_at hl 0 rfl) ?_
    refine lv_iconst (v := 0) hx hb dX11_method_67 (by decide) ?_
    refine va_put (D := D) (ci := 8) (v := .int 0) (ty := .int) (C := RX11) (T := TX11) (N := 18) hx hb hts inX11 tyX11 tyX11_ok nmX11 hown hE.1 hP hD hS 0 rfl rfl 6 (by decide) (hts _ qw767) (fun _ h9 => h9) rfl (tyX11_ok 6 (by decide)) rfl rfl (Nat.le_of_ble_eq_true rfl) dX11_method_68 (fun H locs hP hD hS => ?_)
    have hP : va_P D vwCl [(a_t, .inr (8, [.ref a_t_s, .ref a_t_past, .ref a_t_kept, .int v_t_isKept, .int q4.1, .ref a_t_pad, .int 0, .ref a_t_cell, .ref a_t_other, .ref a_t_rows, .int v_t_ends, .ref a_t_read, .int q1.2.1, .int q1.2.2.1, .ref a_t_track, .ref a_t_lead, .ref a_t_distance, .ref a_t_line])), (a_t_s, .inl (Y.1, 41, .inl y12)), (a_t_past, .inl (Y.1, 164, .inl q4.2)), (a_t_pad, .inl (Y.1, 80, .inl f_t_pad)), (a_t_read, .inl (Y.1, 21, .inl q1.2.2.2))] H := hP
    have hD : va_D A [(a_t, .inr (8, [.ref a_t_s, .ref a_t_past, .ref a_t_kept, .int v_t_isKept, .int q4.1, .ref a_t_pad, .int 0, .ref a_t_cell, .ref a_t_other, .ref a_t_rows, .int v_t_ends, .ref a_t_read, .int q1.2.1, .int q1.2.2.1, .ref a_t_track, .ref a_t_lead, .ref a_t_distance, .ref a_t_line])), (a_t_s, .inl (Y.1, 41, .inl y12)), (a_t_past, .inl (Y.1, 164, .inl q4.2)), (a_t_pad, .inl (Y.1, 80, .inl f_t_pad)), (a_t_read, .inl (Y.1, 21, .inl q1.2.2.2))] := hD
    refine lv_aload_n hx hb dX11_method_71 rfl (lv_at hl 0 rfl) ?_
    refine va_get (D := D) (ci := 8) (v := .int q1.2.1) (C := RX11) (T := TX11) (N := 18) hx hb hts inX11 hown hE.1 hP 0 rfl rfl 12 (by decide) (hts _ qw773) (fun _ h9 => h9) rfl dX11_method_72 ?_
    obtain rfl := Option.some.inj hf
    subst hQ
    exact en_i hx hb hr hlocks hP hD hS rfl dX11_method_75
  have hf := ite_f c3 hf
  refine lv_bipush (v := (-2)) hx hb dX11_method_9 (by decide) ?_
  obtain rfl := Option.some.inj hf
  subst hQ
  exact en_i hx hb hr hlocks hP hD hS rfl dX11_method_11

def f_X11_call (s1 : Int32) (s2 : Int32) (v_t_pasts : Int32) (f_t_s : Nat → Int32) (f_t_past : Nat → Int32) : Option (Int32 × Int32 × (Nat → Int32) × (Nat → Int32)) :=
  (if (f_X11_in s1 1 2) = 0 then some ((-1), v_t_pasts, f_t_s, f_t_past) else bd (f_X11_isRight s2 f_t_s) (fun q3 => (if q3 = 0 then some ((-1), v_t_pasts, f_t_s, f_t_past) else bd (f_X11_changes v_t_pasts f_t_s f_t_past) (fun q7 => gd (inb ((2 : Int32) + s1) 41) (nm (f_t_s ((2 : Int32) + s1).toNatClampNeg) (fun (x10 : Int32) => some (x10, q7.1, (upd f_t_s ((2 : Int32) + s1).toNatClampNeg s2), q7.2)))))))
abbrev rm_X11_call : Room := { frames := 3, cells := 0, slots := 0, locals := 69 }
set_option maxHeartbeats 4000000 in
set_option maxRecDepth 100000 in
theorem c_X11_call (l : Launch) (D : va_G) (Y : ClassId × ClassId × ClassId) (a_t a_t_s a_t_past a_t_kept a_t_pad a_t_cell a_t_other a_t_rows a_t_read a_t_track a_t_lead a_t_distance a_t_line : Nat) (v_t_isKept : Int32) (v_t_pasts : Int32) (v_t_typed : Int32) (v_t_ends : Int32) (v_t_many : Int32) (v_t_spot : Int32) (f_t_s : Nat → Int32) (f_t_past : Nat → Int32) (s1 : Int32) (s2 : Int32) (sz : Nat) (R : Int32 × Int32 × (Nat → Int32) × (Nat → Int32)) (hf : f_X11_call s1 s2 v_t_pasts f_t_s f_t_past = some R) : Met l yX11_call (ws_ yX11_call cX11_call 4 (some .int)) rm_X11_call (va_Pc [.ref a_t, .int s1, .int s2] (RW D Y sz [(a_t, .inr (8, [.ref a_t_s, .ref a_t_past, .ref a_t_kept, .int v_t_isKept, .int v_t_pasts, .ref a_t_pad, .int v_t_typed, .ref a_t_cell, .ref a_t_other, .ref a_t_rows, .int v_t_ends, .ref a_t_read, .int v_t_many, .int v_t_spot, .ref a_t_track, .ref a_t_lead, .ref a_t_distance, .ref a_t_line])), (a_t_s, .inl (Y.1, 41, .inl f_t_s)), (a_t_past, .inl (Y.1, 164, .inl f_t_past))])) (QI D R.1 [(a_t, .inr (8, [.ref a_t_s, .ref a_t_past, .ref a_t_kept, .int v_t_isKept, .int R.2.1, .ref a_t_pad, .int v_t_typed, .ref a_t_cell, .ref a_t_other, .ref a_t_rows, .int v_t_ends, .ref a_t_read, .int v_t_many, .int v_t_spot, .ref a_t_track, .ref a_t_lead, .ref a_t_distance, .ref a_t_line])), (a_t_s, .inl (Y.1, 41, .inl R.2.2.1)), (a_t_past, .inl (Y.1, 164, .inl R.2.2.2))] (va_A [(a_t, .inr (8, [.ref a_t_s, .ref a_t_past, .ref a_t_kept, .int v_t_isKept, .int v_t_pasts, .ref a_t_pad, .int v_t_typed, .ref a_t_cell, .ref a_t_other, .ref a_t_rows, .int v_t_ends, .ref a_t_read, .int v_t_many, .int v_t_spot, .ref a_t_track, .ref a_t_lead, .ref a_t_distance, .ref a_t_line])), (a_t_s, .inl (Y.1, 41, .inl f_t_s)), (a_t_past, .inl (Y.1, 164, .inl f_t_past))] sz)) 0 0 (va_A [(a_t, .inr (8, [.ref a_t_s, .ref a_t_past, .ref a_t_kept, .int v_t_isKept, .int v_t_pasts, .ref a_t_pad, .int v_t_typed, .ref a_t_cell, .ref a_t_other, .ref a_t_rows, .int v_t_ends, .ref a_t_read, .int v_t_many, .int v_t_spot, .ref a_t_track, .ref a_t_lead, .ref a_t_distance, .ref a_t_line])), (a_t_s, .inl (Y.1, 41, .inl f_t_s)), (a_t_past, .inl (Y.1, 164, .inl f_t_past))] sz) := by
  refine rw_start (Qc := fun A => QI D R.1 [(a_t, .inr (8, [.ref a_t_s, .ref a_t_past, .ref a_t_kept, .int v_t_isKept, .int R.2.1, .ref a_t_pad, .int v_t_typed, .ref a_t_cell, .ref a_t_other, .ref a_t_rows, .int v_t_ends, .ref a_t_read, .int v_t_many, .int v_t_spot, .ref a_t_track, .ref a_t_lead, .ref a_t_distance, .ref a_t_line])), (a_t_s, .inl (Y.1, 41, .inl R.2.2.1)), (a_t_past, .inl (Y.1, 164, .inl R.2.2.2))] A) (by decide) (Nat.le_of_ble_eq_true rfl) ?_
  intro p e s m below meth c ls A hx hb hml hr hlocks hown hts hnm hA hP hD hS hE hl
  generalize hargs : List.toArray _ = args at hts ⊢
  have hown : s.vm.findClass RX11 = some m.cls := hown
  have E : EN p m c cX11_call 4 s args RX11 := ⟨hx, hb, hml, hown, hts⟩
  have hl : lv_has ls 4 [(0, .ref a_t), (1, .int s1), (2, .int s2)] := hl
  generalize hQ : MQ below _ args s 0 0 _ = Q
  unfold f_X11_call at hf
  refine lv_iload_n hx hb dX11_call_0 rfl (lv_at hl 1 rfl) ?_
  refine lv_iconst (v := 1) hx hb dX11_call_1 (by decide) ?_
  refine lv_iconst (v := 2) hx hb dX11_call_2 (by decide) ?_
  refine af_oz (run_S (As := [.int s1, .int 1, .int 2]) (rest := []) E (c_X11_in l D Y s1 1 2 (f_X11_in s1 1 2) rfl) qw820 qw821 qw76 qw822 rfl rfl hd_X11_in ⟨Nat.le_of_ble_eq_true rfl, Nat.le_of_ble_eq_true rfl⟩ (pre_roS hP hE [] rfl) rfl hl.1 rfl (Nat.le_of_ble_eq_true rfl) dX11_call_3 ⟨Nat.zero_le _, Nat.zero_le _⟩) (fun z1 => ?_)
  refine lv_if_eq (tgt := 17) hx hb dX11_call_6 (by decide) (fun c2 => ?_) (fun c2 => ?_)
  · have hf := ite_t c2 hf
    refine lv_iconst (v := (-1)) hx hb dX11_call_17 (by decide) ?_
    obtain rfl := Option.some.inj hf
    subst hQ
    exact en_i hx hb hr hlocks hP hD hS rfl dX11_call_18
  have hf := ite_f c2 hf
  refine lv_aload_n hx hb dX11_call_9 rfl (lv_at hl 0 rfl) ?_
  refine lv_iload_n hx hb dX11_call_10 rfl (lv_at hl 2 rfl) ?_
  obtain ⟨q3, h4, hf⟩ := bd_s hf
  refine af_oz (run_V (As := [.int s2]) (rest := []) E (c_X11_isRight l D Y a_t a_t_s a_t_past a_t_kept a_t_pad a_t_cell a_t_other a_t_rows a_t_read a_t_track a_t_lead a_t_distance a_t_line v_t_isKept v_t_pasts v_t_typed v_t_ends v_t_many v_t_spot f_t_s s2 q3 h4) qw843 qw845 qw26 qw76 qw846 rfl rfl hd_X11_isRight ⟨Nat.le_of_ble_eq_true rfl, Nat.le_of_ble_eq_true rfl⟩ (pre_roV hP hE [0, 1] rfl (ci := 8) (q0 := 0) rfl rfl) rfl hl.1 rfl (Nat.le_of_ble_eq_true rfl) dX11_call_11 ⟨Nat.zero_le _, Nat.zero_le _⟩) (fun z5 => ?_)
  refine lv_if_ne (tgt := 19) hx hb dX11_call_14 (by decide) (fun c6 => ?_) (fun c6 => ?_)
  · have hf := ite_f c6 hf
    refine lv_aload_n hx hb dX11_call_19 rfl (lv_at hl 0 rfl) ?_
    obtain ⟨q7, h8, hf⟩ := bd_s hf
    refine af_v0 (wc := [(a_t, .inr (8, [.ref a_t_s, .ref a_t_past, .ref a_t_kept, .int v_t_isKept, .int v_t_pasts, .ref a_t_pad, .int v_t_typed, .ref a_t_cell, .ref a_t_other, .ref a_t_rows, .int v_t_ends, .ref a_t_read, .int v_t_many, .int v_t_spot, .ref a_t_track, .ref a_t_lead, .ref a_t_distance, .ref a_t_line])), (a_t_s, .inl (Y.1, 41, .inl f_t_s)), (a_t_past, .inl (Y.1, 164, .inl f_t_past))]) (wr := []) (wn := [(a_t, .inr (8, [.ref a_t_s, .ref a_t_past, .ref a_t_kept, .int v_t_isKept, .int q7.1, .ref a_t_pad, .int v_t_typed, .ref a_t_cell, .ref a_t_other, .ref a_t_rows, .int v_t_ends, .ref a_t_read, .int v_t_many, .int v_t_spot, .ref a_t_track, .ref a_t_lead, .ref a_t_distance, .ref a_t_line])), (a_t_s, .inl (Y.1, 41, .inl f_t_s)), (a_t_past, .inl (Y.1, 164, .inl q7.2))]) (run_V (As := []) (rest := []) E (c_X11_changes l D Y a_t a_t_s a_t_past a_t_kept a_t_pad a_t_cell a_t_other a_t_rows a_t_read a_t_track a_t_lead a_t_distance a_t_line v_t_isKept v_t_pasts v_t_typed v_t_ends v_t_many v_t_spot f_t_s f_t_past s.heap.size q7 h8) qw823 qw825 qw22 qw76 qw826 rfl rfl hd_X11_changes ⟨Nat.le_of_ble_eq_true rfl, Nat.le_of_ble_eq_true rfl⟩ (pre_rwV hP hD hE [0, 1, 2] rfl (by decide) rfl (ci := 8) (q0 := 0) rfl rfl) rfl hl.1 rfl (Nat.le_of_ble_eq_true rfl) dX11_call_20 ⟨Nat.zero_le _, Nat.zero_le _⟩) hP hD hS hA [0, 1, 2] [] [0, 1, 2] rfl rfl (by decide) (by decide) rfl rfl (by decide) (fun H locs  hP hD hS => ?_)
    refine lv_aload_n hx hb dX11_call_23 rfl (lv_at hl 0 rfl) ?_
    refine va_get (D := D) (ci := 8) (v := .ref a_t_s) (C := RX11) (T := TX11) (N := 18) hx hb hts inX11 hown hE.1 hP 0 rfl rfl 0 (by decide) (hts _ qw761) (fun _ h9 => h9) rfl dX11_call_24 ?_
    refine lv_iconst (v := 2) hx hb dX11_call_27 (by decide) ?_
    refine lv_iload_n hx hb dX11_call_28 rfl (lv_at hl 1 rfl) ?_
    refine lv_iadd hx hb dX11_call_29 ?_
    obtain ⟨g9, hf⟩ := gd_s hf
    refine va_iald hx hb hE.1 hP 1 0 rfl rfl (inb_in g9) dX11_call_30 ?_
    refine nm_W hf (fun x10 hf => ?_)
    refine lv_istore_n (lv' := [(3, .int x10), (0, .ref a_t), (1, .int s1), (2, .int s2)]) hx hb dX11_call_31 rfl hl (by decide) rfl (fun ls hl => ?_)
    refine lv_aload_n hx hb dX11_call_32 rfl (lv_at hl 1 rfl) ?_
    refine va_get (D := D) (ci := 8) (v := .ref a_t_s) (C := RX11) (T := TX11) (N := 18) hx hb hts inX11 hown hE.1 hP 0 rfl rfl 0 (by decide) (hts _ qw761) (fun _ h9 => h9) rfl dX11_call_33 ?_
    refine lv_iconst (v := 2) hx hb dX11_call_36 (by decide) ?_
    refine lv_iload_n hx hb dX11_call_37 rfl (lv_at hl 2 rfl) ?_
    refine lv_iadd hx hb dX11_call_38 ?_
    refine lv_iload_n hx hb dX11_call_39 rfl (lv_at hl 3 rfl) ?_
    refine va_iast hx hb hE.1 hP hD hS 1 0 rfl rfl (inb_in g9) dX11_call_40 (fun H locs hP hD hS => ?_)
    have hP : va_P D vwCl [(a_t, .inr (8, [.ref a_t_s, .ref a_t_past, .ref a_t_kept, .int v_t_isKept, .int q7.1, .ref a_t_pad, .int v_t_typed, .ref a_t_cell, .ref a_t_other, .ref a_t_rows, .int v_t_ends, .ref a_t_read, .int v_t_many, .int v_t_spot, .ref a_t_track, .ref a_t_lead, .ref a_t_distance, .ref a_t_line])), (a_t_s, .inl (Y.1, 41, .inl (upd f_t_s ((2 : Int32) + s1).toNatClampNeg s2))), (a_t_past, .inl (Y.1, 164, .inl q7.2))] H := hP
    have hD : va_D A [(a_t, .inr (8, [.ref a_t_s, .ref a_t_past, .ref a_t_kept, .int v_t_isKept, .int q7.1, .ref a_t_pad, .int v_t_typed, .ref a_t_cell, .ref a_t_other, .ref a_t_rows, .int v_t_ends, .ref a_t_read, .int v_t_many, .int v_t_spot, .ref a_t_track, .ref a_t_lead, .ref a_t_distance, .ref a_t_line])), (a_t_s, .inl (Y.1, 41, .inl (upd f_t_s ((2 : Int32) + s1).toNatClampNeg s2))), (a_t_past, .inl (Y.1, 164, .inl q7.2))] := hD
    refine lv_iload_n hx hb dX11_call_41 rfl (lv_at hl 0 rfl) ?_
    obtain rfl := Option.some.inj hf
    subst hQ
    exact en_i hx hb hr hlocks hP hD hS rfl dX11_call_42
  have hf := ite_t c6 hf
  refine lv_iconst (v := (-1)) hx hb dX11_call_17 (by decide) ?_
  obtain rfl := Option.some.inj hf
  subst hQ
  exact en_i hx hb hr hlocks hP hD hS rfl dX11_call_18

def f_X11_touch_L18 (k : Int32 → (Nat → Int32) → Option (Int32 × Int32 × Int32 × (Nat → Int32) × (Nat → Int32))) (v_t_pasts : Int32) (v_t_typed : Int32) (f_t_past : Nat → Int32) (f_t_pad : Nat → Int32) : Nat → Int32 → (Nat → Int32) → Option (Int32 × Int32 × Int32 × (Nat → Int32) × (Nat → Int32))
  | 0, _, _ => none
  | n + 1, s1, f_t_s => (if (16 : Int32) ≤ s1 then (k s1 f_t_s) else (if v_t_typed ≤ s1 then gd (inb ((25 : Int32) + s1) 41) ((f_X11_touch_L18 k v_t_pasts v_t_typed f_t_past f_t_pad n (s1 + 1) (upd f_t_s ((25 : Int32) + s1).toNatClampNeg 0))) else gd (inb s1 80) (gd (inb ((25 : Int32) + s1) 41) ((f_X11_touch_L18 k v_t_pasts v_t_typed f_t_past f_t_pad n (s1 + 1) (upd f_t_s ((25 : Int32) + s1).toNatClampNeg (f_X11_kindOf (f_t_pad s1.toNatClampNeg))))))))
def f_X11_touch (v_t_pasts : Int32) (v_t_typed : Int32) (f_t_s : Nat → Int32) (f_t_past : Nat → Int32) (f_t_pad : Nat → Int32) : Option (Int32 × Int32 × Int32 × (Nat → Int32) × (Nat → Int32)) :=
  bd (f_X11_touchFault v_t_typed f_t_pad) (fun q1 => (if q1 = (-4) then bd (f_X11_changes v_t_pasts f_t_s f_t_past) (fun q4 => (f_X11_touch_L18 (fun (y11 : Int32) (y12 : Nat → Int32) => some (((upd y12 (2 : Int32).toNatClampNeg v_t_typed) (2 : Int32).toNatClampNeg), q4.1, 0, (upd y12 (2 : Int32).toNatClampNeg v_t_typed), q4.2)) q4.1 v_t_typed q4.2 f_t_pad fu 0 f_t_s)) else some ((-2), v_t_pasts, v_t_typed, f_t_s, f_t_past)))
abbrev rm_X11_touch : Room := { frames := 3, cells := 0, slots := 0, locals := 65 }
set_option maxHeartbeats 4000000 in
set_option maxRecDepth 100000 in
theorem c_X11_touch (l : Launch) (D : va_G) (Y : ClassId × ClassId × ClassId) (a_t a_t_s a_t_past a_t_kept a_t_pad a_t_cell a_t_other a_t_rows a_t_read a_t_track a_t_lead a_t_distance a_t_line : Nat) (v_t_isKept : Int32) (v_t_pasts : Int32) (v_t_typed : Int32) (v_t_ends : Int32) (v_t_many : Int32) (v_t_spot : Int32) (f_t_s : Nat → Int32) (f_t_past : Nat → Int32) (f_t_pad : Nat → Int32) (sz : Nat) (R : Int32 × Int32 × Int32 × (Nat → Int32) × (Nat → Int32)) (hf : f_X11_touch v_t_pasts v_t_typed f_t_s f_t_past f_t_pad = some R) : Met l yX11_touch (ws_ yX11_touch cX11_touch 2 (some .int)) rm_X11_touch (va_Pc [.ref a_t] (RW D Y sz [(a_t, .inr (8, [.ref a_t_s, .ref a_t_past, .ref a_t_kept, .int v_t_isKept, .int v_t_pasts, .ref a_t_pad, .int v_t_typed, .ref a_t_cell, .ref a_t_other, .ref a_t_rows, .int v_t_ends, .ref a_t_read, .int v_t_many, .int v_t_spot, .ref a_t_track, .ref a_t_lead, .ref a_t_distance, .ref a_t_line])), (a_t_s, .inl (Y.1, 41, .inl f_t_s)), (a_t_past, .inl (Y.1, 164, .inl f_t_past)), (a_t_pad, .inl (Y.1, 80, .inl f_t_pad))])) (QI D R.1 [(a_t, .inr (8, [.ref a_t_s, .ref a_t_past, .ref a_t_kept, .int v_t_isKept, .int R.2.1, .ref a_t_pad, .int R.2.2.1, .ref a_t_cell, .ref a_t_other, .ref a_t_rows, .int v_t_ends, .ref a_t_read, .int v_t_many, .int v_t_spot, .ref a_t_track, .ref a_t_lead, .ref a_t_distance, .ref a_t_line])), (a_t_s, .inl (Y.1, 41, .inl R.2.2.2.1)), (a_t_past, .inl (Y.1, 164, .inl R.2.2.2.2)), (a_t_pad, .inl (Y.1, 80, .inl f_t_pad))] (va_A [(a_t, .inr (8, [.ref a_t_s, .ref a_t_past, .ref a_t_kept, .int v_t_isKept, .int v_t_pasts, .ref a_t_pad, .int v_t_typed, .ref a_t_cell, .ref a_t_other, .ref a_t_rows, .int v_t_ends, .ref a_t_read, .int v_t_many, .int v_t_spot, .ref a_t_track, .ref a_t_lead, .ref a_t_distance, .ref a_t_line])), (a_t_s, .inl (Y.1, 41, .inl f_t_s)), (a_t_past, .inl (Y.1, 164, .inl f_t_past)), (a_t_pad, .inl (Y.1, 80, .inl f_t_pad))] sz)) 0 0 (va_A [(a_t, .inr (8, [.ref a_t_s, .ref a_t_past, .ref a_t_kept, .int v_t_isKept, .int v_t_pasts, .ref a_t_pad, .int v_t_typed, .ref a_t_cell, .ref a_t_other, .ref a_t_rows, .int v_t_ends, .ref a_t_read, .int v_t_many, .int v_t_spot, .ref a_t_track, .ref a_t_lead, .ref a_t_distance, .ref a_t_line])), (a_t_s, .inl (Y.1, 41, .inl f_t_s)), (a_t_past, .inl (Y.1, 164, .inl f_t_past)), (a_t_pad, .inl (Y.1, 80, .inl f_t_pad))] sz) := by
  refine rw_start (Qc := fun A => QI D R.1 [(a_t, .inr (8, [.ref a_t_s, .ref a_t_past, .ref a_t_kept, .int v_t_isKept, .int R.2.1, .ref a_t_pad, .int R.2.2.1, .ref a_t_cell, .ref a_t_other, .ref a_t_rows, .int v_t_ends, .ref a_t_read, .int v_t_many, .int v_t_spot, .ref a_t_track, .ref a_t_lead, .ref a_t_distance, .ref a_t_line])), (a_t_s, .inl (Y.1, 41, .inl R.2.2.2.1)), (a_t_past, .inl (Y.1, 164, .inl R.2.2.2.2)), (a_t_pad, .inl (Y.1, 80, .inl f_t_pad))] A) (by decide) (Nat.le_of_ble_eq_true rfl) ?_
  intro p e s m below meth c ls A hx hb hml hr hlocks hown hts hnm hA hP hD hS hE hl
  generalize hargs : List.toArray _ = args at hts ⊢
  have hown : s.vm.findClass RX11 = some m.cls := hown
  have E : EN p m c cX11_touch 2 s args RX11 := ⟨hx, hb, hml, hown, hts⟩
  have hl : lv_has ls 2 [(0, .ref a_t)] := hl
  generalize hQ : MQ below _ args s 0 0 _ = Q
  unfold f_X11_touch at hf
  have L18 : ∀ (n : Nat) (k : Int32 → (Nat → Int32) → Option (Int32 × Int32 × Int32 × (Nat → Int32) × (Nat → Int32))) (v_t_pasts : Int32) (v_t_typed : Int32) (f_t_past : Nat → Int32) (s1 : Int32) (f_t_s : Nat → Int32) (H : Heap) (locs : List Loc) (ls : Array Slot), f_X11_touch_L18 k v_t_pasts v_t_typed f_t_past f_t_pad n s1 f_t_s = some R → va_P D vwCl [(a_t, .inr (8, [.ref a_t_s, .ref a_t_past, .ref a_t_kept, .int v_t_isKept, .int v_t_pasts, .ref a_t_pad, .int v_t_typed, .ref a_t_cell, .ref a_t_other, .ref a_t_rows, .int v_t_ends, .ref a_t_read, .int v_t_many, .int v_t_spot, .ref a_t_track, .ref a_t_lead, .ref a_t_distance, .ref a_t_line])), (a_t_s, .inl (Y.1, 41, .inl f_t_s)), (a_t_past, .inl (Y.1, 164, .inl f_t_past)), (a_t_pad, .inl (Y.1, 80, .inl f_t_pad))] H → va_D A [(a_t, .inr (8, [.ref a_t_s, .ref a_t_past, .ref a_t_kept, .int v_t_isKept, .int v_t_pasts, .ref a_t_pad, .int v_t_typed, .ref a_t_cell, .ref a_t_other, .ref a_t_rows, .int v_t_ends, .ref a_t_read, .int v_t_many, .int v_t_spot, .ref a_t_track, .ref a_t_lead, .ref a_t_distance, .ref a_t_line])), (a_t_s, .inl (Y.1, 41, .inl f_t_s)), (a_t_past, .inl (Y.1, 164, .inl f_t_past)), (a_t_pad, .inl (Y.1, 80, .inl f_t_pad))] → va_S A s.heap H locs → lv_has ls 2 [(0, .ref a_t), (1, .int s1)] → (∀ (y_s1 : Int32) (y_f_t_s : Nat → Int32) (H : Heap) (locs : List Loc) (ls : Array Slot), k y_s1 y_f_t_s = some R → va_P D vwCl [(a_t, .inr (8, [.ref a_t_s, .ref a_t_past, .ref a_t_kept, .int v_t_isKept, .int v_t_pasts, .ref a_t_pad, .int v_t_typed, .ref a_t_cell, .ref a_t_other, .ref a_t_rows, .int v_t_ends, .ref a_t_read, .int v_t_many, .int v_t_spot, .ref a_t_track, .ref a_t_lead, .ref a_t_distance, .ref a_t_line])), (a_t_s, .inl (Y.1, 41, .inl y_f_t_s)), (a_t_past, .inl (Y.1, 164, .inl f_t_past)), (a_t_pad, .inl (Y.1, 80, .inl f_t_pad))] H → va_D A [(a_t, .inr (8, [.ref a_t_s, .ref a_t_past, .ref a_t_kept, .int v_t_isKept, .int v_t_pasts, .ref a_t_pad, .int v_t_typed, .ref a_t_cell, .ref a_t_other, .ref a_t_rows, .int v_t_ends, .ref a_t_read, .int v_t_many, .int v_t_spot, .ref a_t_track, .ref a_t_lead, .ref a_t_distance, .ref a_t_line])), (a_t_s, .inl (Y.1, 41, .inl y_f_t_s)), (a_t_past, .inl (Y.1, 164, .inl f_t_past)), (a_t_pad, .inl (Y.1, 80, .inl f_t_pad))] → va_S A s.heap H locs → lv_has ls 2 [(0, .ref a_t)] → W p l e rm_X11_touch s m args below meth c H locs 0 0 Q (F0 m 60 ls [])) → W p l e rm_X11_touch s m args below meth c H locs 0 0 Q (F0 m 18 ls []) := by
    intro n
    induction n with
    | zero =>
      intro k v_t_pasts v_t_typed f_t_past s1 f_t_s H locs ls hf
      cases hf
    | succ n ih =>
      intro k v_t_pasts v_t_typed f_t_past s1 f_t_s H locs ls hf hP hD hS hl hk
      unfold f_X11_touch_L18 at hf
      refine lv_iload_n hx hb dX11_touch_18 rfl (lv_at hl 1 rfl) ?_
      refine lv_bipush (v := 16) hx hb dX11_touch_19 (by decide) ?_
      refine lv_icmp_ge (tgt := 60) hx hb dX11_touch_21 (by decide) (fun c6 => ?_) (fun c6 => ?_)
      · have hf := ite_t c6 hf
        exact hk _ _ _ _ _ hf hP hD hS (lv_sub hl [0] rfl)
      have hf := ite_f c6 hf
      refine lv_aload_n hx hb dX11_touch_24 rfl (lv_at hl 0 rfl) ?_
      refine va_get (D := D) (ci := 8) (v := .ref a_t_s) (C := RX11) (T := TX11) (N := 18) hx hb hts inX11 hown hE.1 hP 0 rfl rfl 0 (by decide) (hts _ qw761) (fun _ h9 => h9) rfl dX11_touch_25 ?_
      refine lv_bipush (v := 25) hx hb dX11_touch_28 (by decide) ?_
      refine lv_iload_n hx hb dX11_touch_30 rfl (lv_at hl 1 rfl) ?_
      refine lv_iadd hx hb dX11_touch_31 ?_
      refine lv_iload_n hx hb dX11_touch_32 rfl (lv_at hl 1 rfl) ?_
      refine lv_aload_n hx hb dX11_touch_33 rfl (lv_at hl 0 rfl) ?_
      refine va_get (D := D) (ci := 8) (v := .int v_t_typed) (C := RX11) (T := TX11) (N := 18) hx hb hts inX11 hown hE.1 hP 0 rfl rfl 6 (by decide) (hts _ qw767) (fun _ h9 => h9) rfl dX11_touch_34 ?_
      refine lv_icmp_ge (tgt := 52) hx hb dX11_touch_37 (by decide) (fun c7 => ?_) (fun c7 => ?_)
      · have hf := ite_t c7 hf
        refine lv_iconst (v := 0) hx hb dX11_touch_52 (by decide) ?_
        obtain ⟨g8, hf⟩ := gd_s hf
        refine va_iast hx hb hE.1 hP hD hS 1 0 rfl rfl (inb_in g8) dX11_touch_53 (fun H locs hP hD hS => ?_)
        have hP : va_P D vwCl [(a_t, .inr (8, [.ref a_t_s, .ref a_t_past, .ref a_t_kept, .int v_t_isKept, .int v_t_pasts, .ref a_t_pad, .int v_t_typed, .ref a_t_cell, .ref a_t_other, .ref a_t_rows, .int v_t_ends, .ref a_t_read, .int v_t_many, .int v_t_spot, .ref a_t_track, .ref a_t_lead, .ref a_t_distance, .ref a_t_line])), (a_t_s, .inl (Y.1, 41, .inl (upd f_t_s ((25 : Int32) + s1).toNatClampNeg 0))), (a_t_past, .inl (Y.1, 164, .inl f_t_past)), (a_t_pad, .inl (Y.1, 80, .inl f_t_pad))] H := hP
        have hD : va_D A [(a_t, .inr (8, [.ref a_t_s, .ref a_t_past, .ref a_t_kept, .int v_t_isKept, .int v_t_pasts, .ref a_t_pad, .int v_t_typed, .ref a_t_cell, .ref a_t_other, .ref a_t_rows, .int v_t_ends, .ref a_t_read, .int v_t_many, .int v_t_spot, .ref a_t_track, .ref a_t_lead, .ref a_t_distance, .ref a_t_line])), (a_t_s, .inl (Y.1, 41, .inl (upd f_t_s ((25 : Int32) + s1).toNatClampNeg 0))), (a_t_past, .inl (Y.1, 164, .inl f_t_past)), (a_t_pad, .inl (Y.1, 80, .inl f_t_pad))] := hD
        refine lv_iinc (v := (s1 + 1)) (lv' := [(1, .int (s1 + 1)), (0, .ref a_t)]) hx hb dX11_touch_54 hl (k := 1) rfl rfl (by decide) rfl (fun ls hl => ?_)
        refine lv_goto (tgt := 18) hx hb dX11_touch_57 (by decide) ?_
        exact ih _ _ _ _ _ _ _ _ _ hf hP hD hS (lv_sub hl [1, 0] rfl) hk
      have hf := ite_f c7 hf
      refine lv_aload_n hx hb dX11_touch_40 rfl (lv_at hl 0 rfl) ?_
      refine va_get (D := D) (ci := 8) (v := .ref a_t_pad) (C := RX11) (T := TX11) (N := 18) hx hb hts inX11 hown hE.1 hP 0 rfl rfl 5 (by decide) (hts _ qw766) (fun _ h9 => h9) rfl dX11_touch_41 ?_
      refine lv_iload_n hx hb dX11_touch_44 rfl (lv_at hl 1 rfl) ?_
      obtain ⟨g9, hf⟩ := gd_s hf
      refine va_iald hx hb hE.1 hP 3 0 rfl rfl (inb_in g9) dX11_touch_45 ?_
      refine af_oi (run_S (As := [.int (f_t_pad s1.toNatClampNeg)]) (rest := [.int ((25 : Int32) + s1), .ref a_t_s]) E (c_X11_kindOf l D Y (f_t_pad s1.toNatClampNeg) (f_X11_kindOf (f_t_pad s1.toNatClampNeg)) rfl) qw863 qw864 qw76 qw865 rfl rfl hd_X11_kindOf ⟨Nat.le_of_ble_eq_true rfl, Nat.le_of_ble_eq_true rfl⟩ (pre_roS hP hE [] rfl) rfl hl.1 rfl (Nat.le_of_ble_eq_true rfl) dX11_touch_46 ⟨Nat.zero_le _, Nat.zero_le _⟩) ?_
      refine lv_goto (tgt := 53) hx hb dX11_touch_49 (by decide) ?_
      obtain ⟨g10, hf⟩ := gd_s hf
      refine va_iast hx hb hE.1 hP hD hS 1 0 rfl rfl (inb_in g10) dX11_touch_53 (fun H locs hP hD hS => ?_)
      have hP : va_P D vwCl [(a_t, .inr (8, [.ref a_t_s, .ref a_t_past, .ref a_t_kept, .int v_t_isKept, .int v_t_pasts, .ref a_t_pad, .int v_t_typed, .ref a_t_cell, .ref a_t_other, .ref a_t_rows, .int v_t_ends, .ref a_t_read, .int v_t_many, .int v_t_spot, .ref a_t_track, .ref a_t_lead, .ref a_t_distance, .ref a_t_line])), (a_t_s, .inl (Y.1, 41, .inl (upd f_t_s ((25 : Int32) + s1).toNatClampNeg (f_X11_kindOf (f_t_pad s1.toNatClampNeg))))), (a_t_past, .inl (Y.1, 164, .inl f_t_past)), (a_t_pad, .inl (Y.1, 80, .inl f_t_pad))] H := hP
      have hD : va_D A [(a_t, .inr (8, [.ref a_t_s, .ref a_t_past, .ref a_t_kept, .int v_t_isKept, .int v_t_pasts, .ref a_t_pad, .int v_t_typed, .ref a_t_cell, .ref a_t_other, .ref a_t_rows, .int v_t_ends, .ref a_t_read, .int v_t_many, .int v_t_spot, .ref a_t_track, .ref a_t_lead, .ref a_t_distance, .ref a_t_line])), (a_t_s, .inl (Y.1, 41, .inl (upd f_t_s ((25 : Int32) + s1).toNatClampNeg (f_X11_kindOf (f_t_pad s1.toNatClampNeg))))), (a_t_past, .inl (Y.1, 164, .inl f_t_past)), (a_t_pad, .inl (Y.1, 80, .inl f_t_pad))] := hD
      refine lv_iinc (v := (s1 + 1)) (lv' := [(1, .int (s1 + 1)), (0, .ref a_t)]) hx hb dX11_touch_54 hl (k := 1) rfl rfl (by decide) rfl (fun ls hl => ?_)
      refine lv_goto (tgt := 18) hx hb dX11_touch_57 (by decide) ?_
      exact ih _ _ _ _ _ _ _ _ _ hf hP hD hS (lv_sub hl [1, 0] rfl) hk
  refine lv_aload_n hx hb dX11_touch_0 rfl (lv_at hl 0 rfl) ?_
  obtain ⟨q1, h2, hf⟩ := bd_s hf
  refine af_oi (run_V (As := []) (rest := []) E (c_X11_touchFault l D Y a_t a_t_s a_t_past a_t_kept a_t_pad a_t_cell a_t_other a_t_rows a_t_read a_t_track a_t_lead a_t_distance a_t_line v_t_isKept v_t_pasts v_t_typed v_t_ends v_t_many v_t_spot f_t_pad q1 h2) qw859 qw861 qw28 qw76 qw862 rfl rfl hd_X11_touchFault ⟨Nat.le_of_ble_eq_true rfl, Nat.le_of_ble_eq_true rfl⟩ (pre_roV hP hE [0, 3] rfl (ci := 8) (q0 := 0) rfl rfl) rfl hl.1 rfl (Nat.le_of_ble_eq_true rfl) dX11_touch_1 ⟨Nat.zero_le _, Nat.zero_le _⟩) ?_
  refine lv_bipush (v := (-4)) hx hb dX11_touch_4 (by decide) ?_
  refine lv_icmp_eq (tgt := 12) hx hb dX11_touch_6 (by decide) (fun c3 => ?_) (fun c3 => ?_)
  · have hf := ite_t c3 hf
    refine lv_aload_n hx hb dX11_touch_12 rfl (lv_at hl 0 rfl) ?_
    obtain ⟨q4, h5, hf⟩ := bd_s hf
    refine af_v0 (wc := [(a_t, .inr (8, [.ref a_t_s, .ref a_t_past, .ref a_t_kept, .int v_t_isKept, .int v_t_pasts, .ref a_t_pad, .int v_t_typed, .ref a_t_cell, .ref a_t_other, .ref a_t_rows, .int v_t_ends, .ref a_t_read, .int v_t_many, .int v_t_spot, .ref a_t_track, .ref a_t_lead, .ref a_t_distance, .ref a_t_line])), (a_t_s, .inl (Y.1, 41, .inl f_t_s)), (a_t_past, .inl (Y.1, 164, .inl f_t_past))]) (wr := [(a_t_pad, .inl (Y.1, 80, .inl f_t_pad))]) (wn := [(a_t, .inr (8, [.ref a_t_s, .ref a_t_past, .ref a_t_kept, .int v_t_isKept, .int q4.1, .ref a_t_pad, .int v_t_typed, .ref a_t_cell, .ref a_t_other, .ref a_t_rows, .int v_t_ends, .ref a_t_read, .int v_t_many, .int v_t_spot, .ref a_t_track, .ref a_t_lead, .ref a_t_distance, .ref a_t_line])), (a_t_s, .inl (Y.1, 41, .inl f_t_s)), (a_t_past, .inl (Y.1, 164, .inl q4.2)), (a_t_pad, .inl (Y.1, 80, .inl f_t_pad))]) (run_V (As := []) (rest := []) E (c_X11_changes l D Y a_t a_t_s a_t_past a_t_kept a_t_pad a_t_cell a_t_other a_t_rows a_t_read a_t_track a_t_lead a_t_distance a_t_line v_t_isKept v_t_pasts v_t_typed v_t_ends v_t_many v_t_spot f_t_s f_t_past s.heap.size q4 h5) qw823 qw825 qw22 qw76 qw826 rfl rfl hd_X11_changes ⟨Nat.le_of_ble_eq_true rfl, Nat.le_of_ble_eq_true rfl⟩ (pre_rwV hP hD hE [0, 1, 2] rfl (by decide) rfl (ci := 8) (q0 := 0) rfl rfl) rfl hl.1 rfl (Nat.le_of_ble_eq_true rfl) dX11_touch_13 ⟨Nat.zero_le _, Nat.zero_le _⟩) hP hD hS hA [0, 1, 2] [3] [1, 2, 3, 0] rfl rfl (by decide) (by decide) rfl rfl (by decide) (fun H locs  hP hD hS => ?_)
    refine lv_iconst (v := 0) hx hb dX11_touch_16 (by decide) ?_
    refine lv_istore_n (lv' := [(1, .int 0), (0, .ref a_t)]) hx hb dX11_touch_17 rfl hl (by decide) rfl (fun ls hl => ?_)
    refine L18 _ _ _ _ _ _ _ _ _ _ hf hP hD hS (lv_sub hl [1, 0] rfl) ?_
    intro y11 y12 H locs ls hf hP hD hS hl
    refine lv_aload_n hx hb dX11_touch_60 rfl (lv_at hl 0 rfl) ?_
    refine va_get (D := D) (ci := 8) (v := .ref a_t_s) (C := RX11) (T := TX11) (N := 18) hx hb hts inX11 hown hE.1 hP 0 rfl rfl 0 (by decide) (hts _ qw761) (fun _ h9 => h9) rfl dX11_touch_61 ?_
    refine lv_iconst (v := 2) hx hb dX11_touch_64 (by decide) ?_
    refine lv_aload_n hx hb dX11_touch_65 rfl (lv_at hl 0 rfl) ?_
    refine va_get (D := D) (ci := 8) (v := .int v_t_typed) (C := RX11) (T := TX11) (N := 18) hx hb hts inX11 hown hE.1 hP 0 rfl rfl 6 (by decide) (hts _ qw767) (fun _ h9 => h9) rfl dX11_touch_66 ?_
    refine va_iast hx hb hE.1 hP hD hS 1 0 rfl rfl (inb_in (by decide)) dX11_touch_69 (fun H locs hP hD hS => ?_)
    have hP : va_P D vwCl [(a_t, .inr (8, [.ref a_t_s, .ref a_t_past, .ref a_t_kept, .int v_t_isKept, .int q4.1, .ref a_t_pad, .int v_t_typed, .ref a_t_cell, .ref a_t_other, .ref a_t_rows, .int v_t_ends, .ref a_t_read, .int v_t_many, .int v_t_spot, .ref a_t_track, .ref a_t_lead, .ref a_t_distance, .ref a_t_line])), (a_t_s, .inl (Y.1, 41, .inl (upd y12 (2 : Int32).toNatClampNeg v_t_typed))), (a_t_past, .inl (Y.1, 164, .inl q4.2)), (a_t_pad, .inl (Y.1, 80, .inl f_t_pad))] H := hP
    have hD : va_D A [(a_t, .inr (8, [.ref a_t_s, .ref a_t_past, .ref a_t_kept, .int v_t_isKept, .int q4.1, .ref a_t_pad, .int v_t_typed, .ref a_t_cell, .ref a_t_other, .ref a_t_rows, .int v_t_ends, .ref a_t_read, .int v_t_many, .int v_t_spot, .ref a_t_track, .ref a_t_lead, .ref a_t_distance, .ref a_t_line])), (a_t_s, .inl (Y.1, 41, .inl (upd y12 (2 : Int32).toNatClampNeg v_t_typed))), (a_t_past, .inl (Y.1, 164, .inl q4.2)), (a_t_pad, .inl (Y.1, 80, .inl f_t_pad))] := hD
    refine lv_aload_n hx hb dX11_touch_70 rfl (lv_at hl 0 rfl) ?_
    refine lv_iconst (v := 0) hx hb dX11_touch_71 (by decide) ?_
    refine va_put (D := D) (ci := 8) (v := .int 0) (ty := .int) (C := RX11) (T := TX11) (N := 18) hx hb hts inX11 tyX11 tyX11_ok nmX11 hown hE.1 hP hD hS 0 rfl rfl 6 (by decide) (hts _ qw767) (fun _ h9 => h9) rfl (tyX11_ok 6 (by decide)) rfl rfl (Nat.le_of_ble_eq_true rfl) dX11_touch_72 (fun H locs hP hD hS => ?_)
    have hP : va_P D vwCl [(a_t, .inr (8, [.ref a_t_s, .ref a_t_past, .ref a_t_kept, .int v_t_isKept, .int q4.1, .ref a_t_pad, .int 0, .ref a_t_cell, .ref a_t_other, .ref a_t_rows, .int v_t_ends, .ref a_t_read, .int v_t_many, .int v_t_spot, .ref a_t_track, .ref a_t_lead, .ref a_t_distance, .ref a_t_line])), (a_t_s, .inl (Y.1, 41, .inl (upd y12 (2 : Int32).toNatClampNeg v_t_typed))), (a_t_past, .inl (Y.1, 164, .inl q4.2)), (a_t_pad, .inl (Y.1, 80, .inl f_t_pad))] H := hP
    have hD : va_D A [(a_t, .inr (8, [.ref a_t_s, .ref a_t_past, .ref a_t_kept, .int v_t_isKept, .int q4.1, .ref a_t_pad, .int 0, .ref a_t_cell, .ref a_t_other, .ref a_t_rows, .int v_t_ends, .ref a_t_read, .int v_t_many, .int v_t_spot, .ref a_t_track, .ref a_t_lead, .ref a_t_distance, .ref a_t_line])), (a_t_s, .inl (Y.1, 41, .inl (upd y12 (2 : Int32).toNatClampNeg v_t_typed))), (a_t_past, .inl (Y.1, 164, .inl q4.2)), (a_t_pad, .inl (Y.1, 80, .inl f_t_pad))] := hD
    refine lv_aload_n hx hb dX11_touch_75 rfl (lv_at hl 0 rfl) ?_
    refine va_get (D := D) (ci := 8) (v := .ref a_t_s) (C := RX11) (T := TX11) (N := 18) hx hb hts inX11 hown hE.1 hP 0 rfl rfl 0 (by decide) (hts _ qw761) (fun _ h9 => h9) rfl dX11_touch_76 ?_
    refine lv_iconst (v := 2) hx hb dX11_touch_79 (by decide) ?_
    refine va_iald hx hb hE.1 hP 1 0 rfl rfl (inb_in (by decide)) dX11_touch_80 ?_
    obtain rfl := Option.some.inj hf
    subst hQ
    exact en_i hx hb hr hlocks hP hD hS rfl dX11_touch_81
  have hf := ite_f c3 hf
  refine lv_bipush (v := (-2)) hx hb dX11_touch_9 (by decide) ?_
  obtain rfl := Option.some.inj hf
  subst hQ
  exact en_i hx hb hr hlocks hP hD hS rfl dX11_touch_11

def f_X11_add (s1 : Int32) (v_t_pasts : Int32) (f_t_s : Nat → Int32) (f_t_past : Nat → Int32) : Option (Int32 × Int32 × (Nat → Int32) × (Nat → Int32)) :=
  (if (f_X11_in s1 0 2) = 0 then some ((-1), v_t_pasts, f_t_s, f_t_past) else (if (f_t_s (2 : Int32).toNatClampNeg) = 16 then some ((-3), v_t_pasts, f_t_s, f_t_past) else bd (f_X11_changes v_t_pasts f_t_s f_t_past) (fun q4 => gd (inb ((25 : Int32) + (f_t_s (2 : Int32).toNatClampNeg)) 41) (some (((upd (upd f_t_s ((25 : Int32) + (f_t_s (2 : Int32).toNatClampNeg)).toNatClampNeg s1) (2 : Int32).toNatClampNeg (((upd f_t_s ((25 : Int32) + (f_t_s (2 : Int32).toNatClampNeg)).toNatClampNeg s1) (2 : Int32).toNatClampNeg) + 1)) (2 : Int32).toNatClampNeg), q4.1, (upd (upd f_t_s ((25 : Int32) + (f_t_s (2 : Int32).toNatClampNeg)).toNatClampNeg s1) (2 : Int32).toNatClampNeg (((upd f_t_s ((25 : Int32) + (f_t_s (2 : Int32).toNatClampNeg)).toNatClampNeg s1) (2 : Int32).toNatClampNeg) + 1)), q4.2)))))
abbrev rm_X11_add : Room := { frames := 2, cells := 0, slots := 0, locals := 46 }
set_option maxHeartbeats 4000000 in
set_option maxRecDepth 100000 in
theorem c_X11_add (l : Launch) (D : va_G) (Y : ClassId × ClassId × ClassId) (a_t a_t_s a_t_past a_t_kept a_t_pad a_t_cell a_t_other a_t_rows a_t_read a_t_track a_t_lead a_t_distance a_t_line : Nat) (v_t_isKept : Int32) (v_t_pasts : Int32) (v_t_typed : Int32) (v_t_ends : Int32) (v_t_many : Int32) (v_t_spot : Int32) (f_t_s : Nat → Int32) (f_t_past : Nat → Int32) (s1 : Int32) (sz : Nat) (R : Int32 × Int32 × (Nat → Int32) × (Nat → Int32)) (hf : f_X11_add s1 v_t_pasts f_t_s f_t_past = some R) : Met l yX11_add (ws_ yX11_add cX11_add 2 (some .int)) rm_X11_add (va_Pc [.ref a_t, .int s1] (RW D Y sz [(a_t, .inr (8, [.ref a_t_s, .ref a_t_past, .ref a_t_kept, .int v_t_isKept, .int v_t_pasts, .ref a_t_pad, .int v_t_typed, .ref a_t_cell, .ref a_t_other, .ref a_t_rows, .int v_t_ends, .ref a_t_read, .int v_t_many, .int v_t_spot, .ref a_t_track, .ref a_t_lead, .ref a_t_distance, .ref a_t_line])), (a_t_s, .inl (Y.1, 41, .inl f_t_s)), (a_t_past, .inl (Y.1, 164, .inl f_t_past))])) (QI D R.1 [(a_t, .inr (8, [.ref a_t_s, .ref a_t_past, .ref a_t_kept, .int v_t_isKept, .int R.2.1, .ref a_t_pad, .int v_t_typed, .ref a_t_cell, .ref a_t_other, .ref a_t_rows, .int v_t_ends, .ref a_t_read, .int v_t_many, .int v_t_spot, .ref a_t_track, .ref a_t_lead, .ref a_t_distance, .ref a_t_line])), (a_t_s, .inl (Y.1, 41, .inl R.2.2.1)), (a_t_past, .inl (Y.1, 164, .inl R.2.2.2))] (va_A [(a_t, .inr (8, [.ref a_t_s, .ref a_t_past, .ref a_t_kept, .int v_t_isKept, .int v_t_pasts, .ref a_t_pad, .int v_t_typed, .ref a_t_cell, .ref a_t_other, .ref a_t_rows, .int v_t_ends, .ref a_t_read, .int v_t_many, .int v_t_spot, .ref a_t_track, .ref a_t_lead, .ref a_t_distance, .ref a_t_line])), (a_t_s, .inl (Y.1, 41, .inl f_t_s)), (a_t_past, .inl (Y.1, 164, .inl f_t_past))] sz)) 0 0 (va_A [(a_t, .inr (8, [.ref a_t_s, .ref a_t_past, .ref a_t_kept, .int v_t_isKept, .int v_t_pasts, .ref a_t_pad, .int v_t_typed, .ref a_t_cell, .ref a_t_other, .ref a_t_rows, .int v_t_ends, .ref a_t_read, .int v_t_many, .int v_t_spot, .ref a_t_track, .ref a_t_lead, .ref a_t_distance, .ref a_t_line])), (a_t_s, .inl (Y.1, 41, .inl f_t_s)), (a_t_past, .inl (Y.1, 164, .inl f_t_past))] sz) := by
  refine rw_start (Qc := fun A => QI D R.1 [(a_t, .inr (8, [.ref a_t_s, .ref a_t_past, .ref a_t_kept, .int v_t_isKept, .int R.2.1, .ref a_t_pad, .int v_t_typed, .ref a_t_cell, .ref a_t_other, .ref a_t_rows, .int v_t_ends, .ref a_t_read, .int v_t_many, .int v_t_spot, .ref a_t_track, .ref a_t_lead, .ref a_t_distance, .ref a_t_line])), (a_t_s, .inl (Y.1, 41, .inl R.2.2.1)), (a_t_past, .inl (Y.1, 164, .inl R.2.2.2))] A) (by decide) (Nat.le_of_ble_eq_true rfl) ?_
  intro p e s m below meth c ls A hx hb hml hr hlocks hown hts hnm hA hP hD hS hE hl
  generalize hargs : List.toArray _ = args at hts ⊢
  have hown : s.vm.findClass RX11 = some m.cls := hown
  have E : EN p m c cX11_add 2 s args RX11 := ⟨hx, hb, hml, hown, hts⟩
  have hl : lv_has ls 2 [(0, .ref a_t), (1, .int s1)] := hl
  generalize hQ : MQ below _ args s 0 0 _ = Q
  unfold f_X11_add at hf
  refine lv_iload_n hx hb dX11_add_0 rfl (lv_at hl 1 rfl) ?_
  refine lv_iconst (v := 0) hx hb dX11_add_1 (by decide) ?_
  refine lv_iconst (v := 2) hx hb dX11_add_2 (by decide) ?_
  refine af_oz (run_S (As := [.int s1, .int 0, .int 2]) (rest := []) E (c_X11_in l D Y s1 0 2 (f_X11_in s1 0 2) rfl) qw820 qw821 qw76 qw822 rfl rfl hd_X11_in ⟨Nat.le_of_ble_eq_true rfl, Nat.le_of_ble_eq_true rfl⟩ (pre_roS hP hE [] rfl) rfl hl.1 rfl (Nat.le_of_ble_eq_true rfl) dX11_add_3 ⟨Nat.zero_le _, Nat.zero_le _⟩) (fun z1 => ?_)
  refine lv_if_ne (tgt := 11) hx hb dX11_add_6 (by decide) (fun c2 => ?_) (fun c2 => ?_)
  · have hf := ite_f c2 hf
    refine lv_aload_n hx hb dX11_add_11 rfl (lv_at hl 0 rfl) ?_
    refine va_get (D := D) (ci := 8) (v := .ref a_t_s) (C := RX11) (T := TX11) (N := 18) hx hb hts inX11 hown hE.1 hP 0 rfl rfl 0 (by decide) (hts _ qw761) (fun _ h9 => h9) rfl dX11_add_12 ?_
    refine lv_iconst (v := 2) hx hb dX11_add_15 (by decide) ?_
    refine va_iald hx hb hE.1 hP 1 0 rfl rfl (inb_in (by decide)) dX11_add_16 ?_
    refine lv_bipush (v := 16) hx hb dX11_add_17 (by decide) ?_
    refine lv_icmp_ne (tgt := 25) hx hb dX11_add_19 (by decide) (fun c3 => ?_) (fun c3 => ?_)
    · have hf := ite_f c3 hf
      refine lv_aload_n hx hb dX11_add_25 rfl (lv_at hl 0 rfl) ?_
      obtain ⟨q4, h5, hf⟩ := bd_s hf
      refine af_v0 (wc := [(a_t, .inr (8, [.ref a_t_s, .ref a_t_past, .ref a_t_kept, .int v_t_isKept, .int v_t_pasts, .ref a_t_pad, .int v_t_typed, .ref a_t_cell, .ref a_t_other, .ref a_t_rows, .int v_t_ends, .ref a_t_read, .int v_t_many, .int v_t_spot, .ref a_t_track, .ref a_t_lead, .ref a_t_distance, .ref a_t_line])), (a_t_s, .inl (Y.1, 41, .inl f_t_s)), (a_t_past, .inl (Y.1, 164, .inl f_t_past))]) (wr := []) (wn := [(a_t, .inr (8, [.ref a_t_s, .ref a_t_past, .ref a_t_kept, .int v_t_isKept, .int q4.1, .ref a_t_pad, .int v_t_typed, .ref a_t_cell, .ref a_t_other, .ref a_t_rows, .int v_t_ends, .ref a_t_read, .int v_t_many, .int v_t_spot, .ref a_t_track, .ref a_t_lead, .ref a_t_distance, .ref a_t_line])), (a_t_s, .inl (Y.1, 41, .inl f_t_s)), (a_t_past, .inl (Y.1, 164, .inl q4.2))]) (run_V (As := []) (rest := []) E (c_X11_changes l D Y a_t a_t_s a_t_past a_t_kept a_t_pad a_t_cell a_t_other a_t_rows a_t_read a_t_track a_t_lead a_t_distance a_t_line v_t_isKept v_t_pasts v_t_typed v_t_ends v_t_many v_t_spot f_t_s f_t_past s.heap.size q4 h5) qw823 qw825 qw22 qw76 qw826 rfl rfl hd_X11_changes ⟨Nat.le_of_ble_eq_true rfl, Nat.le_of_ble_eq_true rfl⟩ (pre_rwV hP hD hE [0, 1, 2] rfl (by decide) rfl (ci := 8) (q0 := 0) rfl rfl) rfl hl.1 rfl (Nat.le_of_ble_eq_true rfl) dX11_add_26 ⟨Nat.zero_le _, Nat.zero_le _⟩) hP hD hS hA [0, 1, 2] [] [0, 1, 2] rfl rfl (by decide) (by decide) rfl rfl (by decide) (fun H locs  hP hD hS => ?_)
      refine lv_aload_n hx hb dX11_add_29 rfl (lv_at hl 0 rfl) ?_
      refine va_get (D := D) (ci := 8) (v := .ref a_t_s) (C := RX11) (T := TX11) (N := 18) hx hb hts inX11 hown hE.1 hP 0 rfl rfl 0 (by decide) (hts _ qw761) (fun _ h9 => h9) rfl dX11_add_30 ?_
      refine lv_bipush (v := 25) hx hb dX11_add_33 (by decide) ?_
      refine lv_aload_n hx hb dX11_add_35 rfl (lv_at hl 0 rfl) ?_
      refine va_get (D := D) (ci := 8) (v := .ref a_t_s) (C := RX11) (T := TX11) (N := 18) hx hb hts inX11 hown hE.1 hP 0 rfl rfl 0 (by decide) (hts _ qw761) (fun _ h9 => h9) rfl dX11_add_36 ?_
      refine lv_iconst (v := 2) hx hb dX11_add_39 (by decide) ?_
      refine va_iald hx hb hE.1 hP 1 0 rfl rfl (inb_in (by decide)) dX11_add_40 ?_
      refine lv_iadd hx hb dX11_add_41 ?_
      refine lv_iload_n hx hb dX11_add_42 rfl (lv_at hl 1 rfl) ?_
      obtain ⟨g6, hf⟩ := gd_s hf
      refine va_iast hx hb hE.1 hP hD hS 1 0 rfl rfl (inb_in g6) dX11_add_43 (fun H locs hP hD hS => ?_)
      have hP : va_P D vwCl [(a_t, .inr (8, [.ref a_t_s, .ref a_t_past, .ref a_t_kept, .int v_t_isKept, .int q4.1, .ref a_t_pad, .int v_t_typed, .ref a_t_cell, .ref a_t_other, .ref a_t_rows, .int v_t_ends, .ref a_t_read, .int v_t_many, .int v_t_spot, .ref a_t_track, .ref a_t_lead, .ref a_t_distance, .ref a_t_line])), (a_t_s, .inl (Y.1, 41, .inl (upd f_t_s ((25 : Int32) + (f_t_s (2 : Int32).toNatClampNeg)).toNatClampNeg s1))), (a_t_past, .inl (Y.1, 164, .inl q4.2))] H := hP
      have hD : va_D A [(a_t, .inr (8, [.ref a_t_s, .ref a_t_past, .ref a_t_kept, .int v_t_isKept, .int q4.1, .ref a_t_pad, .int v_t_typed, .ref a_t_cell, .ref a_t_other, .ref a_t_rows, .int v_t_ends, .ref a_t_read, .int v_t_many, .int v_t_spot, .ref a_t_track, .ref a_t_lead, .ref a_t_distance, .ref a_t_line])), (a_t_s, .inl (Y.1, 41, .inl (upd f_t_s ((25 : Int32) + (f_t_s (2 : Int32).toNatClampNeg)).toNatClampNeg s1))), (a_t_past, .inl (Y.1, 164, .inl q4.2))] := hD
      refine lv_aload_n hx hb dX11_add_44 rfl (lv_at hl 0 rfl) ?_
      refine va_get (D := D) (ci := 8) (v := .ref a_t_s) (C := RX11) (T := TX11) (N := 18) hx hb hts inX11 hown hE.1 hP 0 rfl rfl 0 (by decide) (hts _ qw761) (fun _ h9 => h9) rfl dX11_add_45 ?_
      refine lv_iconst (v := 2) hx hb dX11_add_48 (by decide) ?_
      refine lv_dup2_11 hx hb dX11_add_49 rfl rfl ?_
      refine va_iald hx hb hE.1 hP 1 0 rfl rfl (inb_in (by decide)) dX11_add_50 ?_
      refine lv_iconst (v := 1) hx hb dX11_add_51 (by decide) ?_
      refine lv_iadd hx hb dX11_add_52 ?_
      refine va_iast hx hb hE.1 hP hD hS 1 0 rfl rfl (inb_in (by decide)) dX11_add_53 (fun H locs hP hD hS => ?_)
      have hP : va_P D vwCl [(a_t, .inr (8, [.ref a_t_s, .ref a_t_past, .ref a_t_kept, .int v_t_isKept, .int q4.1, .ref a_t_pad, .int v_t_typed, .ref a_t_cell, .ref a_t_other, .ref a_t_rows, .int v_t_ends, .ref a_t_read, .int v_t_many, .int v_t_spot, .ref a_t_track, .ref a_t_lead, .ref a_t_distance, .ref a_t_line])), (a_t_s, .inl (Y.1, 41, .inl (upd (upd f_t_s ((25 : Int32) + (f_t_s (2 : Int32).toNatClampNeg)).toNatClampNeg s1) (2 : Int32).toNatClampNeg (((upd f_t_s ((25 : Int32) + (f_t_s (2 : Int32).toNatClampNeg)).toNatClampNeg s1) (2 : Int32).toNatClampNeg) + 1)))), (a_t_past, .inl (Y.1, 164, .inl q4.2))] H := hP
      have hD : va_D A [(a_t, .inr (8, [.ref a_t_s, .ref a_t_past, .ref a_t_kept, .int v_t_isKept, .int q4.1, .ref a_t_pad, .int v_t_typed, .ref a_t_cell, .ref a_t_other, .ref a_t_rows, .int v_t_ends, .ref a_t_read, .int v_t_many, .int v_t_spot, .ref a_t_track, .ref a_t_lead, .ref a_t_distance, .ref a_t_line])), (a_t_s, .inl (Y.1, 41, .inl (upd (upd f_t_s ((25 : Int32) + (f_t_s (2 : Int32).toNatClampNeg)).toNatClampNeg s1) (2 : Int32).toNatClampNeg (((upd f_t_s ((25 : Int32) + (f_t_s (2 : Int32).toNatClampNeg)).toNatClampNeg s1) (2 : Int32).toNatClampNeg) + 1)))), (a_t_past, .inl (Y.1, 164, .inl q4.2))] := hD
      refine lv_aload_n hx hb dX11_add_54 rfl (lv_at hl 0 rfl) ?_
      refine va_get (D := D) (ci := 8) (v := .ref a_t_s) (C := RX11) (T := TX11) (N := 18) hx hb hts inX11 hown hE.1 hP 0 rfl rfl 0 (by decide) (hts _ qw761) (fun _ h9 => h9) rfl dX11_add_55 ?_
      refine lv_iconst (v := 2) hx hb dX11_add_58 (by decide) ?_
      refine va_iald hx hb hE.1 hP 1 0 rfl rfl (inb_in (by decide)) dX11_add_59 ?_
      obtain rfl := Option.some.inj hf
      subst hQ
      exact en_i hx hb hr hlocks hP hD hS rfl dX11_add_60
    have hf := ite_t c3 hf
    refine lv_bipush (v := (-3)) hx hb dX11_add_22 (by decide) ?_
    obtain rfl := Option.some.inj hf
    subst hQ
    exact en_i hx hb hr hlocks hP hD hS rfl dX11_add_24
  have hf := ite_t c2 hf
  refine lv_iconst (v := (-1)) hx hb dX11_add_9 (by decide) ?_
  obtain rfl := Option.some.inj hf
  subst hQ
  exact en_i hx hb hr hlocks hP hD hS rfl dX11_add_10

def f_X11_cut_L29 (k : Int32 → (Nat → Int32) → Option (Int32 × Int32 × (Nat → Int32) × (Nat → Int32))) (s1 : Int32) (s2 : Int32) (v_t_pasts : Int32) (f_t_past : Nat → Int32) : Nat → Int32 → (Nat → Int32) → Option (Int32 × Int32 × (Nat → Int32) × (Nat → Int32))
  | 0, _, _ => none
  | n + 1, s3, f_t_s => (if (16 : Int32) ≤ s3 then (k s3 f_t_s) else gd (inb ((25 : Int32) + s3) 41) ((f_X11_cut_L29 k s1 s2 v_t_pasts f_t_past n (s3 + 1) (upd f_t_s ((25 : Int32) + s3).toNatClampNeg 0))))
def f_X11_cut (s1 : Int32) (v_t_pasts : Int32) (f_t_s : Nat → Int32) (f_t_past : Nat → Int32) : Option (Int32 × Int32 × (Nat → Int32) × (Nat → Int32)) :=
  (if (f_X11_in s1 0 (f_t_s (2 : Int32).toNatClampNeg)) = 0 then some ((-1), v_t_pasts, f_t_s, f_t_past) else bd (f_X11_changes v_t_pasts f_t_s f_t_past) (fun q3 => nm (f_t_s (2 : Int32).toNatClampNeg) (fun (x5 : Int32) => (f_X11_cut_L29 (fun (y8 : Int32) (y9 : Nat → Int32) => some (x5, q3.1, (upd y9 (2 : Int32).toNatClampNeg s1), q3.2)) s1 x5 q3.1 q3.2 fu s1 f_t_s))))
abbrev rm_X11_cut : Room := { frames := 2, cells := 0, slots := 0, locals := 46 }
set_option maxHeartbeats 4000000 in
set_option maxRecDepth 100000 in
theorem c_X11_cut (l : Launch) (D : va_G) (Y : ClassId × ClassId × ClassId) (a_t a_t_s a_t_past a_t_kept a_t_pad a_t_cell a_t_other a_t_rows a_t_read a_t_track a_t_lead a_t_distance a_t_line : Nat) (v_t_isKept : Int32) (v_t_pasts : Int32) (v_t_typed : Int32) (v_t_ends : Int32) (v_t_many : Int32) (v_t_spot : Int32) (f_t_s : Nat → Int32) (f_t_past : Nat → Int32) (s1 : Int32) (sz : Nat) (R : Int32 × Int32 × (Nat → Int32) × (Nat → Int32)) (hf : f_X11_cut s1 v_t_pasts f_t_s f_t_past = some R) : Met l yX11_cut (ws_ yX11_cut cX11_cut 4 (some .int)) rm_X11_cut (va_Pc [.ref a_t, .int s1] (RW D Y sz [(a_t, .inr (8, [.ref a_t_s, .ref a_t_past, .ref a_t_kept, .int v_t_isKept, .int v_t_pasts, .ref a_t_pad, .int v_t_typed, .ref a_t_cell, .ref a_t_other, .ref a_t_rows, .int v_t_ends, .ref a_t_read, .int v_t_many, .int v_t_spot, .ref a_t_track, .ref a_t_lead, .ref a_t_distance, .ref a_t_line])), (a_t_s, .inl (Y.1, 41, .inl f_t_s)), (a_t_past, .inl (Y.1, 164, .inl f_t_past))])) (QI D R.1 [(a_t, .inr (8, [.ref a_t_s, .ref a_t_past, .ref a_t_kept, .int v_t_isKept, .int R.2.1, .ref a_t_pad, .int v_t_typed, .ref a_t_cell, .ref a_t_other, .ref a_t_rows, .int v_t_ends, .ref a_t_read, .int v_t_many, .int v_t_spot, .ref a_t_track, .ref a_t_lead, .ref a_t_distance, .ref a_t_line])), (a_t_s, .inl (Y.1, 41, .inl R.2.2.1)), (a_t_past, .inl (Y.1, 164, .inl R.2.2.2))] (va_A [(a_t, .inr (8, [.ref a_t_s, .ref a_t_past, .ref a_t_kept, .int v_t_isKept, .int v_t_pasts, .ref a_t_pad, .int v_t_typed, .ref a_t_cell, .ref a_t_other, .ref a_t_rows, .int v_t_ends, .ref a_t_read, .int v_t_many, .int v_t_spot, .ref a_t_track, .ref a_t_lead, .ref a_t_distance, .ref a_t_line])), (a_t_s, .inl (Y.1, 41, .inl f_t_s)), (a_t_past, .inl (Y.1, 164, .inl f_t_past))] sz)) 0 0 (va_A [(a_t, .inr (8, [.ref a_t_s, .ref a_t_past, .ref a_t_kept, .int v_t_isKept, .int v_t_pasts, .ref a_t_pad, .int v_t_typed, .ref a_t_cell, .ref a_t_other, .ref a_t_rows, .int v_t_ends, .ref a_t_read, .int v_t_many, .int v_t_spot, .ref a_t_track, .ref a_t_lead, .ref a_t_distance, .ref a_t_line])), (a_t_s, .inl (Y.1, 41, .inl f_t_s)), (a_t_past, .inl (Y.1, 164, .inl f_t_past))] sz) := by
  refine rw_start (Qc := fun A => QI D R.1 [(a_t, .inr (8, [.ref a_t_s, .ref a_t_past, .ref a_t_kept, .int v_t_isKept, .int R.2.1, .ref a_t_pad, .int v_t_typed, .ref a_t_cell, .ref a_t_other, .ref a_t_rows, .int v_t_ends, .ref a_t_read, .int v_t_many, .int v_t_spot, .ref a_t_track, .ref a_t_lead, .ref a_t_distance, .ref a_t_line])), (a_t_s, .inl (Y.1, 41, .inl R.2.2.1)), (a_t_past, .inl (Y.1, 164, .inl R.2.2.2))] A) (by decide) (Nat.le_of_ble_eq_true rfl) ?_
  intro p e s m below meth c ls A hx hb hml hr hlocks hown hts hnm hA hP hD hS hE hl
  generalize hargs : List.toArray _ = args at hts ⊢
  have hown : s.vm.findClass RX11 = some m.cls := hown
  have E : EN p m c cX11_cut 4 s args RX11 := ⟨hx, hb, hml, hown, hts⟩
  have hl : lv_has ls 4 [(0, .ref a_t), (1, .int s1)] := hl
  generalize hQ : MQ below _ args s 0 0 _ = Q
  unfold f_X11_cut at hf
  have L29 : ∀ (n : Nat) (k : Int32 → (Nat → Int32) → Option (Int32 × Int32 × (Nat → Int32) × (Nat → Int32))) (s1 : Int32) (s2 : Int32) (v_t_pasts : Int32) (f_t_past : Nat → Int32) (s3 : Int32) (f_t_s : Nat → Int32) (H : Heap) (locs : List Loc) (ls : Array Slot), f_X11_cut_L29 k s1 s2 v_t_pasts f_t_past n s3 f_t_s = some R → va_P D vwCl [(a_t, .inr (8, [.ref a_t_s, .ref a_t_past, .ref a_t_kept, .int v_t_isKept, .int v_t_pasts, .ref a_t_pad, .int v_t_typed, .ref a_t_cell, .ref a_t_other, .ref a_t_rows, .int v_t_ends, .ref a_t_read, .int v_t_many, .int v_t_spot, .ref a_t_track, .ref a_t_lead, .ref a_t_distance, .ref a_t_line])), (a_t_s, .inl (Y.1, 41, .inl f_t_s)), (a_t_past, .inl (Y.1, 164, .inl f_t_past))] H → va_D A [(a_t, .inr (8, [.ref a_t_s, .ref a_t_past, .ref a_t_kept, .int v_t_isKept, .int v_t_pasts, .ref a_t_pad, .int v_t_typed, .ref a_t_cell, .ref a_t_other, .ref a_t_rows, .int v_t_ends, .ref a_t_read, .int v_t_many, .int v_t_spot, .ref a_t_track, .ref a_t_lead, .ref a_t_distance, .ref a_t_line])), (a_t_s, .inl (Y.1, 41, .inl f_t_s)), (a_t_past, .inl (Y.1, 164, .inl f_t_past))] → va_S A s.heap H locs → lv_has ls 4 [(0, .ref a_t), (1, .int s1), (2, .int s2), (3, .int s3)] → (∀ (y_s3 : Int32) (y_f_t_s : Nat → Int32) (H : Heap) (locs : List Loc) (ls : Array Slot), k y_s3 y_f_t_s = some R → va_P D vwCl [(a_t, .inr (8, [.ref a_t_s, .ref a_t_past, .ref a_t_kept, .int v_t_isKept, .int v_t_pasts, .ref a_t_pad, .int v_t_typed, .ref a_t_cell, .ref a_t_other, .ref a_t_rows, .int v_t_ends, .ref a_t_read, .int v_t_many, .int v_t_spot, .ref a_t_track, .ref a_t_lead, .ref a_t_distance, .ref a_t_line])), (a_t_s, .inl (Y.1, 41, .inl y_f_t_s)), (a_t_past, .inl (Y.1, 164, .inl f_t_past))] H → va_D A [(a_t, .inr (8, [.ref a_t_s, .ref a_t_past, .ref a_t_kept, .int v_t_isKept, .int v_t_pasts, .ref a_t_pad, .int v_t_typed, .ref a_t_cell, .ref a_t_other, .ref a_t_rows, .int v_t_ends, .ref a_t_read, .int v_t_many, .int v_t_spot, .ref a_t_track, .ref a_t_lead, .ref a_t_distance, .ref a_t_line])), (a_t_s, .inl (Y.1, 41, .inl y_f_t_s)), (a_t_past, .inl (Y.1, 164, .inl f_t_past))] → va_S A s.heap H locs → lv_has ls 4 [(0, .ref a_t), (1, .int s1), (2, .int s2)] → W p l e rm_X11_cut s m args below meth c H locs 0 0 Q (F0 m 51 ls [])) → W p l e rm_X11_cut s m args below meth c H locs 0 0 Q (F0 m 29 ls []) := by
    intro n
    induction n with
    | zero =>
      intro k s1 s2 v_t_pasts f_t_past s3 f_t_s H locs ls hf
      cases hf
    | succ n ih =>
      intro k s1 s2 v_t_pasts f_t_past s3 f_t_s H locs ls hf hP hD hS hl hk
      unfold f_X11_cut_L29 at hf
      refine lv_iload_n hx hb dX11_cut_29 rfl (lv_at hl 3 rfl) ?_
      refine lv_bipush (v := 16) hx hb dX11_cut_30 (by decide) ?_
      refine lv_icmp_ge (tgt := 51) hx hb dX11_cut_32 (by decide) (fun c6 => ?_) (fun c6 => ?_)
      · have hf := ite_t c6 hf
        exact hk _ _ _ _ _ hf hP hD hS (lv_sub hl [0, 1, 2] rfl)
      have hf := ite_f c6 hf
      refine lv_aload_n hx hb dX11_cut_35 rfl (lv_at hl 0 rfl) ?_
      refine va_get (D := D) (ci := 8) (v := .ref a_t_s) (C := RX11) (T := TX11) (N := 18) hx hb hts inX11 hown hE.1 hP 0 rfl rfl 0 (by decide) (hts _ qw761) (fun _ h9 => h9) rfl dX11_cut_36 ?_
      refine lv_bipush (v := 25) hx hb dX11_cut_39 (by decide) ?_
      refine lv_iload_n hx hb dX11_cut_41 rfl (lv_at hl 3 rfl) ?_
      refine lv_iadd hx hb dX11_cut_42 ?_
      refine lv_iconst (v := 0) hx hb dX11_cut_43 (by decide) ?_
      obtain ⟨g7, hf⟩ := gd_s hf
      refine va_iast hx hb hE.1 hP hD hS 1 0 rfl rfl (inb_in g7) dX11_cut_44 (fun H locs hP hD hS => ?_)
      have hP : va_P D vwCl [(a_t, .inr (8, [.ref a_t_s, .ref a_t_past, .ref a_t_kept, .int v_t_isKept, .int v_t_pasts, .ref a_t_pad, .int v_t_typed, .ref a_t_cell, .ref a_t_other, .ref a_t_rows, .int v_t_ends, .ref a_t_read, .int v_t_many, .int v_t_spot, .ref a_t_track, .ref a_t_lead, .ref a_t_distance, .ref a_t_line])), (a_t_s, .inl (Y.1, 41, .inl (upd f_t_s ((25 : Int32) + s3).toNatClampNeg 0))), (a_t_past, .inl (Y.1, 164, .inl f_t_past))] H := hP
      have hD : va_D A [(a_t, .inr (8, [.ref a_t_s, .ref a_t_past, .ref a_t_kept, .int v_t_isKept, .int v_t_pasts, .ref a_t_pad, .int v_t_typed, .ref a_t_cell, .ref a_t_other, .ref a_t_rows, .int v_t_ends, .ref a_t_read, .int v_t_many, .int v_t_spot, .ref a_t_track, .ref a_t_lead, .ref a_t_distance, .ref a_t_line])), (a_t_s, .inl (Y.1, 41, .inl (upd f_t_s ((25 : Int32) + s3).toNatClampNeg 0))), (a_t_past, .inl (Y.1, 164, .inl f_t_past))] := hD
      refine lv_iinc (v := (s3 + 1)) (lv' := [(3, .int (s3 + 1)), (0, .ref a_t), (1, .int s1), (2, .int s2)]) hx hb dX11_cut_45 hl (k := 3) rfl rfl (by decide) rfl (fun ls hl => ?_)
      refine lv_goto (tgt := 29) hx hb dX11_cut_48 (by decide) ?_
      exact ih _ _ _ _ _ _ _ _ _ _ hf hP hD hS (lv_sub hl [1, 2, 3, 0] rfl) hk
  refine lv_iload_n hx hb dX11_cut_0 rfl (lv_at hl 1 rfl) ?_
  refine lv_iconst (v := 0) hx hb dX11_cut_1 (by decide) ?_
  refine lv_aload_n hx hb dX11_cut_2 rfl (lv_at hl 0 rfl) ?_
  refine va_get (D := D) (ci := 8) (v := .ref a_t_s) (C := RX11) (T := TX11) (N := 18) hx hb hts inX11 hown hE.1 hP 0 rfl rfl 0 (by decide) (hts _ qw761) (fun _ h9 => h9) rfl dX11_cut_3 ?_
  refine lv_iconst (v := 2) hx hb dX11_cut_6 (by decide) ?_
  refine va_iald hx hb hE.1 hP 1 0 rfl rfl (inb_in (by decide)) dX11_cut_7 ?_
  refine af_oz (run_S (As := [.int s1, .int 0, .int (f_t_s (2 : Int32).toNatClampNeg)]) (rest := []) E (c_X11_in l D Y s1 0 (f_t_s (2 : Int32).toNatClampNeg) (f_X11_in s1 0 (f_t_s (2 : Int32).toNatClampNeg)) rfl) qw820 qw821 qw76 qw822 rfl rfl hd_X11_in ⟨Nat.le_of_ble_eq_true rfl, Nat.le_of_ble_eq_true rfl⟩ (pre_roS hP hE [] rfl) rfl hl.1 rfl (Nat.le_of_ble_eq_true rfl) dX11_cut_8 ⟨Nat.zero_le _, Nat.zero_le _⟩) (fun z1 => ?_)
  refine lv_if_ne (tgt := 16) hx hb dX11_cut_11 (by decide) (fun c2 => ?_) (fun c2 => ?_)
  · have hf := ite_f c2 hf
    refine lv_aload_n hx hb dX11_cut_16 rfl (lv_at hl 0 rfl) ?_
    obtain ⟨q3, h4, hf⟩ := bd_s hf
    refine af_v0 (wc := [(a_t, .inr (8, [.ref a_t_s, .ref a_t_past, .ref a_t_kept, .int v_t_isKept, .int v_t_pasts, .ref a_t_pad, .int v_t_typed, .ref a_t_cell, .ref a_t_other, .ref a_t_rows, .int v_t_ends, .ref a_t_read, .int v_t_many, .int v_t_spot, .ref a_t_track, .ref a_t_lead, .ref a_t_distance, .ref a_t_line])), (a_t_s, .inl (Y.1, 41, .inl f_t_s)), (a_t_past, .inl (Y.1, 164, .inl f_t_past))]) (wr := []) (wn := [(a_t, .inr (8, [.ref a_t_s, .ref a_t_past, .ref a_t_kept, .int v_t_isKept, .int q3.1, .ref a_t_pad, .int v_t_typed, .ref a_t_cell, .ref a_t_other, .ref a_t_rows, .int v_t_ends, .ref a_t_read, .int v_t_many, .int v_t_spot, .ref a_t_track, .ref a_t_lead, .ref a_t_distance, .ref a_t_line])), (a_t_s, .inl (Y.1, 41, .inl f_t_s)), (a_t_past, .inl (Y.1, 164, .inl q3.2))]) (run_V (As := []) (rest := []) E (c_X11_changes l D Y a_t a_t_s a_t_past a_t_kept a_t_pad a_t_cell a_t_other a_t_rows a_t_read a_t_track a_t_lead a_t_distance a_t_line v_t_isKept v_t_pasts v_t_typed v_t_ends v_t_many v_t_spot f_t_s f_t_past s.heap.size q3 h4) qw823 qw825 qw22 qw76 qw826 rfl rfl hd_X11_changes ⟨Nat.le_of_ble_eq_true rfl, Nat.le_of_ble_eq_true rfl⟩ (pre_rwV hP hD hE [0, 1, 2] rfl (by decide) rfl (ci := 8) (q0 := 0) rfl rfl) rfl hl.1 rfl (Nat.le_of_ble_eq_true rfl) dX11_cut_17 ⟨Nat.zero_le _, Nat.zero_le _⟩) hP hD hS hA [0, 1, 2] [] [0, 1, 2] rfl rfl (by decide) (by decide) rfl rfl (by decide) (fun H locs  hP hD hS => ?_)
    refine lv_aload_n hx hb dX11_cut_20 rfl (lv_at hl 0 rfl) ?_
    refine va_get (D := D) (ci := 8) (v := .ref a_t_s) (C := RX11) (T := TX11) (N := 18) hx hb hts inX11 hown hE.1 hP 0 rfl rfl 0 (by decide) (hts _ qw761) (fun _ h9 => h9) rfl dX11_cut_21 ?_
    refine lv_iconst (v := 2) hx hb dX11_cut_24 (by decide) ?_
    refine va_iald hx hb hE.1 hP 1 0 rfl rfl (inb_in (by decide)) dX11_cut_25 ?_
    refine nm_W hf (fun x5 hf => ?_)
    refine lv_istore_n (lv' := [(2, .int x5), (0, .ref a_t), (1, .int s1)]) hx hb dX11_cut_26 rfl hl (by decide) rfl (fun ls hl => ?_)
    refine lv_iload_n hx hb dX11_cut_27 rfl (lv_at hl 2 rfl) ?_
    refine lv_istore_n (lv' := [(3, .int s1), (2, .int x5), (0, .ref a_t), (1, .int s1)]) hx hb dX11_cut_28 rfl hl (by decide) rfl (fun ls hl => ?_)
    refine L29 _ _ _ _ _ _ _ _ _ _ _ hf hP hD hS (lv_sub hl [2, 3, 1, 0] rfl) ?_
    intro y8 y9 H locs ls hf hP hD hS hl
    refine lv_aload_n hx hb dX11_cut_51 rfl (lv_at hl 0 rfl) ?_
    refine va_get (D := D) (ci := 8) (v := .ref a_t_s) (C := RX11) (T := TX11) (N := 18) hx hb hts inX11 hown hE.1 hP 0 rfl rfl 0 (by decide) (hts _ qw761) (fun _ h9 => h9) rfl dX11_cut_52 ?_
    refine lv_iconst (v := 2) hx hb dX11_cut_55 (by decide) ?_
    refine lv_iload_n hx hb dX11_cut_56 rfl (lv_at hl 1 rfl) ?_
    refine va_iast hx hb hE.1 hP hD hS 1 0 rfl rfl (inb_in (by decide)) dX11_cut_57 (fun H locs hP hD hS => ?_)
    have hP : va_P D vwCl [(a_t, .inr (8, [.ref a_t_s, .ref a_t_past, .ref a_t_kept, .int v_t_isKept, .int q3.1, .ref a_t_pad, .int v_t_typed, .ref a_t_cell, .ref a_t_other, .ref a_t_rows, .int v_t_ends, .ref a_t_read, .int v_t_many, .int v_t_spot, .ref a_t_track, .ref a_t_lead, .ref a_t_distance, .ref a_t_line])), (a_t_s, .inl (Y.1, 41, .inl (upd y9 (2 : Int32).toNatClampNeg s1))), (a_t_past, .inl (Y.1, 164, .inl q3.2))] H := hP
    have hD : va_D A [(a_t, .inr (8, [.ref a_t_s, .ref a_t_past, .ref a_t_kept, .int v_t_isKept, .int q3.1, .ref a_t_pad, .int v_t_typed, .ref a_t_cell, .ref a_t_other, .ref a_t_rows, .int v_t_ends, .ref a_t_read, .int v_t_many, .int v_t_spot, .ref a_t_track, .ref a_t_lead, .ref a_t_distance, .ref a_t_line])), (a_t_s, .inl (Y.1, 41, .inl (upd y9 (2 : Int32).toNatClampNeg s1))), (a_t_past, .inl (Y.1, 164, .inl q3.2))] := hD
    refine lv_iload_n hx hb dX11_cut_58 rfl (lv_at hl 2 rfl) ?_
    obtain rfl := Option.some.inj hf
    subst hQ
    exact en_i hx hb hr hlocks hP hD hS rfl dX11_cut_59
  have hf := ite_t c2 hf
  refine lv_iconst (v := (-1)) hx hb dX11_cut_14 (by decide) ?_
  obtain rfl := Option.some.inj hf
  subst hQ
  exact en_i hx hb hr hlocks hP hD hS rfl dX11_cut_15

def f_X11_append (s1 : Int32) (v_t_typed : Int32) (f_t_pad : Nat → Int32) : Option (Int32 × Int32 × (Nat → Int32)) :=
  (if (f_X11_in s1 33 126) = 0 then some ((-1), v_t_typed, f_t_pad) else (if v_t_typed = 80 then some ((-3), v_t_typed, f_t_pad) else gd (inb v_t_typed 80) (nm (v_t_typed + 1) (fun (x5 : Int32) => some (x5, x5, (upd f_t_pad v_t_typed.toNatClampNeg s1))))))
abbrev rm_X11_append : Room := { frames := 2, cells := 0, slots := 0, locals := 46 }
set_option maxHeartbeats 4000000 in
set_option maxRecDepth 100000 in
theorem c_X11_append (l : Launch) (D : va_G) (Y : ClassId × ClassId × ClassId) (a_t a_t_s a_t_past a_t_kept a_t_pad a_t_cell a_t_other a_t_rows a_t_read a_t_track a_t_lead a_t_distance a_t_line : Nat) (v_t_isKept : Int32) (v_t_pasts : Int32) (v_t_typed : Int32) (v_t_ends : Int32) (v_t_many : Int32) (v_t_spot : Int32) (f_t_pad : Nat → Int32) (s1 : Int32) (sz : Nat) (R : Int32 × Int32 × (Nat → Int32)) (hf : f_X11_append s1 v_t_typed f_t_pad = some R) : Met l yX11_append (ws_ yX11_append cX11_append 2 (some .int)) rm_X11_append (va_Pc [.ref a_t, .int s1] (RW D Y sz [(a_t, .inr (8, [.ref a_t_s, .ref a_t_past, .ref a_t_kept, .int v_t_isKept, .int v_t_pasts, .ref a_t_pad, .int v_t_typed, .ref a_t_cell, .ref a_t_other, .ref a_t_rows, .int v_t_ends, .ref a_t_read, .int v_t_many, .int v_t_spot, .ref a_t_track, .ref a_t_lead, .ref a_t_distance, .ref a_t_line])), (a_t_pad, .inl (Y.1, 80, .inl f_t_pad))])) (QI D R.1 [(a_t, .inr (8, [.ref a_t_s, .ref a_t_past, .ref a_t_kept, .int v_t_isKept, .int v_t_pasts, .ref a_t_pad, .int R.2.1, .ref a_t_cell, .ref a_t_other, .ref a_t_rows, .int v_t_ends, .ref a_t_read, .int v_t_many, .int v_t_spot, .ref a_t_track, .ref a_t_lead, .ref a_t_distance, .ref a_t_line])), (a_t_pad, .inl (Y.1, 80, .inl R.2.2))] (va_A [(a_t, .inr (8, [.ref a_t_s, .ref a_t_past, .ref a_t_kept, .int v_t_isKept, .int v_t_pasts, .ref a_t_pad, .int v_t_typed, .ref a_t_cell, .ref a_t_other, .ref a_t_rows, .int v_t_ends, .ref a_t_read, .int v_t_many, .int v_t_spot, .ref a_t_track, .ref a_t_lead, .ref a_t_distance, .ref a_t_line])), (a_t_pad, .inl (Y.1, 80, .inl f_t_pad))] sz)) 0 0 (va_A [(a_t, .inr (8, [.ref a_t_s, .ref a_t_past, .ref a_t_kept, .int v_t_isKept, .int v_t_pasts, .ref a_t_pad, .int v_t_typed, .ref a_t_cell, .ref a_t_other, .ref a_t_rows, .int v_t_ends, .ref a_t_read, .int v_t_many, .int v_t_spot, .ref a_t_track, .ref a_t_lead, .ref a_t_distance, .ref a_t_line])), (a_t_pad, .inl (Y.1, 80, .inl f_t_pad))] sz) := by
  refine rw_start (Qc := fun A => QI D R.1 [(a_t, .inr (8, [.ref a_t_s, .ref a_t_past, .ref a_t_kept, .int v_t_isKept, .int v_t_pasts, .ref a_t_pad, .int R.2.1, .ref a_t_cell, .ref a_t_other, .ref a_t_rows, .int v_t_ends, .ref a_t_read, .int v_t_many, .int v_t_spot, .ref a_t_track, .ref a_t_lead, .ref a_t_distance, .ref a_t_line])), (a_t_pad, .inl (Y.1, 80, .inl R.2.2))] A) (by decide) (Nat.le_of_ble_eq_true rfl) ?_
  intro p e s m below meth c ls A hx hb hml hr hlocks hown hts hnm hA hP hD hS hE hl
  generalize hargs : List.toArray _ = args at hts ⊢
  have hown : s.vm.findClass RX11 = some m.cls := hown
  have E : EN p m c cX11_append 2 s args RX11 := ⟨hx, hb, hml, hown, hts⟩
  have hl : lv_has ls 2 [(0, .ref a_t), (1, .int s1)] := hl
  generalize hQ : MQ below _ args s 0 0 _ = Q
  unfold f_X11_append at hf
  refine lv_iload_n hx hb dX11_append_0 rfl (lv_at hl 1 rfl) ?_
  refine lv_bipush (v := 33) hx hb dX11_append_1 (by decide) ?_
  refine lv_bipush (v := 126) hx hb dX11_append_3 (by decide) ?_
  refine af_oz (run_S (As := [.int s1, .int 33, .int 126]) (rest := []) E (c_X11_in l D Y s1 33 126 (f_X11_in s1 33 126) rfl) qw820 qw821 qw76 qw822 rfl rfl hd_X11_in ⟨Nat.le_of_ble_eq_true rfl, Nat.le_of_ble_eq_true rfl⟩ (pre_roS hP hE [] rfl) rfl hl.1 rfl (Nat.le_of_ble_eq_true rfl) dX11_append_5 ⟨Nat.zero_le _, Nat.zero_le _⟩) (fun z1 => ?_)
  refine lv_if_ne (tgt := 13) hx hb dX11_append_8 (by decide) (fun c2 => ?_) (fun c2 => ?_)
  · have hf := ite_f c2 hf
    refine lv_aload_n hx hb dX11_append_13 rfl (lv_at hl 0 rfl) ?_
    refine va_get (D := D) (ci := 8) (v := .int v_t_typed) (C := RX11) (T := TX11) (N := 18) hx hb hts inX11 hown hE.1 hP 0 rfl rfl 6 (by decide) (hts _ qw767) (fun _ h9 => h9) rfl dX11_append_14 ?_
    refine lv_bipush (v := 80) hx hb dX11_append_17 (by decide) ?_
    refine lv_icmp_ne (tgt := 25) hx hb dX11_append_19 (by decide) (fun c3 => ?_) (fun c3 => ?_)
    · have hf := ite_f c3 hf
      refine lv_aload_n hx hb dX11_append_25 rfl (lv_at hl 0 rfl) ?_
      refine va_get (D := D) (ci := 8) (v := .ref a_t_pad) (C := RX11) (T := TX11) (N := 18) hx hb hts inX11 hown hE.1 hP 0 rfl rfl 5 (by decide) (hts _ qw766) (fun _ h9 => h9) rfl dX11_append_26 ?_
      refine lv_aload_n hx hb dX11_append_29 rfl (lv_at hl 0 rfl) ?_
      refine va_get (D := D) (ci := 8) (v := .int v_t_typed) (C := RX11) (T := TX11) (N := 18) hx hb hts inX11 hown hE.1 hP 0 rfl rfl 6 (by decide) (hts _ qw767) (fun _ h9 => h9) rfl dX11_append_30 ?_
      refine lv_iload_n hx hb dX11_append_33 rfl (lv_at hl 1 rfl) ?_
      obtain ⟨g4, hf⟩ := gd_s hf
      refine va_iast hx hb hE.1 hP hD hS 1 0 rfl rfl (inb_in g4) dX11_append_34 (fun H locs hP hD hS => ?_)
      have hP : va_P D vwCl [(a_t, .inr (8, [.ref a_t_s, .ref a_t_past, .ref a_t_kept, .int v_t_isKept, .int v_t_pasts, .ref a_t_pad, .int v_t_typed, .ref a_t_cell, .ref a_t_other, .ref a_t_rows, .int v_t_ends, .ref a_t_read, .int v_t_many, .int v_t_spot, .ref a_t_track, .ref a_t_lead, .ref a_t_distance, .ref a_t_line])), (a_t_pad, .inl (Y.1, 80, .inl (upd f_t_pad v_t_typed.toNatClampNeg s1)))] H := hP
      have hD : va_D A [(a_t, .inr (8, [.ref a_t_s, .ref a_t_past, .ref a_t_kept, .int v_t_isKept, .int v_t_pasts, .ref a_t_pad, .int v_t_typed, .ref a_t_cell, .ref a_t_other, .ref a_t_rows, .int v_t_ends, .ref a_t_read, .int v_t_many, .int v_t_spot, .ref a_t_track, .ref a_t_lead, .ref a_t_distance, .ref a_t_line])), (a_t_pad, .inl (Y.1, 80, .inl (upd f_t_pad v_t_typed.toNatClampNeg s1)))] := hD
      refine lv_aload_n hx hb dX11_append_35 rfl (lv_at hl 0 rfl) ?_
      refine lv_dup hx hb dX11_append_36 rfl ?_
      refine va_get (D := D) (ci := 8) (v := .int v_t_typed) (C := RX11) (T := TX11) (N := 18) hx hb hts inX11 hown hE.1 hP 0 rfl rfl 6 (by decide) (hts _ qw767) (fun _ h9 => h9) rfl dX11_append_37 ?_
      refine lv_iconst (v := 1) hx hb dX11_append_40 (by decide) ?_
      refine lv_iadd hx hb dX11_append_41 ?_
      refine nm_W hf (fun x5 hf => ?_)
      refine va_put (D := D) (ci := 8) (v := .int x5) (ty := .int) (C := RX11) (T := TX11) (N := 18) hx hb hts inX11 tyX11 tyX11_ok nmX11 hown hE.1 hP hD hS 0 rfl rfl 6 (by decide) (hts _ qw767) (fun _ h9 => h9) rfl (tyX11_ok 6 (by decide)) rfl rfl (Nat.le_of_ble_eq_true rfl) dX11_append_42 (fun H locs hP hD hS => ?_)
      have hP : va_P D vwCl [(a_t, .inr (8, [.ref a_t_s, .ref a_t_past, .ref a_t_kept, .int v_t_isKept, .int v_t_pasts, .ref a_t_pad, .int x5, .ref a_t_cell, .ref a_t_other, .ref a_t_rows, .int v_t_ends, .ref a_t_read, .int v_t_many, .int v_t_spot, .ref a_t_track, .ref a_t_lead, .ref a_t_distance, .ref a_t_line])), (a_t_pad, .inl (Y.1, 80, .inl (upd f_t_pad v_t_typed.toNatClampNeg s1)))] H := hP
      have hD : va_D A [(a_t, .inr (8, [.ref a_t_s, .ref a_t_past, .ref a_t_kept, .int v_t_isKept, .int v_t_pasts, .ref a_t_pad, .int x5, .ref a_t_cell, .ref a_t_other, .ref a_t_rows, .int v_t_ends, .ref a_t_read, .int v_t_many, .int v_t_spot, .ref a_t_track, .ref a_t_lead, .ref a_t_distance, .ref a_t_line])), (a_t_pad, .inl (Y.1, 80, .inl (upd f_t_pad v_t_typed.toNatClampNeg s1)))] := hD
      refine lv_aload_n hx hb dX11_append_45 rfl (lv_at hl 0 rfl) ?_
      refine va_get (D := D) (ci := 8) (v := .int x5) (C := RX11) (T := TX11) (N := 18) hx hb hts inX11 hown hE.1 hP 0 rfl rfl 6 (by decide) (hts _ qw767) (fun _ h9 => h9) rfl dX11_append_46 ?_
      obtain rfl := Option.some.inj hf
      subst hQ
      exact en_i hx hb hr hlocks hP hD hS rfl dX11_append_49
    have hf := ite_t c3 hf
    refine lv_bipush (v := (-3)) hx hb dX11_append_22 (by decide) ?_
    obtain rfl := Option.some.inj hf
    subst hQ
    exact en_i hx hb hr hlocks hP hD hS rfl dX11_append_24
  have hf := ite_t c2 hf
  refine lv_iconst (v := (-1)) hx hb dX11_append_11 (by decide) ?_
  obtain rfl := Option.some.inj hf
  subst hQ
  exact en_i hx hb hr hlocks hP hD hS rfl dX11_append_12
