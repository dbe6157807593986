def f_X11_in (s0 : Int32) (s1 : Int32) (s2 : Int32) : Int32 :=
  (if s0 < s1 then 0 else (if s2 < s0 then 0 else 1))
abbrev rm_X11_in : Room := { frames := 1, cells := 0, slots := 0, locals := 24 }
set_option maxHeartbeats 4000000 in
set_option maxRecDepth 100000 in
theorem c_X11_in (l : Launch) (D : va_G) (Y : ClassId × ClassId × ClassId) (s0 : Int32) (s1 : Int32) (s2 : Int32) (R : Int32) (hf : f_X11_in s0 s1 s2 = R) : Met l yX11_in (ws_ yX11_in cX11_in 3 (some .boolean)) rm_X11_in (va_Pc [.int s0, .int s1, .int s2] (RO D Y [])) (OZ R) 0 0 (fun _ => False) := by
  refine ro_start (by decide) (Nat.le_of_ble_eq_true rfl) ?_
  intro p e s m below meth c ls hx hb hml hr hlocks hown hts hP hE hl
  generalize hargs : List.toArray _ = args at hts ⊢
  have hown : s.vm.findClass RX11 = some m.cls := hown
  have E : EN p m c cX11_in 3 s args RX11 := ⟨hx, hb, hml, hown, hts⟩
  have hl : lv_has ls 3 [(0, .int s0), (1, .int s1), (2, .int s2)] := hl
  generalize hQ : MQ below _ args s 0 0 _ = Q
  unfold f_X11_in at hf
  refine lv_iload_n hx hb dX11_in_0 rfl (lv_at hl 0 rfl) ?_
  refine lv_iload_n hx hb dX11_in_1 rfl (lv_at hl 1 rfl) ?_
  refine lv_icmp_lt (tgt := 14) hx hb dX11_in_2 (by decide) (fun c1 => ?_) (fun c1 => ?_)
  · have hf := ite_t c1 hf
    refine lv_iconst (v := 0) hx hb dX11_in_14 (by decide) ?_
    subst hf
    subst hQ
    exact en_oz hx hb hr hlocks rfl (Or.inl rfl) dX11_in_15
  have hf := ite_f c1 hf
  refine lv_iload_n hx hb dX11_in_5 rfl (lv_at hl 0 rfl) ?_
  refine lv_iload_n hx hb dX11_in_6 rfl (lv_at hl 2 rfl) ?_
  refine lv_icmp_gt (tgt := 14) hx hb dX11_in_7 (by decide) (fun c2 => ?_) (fun c2 => ?_)
  · have hf := ite_t c2 hf
    refine lv_iconst (v := 0) hx hb dX11_in_14 (by decide) ?_
    subst hf
    subst hQ
    exact en_oz hx hb hr hlocks rfl (Or.inl rfl) dX11_in_15
  have hf := ite_f c2 hf
  refine lv_iconst (v := 1) hx hb dX11_in_10 (by decide) ?_
  refine lv_goto (tgt := 15) hx hb dX11_in_11 (by decide) ?_
  subst hf
  subst hQ
  exact en_oz hx hb hr hlocks rfl (Or.inr rfl) dX11_in_15

def f_X11_changes_L49 (k : Int32 → (Nat → Int32) → Option (Int32 × (Nat → Int32))) (v_t_pasts : Int32) (f_t_s : Nat → Int32) : Nat → Int32 → (Nat → Int32) → Option (Int32 × (Nat → Int32))
  | 0, _, _ => none
  | n + 1, s1, f_t_past => (if (41 : Int32) ≤ s1 then (k s1 f_t_past) else gd (inb s1 41) (gd (inb (((41 : Int32) * v_t_pasts) + s1) 164) ((f_X11_changes_L49 k v_t_pasts f_t_s n (s1 + 1) (upd f_t_past (((41 : Int32) * v_t_pasts) + s1).toNatClampNeg (f_t_s s1.toNatClampNeg))))))
def f_X11_changes_L10 (k : Int32 → (Nat → Int32) → Option (Int32 × (Nat → Int32))) (v_t_pasts : Int32) (f_t_s : Nat → Int32) : Nat → Int32 → (Nat → Int32) → Option (Int32 × (Nat → Int32))
  | 0, _, _ => none
  | n + 1, s1, f_t_past => (if (123 : Int32) ≤ s1 then (k s1 f_t_past) else gd (inb (s1 + 41) 164) (gd (inb s1 164) ((f_X11_changes_L10 k v_t_pasts f_t_s n (s1 + 1) (upd f_t_past s1.toNatClampNeg (f_t_past (s1 + 41).toNatClampNeg))))))
def f_X11_changes (v_t_pasts : Int32) (f_t_s : Nat → Int32) (f_t_past : Nat → Int32) : Option (Int32 × (Nat → Int32)) :=
  (if v_t_pasts = 4 then (f_X11_changes_L10 (fun (y11 : Int32) (y12 : Nat → Int32) => nm (v_t_pasts - 1) (fun (x13 : Int32) => (f_X11_changes_L49 (fun (y14 : Int32) (y15 : Nat → Int32) => nm (x13 + 1) (fun (x16 : Int32) => some (x16, y15))) x13 f_t_s fu 0 y12))) v_t_pasts f_t_s fu 0 f_t_past) else (f_X11_changes_L49 (fun (y5 : Int32) (y6 : Nat → Int32) => nm (v_t_pasts + 1) (fun (x7 : Int32) => some (x7, y6))) v_t_pasts f_t_s fu 0 f_t_past))
abbrev rm_X11_changes : Room := { frames := 1, cells := 0, slots := 0, locals := 24 }
set_option maxHeartbeats 4000000 in
set_option maxRecDepth 100000 in
theorem c_X11_changes (l : Launch) (D : va_G) (Y : ClassId × ClassId × ClassId) (a_t a_t_s a_t_past a_t_kept a_t_pad a_t_cell a_t_other a_t_rows a_t_read a_t_track a_t_lead a_t_distance a_t_line : Nat) (v_t_isKept : Int32) (v_t_pasts : Int32) (v_t_typed : Int32) (v_t_ends : Int32) (v_t_many : Int32) (v_t_spot : Int32) (f_t_s : Nat → Int32) (f_t_past : Nat → Int32) (sz : Nat) (R : Int32 × (Nat → Int32)) (hf : f_X11_changes v_t_pasts f_t_s f_t_past = some R) : Met l yX11_changes (ws_ yX11_changes cX11_changes 2 none) rm_X11_changes (va_Pc [.ref a_t] (RW D Y sz [(a_t, .inr (8, [.ref a_t_s, .ref a_t_past, .ref a_t_kept, .int v_t_isKept, .int v_t_pasts, .ref a_t_pad, .int v_t_typed, .ref a_t_cell, .ref a_t_other, .ref a_t_rows, .int v_t_ends, .ref a_t_read, .int v_t_many, .int v_t_spot, .ref a_t_track, .ref a_t_lead, .ref a_t_distance, .ref a_t_line])), (a_t_s, .inl (Y.1, 41, .inl f_t_s)), (a_t_past, .inl (Y.1, 164, .inl f_t_past))])) (QV D [(a_t, .inr (8, [.ref a_t_s, .ref a_t_past, .ref a_t_kept, .int v_t_isKept, .int R.1, .ref a_t_pad, .int v_t_typed, .ref a_t_cell, .ref a_t_other, .ref a_t_rows, .int v_t_ends, .ref a_t_read, .int v_t_many, .int v_t_spot, .ref a_t_track, .ref a_t_lead, .ref a_t_distance, .ref a_t_line])), (a_t_s, .inl (Y.1, 41, .inl f_t_s)), (a_t_past, .inl (Y.1, 164, .inl R.2))] (va_A [(a_t, .inr (8, [.ref a_t_s, .ref a_t_past, .ref a_t_kept, .int v_t_isKept, .int v_t_pasts, .ref a_t_pad, .int v_t_typed, .ref a_t_cell, .ref a_t_other, .ref a_t_rows, .int v_t_ends, .ref a_t_read, .int v_t_many, .int v_t_spot, .ref a_t_track, .ref a_t_lead, .ref a_t_distance, .ref a_t_line])), (a_t_s, .inl (Y.1, 41, .inl f_t_s)), (a_t_past, .inl (Y.1, 164, .inl f_t_past))] sz)) 0 0 (va_A [(a_t, .inr (8, [.ref a_t_s, .ref a_t_past, .ref a_t_kept, .int v_t_isKept, .int v_t_pasts, .ref a_t_pad, .int v_t_typed, .ref a_t_cell, .ref a_t_other, .ref a_t_rows, .int v_t_ends, .ref a_t_read, .int v_t_many, .int v_t_spot, .ref a_t_track, .ref a_t_lead, .ref a_t_distance, .ref a_t_line])), (a_t_s, .inl (Y.1, 41, .inl f_t_s)), (a_t_past, .inl (Y.1, 164, .inl f_t_past))] sz) := by
  refine rw_start (Qc := fun A => QV D [(a_t, .inr (8, [.ref a_t_s, .ref a_t_past, .ref a_t_kept, .int v_t_isKept, .int R.1, .ref a_t_pad, .int v_t_typed, .ref a_t_cell, .ref a_t_other, .ref a_t_rows, .int v_t_ends, .ref a_t_read, .int v_t_many, .int v_t_spot, .ref a_t_track, .ref a_t_lead, .ref a_t_distance, .ref a_t_line])), (a_t_s, .inl (Y.1, 41, .inl f_t_s)), (a_t_past, .inl (Y.1, 164, .inl R.2))] A) (by decide) (Nat.le_of_ble_eq_true rfl) ?_
  intro p e s m below meth c ls A hx hb hml hr hlocks hown hts hnm hA hP hD hS hE hl
  generalize hargs : List.toArray _ = args at hts ⊢
  have hown : s.vm.findClass RX11 = some m.cls := hown
  have E : EN p m c cX11_changes 2 s args RX11 := ⟨hx, hb, hml, hown, hts⟩
  have hl : lv_has ls 2 [(0, .ref a_t)] := hl
  generalize hQ : MQ below _ args s 0 0 _ = Q
  unfold f_X11_changes at hf
  have L49 : ∀ (n : Nat) (k : Int32 → (Nat → Int32) → Option (Int32 × (Nat → Int32))) (v_t_pasts : Int32) (s1 : Int32) (f_t_past : Nat → Int32) (H : Heap) (locs : List Loc) (ls : Array Slot), f_X11_changes_L49 k v_t_pasts f_t_s n s1 f_t_past = some R → va_P D vwCl [(a_t, .inr (8, [.ref a_t_s, .ref a_t_past, .ref a_t_kept, .int v_t_isKept, .int v_t_pasts, .ref a_t_pad, .int v_t_typed, .ref a_t_cell, .ref a_t_other, .ref a_t_rows, .int v_t_ends, .ref a_t_read, .int v_t_many, .int v_t_spot, .ref a_t_track, .ref a_t_lead, .ref a_t_distance, .ref a_t_line])), (a_t_s, .inl (Y.1, 41, .inl f_t_s)), (a_t_past, .inl (Y.1, 164, .inl f_t_past))] H → va_D A [(a_t, .inr (8, [.ref a_t_s, .ref a_t_past, .ref a_t_kept, .int v_t_isKept, .int v_t_pasts, .ref a_t_pad, .int v_t_typed, .ref a_t_cell, .ref a_t_other, .ref a_t_rows, .int v_t_ends, .ref a_t_read, .int v_t_many, .int v_t_spot, .ref a_t_track, .ref a_t_lead, .ref a_t_distance, .ref a_t_line])), (a_t_s, .inl (Y.1, 41, .inl f_t_s)), (a_t_past, .inl (Y.1, 164, .inl f_t_past))] → va_S A s.heap H locs → lv_has ls 2 [(0, .ref a_t), (1, .int s1)] → (∀ (y_s1 : Int32) (y_f_t_past : Nat → Int32) (H : Heap) (locs : List Loc) (ls : Array Slot), k y_s1 y_f_t_past = some R → va_P D vwCl [(a_t, .inr (8, [.ref a_t_s, .ref a_t_past, .ref a_t_kept, .int v_t_isKept, .int v_t_pasts, .ref a_t_pad, .int v_t_typed, .ref a_t_cell, .ref a_t_other, .ref a_t_rows, .int v_t_ends, .ref a_t_read, .int v_t_many, .int v_t_spot, .ref a_t_track, .ref a_t_lead, .ref a_t_distance, .ref a_t_line])), (a_t_s, .inl (Y.1, 41, .inl f_t_s)), (a_t_past, .inl (Y.1, 164, .inl y_f_t_past))] H → va_D A [(a_t, .inr (8, [.ref a_t_s, .ref a_t_past, .ref a_t_kept, .int v_t_isKept, .int v_t_pasts, .ref a_t_pad, .int v_t_typed, .ref a_t_cell, .ref a_t_other, .ref a_t_rows, .int v_t_ends, .ref a_t_read, .int v_t_many, .int v_t_spot, .ref a_t_track, .ref a_t_lead, .ref a_t_distance, .ref a_t_line])), (a_t_s, .inl (Y.1, 41, .inl f_t_s)), (a_t_past, .inl (Y.1, 164, .inl y_f_t_past))] → va_S A s.heap H locs → lv_has ls 2 [(0, .ref a_t)] → W p l e rm_X11_changes s m args below meth c H locs 0 0 Q (F0 m 81 ls [])) → W p l e rm_X11_changes s m args below meth c H locs 0 0 Q (F0 m 49 ls []) := by
    intro n
    induction n with
    | zero =>
      intro k v_t_pasts s1 f_t_past H locs ls hf
      cases hf
    | succ n ih =>
      intro k v_t_pasts s1 f_t_past H locs ls hf hP hD hS hl hk
      unfold f_X11_changes_L49 at hf
      refine lv_iload_n hx hb dX11_changes_49 rfl (lv_at hl 1 rfl) ?_
      refine lv_bipush (v := 41) hx hb dX11_changes_50 (by decide) ?_
      refine lv_icmp_ge (tgt := 81) hx hb dX11_changes_52 (by decide) (fun c2 => ?_) (fun c2 => ?_)
      · have hf := ite_t c2 hf
        exact hk _ _ _ _ _ hf hP hD hS (lv_sub hl [0] rfl)
      have hf := ite_f c2 hf
      refine lv_aload_n hx hb dX11_changes_55 rfl (lv_at hl 0 rfl) ?_
      refine va_get (D := D) (ci := 8) (v := .ref a_t_past) (C := RX11) (T := TX11) (N := 18) hx hb hts inX11 hown hE.1 hP 0 rfl rfl 1 (by decide) (hts _ qw762) (fun _ h9 => h9) rfl dX11_changes_56 ?_
      refine lv_bipush (v := 41) hx hb dX11_changes_59 (by decide) ?_
      refine lv_aload_n hx hb dX11_changes_61 rfl (lv_at hl 0 rfl) ?_
      refine va_get (D := D) (ci := 8) (v := .int v_t_pasts) (C := RX11) (T := TX11) (N := 18) hx hb hts inX11 hown hE.1 hP 0 rfl rfl 4 (by decide) (hts _ qw765) (fun _ h9 => h9) rfl dX11_changes_62 ?_
      refine lv_imul hx hb dX11_changes_65 ?_
      refine lv_iload_n hx hb dX11_changes_66 rfl (lv_at hl 1 rfl) ?_
      refine lv_iadd hx hb dX11_changes_67 ?_
      refine lv_aload_n hx hb dX11_changes_68 rfl (lv_at hl 0 rfl) ?_
      refine va_get (D := D) (ci := 8) (v := .ref a_t_s) (C := RX11) (T := TX11) (N := 18) hx hb hts inX11 hown hE.1 hP 0 rfl rfl 0 (by decide) (hts _ qw761) (fun _ h9 => h9) rfl dX11_changes_69 ?_
      refine lv_iload_n hx hb dX11_changes_72 rfl (lv_at hl 1 rfl) ?_
      obtain ⟨g3, hf⟩ := gd_s hf
      refine va_iald hx hb hE.1 hP 1 0 rfl rfl (inb_in g3) dX11_changes_73 ?_
      obtain ⟨g4, hf⟩ := gd_s hf
      refine va_iast hx hb hE.1 hP hD hS 2 0 rfl rfl (inb_in g4) dX11_changes_74 (fun H locs hP hD hS => ?_)
      have hP : va_P D vwCl [(a_t, .inr (8, [.ref a_t_s, .ref a_t_past, .ref a_t_kept, .int v_t_isKept, .int v_t_pasts, .ref a_t_pad, .int v_t_typed, .ref a_t_cell, .ref a_t_other, .ref a_t_rows, .int v_t_ends, .ref a_t_read, .int v_t_many, .int v_t_spot, .ref a_t_track, .ref a_t_lead, .ref a_t_distance, .ref a_t_line])), (a_t_s, .inl (Y.1, 41, .inl f_t_s)), (a_t_past, .inl (Y.1, 164, .inl (upd f_t_past (((41 : Int32) * v_t_pasts) + s1).toNatClampNeg (f_t_s s1.toNatClampNeg))))] H := hP
      have hD : va_D A [(a_t, .inr (8, [.ref a_t_s, .ref a_t_past, .ref a_t_kept, .int v_t_isKept, .int v_t_pasts, .ref a_t_pad, .int v_t_typed, .ref a_t_cell, .ref a_t_other, .ref a_t_rows, .int v_t_ends, .ref a_t_read, .int v_t_many, .int v_t_spot, .ref a_t_track, .ref a_t_lead, .ref a_t_distance, .ref a_t_line])), (a_t_s, .inl (Y.1, 41, .inl f_t_s)), (a_t_past, .inl (Y.1, 164, .inl (upd f_t_past (((41 : Int32) * v_t_pasts) + s1).toNatClampNeg (f_t_s s1.toNatClampNeg))))] := hD
      refine lv_iinc (v := (s1 + 1)) (lv' := [(1, .int (s1 + 1)), (0, .ref a_t)]) hx hb dX11_changes_75 hl (k := 1) rfl rfl (by decide) rfl (fun ls hl => ?_)
      refine lv_goto (tgt := 49) hx hb dX11_changes_78 (by decide) ?_
      exact ih _ _ _ _ _ _ _ hf hP hD hS (lv_sub hl [1, 0] rfl) hk
  have L10 : ∀ (n : Nat) (k : Int32 → (Nat → Int32) → Option (Int32 × (Nat → Int32))) (v_t_pasts : Int32) (s1 : Int32) (f_t_past : Nat → Int32) (H : Heap) (locs : List Loc) (ls : Array Slot), f_X11_changes_L10 k v_t_pasts f_t_s n s1 f_t_past = some R → va_P D vwCl [(a_t, .inr (8, [.ref a_t_s, .ref a_t_past, .ref a_t_kept, .int v_t_isKept, .int v_t_pasts, .ref a_t_pad, .int v_t_typed, .ref a_t_cell, .ref a_t_other, .ref a_t_rows, .int v_t_ends, .ref a_t_read, .int v_t_many, .int v_t_spot, .ref a_t_track, .ref a_t_lead, .ref a_t_distance, .ref a_t_line])), (a_t_s, .inl (Y.1, 41, .inl f_t_s)), (a_t_past, .inl (Y.1, 164, .inl f_t_past))] H → va_D A [(a_t, .inr (8, [.ref a_t_s, .ref a_t_past, .ref a_t_kept, .int v_t_isKept, .int v_t_pasts, .ref a_t_pad, .int v_t_typed, .ref a_t_cell, .ref a_t_other, .ref a_t_rows, .int v_t_ends, .ref a_t_read, .int v_t_many, .int v_t_spot, .ref a_t_track, .ref a_t_lead, .ref a_t_distance, .ref a_t_line])), (a_t_s, .inl (Y.1, 41, .inl f_t_s)), (a_t_past, .inl (Y.1, 164, .inl f_t_past))] → va_S A s.heap H locs → lv_has ls 2 [(0, .ref a_t), (1, .int s1)] → (∀ (y_s1 : Int32) (y_f_t_past : Nat → Int32) (H : Heap) (locs : List Loc) (ls : Array Slot), k y_s1 y_f_t_past = some R → va_P D vwCl [(a_t, .inr (8, [.ref a_t_s, .ref a_t_past, .ref a_t_kept, .int v_t_isKept, .int v_t_pasts, .ref a_t_pad, .int v_t_typed, .ref a_t_cell, .ref a_t_other, .ref a_t_rows, .int v_t_ends, .ref a_t_read, .int v_t_many, .int v_t_spot, .ref a_t_track, .ref a_t_lead, .ref a_t_distance, .ref a_t_line])), (a_t_s, .inl (Y.1, 41, .inl f_t_s)), (a_t_past, .inl (Y.1, 164, .inl y_f_t_past))] H → va_D A [(a_t, .inr (8, [.ref a_t_s, .ref a_t_past, .ref a_t_kept, .int v_t_isKept, .int v_t_pasts, .ref a_t_pad, .int v_t_typed, .ref a_t_cell, .ref a_t_other, .ref a_t_rows, .int v_t_ends, .ref a_t_read, .int v_t_many, .int v_t_spot, .ref a_t_track, .ref a_t_lead, .ref a_t_distance, .ref a_t_line])), (a_t_s, .inl (Y.1, 41, .inl f_t_s)), (a_t_past, .inl (Y.1, 164, .inl y_f_t_past))] → va_S A s.heap H locs → lv_has ls 2 [(0, .ref a_t)] → W p l e rm_X11_changes s m args below meth c H locs 0 0 Q (F0 m 37 ls [])) → W p l e rm_X11_changes s m args below meth c H locs 0 0 Q (F0 m 10 ls []) := by
    intro n
    induction n with
    | zero =>
      intro k v_t_pasts s1 f_t_past H locs ls hf
      cases hf
    | succ n ih =>
      intro k v_t_pasts s1 f_t_past H locs ls hf hP hD hS hl hk
      unfold f_X11_changes_L10 at hf
      refine lv_iload_n hx hb dX11_changes_10 rfl (lv_at hl 1 rfl) ?_
      refine lv_bipush (v := 123) hx hb dX11_changes_11 (by decide) ?_
      refine lv_icmp_ge (tgt := 37) hx hb dX11_changes_13 (by decide) (fun c8 => ?_) (fun c8 => ?_)
      · have hf := ite_t c8 hf
        exact hk _ _ _ _ _ hf hP hD hS (lv_sub hl [0] rfl)
      have hf := ite_f c8 hf
      refine lv_aload_n hx hb dX11_changes_16 rfl (lv_at hl 0 rfl) ?_
      refine va_get (D := D) (ci := 8) (v := .ref a_t_past) (C := RX11) (T := TX11) (N := 18) hx hb hts inX11 hown hE.1 hP 0 rfl rfl 1 (by decide) (hts _ qw762) (fun _ h9 => h9) rfl dX11_changes_17 ?_
      refine lv_iload_n hx hb dX11_changes_20 rfl (lv_at hl 1 rfl) ?_
      refine lv_aload_n hx hb dX11_changes_21 rfl (lv_at hl 0 rfl) ?_
      refine va_get (D := D) (ci := 8) (v := .ref a_t_past) (C := RX11) (T := TX11) (N := 18) hx hb hts inX11 hown hE.1 hP 0 rfl rfl 1 (by decide) (hts _ qw762) (fun _ h9 => h9) rfl dX11_changes_22 ?_
      refine lv_iload_n hx hb dX11_changes_25 rfl (lv_at hl 1 rfl) ?_
      refine lv_bipush (v := 41) hx hb dX11_changes_26 (by decide) ?_
      refine lv_iadd hx hb dX11_changes_28 ?_
      obtain ⟨g9, hf⟩ := gd_s hf
      refine va_iald hx hb hE.1 hP 2 0 rfl rfl (inb_in g9) dX11_changes_29 ?_
      obtain ⟨g10, hf⟩ := gd_s hf
      refine va_iast hx hb hE.1 hP hD hS 2 0 rfl rfl (inb_in g10) dX11_changes_30 (fun H locs hP hD hS => ?_)
      have hP : va_P D vwCl [(a_t, .inr (8, [.ref a_t_s, .ref a_t_past, .ref a_t_kept, .int v_t_isKept, .int v_t_pasts, .ref a_t_pad, .int v_t_typed, .ref a_t_cell, .ref a_t_other, .ref a_t_rows, .int v_t_ends, .ref a_t_read, .int v_t_many, .int v_t_spot, .ref a_t_track, .ref a_t_lead, .ref a_t_distance, .ref a_t_line])), (a_t_s, .inl (Y.1, 41, .inl f_t_s)), (a_t_past, .inl (Y.1, 164, .inl (upd f_t_past s1.toNatClampNeg (f_t_past (s1 + 41).toNatClampNeg))))] H := hP
      have hD : va_D A [(a_t, .inr (8, [.ref a_t_s, .ref a_t_past, .ref a_t_kept, .int v_t_isKept, .int v_t_pasts, .ref a_t_pad, .int v_t_typed, .ref a_t_cell, .ref a_t_other, .ref a_t_rows, .int v_t_ends, .ref a_t_read, .int v_t_many, .int v_t_spot, .ref a_t_track, .ref a_t_lead, .ref a_t_distance, .ref a_t_line])), (a_t_s, .inl (Y.1, 41, .inl f_t_s)), (a_t_past, .inl (Y.1, 164, .inl (upd f_t_past s1.toNatClampNeg (f_t_past (s1 + 41).toNatClampNeg))))] := hD
      refine lv_iinc (v := (s1 + 1)) (lv' := [(1, .int (s1 + 1)), (0, .ref a_t)]) hx hb dX11_changes_31 hl (k := 1) rfl rfl (by decide) rfl (fun ls hl => ?_)
      refine lv_goto (tgt := 10) hx hb dX11_changes_34 (by decide) ?_
      exact ih _ _ _ _ _ _ _ hf hP hD hS (lv_sub hl [1, 0] rfl) hk
  refine lv_aload_n hx hb dX11_changes_0 rfl (lv_at hl 0 rfl) ?_
  refine va_get (D := D) (ci := 8) (v := .int v_t_pasts) (C := RX11) (T := TX11) (N := 18) hx hb hts inX11 hown hE.1 hP 0 rfl rfl 4 (by decide) (hts _ qw765) (fun _ h9 => h9) rfl dX11_changes_1 ?_
  refine lv_iconst (v := 4) hx hb dX11_changes_4 (by decide) ?_
  refine lv_icmp_ne (tgt := 47) hx hb dX11_changes_5 (by decide) (fun c1 => ?_) (fun c1 => ?_)
  · have hf := ite_f c1 hf
    refine lv_iconst (v := 0) hx hb dX11_changes_47 (by decide) ?_
    refine lv_istore_n (lv' := [(1, .int 0), (0, .ref a_t)]) hx hb dX11_changes_48 rfl hl (by decide) rfl (fun ls hl => ?_)
    refine L49 _ _ _ _ _ _ _ _ hf hP hD hS (lv_sub hl [1, 0] rfl) ?_
    intro y5 y6 H locs ls hf hP hD hS hl
    refine lv_aload_n hx hb dX11_changes_81 rfl (lv_at hl 0 rfl) ?_
    refine lv_dup hx hb dX11_changes_82 rfl ?_
    refine va_get (D := D) (ci := 8) (v := .int v_t_pasts) (C := RX11) (T := TX11) (N := 18) hx hb hts inX11 hown hE.1 hP 0 rfl rfl 4 (by decide) (hts _ qw765) (fun _ h9 => h9) rfl dX11_changes_83 ?_
    refine lv_iconst (v := 1) hx hb dX11_changes_86 (by decide) ?_
    refine lv_iadd hx hb dX11_changes_87 ?_
    refine nm_W hf (fun x7 hf => ?_)
    refine va_put (D := D) (ci := 8) (v := .int x7) (ty := .int) (C := RX11) (T := TX11) (N := 18) hx hb hts inX11 tyX11 tyX11_ok nmX11 hown hE.1 hP hD hS 0 rfl rfl 4 (by decide) (hts _ qw765) (fun _ h9 => h9) rfl (tyX11_ok 4 (by decide)) rfl rfl (Nat.le_of_ble_eq_true rfl) dX11_changes_88 (fun H locs hP hD hS => ?_)
    have hP : va_P D vwCl [(a_t, .inr (8, [.ref a_t_s, .ref a_t_past, .ref a_t_kept, .int v_t_isKept, .int x7, .ref a_t_pad, .int v_t_typed, .ref a_t_cell, .ref a_t_other, .ref a_t_rows, .int v_t_ends, .ref a_t_read, .int v_t_many, .int v_t_spot, .ref a_t_track, .ref a_t_lead, .ref a_t_distance, .ref a_t_line])), (a_t_s, .inl (Y.1, 41, .inl f_t_s)), (a_t_past, .inl (Y.1, 164, .inl y6))] H := hP
    have hD : va_D A [(a_t, .inr (8, [.ref a_t_s, .ref a_t_past, .ref a_t_kept, .int v_t_isKept, .int x7, .ref a_t_pad, .int v_t_typed, .ref a_t_cell, .ref a_t_other, .ref a_t_rows, .int v_t_ends, .ref a_t_read, .int v_t_many, .int v_t_spot, .ref a_t_track, .ref a_t_lead, .ref a_t_distance, .ref a_t_line])), (a_t_s, .inl (Y.1, 41, .inl f_t_s)), (a_t_past, .inl (Y.1, 164, .inl y6))] := hD
    obtain rfl := Option.some.inj hf
    subst hQ
    exact en_v hx hb hr hlocks hP hD hS dX11_changes_91
  have hf := ite_t c1 hf
  refine lv_iconst (v := 0) hx hb dX11_changes_8 (by decide) ?_
  refine lv_istore_n (lv' := [(1, .int 0), (0, .ref a_t)]) hx hb dX11_changes_9 rfl hl (by decide) rfl (fun ls hl => ?_)
  refine L10 _ _ _ _ _ _ _ _ hf hP hD hS (lv_sub hl [1, 0] rfl) ?_
  intro y11 y12 H locs ls hf hP hD hS hl
  refine lv_aload_n hx hb dX11_changes_37 rfl (lv_at hl 0 rfl) ?_
  refine lv_dup hx hb dX11_changes_38 rfl ?_
  refine va_get (D := D) (ci := 8) (v := .int v_t_pasts) (C := RX11) (T := TX11) (N := 18) hx hb hts inX11 hown hE.1 hP 0 rfl rfl 4 (by decide) (hts _ qw765) (fun _ h9 => h9) rfl dX11_changes_39 ?_
  refine lv_iconst (v := 1) hx hb dX11_changes_42 (by decide) ?_
  refine lv_isub hx hb dX11_changes_43 ?_
  refine nm_W hf (fun x13 hf => ?_)
  refine va_put (D := D) (ci := 8) (v := .int x13) (ty := .int) (C := RX11) (T := TX11) (N := 18) hx hb hts inX11 tyX11 tyX11_ok nmX11 hown hE.1 hP hD hS 0 rfl rfl 4 (by decide) (hts _ qw765) (fun _ h9 => h9) rfl (tyX11_ok 4 (by decide)) rfl rfl (Nat.le_of_ble_eq_true rfl) dX11_changes_44 (fun H locs hP hD hS => ?_)
  have hP : va_P D vwCl [(a_t, .inr (8, [.ref a_t_s, .ref a_t_past, .ref a_t_kept, .int v_t_isKept, .int x13, .ref a_t_pad, .int v_t_typed, .ref a_t_cell, .ref a_t_other, .ref a_t_rows, .int v_t_ends, .ref a_t_read, .int v_t_many, .int v_t_spot, .ref a_t_track, .ref a_t_lead, .ref a_t_distance, .ref a_t_line])), (a_t_s, .inl (Y.1, 41, .inl f_t_s)), (a_t_past, .inl (Y.1, 164, .inl y12))] H := hP
  have hD : va_D A [(a_t, .inr (8, [.ref a_t_s, .ref a_t_past, .ref a_t_kept, .int v_t_isKept, .int x13, .ref a_t_pad, .int v_t_typed, .ref a_t_cell, .ref a_t_other, .ref a_t_rows, .int v_t_ends, .ref a_t_read, .int v_t_many, .int v_t_spot, .ref a_t_track, .ref a_t_lead, .ref a_t_distance, .ref a_t_line])), (a_t_s, .inl (Y.1, 41, .inl f_t_s)), (a_t_past, .inl (Y.1, 164, .inl y12))] := hD
  refine lv_iconst (v := 0) hx hb dX11_changes_47 (by decide) ?_
  refine lv_istore_n (lv' := [(1, .int 0), (0, .ref a_t)]) hx hb dX11_changes_48 rfl hl (by decide) rfl (fun ls hl => ?_)
  refine L49 _ _ _ _ _ _ _ _ hf hP hD hS (lv_sub hl [1, 0] rfl) ?_
  intro y14 y15 H locs ls hf hP hD hS hl
  refine lv_aload_n hx hb dX11_changes_81 rfl (lv_at hl 0 rfl) ?_
  refine lv_dup hx hb dX11_changes_82 rfl ?_
  refine va_get (D := D) (ci := 8) (v := .int x13) (C := RX11) (T := TX11) (N := 18) hx hb hts inX11 hown hE.1 hP 0 rfl rfl 4 (by decide) (hts _ qw765) (fun _ h9 => h9) rfl dX11_changes_83 ?_
  refine lv_iconst (v := 1) hx hb dX11_changes_86 (by decide) ?_
  refine lv_iadd hx hb dX11_changes_87 ?_
  refine nm_W hf (fun x16 hf => ?_)
  refine va_put (D := D) (ci := 8) (v := .int x16) (ty := .int) (C := RX11) (T := TX11) (N := 18) hx hb hts inX11 tyX11 tyX11_ok nmX11 hown hE.1 hP hD hS 0 rfl rfl 4 (by decide) (hts _ qw765) (fun _ h9 => h9) rfl (tyX11_ok 4 (by decide)) rfl rfl (Nat.le_of_ble_eq_true rfl) dX11_changes_88 (fun H locs hP hD hS => ?_)
  have hP : va_P D vwCl [(a_t, .inr (8, [.ref a_t_s, .ref a_t_past, .ref a_t_kept, .int v_t_isKept, .int x16, .ref a_t_pad, .int v_t_typed, .ref a_t_cell, .ref a_t_other, .ref a_t_rows, .int v_t_ends, .ref a_t_read, .int v_t_many, .int v_t_spot, .ref a_t_track, .ref a_t_lead, .ref a_t_distance, .ref a_t_line])), (a_t_s, .inl (Y.1, 41, .inl f_t_s)), (a_t_past, .inl (Y.1, 164, .inl y15))] H := hP
  have hD : va_D A [(a_t, .inr (8, [.ref a_t_s, .ref a_t_past, .ref a_t_kept, .int v_t_isKept, .int x16, .ref a_t_pad, .int v_t_typed, .ref a_t_cell, .ref a_t_other, .ref a_t_rows, .int v_t_ends, .ref a_t_read, .int v_t_many, .int v_t_spot, .ref a_t_track, .ref a_t_lead, .ref a_t_distance, .ref a_t_line])), (a_t_s, .inl (Y.1, 41, .inl f_t_s)), (a_t_past, .inl (Y.1, 164, .inl y15))] := hD
  obtain rfl := Option.some.inj hf
  subst hQ
  exact en_v hx hb hr hlocks hP hD hS dX11_changes_91

def f_X11_lays_L53 (k : Int32 → (Nat → Int32) → Option ((Nat → Int32))) (s1 : Int32) (s2 : Int32) (s3 : Int32) : Nat → Int32 → (Nat → Int32) → Option ((Nat → Int32))
  | 0, _, _ => none
  | n + 1, s4, f_t_s => (if (20 : Int32) ≤ s4 then (k s4 f_t_s) else nm (if (s4 - s4 / 2 * 2) = 0 then s3 else (if s2 = 0 then ((1 : Int32) ||| ((1 : Int32) <<< ((s1 - 1) &&& 31))) else (1 : Int32))) (fun (w4 : Int32) => nm (if s4 ≤ (((2 : Int32) * s1) - 1) then (if s4 = (((2 : Int32) * s1) - 1) then ((3 : Int32) ||| s3) else w4) else (0 : Int32)) (fun (w5 : Int32) => gd (inb ((5 : Int32) + s4) 41) ((f_X11_lays_L53 k s1 s2 s3 n (s4 + 1) (upd f_t_s ((5 : Int32) + s4).toNatClampNeg w5))))))
def f_X11_lays_L138 (k : Int32 → (Nat → Int32) → Option ((Nat → Int32))) (s1 : Int32) (s3 : Int32) : Nat → Int32 → (Nat → Int32) → Option ((Nat → Int32))
  | 0, _, _ => none
  | n + 1, s4, f_t_s => (if (16 : Int32) ≤ s4 then (k s4 f_t_s) else gd (inb ((25 : Int32) + s4) 41) ((f_X11_lays_L138 k s1 s3 n (s4 + 1) (upd f_t_s ((25 : Int32) + s4).toNatClampNeg 0))))
def f_X11_lays (s1 : Int32) (f_t_s : Nat → Int32) : Option ((Nat → Int32)) :=
  nm (if (s1 - s1 / 2 * 2) = 1 then (1 : Int32) else (0 : Int32)) (fun (w1 : Int32) => nm (if w1 = 0 then (0 : Int32) else ((1 : Int32) <<< ((s1 - 1) &&& 31))) (fun (w2 : Int32) => (f_X11_lays_L53 (fun (y11 : Int32) (y12 : Nat → Int32) => (f_X11_lays_L138 (fun (y15 : Int32) (y16 : Nat → Int32) => nm (if s1 = 4 then (12 : Int32) else (if s1 = 5 then (7 : Int32) else ((15 : Int32) ||| w2))) (fun (w17 : Int32) => some (upd (upd y16 (3 : Int32).toNatClampNeg ((9 : Int32) ||| w2)) (4 : Int32).toNatClampNeg w17))) s1 w2 fu 0 y12)) s1 w1 w2 fu 0 (upd (upd (upd f_t_s (0 : Int32).toNatClampNeg s1) (1 : Int32).toNatClampNeg ((2 : Int32) * s1)) (2 : Int32).toNatClampNeg 0))))
abbrev rm_X11_lays : Room := { frames := 1, cells := 0, slots := 0, locals := 24 }
set_option maxHeartbeats 4000000 in
set_option maxRecDepth 100000 in
theorem c_X11_lays (l : Launch) (D : va_G) (Y : ClassId × ClassId × ClassId) (a_t a_t_s a_t_past a_t_kept a_t_pad a_t_cell a_t_other a_t_rows a_t_read a_t_track a_t_lead a_t_distance a_t_line : Nat) (v_t_isKept : Int32) (v_t_pasts : Int32) (v_t_typed : Int32) (v_t_ends : Int32) (v_t_many : Int32) (v_t_spot : Int32) (f_t_s : Nat → Int32) (s1 : Int32) (sz : Nat) (R : (Nat → Int32)) (hf : f_X11_lays s1 f_t_s = some R) : Met l yX11_lays (ws_ yX11_lays cX11_lays 6 none) rm_X11_lays (va_Pc [.ref a_t, .int s1] (RW D Y sz [(a_t, .inr (8, [.ref a_t_s, .ref a_t_past, .ref a_t_kept, .int v_t_isKept, .int v_t_pasts, .ref a_t_pad, .int v_t_typed, .ref a_t_cell, .ref a_t_other, .ref a_t_rows, .int v_t_ends, .ref a_t_read, .int v_t_many, .int v_t_spot, .ref a_t_track, .ref a_t_lead, .ref a_t_distance, .ref a_t_line])), (a_t_s, .inl (Y.1, 41, .inl f_t_s))])) (QV D [(a_t, .inr (8, [.ref a_t_s, .ref a_t_past, .ref a_t_kept, .int v_t_isKept, .int v_t_pasts, .ref a_t_pad, .int v_t_typed, .ref a_t_cell, .ref a_t_other, .ref a_t_rows, .int v_t_ends, .ref a_t_read, .int v_t_many, .int v_t_spot, .ref a_t_track, .ref a_t_lead, .ref a_t_distance, .ref a_t_line])), (a_t_s, .inl (Y.1, 41, .inl R))] (va_A [(a_t, .inr (8, [.ref a_t_s, .ref a_t_past, .ref a_t_kept, .int v_t_isKept, .int v_t_pasts, .ref a_t_pad, .int v_t_typed, .ref a_t_cell, .ref a_t_other, .ref a_t_rows, .int v_t_ends, .ref a_t_read, .int v_t_many, .int v_t_spot, .ref a_t_track, .ref a_t_lead, .ref a_t_distance, .ref a_t_line])), (a_t_s, .inl (Y.1, 41, .inl f_t_s))] sz)) 0 0 (va_A [(a_t, .inr (8, [.ref a_t_s, .ref a_t_past, .ref a_t_kept, .int v_t_isKept, .int v_t_pasts, .ref a_t_pad, .int v_t_typed, .ref a_t_cell, .ref a_t_other, .ref a_t_rows, .int v_t_ends, .ref a_t_read, .int v_t_many, .int v_t_spot, .ref a_t_track, .ref a_t_lead, .ref a_t_distance, .ref a_t_line])), (a_t_s, .inl (Y.1, 41, .inl f_t_s))] sz) := by
  refine rw_start (Qc := fun A => QV D [(a_t, .inr (8, [.ref a_t_s, .ref a_t_past, .ref a_t_kept, .int v_t_isKept, .int v_t_pasts, .ref a_t_pad, .int v_t_typed, .ref a_t_cell, .ref a_t_other, .ref a_t_rows, .int v_t_ends, .ref a_t_read, .int v_t_many, .int v_t_spot, .ref a_t_track, .ref a_t_lead, .ref a_t_distance, .ref a_t_line])), (a_t_s, .inl (Y.1, 41, .inl R))] A) (by decide) (Nat.le_of_ble_eq_true rfl) ?_
  intro p e s m below meth c ls A hx hb hml hr hlocks hown hts hnm hA hP hD hS hE hl
  generalize hargs : List.toArray _ = args at hts ⊢
  have hown : s.vm.findClass RX11 = some m.cls := hown
  have E : EN p m c cX11_lays 6 s args RX11 := ⟨hx, hb, hml, hown, hts⟩
  have hl : lv_has ls 6 [(0, .ref a_t), (1, .int s1)] := hl
  generalize hQ : MQ below _ args s 0 0 _ = Q
  unfold f_X11_lays at hf
  have L53 : ∀ (n : Nat) (k : Int32 → (Nat → Int32) → Option ((Nat → Int32))) (s1 : Int32) (s2 : Int32) (s3 : Int32) (s4 : Int32) (f_t_s : Nat → Int32) (H : Heap) (locs : List Loc) (ls : Array Slot), f_X11_lays_L53 k s1 s2 s3 n s4 f_t_s = some R → va_P D vwCl [(a_t, .inr (8, [.ref a_t_s, .ref a_t_past, .ref a_t_kept, .int v_t_isKept, .int v_t_pasts, .ref a_t_pad, .int v_t_typed, .ref a_t_cell, .ref a_t_other, .ref a_t_rows, .int v_t_ends, .ref a_t_read, .int v_t_many, .int v_t_spot, .ref a_t_track, .ref a_t_lead, .ref a_t_distance, .ref a_t_line])), (a_t_s, .inl (Y.1, 41, .inl f_t_s))] H → va_D A [(a_t, .inr (8, [.ref a_t_s, .ref a_t_past, .ref a_t_kept, .int v_t_isKept, .int v_t_pasts, .ref a_t_pad, .int v_t_typed, .ref a_t_cell, .ref a_t_other, .ref a_t_rows, .int v_t_ends, .ref a_t_read, .int v_t_many, .int v_t_spot, .ref a_t_track, .ref a_t_lead, .ref a_t_distance, .ref a_t_line])), (a_t_s, .inl (Y.1, 41, .inl f_t_s))] → va_S A s.heap H locs → lv_has ls 6 [(0, .ref a_t), (1, .int s1), (2, .int s2), (3, .int s3), (4, .int s4)] → (∀ (y_s4 : Int32) (y_f_t_s : Nat → Int32) (H : Heap) (locs : List Loc) (ls : Array Slot), k y_s4 y_f_t_s = some R → va_P D vwCl [(a_t, .inr (8, [.ref a_t_s, .ref a_t_past, .ref a_t_kept, .int v_t_isKept, .int v_t_pasts, .ref a_t_pad, .int v_t_typed, .ref a_t_cell, .ref a_t_other, .ref a_t_rows, .int v_t_ends, .ref a_t_read, .int v_t_many, .int v_t_spot, .ref a_t_track, .ref a_t_lead, .ref a_t_distance, .ref a_t_line])), (a_t_s, .inl (Y.1, 41, .inl y_f_t_s))] H → va_D A [(a_t, .inr (8, [.ref a_t_s, .ref a_t_past, .ref a_t_kept, .int v_t_isKept, .int v_t_pasts, .ref a_t_pad, .int v_t_typed, .ref a_t_cell, .ref a_t_other, .ref a_t_rows, .int v_t_ends, .ref a_t_read, .int v_t_many, .int v_t_spot, .ref a_t_track, .ref a_t_lead, .ref a_t_distance, .ref a_t_line])), (a_t_s, .inl (Y.1, 41, .inl y_f_t_s))] → va_S A s.heap H locs → lv_has ls 6 [(0, .ref a_t), (1, .int s1), (3, .int s3)] → W p l e rm_X11_lays s m args below meth c H locs 0 0 Q (F0 m 135 ls [])) → W p l e rm_X11_lays s m args below meth c H locs 0 0 Q (F0 m 53 ls []) := by
    intro n
    induction n with
    | zero =>
      intro k s1 s2 s3 s4 f_t_s H locs ls hf
      cases hf
    | succ n ih =>
      intro k s1 s2 s3 s4 f_t_s H locs ls hf hP hD hS hl hk
      unfold f_X11_lays_L53 at hf
      refine lv_iload hx hb dX11_lays_53 (lv_at hl 4 rfl) ?_
      refine lv_bipush (v := 20) hx hb dX11_lays_55 (by decide) ?_
      refine lv_icmp_ge (tgt := 135) hx hb dX11_lays_57 (by decide) (fun c3 => ?_) (fun c3 => ?_)
      · have hf := ite_t c3 hf
        exact hk _ _ _ _ _ hf hP hD hS (lv_sub hl [0, 1, 3] rfl)
      have hf := ite_f c3 hf
      refine lv_iload hx hb dX11_lays_60 (lv_at hl 4 rfl) ?_
      refine lv_iconst (v := 2) hx hb dX11_lays_62 (by decide) ?_
      refine lv_irem hx hb dX11_lays_63 (by decide) ?_
      refine mg (P := fun (w4 : Int32) => ∀ (ls : Array Slot), lv_has ls 6 [(0, .ref a_t), (1, .int s1), (2, .int s2), (3, .int s3), (4, .int s4)] → W p l e rm_X11_lays s m args below meth c H locs 0 0 Q (F0 m 86 ls [.int w4])) hf (fun w4 hf ls hl => ?_) (fun hJ => ?_)
      · refine lv_istore (lv' := [(5, .int w4), (0, .ref a_t), (1, .int s1), (2, .int s2), (3, .int s3), (4, .int s4)]) hx hb dX11_lays_86 hl (by decide) rfl (fun ls hl => ?_)
        refine lv_aload_n hx hb dX11_lays_88 rfl (lv_at hl 1 rfl) ?_
        refine va_get (D := D) (ci := 8) (v := .ref a_t_s) (C := RX11) (T := TX11) (N := 18) hx hb hts inX11 hown hE.1 hP 0 rfl rfl 0 (by decide) (hts _ qw761) (fun _ h9 => h9) rfl dX11_lays_89 ?_
        refine lv_iconst (v := 5) hx hb dX11_lays_92 (by decide) ?_
        refine lv_iload hx hb dX11_lays_93 (lv_at hl 5 rfl) ?_
        refine lv_iadd hx hb dX11_lays_95 ?_
        refine lv_iload hx hb dX11_lays_96 (lv_at hl 5 rfl) ?_
        refine lv_iconst (v := 2) hx hb dX11_lays_98 (by decide) ?_
        refine lv_iload_n hx hb dX11_lays_99 rfl (lv_at hl 2 rfl) ?_
        refine lv_imul hx hb dX11_lays_100 ?_
        refine lv_iconst (v := 1) hx hb dX11_lays_101 (by decide) ?_
        refine lv_isub hx hb dX11_lays_102 ?_
        refine mg (P := fun (w5 : Int32) => ∀ (ls : Array Slot), lv_has ls 6 [(0, .ref a_t), (1, .int s1), (2, .int s2), (3, .int s3), (4, .int s4)] → W p l e rm_X11_lays s m args below meth c H locs 0 0 Q (F0 m 128 ls [.int w5, .int ((5 : Int32) + s4), .ref a_t_s])) hf (fun w5 hf ls hl => ?_) (fun hJ => ?_)
        · obtain ⟨g6, hf⟩ := gd_s hf
          refine va_iast hx hb hE.1 hP hD hS 1 0 rfl rfl (inb_in g6) dX11_lays_128 (fun H locs hP hD hS => ?_)
          have hP : va_P D vwCl [(a_t, .inr (8, [.ref a_t_s, .ref a_t_past, .ref a_t_kept, .int v_t_isKept, .int v_t_pasts, .ref a_t_pad, .int v_t_typed, .ref a_t_cell, .ref a_t_other, .ref a_t_rows, .int v_t_ends, .ref a_t_read, .int v_t_many, .int v_t_spot, .ref a_t_track, .ref a_t_lead, .ref a_t_distance, .ref a_t_line])), (a_t_s, .inl (Y.1, 41, .inl (upd f_t_s ((5 : Int32) + s4).toNatClampNeg w5)))] H := hP
          have hD : va_D A [(a_t, .inr (8, [.ref a_t_s, .ref a_t_past, .ref a_t_kept, .int v_t_isKept, .int v_t_pasts, .ref a_t_pad, .int v_t_typed, .ref a_t_cell, .ref a_t_other, .ref a_t_rows, .int v_t_ends, .ref a_t_read, .int v_t_many, .int v_t_spot, .ref a_t_track, .ref a_t_lead, .ref a_t_distance, .ref a_t_line])), (a_t_s, .inl (Y.1, 41, .inl (upd f_t_s ((5 : Int32) + s4).toNatClampNeg w5)))] := hD
          refine lv_iinc (v := (s4 + 1)) (lv' := [(4, .int (s4 + 1)), (0, .ref a_t), (1, .int s1), (2, .int s2), (3, .int s3)]) hx hb dX11_lays_129 hl (k := 4) rfl rfl (by decide) rfl (fun ls hl => ?_)
          refine lv_goto (tgt := 53) hx hb dX11_lays_132 (by decide) ?_
          exact ih _ _ _ _ _ _ _ _ _ hf hP hD hS (lv_sub hl [1, 2, 3, 4, 0] rfl) hk
        refine lv_icmp_le (tgt := 110) hx hb dX11_lays_103 (by decide) (fun c7 => ?_) (fun c7 => ?_)
        · have hf := nmi_t c7 hf
          refine lv_iload hx hb dX11_lays_110 (lv_at hl 5 rfl) ?_
          refine lv_iconst (v := 2) hx hb dX11_lays_112 (by decide) ?_
          refine lv_iload_n hx hb dX11_lays_113 rfl (lv_at hl 2 rfl) ?_
          refine lv_imul hx hb dX11_lays_114 ?_
          refine lv_iconst (v := 1) hx hb dX11_lays_115 (by decide) ?_
          refine lv_isub hx hb dX11_lays_116 ?_
          refine lv_icmp_ne (tgt := 126) hx hb dX11_lays_117 (by decide) (fun c8 => ?_) (fun c8 => ?_)
          · have hf := nmi_f c8 hf
            refine lv_iload hx hb dX11_lays_126 (lv_at hl 0 rfl) ?_
            exact hJ _ (nm_b hf) _ (lv_sub hl [1, 2, 3, 4, 5] rfl)
          have hf := nmi_t c8 hf
          refine lv_iconst (v := 3) hx hb dX11_lays_120 (by decide) ?_
          refine lv_iload_n hx hb dX11_lays_121 rfl (lv_at hl 4 rfl) ?_
          refine lv_ior hx hb dX11_lays_122 ?_
          refine lv_goto (tgt := 128) hx hb dX11_lays_123 (by decide) ?_
          exact hJ _ (nm_b hf) _ (lv_sub hl [1, 2, 3, 4, 5] rfl)
        have hf := nmi_f c7 hf
        refine lv_iconst (v := 0) hx hb dX11_lays_106 (by decide) ?_
        refine lv_goto (tgt := 128) hx hb dX11_lays_107 (by decide) ?_
        exact hJ _ (nm_b hf) _ (lv_sub hl [1, 2, 3, 4, 5] rfl)
      refine lv_if_ne (tgt := 71) hx hb dX11_lays_64 (by decide) (fun c9 => ?_) (fun c9 => ?_)
      · have hf := nmi_f c9 hf
        refine lv_iload_n hx hb dX11_lays_71 rfl (lv_at hl 2 rfl) ?_
        refine lv_if_eq (tgt := 79) hx hb dX11_lays_72 (by decide) (fun c10 => ?_) (fun c10 => ?_)
        · have hf := nmi_t c10 hf
          refine lv_iconst (v := 1) hx hb dX11_lays_79 (by decide) ?_
          refine lv_iconst (v := 1) hx hb dX11_lays_80 (by decide) ?_
          refine lv_iload_n hx hb dX11_lays_81 rfl (lv_at hl 1 rfl) ?_
          refine lv_iconst (v := 1) hx hb dX11_lays_82 (by decide) ?_
          refine lv_isub hx hb dX11_lays_83 ?_
          refine lv_ishl hx hb dX11_lays_84 ?_
          refine lv_ior hx hb dX11_lays_85 ?_
          exact hJ _ (nm_b hf) _ (lv_sub hl [0, 1, 2, 3, 4] rfl)
        have hf := nmi_f c10 hf
        refine lv_iconst (v := 1) hx hb dX11_lays_75 (by decide) ?_
        refine lv_goto (tgt := 86) hx hb dX11_lays_76 (by decide) ?_
        exact hJ _ (nm_b hf) _ (lv_sub hl [0, 1, 2, 3, 4] rfl)
      have hf := nmi_t c9 hf
      refine lv_iload_n hx hb dX11_lays_67 rfl (lv_at hl 3 rfl) ?_
      refine lv_goto (tgt := 86) hx hb dX11_lays_68 (by decide) ?_
      exact hJ _ (nm_b hf) _ (lv_sub hl [0, 1, 2, 3, 4] rfl)
  have L138 : ∀ (n : Nat) (k : Int32 → (Nat → Int32) → Option ((Nat → Int32))) (s1 : Int32) (s3 : Int32) (s4 : Int32) (f_t_s : Nat → Int32) (H : Heap) (locs : List Loc) (ls : Array Slot), f_X11_lays_L138 k s1 s3 n s4 f_t_s = some R → va_P D vwCl [(a_t, .inr (8, [.ref a_t_s, .ref a_t_past, .ref a_t_kept, .int v_t_isKept, .int v_t_pasts, .ref a_t_pad, .int v_t_typed, .ref a_t_cell, .ref a_t_other, .ref a_t_rows, .int v_t_ends, .ref a_t_read, .int v_t_many, .int v_t_spot, .ref a_t_track, .ref a_t_lead, .ref a_t_distance, .ref a_t_line])), (a_t_s, .inl (Y.1, 41, .inl f_t_s))] H → va_D A [(a_t, .inr (8, [.ref a_t_s, .ref a_t_past, .ref a_t_kept, .int v_t_isKept, .int v_t_pasts, .ref a_t_pad, .int v_t_typed, .ref a_t_cell, .ref a_t_other, .ref a_t_rows, .int v_t_ends, .ref a_t_read, .int v_t_many, .int v_t_spot, .ref a_t_track, .ref a_t_lead, .ref a_t_distance, .ref a_t_line])), (a_t_s, .inl (Y.1, 41, .inl f_t_s))] → va_S A s.heap H locs → lv_has ls 6 [(0, .ref a_t), (1, .int s1), (3, .int s3), (4, .int s4)] → (∀ (y_s4 : Int32) (y_f_t_s : Nat → Int32) (H : Heap) (locs : List Loc) (ls : Array Slot), k y_s4 y_f_t_s = some R → va_P D vwCl [(a_t, .inr (8, [.ref a_t_s, .ref a_t_past, .ref a_t_kept, .int v_t_isKept, .int v_t_pasts, .ref a_t_pad, .int v_t_typed, .ref a_t_cell, .ref a_t_other, .ref a_t_rows, .int v_t_ends, .ref a_t_read, .int v_t_many, .int v_t_spot, .ref a_t_track, .ref a_t_lead, .ref a_t_distance, .ref a_t_line])), (a_t_s, .inl (Y.1, 41, .inl y_f_t_s))] H → va_D A [(a_t, .inr (8, [.ref a_t_s, .ref a_t_past, .ref a_t_kept, .int v_t_isKept, .int v_t_pasts, .ref a_t_pad, .int v_t_typed, .ref a_t_cell, .ref a_t_other, .ref a_t_rows, .int v_t_ends, .ref a_t_read, .int v_t_many, .int v_t_spot, .ref a_t_track, .ref a_t_lead, .ref a_t_distance, .ref a_t_line])), (a_t_s, .inl (Y.1, 41, .inl y_f_t_s))] → va_S A s.heap H locs → lv_has ls 6 [(0, .ref a_t), (1, .int s1), (3, .int s3)] → W p l e rm_X11_lays s m args below meth c H locs 0 0 Q (F0 m 162 ls [])) → W p l e rm_X11_lays s m args below meth c H locs 0 0 Q (F0 m 138 ls []) := by
    intro n
    induction n with
    | zero =>
      intro k s1 s3 s4 f_t_s H locs ls hf
      cases hf
    | succ n ih =>
      intro k s1 s3 s4 f_t_s H locs ls hf hP hD hS hl hk
      unfold f_X11_lays_L138 at hf
      refine lv_iload hx hb dX11_lays_138 (lv_at hl 3 rfl) ?_
      refine lv_bipush (v := 16) hx hb dX11_lays_140 (by decide) ?_
      refine lv_icmp_ge (tgt := 162) hx hb dX11_lays_142 (by decide) (fun c13 => ?_) (fun c13 => ?_)
      · have hf := ite_t c13 hf
        exact hk _ _ _ _ _ hf hP hD hS (lv_sub hl [0, 1, 2] rfl)
      have hf := ite_f c13 hf
      refine lv_aload_n hx hb dX11_lays_145 rfl (lv_at hl 0 rfl) ?_
      refine va_get (D := D) (ci := 8) (v := .ref a_t_s) (C := RX11) (T := TX11) (N := 18) hx hb hts inX11 hown hE.1 hP 0 rfl rfl 0 (by decide) (hts _ qw761) (fun _ h9 => h9) rfl dX11_lays_146 ?_
      refine lv_bipush (v := 25) hx hb dX11_lays_149 (by decide) ?_
      refine lv_iload hx hb dX11_lays_151 (lv_at hl 3 rfl) ?_
      refine lv_iadd hx hb dX11_lays_153 ?_
      refine lv_iconst (v := 0) hx hb dX11_lays_154 (by decide) ?_
      obtain ⟨g14, hf⟩ := gd_s hf
      refine va_iast hx hb hE.1 hP hD hS 1 0 rfl rfl (inb_in g14) dX11_lays_155 (fun H locs hP hD hS => ?_)
      have hP : va_P D vwCl [(a_t, .inr (8, [.ref a_t_s, .ref a_t_past, .ref a_t_kept, .int v_t_isKept, .int v_t_pasts, .ref a_t_pad, .int v_t_typed, .ref a_t_cell, .ref a_t_other, .ref a_t_rows, .int v_t_ends, .ref a_t_read, .int v_t_many, .int v_t_spot, .ref a_t_track, .ref a_t_lead, .ref a_t_distance, .ref a_t_line])), (a_t_s, .inl (Y.1, 41, .inl (upd f_t_s ((25 : Int32) + s4).toNatClampNeg 0)))] H := hP
      have hD : va_D A [(a_t, .inr (8, [.ref a_t_s, .ref a_t_past, .ref a_t_kept, .int v_t_isKept, .int v_t_pasts, .ref a_t_pad, .int v_t_typed, .ref a_t_cell, .ref a_t_other, .ref a_t_rows, .int v_t_ends, .ref a_t_read, .int v_t_many, .int v_t_spot, .ref a_t_track, .ref a_t_lead, .ref a_t_distance, .ref a_t_line])), (a_t_s, .inl (Y.1, 41, .inl (upd f_t_s ((25 : Int32) + s4).toNatClampNeg 0)))] := hD
      refine lv_iinc (v := (s4 + 1)) (lv' := [(4, .int (s4 + 1)), (0, .ref a_t), (1, .int s1), (3, .int s3)]) hx hb dX11_lays_156 hl (k := 3) rfl rfl (by decide) rfl (fun ls hl => ?_)
      refine lv_goto (tgt := 138) hx hb dX11_lays_159 (by decide) ?_
      exact ih _ _ _ _ _ _ _ _ hf hP hD hS (lv_sub hl [1, 2, 3, 0] rfl) hk
  refine lv_iload_n hx hb dX11_lays_0 rfl (lv_at hl 1 rfl) ?_
  refine lv_iconst (v := 2) hx hb dX11_lays_1 (by decide) ?_
  refine lv_irem hx hb dX11_lays_2 (by decide) ?_
  refine lv_iconst (v := 1) hx hb dX11_lays_3 (by decide) ?_
  refine mg (P := fun (w1 : Int32) => ∀ (ls : Array Slot), lv_has ls 6 [(0, .ref a_t), (1, .int s1)] → W p l e rm_X11_lays s m args below meth c s.heap [] 0 0 Q (F0 m 12 ls [.int w1])) hf (fun w1 hf ls hl => ?_) (fun hJ => ?_)
  · refine lv_istore_n (lv' := [(2, .int w1), (0, .ref a_t), (1, .int s1)]) hx hb dX11_lays_12 rfl hl (by decide) rfl (fun ls hl => ?_)
    refine lv_iload_n hx hb dX11_lays_13 rfl (lv_at hl 0 rfl) ?_
    refine mg (P := fun (w2 : Int32) => ∀ (ls : Array Slot), lv_has ls 6 [(0, .ref a_t), (1, .int s1), (2, .int w1)] → W p l e rm_X11_lays s m args below meth c s.heap [] 0 0 Q (F0 m 26 ls [.int w2])) hf (fun w2 hf ls hl => ?_) (fun hJ => ?_)
    · refine lv_istore_n (lv' := [(3, .int w2), (0, .ref a_t), (1, .int s1), (2, .int w1)]) hx hb dX11_lays_26 rfl hl (by decide) rfl (fun ls hl => ?_)
      refine lv_aload_n hx hb dX11_lays_27 rfl (lv_at hl 1 rfl) ?_
      refine va_get (D := D) (ci := 8) (v := .ref a_t_s) (C := RX11) (T := TX11) (N := 18) hx hb hts inX11 hown hE.1 hP 0 rfl rfl 0 (by decide) (hts _ qw761) (fun _ h9 => h9) rfl dX11_lays_28 ?_
      refine lv_iconst (v := 0) hx hb dX11_lays_31 (by decide) ?_
      refine lv_iload_n hx hb dX11_lays_32 rfl (lv_at hl 2 rfl) ?_
      refine va_iast hx hb hE.1 hP hD hS 1 0 rfl rfl (inb_in (by decide)) dX11_lays_33 (fun H locs hP hD hS => ?_)
      have hP : va_P D vwCl [(a_t, .inr (8, [.ref a_t_s, .ref a_t_past, .ref a_t_kept, .int v_t_isKept, .int v_t_pasts, .ref a_t_pad, .int v_t_typed, .ref a_t_cell, .ref a_t_other, .ref a_t_rows, .int v_t_ends, .ref a_t_read, .int v_t_many, .int v_t_spot, .ref a_t_track, .ref a_t_lead, .ref a_t_distance, .ref a_t_line])), (a_t_s, .inl (Y.1, 41, .inl (upd f_t_s (0 : Int32).toNatClampNeg s1)))] H := hP
      have hD : va_D A [(a_t, .inr (8, [.ref a_t_s, .ref a_t_past, .ref a_t_kept, .int v_t_isKept, .int v_t_pasts, .ref a_t_pad, .int v_t_typed, .ref a_t_cell, .ref a_t_other, .ref a_t_rows, .int v_t_ends, .ref a_t_read, .int v_t_many, .int v_t_spot, .ref a_t_track, .ref a_t_lead, .ref a_t_distance, .ref a_t_line])), (a_t_s, .inl (Y.1, 41, .inl (upd f_t_s (0 : Int32).toNatClampNeg s1)))] := hD
      refine lv_aload_n hx hb dX11_lays_34 rfl (lv_at hl 1 rfl) ?_
      refine va_get (D := D) (ci := 8) (v := .ref a_t_s) (C := RX11) (T := TX11) (N := 18) hx hb hts inX11 hown hE.1 hP 0 rfl rfl 0 (by decide) (hts _ qw761) (fun _ h9 => h9) rfl dX11_lays_35 ?_
      refine lv_iconst (v := 1) hx hb dX11_lays_38 (by decide) ?_
      refine lv_iconst (v := 2) hx hb dX11_lays_39 (by decide) ?_
      refine lv_iload_n hx hb dX11_lays_40 rfl (lv_at hl 2 rfl) ?_
      refine lv_imul hx hb dX11_lays_41 ?_
      refine va_iast hx hb hE.1 hP hD hS 1 0 rfl rfl (inb_in (by decide)) dX11_lays_42 (fun H locs hP hD hS => ?_)
      have hP : va_P D vwCl [(a_t, .inr (8, [.ref a_t_s, .ref a_t_past, .ref a_t_kept, .int v_t_isKept, .int v_t_pasts, .ref a_t_pad, .int v_t_typed, .ref a_t_cell, .ref a_t_other, .ref a_t_rows, .int v_t_ends, .ref a_t_read, .int v_t_many, .int v_t_spot, .ref a_t_track, .ref a_t_lead, .ref a_t_distance, .ref a_t_line])), (a_t_s, .inl (Y.1, 41, .inl (upd (upd f_t_s (0 : Int32).toNatClampNeg s1) (1 : Int32).toNatClampNeg ((2 : Int32) * s1))))] H := hP
      have hD : va_D A [(a_t, .inr (8, [.ref a_t_s, .ref a_t_past, .ref a_t_kept, .int v_t_isKept, .int v_t_pasts, .ref a_t_pad, .int v_t_typed, .ref a_t_cell, .ref a_t_other, .ref a_t_rows, .int v_t_ends, .ref a_t_read, .int v_t_many, .int v_t_spot, .ref a_t_track, .ref a_t_lead, .ref a_t_distance, .ref a_t_line])), (a_t_s, .inl (Y.1, 41, .inl (upd (upd f_t_s (0 : Int32).toNatClampNeg s1) (1 : Int32).toNatClampNeg ((2 : Int32) * s1))))] := hD
      refine lv_aload_n hx hb dX11_lays_43 rfl (lv_at hl 1 rfl) ?_
      refine va_get (D := D) (ci := 8) (v := .ref a_t_s) (C := RX11) (T := TX11) (N := 18) hx hb hts inX11 hown hE.1 hP 0 rfl rfl 0 (by decide) (hts _ qw761) (fun _ h9 => h9) rfl dX11_lays_44 ?_
      refine lv_iconst (v := 2) hx hb dX11_lays_47 (by decide) ?_
      refine lv_iconst (v := 0) hx hb dX11_lays_48 (by decide) ?_
      refine va_iast hx hb hE.1 hP hD hS 1 0 rfl rfl (inb_in (by decide)) dX11_lays_49 (fun H locs hP hD hS => ?_)
      have hP : va_P D vwCl [(a_t, .inr (8, [.ref a_t_s, .ref a_t_past, .ref a_t_kept, .int v_t_isKept, .int v_t_pasts, .ref a_t_pad, .int v_t_typed, .ref a_t_cell, .ref a_t_other, .ref a_t_rows, .int v_t_ends, .ref a_t_read, .int v_t_many, .int v_t_spot, .ref a_t_track, .ref a_t_lead, .ref a_t_distance, .ref a_t_line])), (a_t_s, .inl (Y.1, 41, .inl (upd (upd (upd f_t_s (0 : Int32).toNatClampNeg s1) (1 : Int32).toNatClampNeg ((2 : Int32) * s1)) (2 : Int32).toNatClampNeg 0)))] H := hP
      have hD : va_D A [(a_t, .inr (8, [.ref a_t_s, .ref a_t_past, .ref a_t_kept, .int v_t_isKept, .int v_t_pasts, .ref a_t_pad, .int v_t_typed, .ref a_t_cell, .ref a_t_other, .ref a_t_rows, .int v_t_ends, .ref a_t_read, .int v_t_many, .int v_t_spot, .ref a_t_track, .ref a_t_lead, .ref a_t_distance, .ref a_t_line])), (a_t_s, .inl (Y.1, 41, .inl (upd (upd (upd f_t_s (0 : Int32).toNatClampNeg s1) (1 : Int32).toNatClampNeg ((2 : Int32) * s1)) (2 : Int32).toNatClampNeg 0)))] := hD
      refine lv_iconst (v := 0) hx hb dX11_lays_50 (by decide) ?_
      refine lv_istore (lv' := [(4, .int 0), (3, .int w2), (0, .ref a_t), (1, .int s1), (2, .int w1)]) hx hb dX11_lays_51 hl (by decide) rfl (fun ls hl => ?_)
      refine L53 _ _ _ _ _ _ _ _ _ _ hf hP hD hS (lv_sub hl [2, 3, 4, 1, 0] rfl) ?_
      intro y11 y12 H locs ls hf hP hD hS hl
      refine lv_iconst (v := 0) hx hb dX11_lays_135 (by decide) ?_
      refine lv_istore (lv' := [(4, .int 0), (0, .ref a_t), (1, .int s1), (3, .int w2)]) hx hb dX11_lays_136 hl (by decide) rfl (fun ls hl => ?_)
      refine L138 _ _ _ _ _ _ _ _ _ hf hP hD hS (lv_sub hl [1, 2, 3, 0] rfl) ?_
      intro y15 y16 H locs ls hf hP hD hS hl
      refine lv_aload_n hx hb dX11_lays_162 rfl (lv_at hl 0 rfl) ?_
      refine va_get (D := D) (ci := 8) (v := .ref a_t_s) (C := RX11) (T := TX11) (N := 18) hx hb hts inX11 hown hE.1 hP 0 rfl rfl 0 (by decide) (hts _ qw761) (fun _ h9 => h9) rfl dX11_lays_163 ?_
      refine lv_iconst (v := 3) hx hb dX11_lays_166 (by decide) ?_
      refine lv_bipush (v := 9) hx hb dX11_lays_167 (by decide) ?_
      refine lv_iload_n hx hb dX11_lays_169 rfl (lv_at hl 2 rfl) ?_
      refine lv_ior hx hb dX11_lays_170 ?_
      refine va_iast hx hb hE.1 hP hD hS 1 0 rfl rfl (inb_in (by decide)) dX11_lays_171 (fun H locs hP hD hS => ?_)
      have hP : va_P D vwCl [(a_t, .inr (8, [.ref a_t_s, .ref a_t_past, .ref a_t_kept, .int v_t_isKept, .int v_t_pasts, .ref a_t_pad, .int v_t_typed, .ref a_t_cell, .ref a_t_other, .ref a_t_rows, .int v_t_ends, .ref a_t_read, .int v_t_many, .int v_t_spot, .ref a_t_track, .ref a_t_lead, .ref a_t_distance, .ref a_t_line])), (a_t_s, .inl (Y.1, 41, .inl (upd y16 (3 : Int32).toNatClampNeg ((9 : Int32) ||| w2))))] H := hP
      have hD : va_D A [(a_t, .inr (8, [.ref a_t_s, .ref a_t_past, .ref a_t_kept, .int v_t_isKept, .int v_t_pasts, .ref a_t_pad, .int v_t_typed, .ref a_t_cell, .ref a_t_other, .ref a_t_rows, .int v_t_ends, .ref a_t_read, .int v_t_many, .int v_t_spot, .ref a_t_track, .ref a_t_lead, .ref a_t_distance, .ref a_t_line])), (a_t_s, .inl (Y.1, 41, .inl (upd y16 (3 : Int32).toNatClampNeg ((9 : Int32) ||| w2))))] := hD
      refine lv_aload_n hx hb dX11_lays_172 rfl (lv_at hl 0 rfl) ?_
      refine va_get (D := D) (ci := 8) (v := .ref a_t_s) (C := RX11) (T := TX11) (N := 18) hx hb hts inX11 hown hE.1 hP 0 rfl rfl 0 (by decide) (hts _ qw761) (fun _ h9 => h9) rfl dX11_lays_173 ?_
      refine lv_iconst (v := 4) hx hb dX11_lays_176 (by decide) ?_
      refine lv_iload_n hx hb dX11_lays_177 rfl (lv_at hl 1 rfl) ?_
      refine lv_iconst (v := 4) hx hb dX11_lays_178 (by decide) ?_
      refine mg (P := fun (w17 : Int32) => ∀ (ls : Array Slot), lv_has ls 6 [] → W p l e rm_X11_lays s m args below meth c H locs 0 0 Q (F0 m 201 ls [.int w17, .int 4, .ref a_t_s])) hf (fun w17 hf ls hl => ?_) (fun hJ => ?_)
      · refine va_iast hx hb hE.1 hP hD hS 1 0 rfl rfl (inb_in (by decide)) dX11_lays_201 (fun H locs hP hD hS => ?_)
        have hP : va_P D vwCl [(a_t, .inr (8, [.ref a_t_s, .ref a_t_past, .ref a_t_kept, .int v_t_isKept, .int v_t_pasts, .ref a_t_pad, .int v_t_typed, .ref a_t_cell, .ref a_t_other, .ref a_t_rows, .int v_t_ends, .ref a_t_read, .int v_t_many, .int v_t_spot, .ref a_t_track, .ref a_t_lead, .ref a_t_distance, .ref a_t_line])), (a_t_s, .inl (Y.1, 41, .inl (upd (upd y16 (3 : Int32).toNatClampNeg ((9 : Int32) ||| w2)) (4 : Int32).toNatClampNeg w17)))] H := hP
        have hD : va_D A [(a_t, .inr (8, [.ref a_t_s, .ref a_t_past, .ref a_t_kept, .int v_t_isKept, .int v_t_pasts, .ref a_t_pad, .int v_t_typed, .ref a_t_cell, .ref a_t_other, .ref a_t_rows, .int v_t_ends, .ref a_t_read, .int v_t_many, .int v_t_spot, .ref a_t_track, .ref a_t_lead, .ref a_t_distance, .ref a_t_line])), (a_t_s, .inl (Y.1, 41, .inl (upd (upd y16 (3 : Int32).toNatClampNeg ((9 : Int32) ||| w2)) (4 : Int32).toNatClampNeg w17)))] := hD
        obtain rfl := Option.some.inj hf
        subst hQ
        exact en_v hx hb hr hlocks hP hD hS dX11_lays_202
      refine lv_icmp_ne (tgt := 187) hx hb dX11_lays_179 (by decide) (fun c18 => ?_) (fun c18 => ?_)
      · have hf := nmi_f c18 hf
        refine lv_iload_n hx hb dX11_lays_187 rfl (lv_at hl 1 rfl) ?_
        refine lv_iconst (v := 5) hx hb dX11_lays_188 (by decide) ?_
        refine lv_icmp_ne (tgt := 197) hx hb dX11_lays_189 (by decide) (fun c19 => ?_) (fun c19 => ?_)
        · have hf := nmi_f c19 hf
          refine lv_bipush (v := 15) hx hb dX11_lays_197 (by decide) ?_
          refine lv_iload_n hx hb dX11_lays_199 rfl (lv_at hl 2 rfl) ?_
          refine lv_ior hx hb dX11_lays_200 ?_
          exact hJ _ (nm_b hf) _ (lv_sub hl [] rfl)
        have hf := nmi_t c19 hf
        refine lv_bipush (v := 7) hx hb dX11_lays_192 (by decide) ?_
        refine lv_goto (tgt := 201) hx hb dX11_lays_194 (by decide) ?_
        exact hJ _ (nm_b hf) _ (lv_sub hl [] rfl)
      have hf := nmi_t c18 hf
      refine lv_bipush (v := 12) hx hb dX11_lays_182 (by decide) ?_
      refine lv_goto (tgt := 201) hx hb dX11_lays_184 (by decide) ?_
      exact hJ _ (nm_b hf) _ (lv_sub hl [] rfl)
    refine lv_if_eq (tgt := 25) hx hb dX11_lays_14 (by decide) (fun c20 => ?_) (fun c20 => ?_)
    · have hf := nmi_t c20 hf
      refine lv_iconst (v := 0) hx hb dX11_lays_25 (by decide) ?_
      exact hJ _ (nm_b hf) _ (lv_sub hl [1, 2, 0] rfl)
    have hf := nmi_f c20 hf
    refine lv_iconst (v := 1) hx hb dX11_lays_17 (by decide) ?_
    refine lv_iload_n hx hb dX11_lays_18 rfl (lv_at hl 2 rfl) ?_
    refine lv_iconst (v := 1) hx hb dX11_lays_19 (by decide) ?_
    refine lv_isub hx hb dX11_lays_20 ?_
    refine lv_ishl hx hb dX11_lays_21 ?_
    refine lv_goto (tgt := 26) hx hb dX11_lays_22 (by decide) ?_
    exact hJ _ (nm_b hf) _ (lv_sub hl [1, 2, 0] rfl)
  refine lv_icmp_ne (tgt := 11) hx hb dX11_lays_4 (by decide) (fun c21 => ?_) (fun c21 => ?_)
  · have hf := nmi_f c21 hf
    refine lv_iconst (v := 0) hx hb dX11_lays_11 (by decide) ?_
    exact hJ _ (nm_b hf) _ (lv_sub hl [0, 1] rfl)
  have hf := nmi_t c21 hf
  refine lv_iconst (v := 1) hx hb dX11_lays_7 (by decide) ?_
  refine lv_goto (tgt := 12) hx hb dX11_lays_8 (by decide) ?_
  exact hJ _ (nm_b hf) _ (lv_sub hl [0, 1] rfl)

def f_X11_last (f_t_s : Nat → Int32) : Option (Int32) :=
  some ((f_t_s (2 : Int32).toNatClampNeg) * (f_t_s (1 : Int32).toNatClampNeg))
abbrev rm_X11_last : Room := { frames := 1, cells := 0, slots := 0, locals := 24 }
set_option maxHeartbeats 4000000 in
set_option maxRecDepth 100000 in
theorem c_X11_last (l : Launch) (D : va_G) (Y : ClassId × ClassId × ClassId) (a_t a_t_s a_t_past a_t_kept a_t_pad a_t_cell a_t_other a_t_rows a_t_read a_t_track a_t_lead a_t_distance a_t_line : Nat) (v_t_isKept : Int32) (v_t_pasts : Int32) (v_t_typed : Int32) (v_t_ends : Int32) (v_t_many : Int32) (v_t_spot : Int32) (f_t_s : Nat → Int32) (R : Int32) (hf : f_X11_last f_t_s = some R) : Met l yX11_last (ws_ yX11_last cX11_last 1 (some .int)) rm_X11_last (va_Pc [.ref a_t] (RO D Y [(a_t, .inr (8, [.ref a_t_s, .ref a_t_past, .ref a_t_kept, .int v_t_isKept, .int v_t_pasts, .ref a_t_pad, .int v_t_typed, .ref a_t_cell, .ref a_t_other, .ref a_t_rows, .int v_t_ends, .ref a_t_read, .int v_t_many, .int v_t_spot, .ref a_t_track, .ref a_t_lead, .ref a_t_distance, .ref a_t_line])), (a_t_s, .inl (Y.1, 41, .inl f_t_s))])) (OI R) 0 0 (fun _ => False) := by
  refine ro_start (by decide) (Nat.le_of_ble_eq_true rfl) ?_
  intro p e s m below meth c ls hx hb hml hr hlocks hown hts hP hE hl
  generalize hargs : List.toArray _ = args at hts ⊢
  have hown : s.vm.findClass RX11 = some m.cls := hown
  have E : EN p m c cX11_last 1 s args RX11 := ⟨hx, hb, hml, hown, hts⟩
  have hl : lv_has ls 1 [(0, .ref a_t)] := hl
  generalize hQ : MQ below _ args s 0 0 _ = Q
  unfold f_X11_last at hf
  refine lv_aload_n hx hb dX11_last_0 rfl (lv_at hl 0 rfl) ?_
  refine va_get (D := D) (ci := 8) (v := .ref a_t_s) (C := RX11) (T := TX11) (N := 18) hx hb hts inX11 hown hE.1 hP 0 rfl rfl 0 (by decide) (hts _ qw761) (fun _ h9 => h9) rfl dX11_last_1 ?_
  refine lv_iconst (v := 2) hx hb dX11_last_4 (by decide) ?_
  refine va_iald hx hb hE.1 hP 1 0 rfl rfl (inb_in (by decide)) dX11_last_5 ?_
  refine lv_aload_n hx hb dX11_last_6 rfl (lv_at hl 0 rfl) ?_
  refine va_get (D := D) (ci := 8) (v := .ref a_t_s) (C := RX11) (T := TX11) (N := 18) hx hb hts inX11 hown hE.1 hP 0 rfl rfl 0 (by decide) (hts _ qw761) (fun _ h9 => h9) rfl dX11_last_7 ?_
  refine lv_iconst (v := 1) hx hb dX11_last_10 (by decide) ?_
  refine va_iald hx hb hE.1 hP 1 0 rfl rfl (inb_in (by decide)) dX11_last_11 ?_
  refine lv_imul hx hb dX11_last_12 ?_
  obtain rfl := Option.some.inj hf
  subst hQ
  exact en_oi hx hb hr hlocks rfl dX11_last_13

def f_X11_isRight_L24 (s1 : Int32) (s2 : Int32) (f_t_s : Nat → Int32) : Nat → Int32 → Option (Int32)
  | 0, _ => none
  | n + 1, s3 => (if s2 ≤ s3 then some 1 else (if ((s1 >>> (s3 &&& 31)) &&& 1) = 1 then (f_X11_isRight_L24 s1 s2 f_t_s n (s3 + 1)) else (if s2 ≤ (s3 + 1) then some 0 else (if ((s1 >>> ((s3 + 1) &&& 31)) &&& 1) = 0 then (f_X11_isRight_L24 s1 s2 f_t_s n (s3 + 2)) else some 0))))
def f_X11_isRight (s1 : Int32) (f_t_s : Nat → Int32) : Option (Int32) :=
  nm (f_t_s (0 : Int32).toNatClampNeg) (fun (x1 : Int32) => (if (f_X11_in s1 0 (((1 : Int32) <<< (x1 &&& 31)) - 2)) = 0 then some 0 else (f_X11_isRight_L24 s1 x1 f_t_s fu 0)))
abbrev rm_X11_isRight : Room := { frames := 2, cells := 0, slots := 0, locals := 46 }
set_option maxHeartbeats 4000000 in
set_option maxRecDepth 100000 in
theorem c_X11_isRight (l : Launch) (D : va_G) (Y : ClassId × ClassId × ClassId) (a_t a_t_s a_t_past a_t_kept a_t_pad a_t_cell a_t_other a_t_rows a_t_read a_t_track a_t_lead a_t_distance a_t_line : Nat) (v_t_isKept : Int32) (v_t_pasts : Int32) (v_t_typed : Int32) (v_t_ends : Int32) (v_t_many : Int32) (v_t_spot : Int32) (f_t_s : Nat → Int32) (s1 : Int32) (R : Int32) (hf : f_X11_isRight s1 f_t_s = some R) : Met l yX11_isRight (ws_ yX11_isRight cX11_isRight 4 (some .boolean)) rm_X11_isRight (va_Pc [.ref a_t, .int s1] (RO D Y [(a_t, .inr (8, [.ref a_t_s, .ref a_t_past, .ref a_t_kept, .int v_t_isKept, .int v_t_pasts, .ref a_t_pad, .int v_t_typed, .ref a_t_cell, .ref a_t_other, .ref a_t_rows, .int v_t_ends, .ref a_t_read, .int v_t_many, .int v_t_spot, .ref a_t_track, .ref a_t_lead, .ref a_t_distance, .ref a_t_line])), (a_t_s, .inl (Y.1, 41, .inl f_t_s))])) (OZ R) 0 0 (fun _ => False) := by
  refine ro_start (by decide) (Nat.le_of_ble_eq_true rfl) ?_
  intro p e s m below meth c ls hx hb hml hr hlocks hown hts hP hE hl
  generalize hargs : List.toArray _ = args at hts ⊢
  have hown : s.vm.findClass RX11 = some m.cls := hown
  have E : EN p m c cX11_isRight 4 s args RX11 := ⟨hx, hb, hml, hown, hts⟩
  have hl : lv_has ls 4 [(0, .ref a_t), (1, .int s1)] := hl
  generalize hQ : MQ below _ args s 0 0 _ = Q
  unfold f_X11_isRight at hf
  have L24 : ∀ (n : Nat) (s1 : Int32) (s2 : Int32) (s3 : Int32) (ls : Array Slot), f_X11_isRight_L24 s1 s2 f_t_s n s3 = some R → lv_has ls 4 [(1, .int s1), (2, .int s2), (3, .int s3)] → W p l e rm_X11_isRight s m args below meth c s.heap [] 0 0 Q (F0 m 24 ls []) := by
    intro n
    induction n with
    | zero =>
      intro s1 s2 s3 ls hf
      cases hf
    | succ n ih =>
      intro s1 s2 s3 ls hf hl
      unfold f_X11_isRight_L24 at hf
      refine lv_iload_n hx hb dX11_isRight_24 rfl (lv_at hl 2 rfl) ?_
      refine lv_iload_n hx hb dX11_isRight_25 rfl (lv_at hl 1 rfl) ?_
      refine lv_icmp_ge (tgt := 69) hx hb dX11_isRight_26 (by decide) (fun c4 => ?_) (fun c4 => ?_)
      · have hf := ite_t c4 hf
        refine lv_iconst (v := 1) hx hb dX11_isRight_69 (by decide) ?_
        obtain rfl := Option.some.inj hf
        subst hQ
        exact en_oz hx hb hr hlocks rfl (Or.inr rfl) dX11_isRight_70
      have hf := ite_f c4 hf
      refine lv_iload_n hx hb dX11_isRight_29 rfl (lv_at hl 0 rfl) ?_
      refine lv_iload_n hx hb dX11_isRight_30 rfl (lv_at hl 2 rfl) ?_
      refine lv_ishr hx hb dX11_isRight_31 ?_
      refine lv_iconst (v := 1) hx hb dX11_isRight_32 (by decide) ?_
      refine lv_iand hx hb dX11_isRight_33 ?_
      refine lv_iconst (v := 1) hx hb dX11_isRight_34 (by decide) ?_
      refine lv_icmp_ne (tgt := 44) hx hb dX11_isRight_35 (by decide) (fun c5 => ?_) (fun c5 => ?_)
      · have hf := ite_f c5 hf
        refine lv_iload_n hx hb dX11_isRight_44 rfl (lv_at hl 2 rfl) ?_
        refine lv_iconst (v := 1) hx hb dX11_isRight_45 (by decide) ?_
        refine lv_iadd hx hb dX11_isRight_46 ?_
        refine lv_iload_n hx hb dX11_isRight_47 rfl (lv_at hl 1 rfl) ?_
        refine lv_icmp_ge (tgt := 67) hx hb dX11_isRight_48 (by decide) (fun c6 => ?_) (fun c6 => ?_)
        · have hf := ite_t c6 hf
          refine lv_iconst (v := 0) hx hb dX11_isRight_67 (by decide) ?_
          obtain rfl := Option.some.inj hf
          subst hQ
          exact en_oz hx hb hr hlocks rfl (Or.inl rfl) dX11_isRight_68
        have hf := ite_f c6 hf
        refine lv_iload_n hx hb dX11_isRight_51 rfl (lv_at hl 0 rfl) ?_
        refine lv_iload_n hx hb dX11_isRight_52 rfl (lv_at hl 2 rfl) ?_
        refine lv_iconst (v := 1) hx hb dX11_isRight_53 (by decide) ?_
        refine lv_iadd hx hb dX11_isRight_54 ?_
        refine lv_ishr hx hb dX11_isRight_55 ?_
        refine lv_iconst (v := 1) hx hb dX11_isRight_56 (by decide) ?_
        refine lv_iand hx hb dX11_isRight_57 ?_
        refine lv_if_ne (tgt := 67) hx hb dX11_isRight_58 (by decide) (fun c7 => ?_) (fun c7 => ?_)
        · have hf := ite_f c7 hf
          refine lv_iconst (v := 0) hx hb dX11_isRight_67 (by decide) ?_
          obtain rfl := Option.some.inj hf
          subst hQ
          exact en_oz hx hb hr hlocks rfl (Or.inl rfl) dX11_isRight_68
        have hf := ite_t c7 hf
        refine lv_iinc (v := (s3 + 2)) (lv' := [(3, .int (s3 + 2)), (1, .int s1), (2, .int s2)]) hx hb dX11_isRight_61 hl (k := 2) rfl rfl (by decide) rfl (fun ls hl => ?_)
        refine lv_goto (tgt := 24) hx hb dX11_isRight_64 (by decide) ?_
        exact ih _ _ _ _ hf (lv_sub hl [1, 2, 0] rfl)
      have hf := ite_t c5 hf
      refine lv_iinc (v := (s3 + 1)) (lv' := [(3, .int (s3 + 1)), (1, .int s1), (2, .int s2)]) hx hb dX11_isRight_38 hl (k := 2) rfl rfl (by decide) rfl (fun ls hl => ?_)
      refine lv_goto (tgt := 24) hx hb dX11_isRight_41 (by decide) ?_
      exact ih _ _ _ _ hf (lv_sub hl [1, 2, 0] rfl)
  refine lv_aload_n hx hb dX11_isRight_0 rfl (lv_at hl 0 rfl) ?_
  refine va_get (D := D) (ci := 8) (v := .ref a_t_s) (C := RX11) (T := TX11) (N := 18) hx hb hts inX11 hown hE.1 hP 0 rfl rfl 0 (by decide) (hts _ qw761) (fun _ h9 => h9) rfl dX11_isRight_1 ?_
  refine lv_iconst (v := 0) hx hb dX11_isRight_4 (by decide) ?_
  refine va_iald hx hb hE.1 hP 1 0 rfl rfl (inb_in (by decide)) dX11_isRight_5 ?_
  refine nm_W hf (fun x1 hf => ?_)
  refine lv_istore_n (lv' := [(2, .int x1), (0, .ref a_t), (1, .int s1)]) hx hb dX11_isRight_6 rfl hl (by decide) rfl (fun ls hl => ?_)
  refine lv_iload_n hx hb dX11_isRight_7 rfl (lv_at hl 2 rfl) ?_
  refine lv_iconst (v := 0) hx hb dX11_isRight_8 (by decide) ?_
  refine lv_iconst (v := 1) hx hb dX11_isRight_9 (by decide) ?_
  refine lv_iload_n hx hb dX11_isRight_10 rfl (lv_at hl 0 rfl) ?_
  refine lv_ishl hx hb dX11_isRight_11 ?_
  refine lv_iconst (v := 2) hx hb dX11_isRight_12 (by decide) ?_
  refine lv_isub hx hb dX11_isRight_13 ?_
  refine af_oz (run_S (As := [.int s1, .int 0, .int (((1 : Int32) <<< (x1 &&& 31)) - 2)]) (rest := []) E (c_X11_in l D Y s1 0 (((1 : Int32) <<< (x1 &&& 31)) - 2) (f_X11_in s1 0 (((1 : Int32) <<< (x1 &&& 31)) - 2)) rfl) qw820 qw821 qw76 qw822 rfl rfl hd_X11_in ⟨Nat.le_of_ble_eq_true rfl, Nat.le_of_ble_eq_true rfl⟩ (pre_roS hP hE [] rfl) rfl hl.1 rfl (Nat.le_of_ble_eq_true rfl) dX11_isRight_14 ⟨Nat.zero_le _, Nat.zero_le _⟩) (fun z2 => ?_)
  refine lv_if_ne (tgt := 22) hx hb dX11_isRight_17 (by decide) (fun c3 => ?_) (fun c3 => ?_)
  · have hf := ite_f c3 hf
    refine lv_iconst (v := 0) hx hb dX11_isRight_22 (by decide) ?_
    refine lv_istore_n (lv' := [(3, .int 0), (2, .int x1), (0, .ref a_t), (1, .int s1)]) hx hb dX11_isRight_23 rfl hl (by decide) rfl (fun ls hl => ?_)
    exact L24 _ _ _ _ _ hf (lv_sub hl [3, 1, 0] rfl)
  have hf := ite_t c3 hf
  refine lv_iconst (v := 0) hx hb dX11_isRight_20 (by decide) ?_
  obtain rfl := Option.some.inj hf
  subst hQ
  exact en_oz hx hb hr hlocks rfl (Or.inl rfl) dX11_isRight_21

def f_X11_toRounds_L2 (f_t_s : Nat → Int32) : Nat → Int32 → (Nat → Int32) → Option ((Nat → Int32))
  | 0, _, _ => none
  | n + 1, s1, f_t_cell => (if (f_t_s (0 : Int32).toNatClampNeg) ≤ s1 then some f_t_cell else gd (inb s1 7) ((f_X11_toRounds_L2 f_t_s n (s1 + 1) (upd f_t_cell s1.toNatClampNeg s1))))
def f_X11_toRounds (f_t_s : Nat → Int32) (f_t_cell : Nat → Int32) : Option ((Nat → Int32)) :=
  (f_X11_toRounds_L2 f_t_s fu 0 f_t_cell)
abbrev rm_X11_toRounds : Room := { frames := 1, cells := 0, slots := 0, locals := 24 }
set_option maxHeartbeats 4000000 in
set_option maxRecDepth 100000 in
theorem c_X11_toRounds (l : Launch) (D : va_G) (Y : ClassId × ClassId × ClassId) (a_t a_t_s a_t_past a_t_kept a_t_pad a_t_cell a_t_other a_t_rows a_t_read a_t_track a_t_lead a_t_distance a_t_line : Nat) (v_t_isKept : Int32) (v_t_pasts : Int32) (v_t_typed : Int32) (v_t_ends : Int32) (v_t_many : Int32) (v_t_spot : Int32) (f_t_s : Nat → Int32) (f_t_cell : Nat → Int32) (sz : Nat) (R : (Nat → Int32)) (hf : f_X11_toRounds f_t_s f_t_cell = some R) : Met l yX11_toRounds (ws_ yX11_toRounds cX11_toRounds 2 none) rm_X11_toRounds (va_Pc [.ref a_t] (RW D Y sz [(a_t, .inr (8, [.ref a_t_s, .ref a_t_past, .ref a_t_kept, .int v_t_isKept, .int v_t_pasts, .ref a_t_pad, .int v_t_typed, .ref a_t_cell, .ref a_t_other, .ref a_t_rows, .int v_t_ends, .ref a_t_read, .int v_t_many, .int v_t_spot, .ref a_t_track, .ref a_t_lead, .ref a_t_distance, .ref a_t_line])), (a_t_s, .inl (Y.1, 41, .inl f_t_s)), (a_t_cell, .inl (Y.1, 7, .inl f_t_cell))])) (QV D [(a_t, .inr (8, [.ref a_t_s, .ref a_t_past, .ref a_t_kept, .int v_t_isKept, .int v_t_pasts, .ref a_t_pad, .int v_t_typed, .ref a_t_cell, .ref a_t_other, .ref a_t_rows, .int v_t_ends, .ref a_t_read, .int v_t_many, .int v_t_spot, .ref a_t_track, .ref a_t_lead, .ref a_t_distance, .ref a_t_line])), (a_t_s, .inl (Y.1, 41, .inl f_t_s)), (a_t_cell, .inl (Y.1, 7, .inl R))] (va_A [(a_t, .inr (8, [.ref a_t_s, .ref a_t_past, .ref a_t_kept, .int v_t_isKept, .int v_t_pasts, .ref a_t_pad, .int v_t_typed, .ref a_t_cell, .ref a_t_other, .ref a_t_rows, .int v_t_ends, .ref a_t_read, .int v_t_many, .int v_t_spot, .ref a_t_track, .ref a_t_lead, .ref a_t_distance, .ref a_t_line])), (a_t_s, .inl (Y.1, 41, .inl f_t_s)), (a_t_cell, .inl (Y.1, 7, .inl f_t_cell))] sz)) 0 0 (va_A [(a_t, .inr (8, [.ref a_t_s, .ref a_t_past, .ref a_t_kept, .int v_t_isKept, .int v_t_pasts, .ref a_t_pad, .int v_t_typed, .ref a_t_cell, .ref a_t_other, .ref a_t_rows, .int v_t_ends, .ref a_t_read, .int v_t_many, .int v_t_spot, .ref a_t_track, .ref a_t_lead, .ref a_t_distance, .ref a_t_line])), (a_t_s, .inl (Y.1, 41, .inl f_t_s)), (a_t_cell, .inl (Y.1, 7, .inl f_t_cell))] sz) := by
  refine rw_start (Qc := fun A => QV D [(a_t, .inr (8, [.ref a_t_s, .ref a_t_past, .ref a_t_kept, .int v_t_isKept, .int v_t_pasts, .ref a_t_pad, .int v_t_typed, .ref a_t_cell, .ref a_t_other, .ref a_t_rows, .int v_t_ends, .ref a_t_read, .int v_t_many, .int v_t_spot, .ref a_t_track, .ref a_t_lead, .ref a_t_distance, .ref a_t_line])), (a_t_s, .inl (Y.1, 41, .inl f_t_s)), (a_t_cell, .inl (Y.1, 7, .inl R))] A) (by decide) (Nat.le_of_ble_eq_true rfl) ?_
  intro p e s m below meth c ls A hx hb hml hr hlocks hown hts hnm hA hP hD hS hE hl
  generalize hargs : List.toArray _ = args at hts ⊢
  have hown : s.vm.findClass RX11 = some m.cls := hown
  have E : EN p m c cX11_toRounds 2 s args RX11 := ⟨hx, hb, hml, hown, hts⟩
  have hl : lv_has ls 2 [(0, .ref a_t)] := hl
  generalize hQ : MQ below _ args s 0 0 _ = Q
  unfold f_X11_toRounds at hf
  have L2 : ∀ (n : Nat) (s1 : Int32) (f_t_cell : Nat → Int32) (H : Heap) (locs : List Loc) (ls : Array Slot), f_X11_toRounds_L2 f_t_s n s1 f_t_cell = some R → va_P D vwCl [(a_t, .inr (8, [.ref a_t_s, .ref a_t_past, .ref a_t_kept, .int v_t_isKept, .int v_t_pasts, .ref a_t_pad, .int v_t_typed, .ref a_t_cell, .ref a_t_other, .ref a_t_rows, .int v_t_ends, .ref a_t_read, .int v_t_many, .int v_t_spot, .ref a_t_track, .ref a_t_lead, .ref a_t_distance, .ref a_t_line])), (a_t_s, .inl (Y.1, 41, .inl f_t_s)), (a_t_cell, .inl (Y.1, 7, .inl f_t_cell))] H → va_D A [(a_t, .inr (8, [.ref a_t_s, .ref a_t_past, .ref a_t_kept, .int v_t_isKept, .int v_t_pasts, .ref a_t_pad, .int v_t_typed, .ref a_t_cell, .ref a_t_other, .ref a_t_rows, .int v_t_ends, .ref a_t_read, .int v_t_many, .int v_t_spot, .ref a_t_track, .ref a_t_lead, .ref a_t_distance, .ref a_t_line])), (a_t_s, .inl (Y.1, 41, .inl f_t_s)), (a_t_cell, .inl (Y.1, 7, .inl f_t_cell))] → va_S A s.heap H locs → lv_has ls 2 [(0, .ref a_t), (1, .int s1)] → W p l e rm_X11_toRounds s m args below meth c H locs 0 0 Q (F0 m 2 ls []) := by
    intro n
    induction n with
    | zero =>
      intro s1 f_t_cell H locs ls hf
      cases hf
    | succ n ih =>
      intro s1 f_t_cell H locs ls hf hP hD hS hl
      unfold f_X11_toRounds_L2 at hf
      refine lv_iload_n hx hb dX11_toRounds_2 rfl (lv_at hl 1 rfl) ?_
      refine lv_aload_n hx hb dX11_toRounds_3 rfl (lv_at hl 0 rfl) ?_
      refine va_get (D := D) (ci := 8) (v := .ref a_t_s) (C := RX11) (T := TX11) (N := 18) hx hb hts inX11 hown hE.1 hP 0 rfl rfl 0 (by decide) (hts _ qw761) (fun _ h9 => h9) rfl dX11_toRounds_4 ?_
      refine lv_iconst (v := 0) hx hb dX11_toRounds_7 (by decide) ?_
      refine va_iald hx hb hE.1 hP 1 0 rfl rfl (inb_in (by decide)) dX11_toRounds_8 ?_
      refine lv_icmp_ge (tgt := 25) hx hb dX11_toRounds_9 (by decide) (fun c1 => ?_) (fun c1 => ?_)
      · have hf := ite_t c1 hf
        obtain rfl := Option.some.inj hf
        subst hQ
        exact en_v hx hb hr hlocks hP hD hS dX11_toRounds_25
      have hf := ite_f c1 hf
      refine lv_aload_n hx hb dX11_toRounds_12 rfl (lv_at hl 0 rfl) ?_
      refine va_get (D := D) (ci := 8) (v := .ref a_t_cell) (C := RX11) (T := TX11) (N := 18) hx hb hts inX11 hown hE.1 hP 0 rfl rfl 7 (by decide) (hts _ qw768) (fun _ h9 => h9) rfl dX11_toRounds_13 ?_
      refine lv_iload_n hx hb dX11_toRounds_16 rfl (lv_at hl 1 rfl) ?_
      refine lv_iload_n hx hb dX11_toRounds_17 rfl (lv_at hl 1 rfl) ?_
      obtain ⟨g2, hf⟩ := gd_s hf
      refine va_iast hx hb hE.1 hP hD hS 2 0 rfl rfl (inb_in g2) dX11_toRounds_18 (fun H locs hP hD hS => ?_)
      have hP : va_P D vwCl [(a_t, .inr (8, [.ref a_t_s, .ref a_t_past, .ref a_t_kept, .int v_t_isKept, .int v_t_pasts, .ref a_t_pad, .int v_t_typed, .ref a_t_cell, .ref a_t_other, .ref a_t_rows, .int v_t_ends, .ref a_t_read, .int v_t_many, .int v_t_spot, .ref a_t_track, .ref a_t_lead, .ref a_t_distance, .ref a_t_line])), (a_t_s, .inl (Y.1, 41, .inl f_t_s)), (a_t_cell, .inl (Y.1, 7, .inl (upd f_t_cell s1.toNatClampNeg s1)))] H := hP
      have hD : va_D A [(a_t, .inr (8, [.ref a_t_s, .ref a_t_past, .ref a_t_kept, .int v_t_isKept, .int v_t_pasts, .ref a_t_pad, .int v_t_typed, .ref a_t_cell, .ref a_t_other, .ref a_t_rows, .int v_t_ends, .ref a_t_read, .int v_t_many, .int v_t_spot, .ref a_t_track, .ref a_t_lead, .ref a_t_distance, .ref a_t_line])), (a_t_s, .inl (Y.1, 41, .inl f_t_s)), (a_t_cell, .inl (Y.1, 7, .inl (upd f_t_cell s1.toNatClampNeg s1)))] := hD
      refine lv_iinc (v := (s1 + 1)) (lv' := [(1, .int (s1 + 1)), (0, .ref a_t)]) hx hb dX11_toRounds_19 hl (k := 1) rfl rfl (by decide) rfl (fun ls hl => ?_)
      refine lv_goto (tgt := 2) hx hb dX11_toRounds_22 (by decide) ?_
      exact ih _ _ _ _ _ hf hP hD hS (lv_sub hl [1, 0] rfl)
  refine lv_iconst (v := 0) hx hb dX11_toRounds_0 (by decide) ?_
  refine lv_istore_n (lv' := [(1, .int 0), (0, .ref a_t)]) hx hb dX11_toRounds_1 rfl hl (by decide) rfl (fun ls hl => ?_)
  exact L2 _ _ _ _ _ _ hf hP hD hS (lv_sub hl [1, 0] rfl)

def f_X11_rings_L2 (s1 : Int32) (f_t_s : Nat → Int32) : Nat → Int32 → (Nat → Int32) → Option ((Nat → Int32))
  | 0, _, _ => none
  | n + 1, s2, f_t_cell => (if (f_t_s (0 : Int32).toNatClampNeg) ≤ s2 then some f_t_cell else (if ((s1 >>> (s2 &&& 31)) &&& 1) = 1 then (f_X11_rings_L2 s1 f_t_s n (s2 + 1) f_t_cell) else gd (inb s2 7) (nm (f_t_cell s2.toNatClampNeg) (fun (x4 : Int32) => gd (inb (s2 + 1) 7) ((f_X11_rings_L2 s1 f_t_s n (s2 + 2) (upd (upd f_t_cell s2.toNatClampNeg (f_t_cell (s2 + 1).toNatClampNeg)) (s2 + 1).toNatClampNeg x4)))))))
def f_X11_rings (s1 : Int32) (f_t_s : Nat → Int32) (f_t_cell : Nat → Int32) : Option ((Nat → Int32)) :=
  (f_X11_rings_L2 s1 f_t_s fu 0 f_t_cell)
abbrev rm_X11_rings : Room := { frames := 1, cells := 0, slots := 0, locals := 24 }
set_option maxHeartbeats 4000000 in
set_option maxRecDepth 100000 in
theorem c_X11_rings (l : Launch) (D : va_G) (Y : ClassId × ClassId × ClassId) (a_t a_t_s a_t_past a_t_kept a_t_pad a_t_cell a_t_other a_t_rows a_t_read a_t_track a_t_lead a_t_distance a_t_line : Nat) (v_t_isKept : Int32) (v_t_pasts : Int32) (v_t_typed : Int32) (v_t_ends : Int32) (v_t_many : Int32) (v_t_spot : Int32) (f_t_s : Nat → Int32) (f_t_cell : Nat → Int32) (s1 : Int32) (sz : Nat) (R : (Nat → Int32)) (hf : f_X11_rings s1 f_t_s f_t_cell = some R) : Met l yX11_rings (ws_ yX11_rings cX11_rings 4 none) rm_X11_rings (va_Pc [.ref a_t, .int s1] (RW D Y sz [(a_t, .inr (8, [.ref a_t_s, .ref a_t_past, .ref a_t_kept, .int v_t_isKept, .int v_t_pasts, .ref a_t_pad, .int v_t_typed, .ref a_t_cell, .ref a_t_other, .ref a_t_rows, .int v_t_ends, .ref a_t_read, .int v_t_many, .int v_t_spot, .ref a_t_track, .ref a_t_lead, .ref a_t_distance, .ref a_t_line])), (a_t_s, .inl (Y.1, 41, .inl f_t_s)), (a_t_cell, .inl (Y.1, 7, .inl f_t_cell))])) (QV D [(a_t, .inr (8, [.ref a_t_s, .ref a_t_past, .ref a_t_kept, .int v_t_isKept, .int v_t_pasts, .ref a_t_pad, .int v_t_typed, .ref a_t_cell, .ref a_t_other, .ref a_t_rows, .int v_t_ends, .ref a_t_read, .int v_t_many, .int v_t_spot, .ref a_t_track, .ref a_t_lead, .ref a_t_distance, .ref a_t_line])), (a_t_s, .inl (Y.1, 41, .inl f_t_s)), (a_t_cell, .inl (Y.1, 7, .inl R))] (va_A [(a_t, .inr (8, [.ref a_t_s, .ref a_t_past, .ref a_t_kept, .int v_t_isKept, .int v_t_pasts, .ref a_t_pad, .int v_t_typed, .ref a_t_cell, .ref a_t_other, .ref a_t_rows, .int v_t_ends, .ref a_t_read, .int v_t_many, .int v_t_spot, .ref a_t_track, .ref a_t_lead, .ref a_t_distance, .ref a_t_line])), (a_t_s, .inl (Y.1, 41, .inl f_t_s)), (a_t_cell, .inl (Y.1, 7, .inl f_t_cell))] sz)) 0 0 (va_A [(a_t, .inr (8, [.ref a_t_s, .ref a_t_past, .ref a_t_kept, .int v_t_isKept, .int v_t_pasts, .ref a_t_pad, .int v_t_typed, .ref a_t_cell, .ref a_t_other, .ref a_t_rows, .int v_t_ends, .ref a_t_read, .int v_t_many, .int v_t_spot, .ref a_t_track, .ref a_t_lead, .ref a_t_distance, .ref a_t_line])), (a_t_s, .inl (Y.1, 41, .inl f_t_s)), (a_t_cell, .inl (Y.1, 7, .inl f_t_cell))] sz) := by
  refine rw_start (Qc := fun A => QV D [(a_t, .inr (8, [.ref a_t_s, .ref a_t_past, .ref a_t_kept, .int v_t_isKept, .int v_t_pasts, .ref a_t_pad, .int v_t_typed, .ref a_t_cell, .ref a_t_other, .ref a_t_rows, .int v_t_ends, .ref a_t_read, .int v_t_many, .int v_t_spot, .ref a_t_track, .ref a_t_lead, .ref a_t_distance, .ref a_t_line])), (a_t_s, .inl (Y.1, 41, .inl f_t_s)), (a_t_cell, .inl (Y.1, 7, .inl R))] A) (by decide) (Nat.le_of_ble_eq_true rfl) ?_
  intro p e s m below meth c ls A hx hb hml hr hlocks hown hts hnm hA hP hD hS hE hl
  generalize hargs : List.toArray _ = args at hts ⊢
  have hown : s.vm.findClass RX11 = some m.cls := hown
  have E : EN p m c cX11_rings 4 s args RX11 := ⟨hx, hb, hml, hown, hts⟩
  have hl : lv_has ls 4 [(0, .ref a_t), (1, .int s1)] := hl
  generalize hQ : MQ below _ args s 0 0 _ = Q
  unfold f_X11_rings at hf
  have L2 : ∀ (n : Nat) (s1 : Int32) (s2 : Int32) (f_t_cell : Nat → Int32) (H : Heap) (locs : List Loc) (ls : Array Slot), f_X11_rings_L2 s1 f_t_s n s2 f_t_cell = some R → va_P D vwCl [(a_t, .inr (8, [.ref a_t_s, .ref a_t_past, .ref a_t_kept, .int v_t_isKept, .int v_t_pasts, .ref a_t_pad, .int v_t_typed, .ref a_t_cell, .ref a_t_other, .ref a_t_rows, .int v_t_ends, .ref a_t_read, .int v_t_many, .int v_t_spot, .ref a_t_track, .ref a_t_lead, .ref a_t_distance, .ref a_t_line])), (a_t_s, .inl (Y.1, 41, .inl f_t_s)), (a_t_cell, .inl (Y.1, 7, .inl f_t_cell))] H → va_D A [(a_t, .inr (8, [.ref a_t_s, .ref a_t_past, .ref a_t_kept, .int v_t_isKept, .int v_t_pasts, .ref a_t_pad, .int v_t_typed, .ref a_t_cell, .ref a_t_other, .ref a_t_rows, .int v_t_ends, .ref a_t_read, .int v_t_many, .int v_t_spot, .ref a_t_track, .ref a_t_lead, .ref a_t_distance, .ref a_t_line])), (a_t_s, .inl (Y.1, 41, .inl f_t_s)), (a_t_cell, .inl (Y.1, 7, .inl f_t_cell))] → va_S A s.heap H locs → lv_has ls 4 [(0, .ref a_t), (1, .int s1), (2, .int s2)] → W p l e rm_X11_rings s m args below meth c H locs 0 0 Q (F0 m 2 ls []) := by
    intro n
    induction n with
    | zero =>
      intro s1 s2 f_t_cell H locs ls hf
      cases hf
    | succ n ih =>
      intro s1 s2 f_t_cell H locs ls hf hP hD hS hl
      unfold f_X11_rings_L2 at hf
      refine lv_iload_n hx hb dX11_rings_2 rfl (lv_at hl 2 rfl) ?_
      refine lv_aload_n hx hb dX11_rings_3 rfl (lv_at hl 0 rfl) ?_
      refine va_get (D := D) (ci := 8) (v := .ref a_t_s) (C := RX11) (T := TX11) (N := 18) hx hb hts inX11 hown hE.1 hP 0 rfl rfl 0 (by decide) (hts _ qw761) (fun _ h9 => h9) rfl dX11_rings_4 ?_
      refine lv_iconst (v := 0) hx hb dX11_rings_7 (by decide) ?_
      refine va_iald hx hb hE.1 hP 1 0 rfl rfl (inb_in (by decide)) dX11_rings_8 ?_
      refine lv_icmp_ge (tgt := 63) hx hb dX11_rings_9 (by decide) (fun c1 => ?_) (fun c1 => ?_)
      · have hf := ite_t c1 hf
        obtain rfl := Option.some.inj hf
        subst hQ
        exact en_v hx hb hr hlocks hP hD hS dX11_rings_63
      have hf := ite_f c1 hf
      refine lv_iload_n hx hb dX11_rings_12 rfl (lv_at hl 1 rfl) ?_
      refine lv_iload_n hx hb dX11_rings_13 rfl (lv_at hl 2 rfl) ?_
      refine lv_ishr hx hb dX11_rings_14 ?_
      refine lv_iconst (v := 1) hx hb dX11_rings_15 (by decide) ?_
      refine lv_iand hx hb dX11_rings_16 ?_
      refine lv_iconst (v := 1) hx hb dX11_rings_17 (by decide) ?_
      refine lv_icmp_ne (tgt := 27) hx hb dX11_rings_18 (by decide) (fun c2 => ?_) (fun c2 => ?_)
      · have hf := ite_f c2 hf
        refine lv_aload_n hx hb dX11_rings_27 rfl (lv_at hl 0 rfl) ?_
        refine va_get (D := D) (ci := 8) (v := .ref a_t_cell) (C := RX11) (T := TX11) (N := 18) hx hb hts inX11 hown hE.1 hP 0 rfl rfl 7 (by decide) (hts _ qw768) (fun _ h9 => h9) rfl dX11_rings_28 ?_
        refine lv_iload_n hx hb dX11_rings_31 rfl (lv_at hl 2 rfl) ?_
        obtain ⟨g3, hf⟩ := gd_s hf
        refine va_iald hx hb hE.1 hP 2 0 rfl rfl (inb_in g3) dX11_rings_32 ?_
        refine nm_W hf (fun x4 hf => ?_)
        refine lv_istore_n (lv' := [(3, .int x4), (0, .ref a_t), (1, .int s1), (2, .int s2)]) hx hb dX11_rings_33 rfl hl (by decide) rfl (fun ls hl => ?_)
        refine lv_aload_n hx hb dX11_rings_34 rfl (lv_at hl 1 rfl) ?_
        refine va_get (D := D) (ci := 8) (v := .ref a_t_cell) (C := RX11) (T := TX11) (N := 18) hx hb hts inX11 hown hE.1 hP 0 rfl rfl 7 (by decide) (hts _ qw768) (fun _ h9 => h9) rfl dX11_rings_35 ?_
        refine lv_iload_n hx hb dX11_rings_38 rfl (lv_at hl 3 rfl) ?_
        refine lv_aload_n hx hb dX11_rings_39 rfl (lv_at hl 1 rfl) ?_
        refine va_get (D := D) (ci := 8) (v := .ref a_t_cell) (C := RX11) (T := TX11) (N := 18) hx hb hts inX11 hown hE.1 hP 0 rfl rfl 7 (by decide) (hts _ qw768) (fun _ h9 => h9) rfl dX11_rings_40 ?_
        refine lv_iload_n hx hb dX11_rings_43 rfl (lv_at hl 3 rfl) ?_
        refine lv_iconst (v := 1) hx hb dX11_rings_44 (by decide) ?_
        refine lv_iadd hx hb dX11_rings_45 ?_
        obtain ⟨g5, hf⟩ := gd_s hf
        refine va_iald hx hb hE.1 hP 2 0 rfl rfl (inb_in g5) dX11_rings_46 ?_
        refine va_iast hx hb hE.1 hP hD hS 2 0 rfl rfl (inb_in g3) dX11_rings_47 (fun H locs hP hD hS => ?_)
        have hP : va_P D vwCl [(a_t, .inr (8, [.ref a_t_s, .ref a_t_past, .ref a_t_kept, .int v_t_isKept, .int v_t_pasts, .ref a_t_pad, .int v_t_typed, .ref a_t_cell, .ref a_t_other, .ref a_t_rows, .int v_t_ends, .ref a_t_read, .int v_t_many, .int v_t_spot, .ref a_t_track, .ref a_t_lead, .ref a_t_distance, .ref a_t_line])), (a_t_s, .inl (Y.1, 41, .inl f_t_s)), (a_t_cell, .inl (Y.1, 7, .inl (upd f_t_cell s2.toNatClampNeg (f_t_cell (s2 + 1).toNatClampNeg))))] H := hP
        have hD : va_D A [(a_t, .inr (8, [.ref a_t_s, .ref a_t_past, .ref a_t_kept, .int v_t_isKept, .int v_t_pasts, .ref a_t_pad, .int v_t_typed, .ref a_t_cell, .ref a_t_other, .ref a_t_rows, .int v_t_ends, .ref a_t_read, .int v_t_many, .int v_t_spot, .ref a_t_track, .ref a_t_lead, .ref a_t_distance, .ref a_t_line])), (a_t_s, .inl (Y.1, 41, .inl f_t_s)), (a_t_cell, .inl (Y.1, 7, .inl (upd f_t_cell s2.toNatClampNeg (f_t_cell (s2 + 1).toNatClampNeg))))] := hD
        refine lv_aload_n hx hb dX11_rings_48 rfl (lv_at hl 1 rfl) ?_
        refine va_get (D := D) (ci := 8) (v := .ref a_t_cell) (C := RX11) (T := TX11) (N := 18) hx hb hts inX11 hown hE.1 hP 0 rfl rfl 7 (by decide) (hts _ qw768) (fun _ h9 => h9) rfl dX11_rings_49 ?_
        refine lv_iload_n hx hb dX11_rings_52 rfl (lv_at hl 3 rfl) ?_
        refine lv_iconst (v := 1) hx hb dX11_rings_53 (by decide) ?_
        refine lv_iadd hx hb dX11_rings_54 ?_
        refine lv_iload_n hx hb dX11_rings_55 rfl (lv_at hl 0 rfl) ?_
        refine va_iast hx hb hE.1 hP hD hS 2 0 rfl rfl (inb_in g5) dX11_rings_56 (fun H locs hP hD hS => ?_)
        have hP : va_P D vwCl [(a_t, .inr (8, [.ref a_t_s, .ref a_t_past, .ref a_t_kept, .int v_t_isKept, .int v_t_pasts, .ref a_t_pad, .int v_t_typed, .ref a_t_cell, .ref a_t_other, .ref a_t_rows, .int v_t_ends, .ref a_t_read, .int v_t_many, .int v_t_spot, .ref a_t_track, .ref a_t_lead, .ref a_t_distance, .ref a_t_line])), (a_t_s, .inl (Y.1, 41, .inl f_t_s)), (a_t_cell, .inl (Y.1, 7, .inl (upd (upd f_t_cell s2.toNatClampNeg (f_t_cell (s2 + 1).toNatClampNeg)) (s2 + 1).toNatClampNeg x4)))] H := hP
        have hD : va_D A [(a_t, .inr (8, [.ref a_t_s, .ref a_t_past, .ref a_t_kept, .int v_t_isKept, .int v_t_pasts, .ref a_t_pad, .int v_t_typed, .ref a_t_cell, .ref a_t_other, .ref a_t_rows, .int v_t_ends, .ref a_t_read, .int v_t_many, .int v_t_spot, .ref a_t_track, .ref a_t_lead, .ref a_t_distance, .ref a_t_line])), (a_t_s, .inl (Y.1, 41, .inl f_t_s)), (a_t_cell, .inl (Y.1, 7, .inl (upd (upd f_t_cell s2.toNatClampNeg (f_t_cell (s2 + 1).toNatClampNeg)) (s2 + 1).toNatClampNeg x4)))] := hD
        refine lv_iinc (v := (s2 + 2)) (lv' := [(2, .int (s2 + 2)), (3, .int x4), (0, .ref a_t), (1, .int s1)]) hx hb dX11_rings_57 hl (k := 3) rfl rfl (by decide) rfl (fun ls hl => ?_)
        refine lv_goto (tgt := 2) hx hb dX11_rings_60 (by decide) ?_
        exact ih _ _ _ _ _ _ hf hP hD hS (lv_sub hl [2, 3, 0] rfl)
      have hf := ite_t c2 hf
      refine lv_iinc (v := (s2 + 1)) (lv' := [(2, .int (s2 + 1)), (0, .ref a_t), (1, .int s1)]) hx hb dX11_rings_21 hl (k := 2) rfl rfl (by decide) rfl (fun ls hl => ?_)
      refine lv_goto (tgt := 2) hx hb dX11_rings_24 (by decide) ?_
      exact ih _ _ _ _ _ _ hf hP hD hS (lv_sub hl [1, 2, 0] rfl)
  refine lv_iconst (v := 0) hx hb dX11_rings_0 (by decide) ?_
  refine lv_istore_n (lv' := [(2, .int 0), (0, .ref a_t), (1, .int s1)]) hx hb dX11_rings_1 rfl hl (by decide) rfl (fun ls hl => ?_)
  exact L2 _ _ _ _ _ _ _ hf hP hD hS (lv_sub hl [1, 2, 0] rfl)

def f_X11_rank_L24 (k : Int32 → Int32 → Option (Int32)) (s1 : Int32) (s2 : Int32) (s3 : Int32) (f_t_s : Nat → Int32) (f_t_cell : Nat → Int32) : Nat → Int32 → Int32 → Option (Int32)
  | 0, _, _ => none
  | n + 1, s4, s5 => (if s1 ≤ s5 then (k s4 s5) else gd (inb s5 7) (gd (inb s3 7) (nm (if (f_t_cell s3.toNatClampNeg) ≤ (f_t_cell s5.toNatClampNeg) then (0 : Int32) else (1 : Int32)) (fun (w7 : Int32) => nm (s4 + w7) (fun (x8 : Int32) => (f_X11_rank_L24 k s1 s2 s3 f_t_s f_t_cell n x8 (s5 + 1)))))))
def f_X11_rank_L11 (s1 : Int32) (f_t_s : Nat → Int32) (f_t_cell : Nat → Int32) : Nat → Int32 → Int32 → Option (Int32)
  | 0, _, _ => none
  | n + 1, s2, s3 => (if s1 ≤ s3 then some s2 else nm (s3 + 1) (fun (x3 : Int32) => (f_X11_rank_L24 (fun (y10 : Int32) (y11 : Int32) => nm ((s2 * (s1 - s3)) + y10) (fun (x12 : Int32) => (f_X11_rank_L11 s1 f_t_s f_t_cell n x12 (s3 + 1)))) s1 s2 s3 f_t_s f_t_cell fu 0 x3)))
def f_X11_rank (f_t_s : Nat → Int32) (f_t_cell : Nat → Int32) : Option (Int32) :=
  nm (f_t_s (0 : Int32).toNatClampNeg) (fun (x1 : Int32) => (f_X11_rank_L11 x1 f_t_s f_t_cell fu 0 0))
abbrev rm_X11_rank : Room := { frames := 1, cells := 0, slots := 0, locals := 24 }
set_option maxHeartbeats 4000000 in
set_option maxRecDepth 100000 in
theorem c_X11_rank (l : Launch) (D : va_G) (Y : ClassId × ClassId × ClassId) (a_t a_t_s a_t_past a_t_kept a_t_pad a_t_cell a_t_other a_t_rows a_t_read a_t_track a_t_lead a_t_distance a_t_line : Nat) (v_t_isKept : Int32) (v_t_pasts : Int32) (v_t_typed : Int32) (v_t_ends : Int32) (v_t_many : Int32) (v_t_spot : Int32) (f_t_s : Nat → Int32) (f_t_cell : Nat → Int32) (R : Int32) (hf : f_X11_rank f_t_s f_t_cell = some R) : Met l yX11_rank (ws_ yX11_rank cX11_rank 6 (some .int)) rm_X11_rank (va_Pc [.ref a_t] (RO D Y [(a_t, .inr (8, [.ref a_t_s, .ref a_t_past, .ref a_t_kept, .int v_t_isKept, .int v_t_pasts, .ref a_t_pad, .int v_t_typed, .ref a_t_cell, .ref a_t_other, .ref a_t_rows, .int v_t_ends, .ref a_t_read, .int v_t_many, .int v_t_spot, .ref a_t_track, .ref a_t_lead, .ref a_t_distance, .ref a_t_line])), (a_t_s, .inl (Y.1, 41, .inl f_t_s)), (a_t_cell, .inl (Y.1, 7, .inl f_t_cell))])) (OI R) 0 0 (fun _ => False) := by
  refine ro_start (by decide) (Nat.le_of_ble_eq_true rfl) ?_
  intro p e s m below meth c ls hx hb hml hr hlocks hown hts hP hE hl
  generalize hargs : List.toArray _ = args at hts ⊢
  have hown : s.vm.findClass RX11 = some m.cls := hown
  have E : EN p m c cX11_rank 6 s args RX11 := ⟨hx, hb, hml, hown, hts⟩
  have hl : lv_has ls 6 [(0, .ref a_t)] := hl
  generalize hQ : MQ below _ args s 0 0 _ = Q
  unfold f_X11_rank at hf
  have L24 : ∀ (n : Nat) (k : Int32 → Int32 → Option (Int32)) (s1 : Int32) (s2 : Int32) (s3 : Int32) (s4 : Int32) (s5 : Int32) (ls : Array Slot), f_X11_rank_L24 k s1 s2 s3 f_t_s f_t_cell n s4 s5 = some R → lv_has ls 6 [(0, .ref a_t), (1, .int s1), (2, .int s2), (3, .int s3), (4, .int s4), (5, .int s5)] → (∀ (y_s4 : Int32) (y_s5 : Int32) (ls : Array Slot), k y_s4 y_s5 = some R → lv_has ls 6 [(0, .ref a_t), (1, .int s1), (2, .int s2), (3, .int s3), (4, .int y_s4)] → W p l e rm_X11_rank s m args below meth c s.heap [] 0 0 Q (F0 m 62 ls [])) → W p l e rm_X11_rank s m args below meth c s.heap [] 0 0 Q (F0 m 24 ls []) := by
    intro n
    induction n with
    | zero =>
      intro k s1 s2 s3 s4 s5 ls hf
      cases hf
    | succ n ih =>
      intro k s1 s2 s3 s4 s5 ls hf hl hk
      unfold f_X11_rank_L24 at hf
      refine lv_iload hx hb dX11_rank_24 (lv_at hl 5 rfl) ?_
      refine lv_iload_n hx hb dX11_rank_26 rfl (lv_at hl 1 rfl) ?_
      refine lv_icmp_ge (tgt := 62) hx hb dX11_rank_27 (by decide) (fun c4 => ?_) (fun c4 => ?_)
      · have hf := ite_t c4 hf
        exact hk _ _ _ hf (lv_sub hl [0, 1, 2, 3, 4] rfl)
      have hf := ite_f c4 hf
      refine lv_iload hx hb dX11_rank_30 (lv_at hl 4 rfl) ?_
      refine lv_aload_n hx hb dX11_rank_32 rfl (lv_at hl 0 rfl) ?_
      refine va_get (D := D) (ci := 8) (v := .ref a_t_cell) (C := RX11) (T := TX11) (N := 18) hx hb hts inX11 hown hE.1 hP 0 rfl rfl 7 (by decide) (hts _ qw768) (fun _ h9 => h9) rfl dX11_rank_33 ?_
      refine lv_iload hx hb dX11_rank_36 (lv_at hl 5 rfl) ?_
      obtain ⟨g5, hf⟩ := gd_s hf
      refine va_iald hx hb hE.1 hP 2 0 rfl rfl (inb_in g5) dX11_rank_38 ?_
      refine lv_aload_n hx hb dX11_rank_39 rfl (lv_at hl 0 rfl) ?_
      refine va_get (D := D) (ci := 8) (v := .ref a_t_cell) (C := RX11) (T := TX11) (N := 18) hx hb hts inX11 hown hE.1 hP 0 rfl rfl 7 (by decide) (hts _ qw768) (fun _ h9 => h9) rfl dX11_rank_40 ?_
      refine lv_iload_n hx hb dX11_rank_43 rfl (lv_at hl 3 rfl) ?_
      obtain ⟨g6, hf⟩ := gd_s hf
      refine va_iald hx hb hE.1 hP 2 0 rfl rfl (inb_in g6) dX11_rank_44 ?_
      refine mg (P := fun (w7 : Int32) => ∀ (ls : Array Slot), lv_has ls 6 [(0, .ref a_t), (1, .int s1), (2, .int s2), (3, .int s3), (5, .int s5)] → W p l e rm_X11_rank s m args below meth c s.heap [] 0 0 Q (F0 m 53 ls [.int w7, .int s4])) hf (fun w7 hf ls hl => ?_) (fun hJ => ?_)
      · refine lv_iadd hx hb dX11_rank_53 ?_
        refine nm_W hf (fun x8 hf => ?_)
        refine lv_istore (lv' := [(4, .int x8), (0, .ref a_t), (1, .int s1), (2, .int s2), (3, .int s3), (5, .int s5)]) hx hb dX11_rank_54 hl (by decide) rfl (fun ls hl => ?_)
        refine lv_iinc (v := (s5 + 1)) (lv' := [(5, .int (s5 + 1)), (4, .int x8), (0, .ref a_t), (1, .int s1), (2, .int s2), (3, .int s3)]) hx hb dX11_rank_56 hl (k := 5) rfl rfl (by decide) rfl (fun ls hl => ?_)
        refine lv_goto (tgt := 24) hx hb dX11_rank_59 (by decide) ?_
        exact ih _ _ _ _ _ _ _ hf (lv_sub hl [2, 3, 4, 5, 1, 0] rfl) hk
      refine lv_icmp_ge (tgt := 52) hx hb dX11_rank_45 (by decide) (fun c9 => ?_) (fun c9 => ?_)
      · have hf := nmi_t c9 hf
        refine lv_iconst (v := 0) hx hb dX11_rank_52 (by decide) ?_
        exact hJ _ (nm_b hf) _ (lv_sub hl [0, 1, 2, 3, 5] rfl)
      have hf := nmi_f c9 hf
      refine lv_iconst (v := 1) hx hb dX11_rank_48 (by decide) ?_
      refine lv_goto (tgt := 53) hx hb dX11_rank_49 (by decide) ?_
      exact hJ _ (nm_b hf) _ (lv_sub hl [0, 1, 2, 3, 5] rfl)
  have L11 : ∀ (n : Nat) (s1 : Int32) (s2 : Int32) (s3 : Int32) (ls : Array Slot), f_X11_rank_L11 s1 f_t_s f_t_cell n s2 s3 = some R → lv_has ls 6 [(0, .ref a_t), (1, .int s1), (2, .int s2), (3, .int s3)] → W p l e rm_X11_rank s m args below meth c s.heap [] 0 0 Q (F0 m 11 ls []) := by
    intro n
    induction n with
    | zero =>
      intro s1 s2 s3 ls hf
      cases hf
    | succ n ih =>
      intro s1 s2 s3 ls hf hl
      unfold f_X11_rank_L11 at hf
      refine lv_iload_n hx hb dX11_rank_11 rfl (lv_at hl 3 rfl) ?_
      refine lv_iload_n hx hb dX11_rank_12 rfl (lv_at hl 1 rfl) ?_
      refine lv_icmp_ge (tgt := 77) hx hb dX11_rank_13 (by decide) (fun c2 => ?_) (fun c2 => ?_)
      · have hf := ite_t c2 hf
        refine lv_iload_n hx hb dX11_rank_77 rfl (lv_at hl 2 rfl) ?_
        obtain rfl := Option.some.inj hf
        subst hQ
        exact en_oi hx hb hr hlocks rfl dX11_rank_78
      have hf := ite_f c2 hf
      refine lv_iconst (v := 0) hx hb dX11_rank_16 (by decide) ?_
      refine lv_istore (lv' := [(4, .int 0), (0, .ref a_t), (1, .int s1), (2, .int s2), (3, .int s3)]) hx hb dX11_rank_17 hl (by decide) rfl (fun ls hl => ?_)
      refine lv_iload_n hx hb dX11_rank_19 rfl (lv_at hl 4 rfl) ?_
      refine lv_iconst (v := 1) hx hb dX11_rank_20 (by decide) ?_
      refine lv_iadd hx hb dX11_rank_21 ?_
      refine nm_W hf (fun x3 hf => ?_)
      refine lv_istore (lv' := [(5, .int x3), (4, .int 0), (0, .ref a_t), (1, .int s1), (2, .int s2), (3, .int s3)]) hx hb dX11_rank_22 hl (by decide) rfl (fun ls hl => ?_)
      refine L24 _ _ _ _ _ _ _ _ hf (lv_sub hl [2, 3, 4, 5, 1, 0] rfl) ?_
      intro y10 y11 ls hf hl
      refine lv_iload_n hx hb dX11_rank_62 rfl (lv_at hl 2 rfl) ?_
      refine lv_iload_n hx hb dX11_rank_63 rfl (lv_at hl 1 rfl) ?_
      refine lv_iload_n hx hb dX11_rank_64 rfl (lv_at hl 3 rfl) ?_
      refine lv_isub hx hb dX11_rank_65 ?_
      refine lv_imul hx hb dX11_rank_66 ?_
      refine lv_iload hx hb dX11_rank_67 (lv_at hl 4 rfl) ?_
      refine lv_iadd hx hb dX11_rank_69 ?_
      refine nm_W hf (fun x12 hf => ?_)
      refine lv_istore_n (lv' := [(2, .int x12), (0, .ref a_t), (1, .int s1), (3, .int s3), (4, .int y10)]) hx hb dX11_rank_70 rfl hl (by decide) rfl (fun ls hl => ?_)
      refine lv_iinc (v := (s3 + 1)) (lv' := [(3, .int (s3 + 1)), (2, .int x12), (0, .ref a_t), (1, .int s1), (4, .int y10)]) hx hb dX11_rank_71 hl (k := 3) rfl rfl (by decide) rfl (fun ls hl => ?_)
      refine lv_goto (tgt := 11) hx hb dX11_rank_74 (by decide) ?_
      exact ih _ _ _ _ hf (lv_sub hl [2, 3, 1, 0] rfl)
  refine lv_aload_n hx hb dX11_rank_0 rfl (lv_at hl 0 rfl) ?_
  refine va_get (D := D) (ci := 8) (v := .ref a_t_s) (C := RX11) (T := TX11) (N := 18) hx hb hts inX11 hown hE.1 hP 0 rfl rfl 0 (by decide) (hts _ qw761) (fun _ h9 => h9) rfl dX11_rank_1 ?_
  refine lv_iconst (v := 0) hx hb dX11_rank_4 (by decide) ?_
  refine va_iald hx hb hE.1 hP 1 0 rfl rfl (inb_in (by decide)) dX11_rank_5 ?_
  refine nm_W hf (fun x1 hf => ?_)
  refine lv_istore_n (lv' := [(1, .int x1), (0, .ref a_t)]) hx hb dX11_rank_6 rfl hl (by decide) rfl (fun ls hl => ?_)
  refine lv_iconst (v := 0) hx hb dX11_rank_7 (by decide) ?_
  refine lv_istore_n (lv' := [(2, .int 0), (1, .int x1), (0, .ref a_t)]) hx hb dX11_rank_8 rfl hl (by decide) rfl (fun ls hl => ?_)
  refine lv_iconst (v := 0) hx hb dX11_rank_9 (by decide) ?_
  refine lv_istore_n (lv' := [(3, .int 0), (2, .int 0), (1, .int x1), (0, .ref a_t)]) hx hb dX11_rank_10 rfl hl (by decide) rfl (fun ls hl => ?_)
  exact L11 _ _ _ _ _ hf (lv_sub hl [3, 2, 1, 0] rfl)

def f_X11_unrank_L45 (k : Int32 → (Nat → Int32) → Option ((Nat → Int32))) (s2 : Int32) (s3 : Int32) (s4 : Int32) (f_t_s : Nat → Int32) : Nat → Int32 → (Nat → Int32) → Option ((Nat → Int32))
  | 0, _, _ => none
  | n + 1, s5, f_t_cell => (if s2 ≤ s5 then (k s5 f_t_cell) else gd (inb s5 7) (gd (inb s4 7) (nm (if (f_t_cell s5.toNatClampNeg) < (f_t_cell s4.toNatClampNeg) then (0 : Int32) else (1 : Int32)) (fun (w11 : Int32) => (f_X11_unrank_L45 k s2 s3 s4 f_t_s n (s5 + 1) (upd f_t_cell s5.toNatClampNeg ((f_t_cell s5.toNatClampNeg) + w11)))))))
def f_X11_unrank_L14 (s2 : Int32) (f_t_s : Nat → Int32) : Nat → Int32 → Int32 → (Nat → Int32) → Option ((Nat → Int32))
  | 0, _, _, _ => none
  | n + 1, s3, s4, f_t_cell => (if s4 < 0 then some f_t_cell else gd (nzb (s2 - s4)) (gd (inb s4 7) (nm (s3 / (s2 - s4)) (fun (x6 : Int32) => nm (s4 + 1) (fun (x7 : Int32) => (f_X11_unrank_L45 (fun (y13 : Int32) (y14 : Nat → Int32) => (f_X11_unrank_L14 s2 f_t_s n x6 (s4 + (-1)) y14)) s2 x6 s4 f_t_s fu x7 (upd f_t_cell s4.toNatClampNeg (s3 - s3 / (s2 - s4) * (s2 - s4)))))))))
def f_X11_unrank (s1 : Int32) (f_t_s : Nat → Int32) (f_t_cell : Nat → Int32) : Option ((Nat → Int32)) :=
  nm (f_t_s (0 : Int32).toNatClampNeg) (fun (x1 : Int32) => nm (x1 - 1) (fun (x2 : Int32) => (f_X11_unrank_L14 x1 f_t_s fu s1 x2 f_t_cell)))
abbrev rm_X11_unrank : Room := { frames := 1, cells := 0, slots := 0, locals := 24 }
set_option maxHeartbeats 4000000 in
set_option maxRecDepth 100000 in
theorem c_X11_unrank (l : Launch) (D : va_G) (Y : ClassId × ClassId × ClassId) (a_t a_t_s a_t_past a_t_kept a_t_pad a_t_cell a_t_other a_t_rows a_t_read a_t_track a_t_lead a_t_distance a_t_line : Nat) (v_t_isKept : Int32) (v_t_pasts : Int32) (v_t_typed : Int32) (v_t_ends : Int32) (v_t_many : Int32) (v_t_spot : Int32) (f_t_s : Nat → Int32) (f_t_cell : Nat → Int32) (s1 : Int32) (sz : Nat) (R : (Nat → Int32)) (hf : f_X11_unrank s1 f_t_s f_t_cell = some R) : Met l yX11_unrank (ws_ yX11_unrank cX11_unrank 6 none) rm_X11_unrank (va_Pc [.ref a_t, .int s1] (RW D Y sz [(a_t, .inr (8, [.ref a_t_s, .ref a_t_past, .ref a_t_kept, .int v_t_isKept, .int v_t_pasts, .ref a_t_pad, .int v_t_typed, .ref a_t_cell, .ref a_t_other, .ref a_t_rows, .int v_t_ends, .ref a_t_read, .int v_t_many, .int v_t_spot, .ref a_t_track, .ref a_t_lead, .ref a_t_distance, .ref a_t_line])), (a_t_s, .inl (Y.1, 41, .inl f_t_s)), (a_t_cell, .inl (Y.1, 7, .inl f_t_cell))])) (QV D [(a_t, .inr (8, [.ref a_t_s, .ref a_t_past, .ref a_t_kept, .int v_t_isKept, .int v_t_pasts, .ref a_t_pad, .int v_t_typed, .ref a_t_cell, .ref a_t_other, .ref a_t_rows, .int v_t_ends, .ref a_t_read, .int v_t_many, .int v_t_spot, .ref a_t_track, .ref a_t_lead, .ref a_t_distance, .ref a_t_line])), (a_t_s, .inl (Y.1, 41, .inl f_t_s)), (a_t_cell, .inl (Y.1, 7, .inl R))] (va_A [(a_t, .inr (8, [.ref a_t_s, .ref a_t_past, .ref a_t_kept, .int v_t_isKept, .int v_t_pasts, .ref a_t_pad, .int v_t_typed, .ref a_t_cell, .ref a_t_other, .ref a_t_rows, .int v_t_ends, .ref a_t_read, .int v_t_many, .int v_t_spot, .ref a_t_track, .ref a_t_lead, .ref a_t_distance, .ref a_t_line])), (a_t_s, .inl (Y.1, 41, .inl f_t_s)), (a_t_cell, .inl (Y.1, 7, .inl f_t_cell))] sz)) 0 0 (va_A [(a_t, .inr (8, [.ref a_t_s, .ref a_t_past, .ref a_t_kept, .int v_t_isKept, .int v_t_pasts, .ref a_t_pad, .int v_t_typed, .ref a_t_cell, .ref a_t_other, .ref a_t_rows, .int v_t_ends, .ref a_t_read, .int v_t_many, .int v_t_spot, .ref a_t_track, .ref a_t_lead, .ref a_t_distance, .ref a_t_line])), (a_t_s, .inl (Y.1, 41, .inl f_t_s)), (a_t_cell, .inl (Y.1, 7, .inl f_t_cell))] sz) := by
  refine rw_start (Qc := fun A => QV D [(a_t, .inr (8, [.ref a_t_s, .ref a_t_past, .ref a_t_kept, .int v_t_isKept, .int v_t_pasts, .ref a_t_pad, .int v_t_typed, .ref a_t_cell, .ref a_t_other, .ref a_t_rows, .int v_t_ends, .ref a_t_read, .int v_t_many, .int v_t_spot, .ref a_t_track, .ref a_t_lead, .ref a_t_distance, .ref a_t_line])), (a_t_s, .inl (Y.1, 41, .inl f_t_s)), (a_t_cell, .inl (Y.1, 7, .inl R))] A) (by decide) (Nat.le_of_ble_eq_true rfl) ?_
  intro p e s m below meth c ls A hx hb hml hr hlocks hown hts hnm hA hP hD hS hE hl
  generalize hargs : List.toArray _ = args at hts ⊢
  have hown : s.vm.findClass RX11 = some m.cls := hown
  have E : EN p m c cX11_unrank 6 s args RX11 := ⟨hx, hb, hml, hown, hts⟩
  have hl : lv_has ls 6 [(0, .ref a_t), (1, .int s1)] := hl
  generalize hQ : MQ below _ args s 0 0 _ = Q
  unfold f_X11_unrank at hf
  have L45 : ∀ (n : Nat) (k : Int32 → (Nat → Int32) → Option ((Nat → Int32))) (s2 : Int32) (s3 : Int32) (s4 : Int32) (s5 : Int32) (f_t_cell : Nat → Int32) (H : Heap) (locs : List Loc) (ls : Array Slot), f_X11_unrank_L45 k s2 s3 s4 f_t_s n s5 f_t_cell = some R → va_P D vwCl [(a_t, .inr (8, [.ref a_t_s, .ref a_t_past, .ref a_t_kept, .int v_t_isKept, .int v_t_pasts, .ref a_t_pad, .int v_t_typed, .ref a_t_cell, .ref a_t_other, .ref a_t_rows, .int v_t_ends, .ref a_t_read, .int v_t_many, .int v_t_spot, .ref a_t_track, .ref a_t_lead, .ref a_t_distance, .ref a_t_line])), (a_t_s, .inl (Y.1, 41, .inl f_t_s)), (a_t_cell, .inl (Y.1, 7, .inl f_t_cell))] H → va_D A [(a_t, .inr (8, [.ref a_t_s, .ref a_t_past, .ref a_t_kept, .int v_t_isKept, .int v_t_pasts, .ref a_t_pad, .int v_t_typed, .ref a_t_cell, .ref a_t_other, .ref a_t_rows, .int v_t_ends, .ref a_t_read, .int v_t_many, .int v_t_spot, .ref a_t_track, .ref a_t_lead, .ref a_t_distance, .ref a_t_line])), (a_t_s, .inl (Y.1, 41, .inl f_t_s)), (a_t_cell, .inl (Y.1, 7, .inl f_t_cell))] → va_S A s.heap H locs → lv_has ls 6 [(0, .ref a_t), (2, .int s2), (3, .int s3), (4, .int s4), (5, .int s5)] → (∀ (y_s5 : Int32) (y_f_t_cell : Nat → Int32) (H : Heap) (locs : List Loc) (ls : Array Slot), k y_s5 y_f_t_cell = some R → va_P D vwCl [(a_t, .inr (8, [.ref a_t_s, .ref a_t_past, .ref a_t_kept, .int v_t_isKept, .int v_t_pasts, .ref a_t_pad, .int v_t_typed, .ref a_t_cell, .ref a_t_other, .ref a_t_rows, .int v_t_ends, .ref a_t_read, .int v_t_many, .int v_t_spot, .ref a_t_track, .ref a_t_lead, .ref a_t_distance, .ref a_t_line])), (a_t_s, .inl (Y.1, 41, .inl f_t_s)), (a_t_cell, .inl (Y.1, 7, .inl y_f_t_cell))] H → va_D A [(a_t, .inr (8, [.ref a_t_s, .ref a_t_past, .ref a_t_kept, .int v_t_isKept, .int v_t_pasts, .ref a_t_pad, .int v_t_typed, .ref a_t_cell, .ref a_t_other, .ref a_t_rows, .int v_t_ends, .ref a_t_read, .int v_t_many, .int v_t_spot, .ref a_t_track, .ref a_t_lead, .ref a_t_distance, .ref a_t_line])), (a_t_s, .inl (Y.1, 41, .inl f_t_s)), (a_t_cell, .inl (Y.1, 7, .inl y_f_t_cell))] → va_S A s.heap H locs → lv_has ls 6 [(0, .ref a_t), (2, .int s2), (3, .int s3), (4, .int s4)] → W p l e rm_X11_unrank s m args below meth c H locs 0 0 Q (F0 m 89 ls [])) → W p l e rm_X11_unrank s m args below meth c H locs 0 0 Q (F0 m 45 ls []) := by
    intro n
    induction n with
    | zero =>
      intro k s2 s3 s4 s5 f_t_cell H locs ls hf
      cases hf
    | succ n ih =>
      intro k s2 s3 s4 s5 f_t_cell H locs ls hf hP hD hS hl hk
      unfold f_X11_unrank_L45 at hf
      refine lv_iload hx hb dX11_unrank_45 (lv_at hl 4 rfl) ?_
      refine lv_iload_n hx hb dX11_unrank_47 rfl (lv_at hl 1 rfl) ?_
      refine lv_icmp_ge (tgt := 89) hx hb dX11_unrank_48 (by decide) (fun c8 => ?_) (fun c8 => ?_)
      · have hf := ite_t c8 hf
        exact hk _ _ _ _ _ hf hP hD hS (lv_sub hl [0, 1, 2, 3] rfl)
      have hf := ite_f c8 hf
      refine lv_aload_n hx hb dX11_unrank_51 rfl (lv_at hl 0 rfl) ?_
      refine va_get (D := D) (ci := 8) (v := .ref a_t_cell) (C := RX11) (T := TX11) (N := 18) hx hb hts inX11 hown hE.1 hP 0 rfl rfl 7 (by decide) (hts _ qw768) (fun _ h9 => h9) rfl dX11_unrank_52 ?_
      refine lv_iload hx hb dX11_unrank_55 (lv_at hl 4 rfl) ?_
      refine lv_dup2_11 hx hb dX11_unrank_57 rfl rfl ?_
      obtain ⟨g9, hf⟩ := gd_s hf
      refine va_iald hx hb hE.1 hP 2 0 rfl rfl (inb_in g9) dX11_unrank_58 ?_
      refine lv_aload_n hx hb dX11_unrank_59 rfl (lv_at hl 0 rfl) ?_
      refine va_get (D := D) (ci := 8) (v := .ref a_t_cell) (C := RX11) (T := TX11) (N := 18) hx hb hts inX11 hown hE.1 hP 0 rfl rfl 7 (by decide) (hts _ qw768) (fun _ h9 => h9) rfl dX11_unrank_60 ?_
      refine lv_iload hx hb dX11_unrank_63 (lv_at hl 4 rfl) ?_
      refine va_iald hx hb hE.1 hP 2 0 rfl rfl (inb_in g9) dX11_unrank_65 ?_
      refine lv_aload_n hx hb dX11_unrank_66 rfl (lv_at hl 0 rfl) ?_
      refine va_get (D := D) (ci := 8) (v := .ref a_t_cell) (C := RX11) (T := TX11) (N := 18) hx hb hts inX11 hown hE.1 hP 0 rfl rfl 7 (by decide) (hts _ qw768) (fun _ h9 => h9) rfl dX11_unrank_67 ?_
      refine lv_iload hx hb dX11_unrank_70 (lv_at hl 3 rfl) ?_
      obtain ⟨g10, hf⟩ := gd_s hf
      refine va_iald hx hb hE.1 hP 2 0 rfl rfl (inb_in g10) dX11_unrank_72 ?_
      refine mg (P := fun (w11 : Int32) => ∀ (ls : Array Slot), lv_has ls 6 [(0, .ref a_t), (2, .int s2), (3, .int s3), (4, .int s4), (5, .int s5)] → W p l e rm_X11_unrank s m args below meth c H locs 0 0 Q (F0 m 81 ls [.int w11, .int (f_t_cell s5.toNatClampNeg), .int s5, .ref a_t_cell])) hf (fun w11 hf ls hl => ?_) (fun hJ => ?_)
      · refine lv_iadd hx hb dX11_unrank_81 ?_
        refine va_iast hx hb hE.1 hP hD hS 2 0 rfl rfl (inb_in g9) dX11_unrank_82 (fun H locs hP hD hS => ?_)
        have hP : va_P D vwCl [(a_t, .inr (8, [.ref a_t_s, .ref a_t_past, .ref a_t_kept, .int v_t_isKept, .int v_t_pasts, .ref a_t_pad, .int v_t_typed, .ref a_t_cell, .ref a_t_other, .ref a_t_rows, .int v_t_ends, .ref a_t_read, .int v_t_many, .int v_t_spot, .ref a_t_track, .ref a_t_lead, .ref a_t_distance, .ref a_t_line])), (a_t_s, .inl (Y.1, 41, .inl f_t_s)), (a_t_cell, .inl (Y.1, 7, .inl (upd f_t_cell s5.toNatClampNeg ((f_t_cell s5.toNatClampNeg) + w11))))] H := hP
        have hD : va_D A [(a_t, .inr (8, [.ref a_t_s, .ref a_t_past, .ref a_t_kept, .int v_t_isKept, .int v_t_pasts, .ref a_t_pad, .int v_t_typed, .ref a_t_cell, .ref a_t_other, .ref a_t_rows, .int v_t_ends, .ref a_t_read, .int v_t_many, .int v_t_spot, .ref a_t_track, .ref a_t_lead, .ref a_t_distance, .ref a_t_line])), (a_t_s, .inl (Y.1, 41, .inl f_t_s)), (a_t_cell, .inl (Y.1, 7, .inl (upd f_t_cell s5.toNatClampNeg ((f_t_cell s5.toNatClampNeg) + w11))))] := hD
        refine lv_iinc (v := (s5 + 1)) (lv' := [(5, .int (s5 + 1)), (0, .ref a_t), (2, .int s2), (3, .int s3), (4, .int s4)]) hx hb dX11_unrank_83 hl (k := 4) rfl rfl (by decide) rfl (fun ls hl => ?_)
        refine lv_goto (tgt := 45) hx hb dX11_unrank_86 (by decide) ?_
        exact ih _ _ _ _ _ _ _ _ _ hf hP hD hS (lv_sub hl [1, 2, 3, 4, 0] rfl) hk
      refine lv_icmp_lt (tgt := 80) hx hb dX11_unrank_73 (by decide) (fun c12 => ?_) (fun c12 => ?_)
      · have hf := nmi_t c12 hf
        refine lv_iconst (v := 0) hx hb dX11_unrank_80 (by decide) ?_
        exact hJ _ (nm_b hf) _ (lv_sub hl [0, 1, 2, 3, 4] rfl)
      have hf := nmi_f c12 hf
      refine lv_iconst (v := 1) hx hb dX11_unrank_76 (by decide) ?_
      refine lv_goto (tgt := 81) hx hb dX11_unrank_77 (by decide) ?_
      exact hJ _ (nm_b hf) _ (lv_sub hl [0, 1, 2, 3, 4] rfl)
  have L14 : ∀ (n : Nat) (s2 : Int32) (s3 : Int32) (s4 : Int32) (f_t_cell : Nat → Int32) (H : Heap) (locs : List Loc) (ls : Array Slot), f_X11_unrank_L14 s2 f_t_s n s3 s4 f_t_cell = some R → va_P D vwCl [(a_t, .inr (8, [.ref a_t_s, .ref a_t_past, .ref a_t_kept, .int v_t_isKept, .int v_t_pasts, .ref a_t_pad, .int v_t_typed, .ref a_t_cell, .ref a_t_other, .ref a_t_rows, .int v_t_ends, .ref a_t_read, .int v_t_many, .int v_t_spot, .ref a_t_track, .ref a_t_lead, .ref a_t_distance, .ref a_t_line])), (a_t_s, .inl (Y.1, 41, .inl f_t_s)), (a_t_cell, .inl (Y.1, 7, .inl f_t_cell))] H → va_D A [(a_t, .inr (8, [.ref a_t_s, .ref a_t_past, .ref a_t_kept, .int v_t_isKept, .int v_t_pasts, .ref a_t_pad, .int v_t_typed, .ref a_t_cell, .ref a_t_other, .ref a_t_rows, .int v_t_ends, .ref a_t_read, .int v_t_many, .int v_t_spot, .ref a_t_track, .ref a_t_lead, .ref a_t_distance, .ref a_t_line])), (a_t_s, .inl (Y.1, 41, .inl f_t_s)), (a_t_cell, .inl (Y.1, 7, .inl f_t_cell))] → va_S A s.heap H locs → lv_has ls 6 [(0, .ref a_t), (2, .int s2), (3, .int s3), (4, .int s4)] → W p l e rm_X11_unrank s m args below meth c H locs 0 0 Q (F0 m 14 ls []) := by
    intro n
    induction n with
    | zero =>
      intro s2 s3 s4 f_t_cell H locs ls hf
      cases hf
    | succ n ih =>
      intro s2 s3 s4 f_t_cell H locs ls hf hP hD hS hl
      unfold f_X11_unrank_L14 at hf
      refine lv_iload hx hb dX11_unrank_14 (lv_at hl 3 rfl) ?_
      refine lv_if_lt (tgt := 95) hx hb dX11_unrank_16 (by decide) (fun c3 => ?_) (fun c3 => ?_)
      · have hf := ite_t c3 hf
        obtain rfl := Option.some.inj hf
        subst hQ
        exact en_v hx hb hr hlocks hP hD hS dX11_unrank_95
      have hf := ite_f c3 hf
      refine lv_aload_n hx hb dX11_unrank_19 rfl (lv_at hl 0 rfl) ?_
      refine va_get (D := D) (ci := 8) (v := .ref a_t_cell) (C := RX11) (T := TX11) (N := 18) hx hb hts inX11 hown hE.1 hP 0 rfl rfl 7 (by decide) (hts _ qw768) (fun _ h9 => h9) rfl dX11_unrank_20 ?_
      refine lv_iload hx hb dX11_unrank_23 (lv_at hl 3 rfl) ?_
      refine lv_iload_n hx hb dX11_unrank_25 rfl (lv_at hl 2 rfl) ?_
      refine lv_iload_n hx hb dX11_unrank_26 rfl (lv_at hl 1 rfl) ?_
      refine lv_iload hx hb dX11_unrank_27 (lv_at hl 3 rfl) ?_
      refine lv_isub hx hb dX11_unrank_29 ?_
      obtain ⟨g4, hf⟩ := gd_s hf
      refine lv_irem hx hb dX11_unrank_30 (nzb_ne g4) ?_
      obtain ⟨g5, hf⟩ := gd_s hf
      refine va_iast hx hb hE.1 hP hD hS 2 0 rfl rfl (inb_in g5) dX11_unrank_31 (fun H locs hP hD hS => ?_)
      have hP : va_P D vwCl [(a_t, .inr (8, [.ref a_t_s, .ref a_t_past, .ref a_t_kept, .int v_t_isKept, .int v_t_pasts, .ref a_t_pad, .int v_t_typed, .ref a_t_cell, .ref a_t_other, .ref a_t_rows, .int v_t_ends, .ref a_t_read, .int v_t_many, .int v_t_spot, .ref a_t_track, .ref a_t_lead, .ref a_t_distance, .ref a_t_line])), (a_t_s, .inl (Y.1, 41, .inl f_t_s)), (a_t_cell, .inl (Y.1, 7, .inl (upd f_t_cell s4.toNatClampNeg (s3 - s3 / (s2 - s4) * (s2 - s4)))))] H := hP
      have hD : va_D A [(a_t, .inr (8, [.ref a_t_s, .ref a_t_past, .ref a_t_kept, .int v_t_isKept, .int v_t_pasts, .ref a_t_pad, .int v_t_typed, .ref a_t_cell, .ref a_t_other, .ref a_t_rows, .int v_t_ends, .ref a_t_read, .int v_t_many, .int v_t_spot, .ref a_t_track, .ref a_t_lead, .ref a_t_distance, .ref a_t_line])), (a_t_s, .inl (Y.1, 41, .inl f_t_s)), (a_t_cell, .inl (Y.1, 7, .inl (upd f_t_cell s4.toNatClampNeg (s3 - s3 / (s2 - s4) * (s2 - s4)))))] := hD
      refine lv_iload_n hx hb dX11_unrank_32 rfl (lv_at hl 2 rfl) ?_
      refine lv_iload_n hx hb dX11_unrank_33 rfl (lv_at hl 1 rfl) ?_
      refine lv_iload hx hb dX11_unrank_34 (lv_at hl 3 rfl) ?_
      refine lv_isub hx hb dX11_unrank_36 ?_
      refine lv_idiv hx hb dX11_unrank_37 (nzb_ne g4) ?_
      refine nm_W hf (fun x6 hf => ?_)
      refine lv_istore_n (lv' := [(3, .int x6), (0, .ref a_t), (2, .int s2), (4, .int s4)]) hx hb dX11_unrank_38 rfl hl (by decide) rfl (fun ls hl => ?_)
      refine lv_iload hx hb dX11_unrank_39 (lv_at hl 3 rfl) ?_
      refine lv_iconst (v := 1) hx hb dX11_unrank_41 (by decide) ?_
      refine lv_iadd hx hb dX11_unrank_42 ?_
      refine nm_W hf (fun x7 hf => ?_)
      refine lv_istore (lv' := [(5, .int x7), (3, .int x6), (0, .ref a_t), (2, .int s2), (4, .int s4)]) hx hb dX11_unrank_43 hl (by decide) rfl (fun ls hl => ?_)
      refine L45 _ _ _ _ _ _ _ _ _ _ hf hP hD hS (lv_sub hl [2, 3, 1, 4, 0] rfl) ?_
      intro y13 y14 H locs ls hf hP hD hS hl
      refine lv_iinc (v := (s4 + (-1))) (lv' := [(4, .int (s4 + (-1))), (0, .ref a_t), (2, .int s2), (3, .int x6)]) hx hb dX11_unrank_89 hl (k := 3) rfl rfl (by decide) rfl (fun ls hl => ?_)
      refine lv_goto (tgt := 14) hx hb dX11_unrank_92 (by decide) ?_
      exact ih _ _ _ _ _ _ _ hf hP hD hS (lv_sub hl [1, 2, 3, 0] rfl)
  refine lv_aload_n hx hb dX11_unrank_0 rfl (lv_at hl 0 rfl) ?_
  refine va_get (D := D) (ci := 8) (v := .ref a_t_s) (C := RX11) (T := TX11) (N := 18) hx hb hts inX11 hown hE.1 hP 0 rfl rfl 0 (by decide) (hts _ qw761) (fun _ h9 => h9) rfl dX11_unrank_1 ?_
  refine lv_iconst (v := 0) hx hb dX11_unrank_4 (by decide) ?_
  refine va_iald hx hb hE.1 hP 1 0 rfl rfl (inb_in (by decide)) dX11_unrank_5 ?_
  refine nm_W hf (fun x1 hf => ?_)
  refine lv_istore_n (lv' := [(2, .int x1), (0, .ref a_t), (1, .int s1)]) hx hb dX11_unrank_6 rfl hl (by decide) rfl (fun ls hl => ?_)
  refine lv_iload_n hx hb dX11_unrank_7 rfl (lv_at hl 2 rfl) ?_
  refine lv_istore_n (lv' := [(3, .int s1), (2, .int x1), (0, .ref a_t), (1, .int s1)]) hx hb dX11_unrank_8 rfl hl (by decide) rfl (fun ls hl => ?_)
  refine lv_iload_n hx hb dX11_unrank_9 rfl (lv_at hl 1 rfl) ?_
  refine lv_iconst (v := 1) hx hb dX11_unrank_10 (by decide) ?_
  refine lv_isub hx hb dX11_unrank_11 ?_
  refine nm_W hf (fun x2 hf => ?_)
  refine lv_istore (lv' := [(4, .int x2), (3, .int s1), (2, .int x1), (0, .ref a_t), (1, .int s1)]) hx hb dX11_unrank_12 hl (by decide) rfl (fun ls hl => ?_)
  exact L14 _ _ _ _ _ _ _ _ hf hP hD hS (lv_sub hl [3, 2, 1, 0] rfl)

def f_X11_changeOf (s1 : Int32) (s2 : Int32) (f_t_s : Nat → Int32) : Option (Int32) :=
  (if s1 ≤ 0 then gd (inb ((5 : Int32) + s2) 41) (some (f_t_s ((5 : Int32) + s2).toNatClampNeg)) else (if s2 = ((f_t_s (1 : Int32).toNatClampNeg) - 1) then gd (inb ((2 : Int32) + s1) 41) (some (f_t_s ((2 : Int32) + s1).toNatClampNeg)) else gd (inb ((5 : Int32) + s2) 41) (some (f_t_s ((5 : Int32) + s2).toNatClampNeg))))
abbrev rm_X11_changeOf : Room := { frames := 1, cells := 0, slots := 0, locals := 24 }
set_option maxHeartbeats 4000000 in
set_option maxRecDepth 100000 in
theorem c_X11_changeOf (l : Launch) (D : va_G) (Y : ClassId × ClassId × ClassId) (a_t a_t_s a_t_past a_t_kept a_t_pad a_t_cell a_t_other a_t_rows a_t_read a_t_track a_t_lead a_t_distance a_t_line : Nat) (v_t_isKept : Int32) (v_t_pasts : Int32) (v_t_typed : Int32) (v_t_ends : Int32) (v_t_many : Int32) (v_t_spot : Int32) (f_t_s : Nat → Int32) (s1 : Int32) (s2 : Int32) (R : Int32) (hf : f_X11_changeOf s1 s2 f_t_s = some R) : Met l yX11_changeOf (ws_ yX11_changeOf cX11_changeOf 3 (some .int)) rm_X11_changeOf (va_Pc [.ref a_t, .int s1, .int s2] (RO D Y [(a_t, .inr (8, [.ref a_t_s, .ref a_t_past, .ref a_t_kept, .int v_t_isKept, .int v_t_pasts, .ref a_t_pad, .int v_t_typed, .ref a_t_cell, .ref a_t_other, .ref a_t_rows, .int v_t_ends, .ref a_t_read, .int v_t_many, .int v_t_spot, .ref a_t_track, .ref a_t_lead, .ref a_t_distance, .ref a_t_line])), (a_t_s, .inl (Y.1, 41, .inl f_t_s))])) (OI R) 0 0 (fun _ => False) := by
  refine ro_start (by decide) (Nat.le_of_ble_eq_true rfl) ?_
  intro p e s m below meth c ls hx hb hml hr hlocks hown hts hP hE hl
  generalize hargs : List.toArray _ = args at hts ⊢
  have hown : s.vm.findClass RX11 = some m.cls := hown
  have E : EN p m c cX11_changeOf 3 s args RX11 := ⟨hx, hb, hml, hown, hts⟩
  have hl : lv_has ls 3 [(0, .ref a_t), (1, .int s1), (2, .int s2)] := hl
  generalize hQ : MQ below _ args s 0 0 _ = Q
  unfold f_X11_changeOf at hf
  refine lv_iload_n hx hb dX11_changeOf_0 rfl (lv_at hl 1 rfl) ?_
  refine lv_if_le (tgt := 27) hx hb dX11_changeOf_1 (by decide) (fun c1 => ?_) (fun c1 => ?_)
  · have hf := ite_t c1 hf
    refine lv_aload_n hx hb dX11_changeOf_27 rfl (lv_at hl 0 rfl) ?_
    refine va_get (D := D) (ci := 8) (v := .ref a_t_s) (C := RX11) (T := TX11) (N := 18) hx hb hts inX11 hown hE.1 hP 0 rfl rfl 0 (by decide) (hts _ qw761) (fun _ h9 => h9) rfl dX11_changeOf_28 ?_
    refine lv_iconst (v := 5) hx hb dX11_changeOf_31 (by decide) ?_
    refine lv_iload_n hx hb dX11_changeOf_32 rfl (lv_at hl 2 rfl) ?_
    refine lv_iadd hx hb dX11_changeOf_33 ?_
    obtain ⟨g2, hf⟩ := gd_s hf
    refine va_iald hx hb hE.1 hP 1 0 rfl rfl (inb_in g2) dX11_changeOf_34 ?_
    obtain rfl := Option.some.inj hf
    subst hQ
    exact en_oi hx hb hr hlocks rfl dX11_changeOf_35
  have hf := ite_f c1 hf
  refine lv_iload_n hx hb dX11_changeOf_4 rfl (lv_at hl 2 rfl) ?_
  refine lv_aload_n hx hb dX11_changeOf_5 rfl (lv_at hl 0 rfl) ?_
  refine va_get (D := D) (ci := 8) (v := .ref a_t_s) (C := RX11) (T := TX11) (N := 18) hx hb hts inX11 hown hE.1 hP 0 rfl rfl 0 (by decide) (hts _ qw761) (fun _ h9 => h9) rfl dX11_changeOf_6 ?_
  refine lv_iconst (v := 1) hx hb dX11_changeOf_9 (by decide) ?_
  refine va_iald hx hb hE.1 hP 1 0 rfl rfl (inb_in (by decide)) dX11_changeOf_10 ?_
  refine lv_iconst (v := 1) hx hb dX11_changeOf_11 (by decide) ?_
  refine lv_isub hx hb dX11_changeOf_12 ?_
  refine lv_icmp_ne (tgt := 27) hx hb dX11_changeOf_13 (by decide) (fun c3 => ?_) (fun c3 => ?_)
  · have hf := ite_f c3 hf
    refine lv_aload_n hx hb dX11_changeOf_27 rfl (lv_at hl 0 rfl) ?_
    refine va_get (D := D) (ci := 8) (v := .ref a_t_s) (C := RX11) (T := TX11) (N := 18) hx hb hts inX11 hown hE.1 hP 0 rfl rfl 0 (by decide) (hts _ qw761) (fun _ h9 => h9) rfl dX11_changeOf_28 ?_
    refine lv_iconst (v := 5) hx hb dX11_changeOf_31 (by decide) ?_
    refine lv_iload_n hx hb dX11_changeOf_32 rfl (lv_at hl 2 rfl) ?_
    refine lv_iadd hx hb dX11_changeOf_33 ?_
    obtain ⟨g4, hf⟩ := gd_s hf
    refine va_iald hx hb hE.1 hP 1 0 rfl rfl (inb_in g4) dX11_changeOf_34 ?_
    obtain rfl := Option.some.inj hf
    subst hQ
    exact en_oi hx hb hr hlocks rfl dX11_changeOf_35
  have hf := ite_t c3 hf
  refine lv_aload_n hx hb dX11_changeOf_16 rfl (lv_at hl 0 rfl) ?_
  refine va_get (D := D) (ci := 8) (v := .ref a_t_s) (C := RX11) (T := TX11) (N := 18) hx hb hts inX11 hown hE.1 hP 0 rfl rfl 0 (by decide) (hts _ qw761) (fun _ h9 => h9) rfl dX11_changeOf_17 ?_
  refine lv_iconst (v := 2) hx hb dX11_changeOf_20 (by decide) ?_
  refine lv_iload_n hx hb dX11_changeOf_21 rfl (lv_at hl 1 rfl) ?_
  refine lv_iadd hx hb dX11_changeOf_22 ?_
  obtain ⟨g5, hf⟩ := gd_s hf
  refine va_iald hx hb hE.1 hP 1 0 rfl rfl (inb_in g5) dX11_changeOf_23 ?_
  refine lv_goto (tgt := 35) hx hb dX11_changeOf_24 (by decide) ?_
  obtain rfl := Option.some.inj hf
  subst hQ
  exact en_oi hx hb hr hlocks rfl dX11_changeOf_35

def f_X11_ringsLead_L2 (s1 : Int32) (f_t_s : Nat → Int32) : Nat → Int32 → Int32 → (Nat → Int32) → (Nat → Int32) → Option (Int32 × (Nat → Int32) × (Nat → Int32))
  | 0, _, _, _, _ => none
  | n + 1, s2, v_t_ends, f_t_cell, f_t_rows => (if (f_t_s (1 : Int32).toNatClampNeg) ≤ s2 then some (v_t_ends, f_t_cell, f_t_rows) else bd (f_X11_changeOf s1 s2 f_t_s) (fun q2 => bd (f_X11_rings q2 f_t_s f_t_cell) (fun q4 => nm (v_t_ends + 1) (fun (x6 : Int32) => bd (f_X11_rank f_t_s q4) (fun q7 => gd (inb x6 341) ((f_X11_ringsLead_L2 s1 f_t_s n (s2 + 1) x6 q4 (upd f_t_rows x6.toNatClampNeg q7))))))))
def f_X11_ringsLead (s1 : Int32) (v_t_ends : Int32) (f_t_s : Nat → Int32) (f_t_cell : Nat → Int32) (f_t_rows : Nat → Int32) : Option (Int32 × (Nat → Int32) × (Nat → Int32)) :=
  (f_X11_ringsLead_L2 s1 f_t_s fu 0 v_t_ends f_t_cell f_t_rows)
abbrev rm_X11_ringsLead : Room := { frames := 2, cells := 0, slots := 0, locals := 49 }
set_option maxHeartbeats 4000000 in
set_option maxRecDepth 100000 in
theorem c_X11_ringsLead (l : Launch) (D : va_G) (Y : ClassId × ClassId × ClassId) (a_t a_t_s a_t_past a_t_kept a_t_pad a_t_cell a_t_other a_t_rows a_t_read a_t_track a_t_lead a_t_distance a_t_line : Nat) (v_t_isKept : Int32) (v_t_pasts : Int32) (v_t_typed : Int32) (v_t_ends : Int32) (v_t_many : Int32) (v_t_spot : Int32) (f_t_s : Nat → Int32) (f_t_cell : Nat → Int32) (f_t_rows : Nat → Int32) (s1 : Int32) (sz : Nat) (R : Int32 × (Nat → Int32) × (Nat → Int32)) (hf : f_X11_ringsLead s1 v_t_ends f_t_s f_t_cell f_t_rows = some R) : Met l yX11_ringsLead (ws_ yX11_ringsLead cX11_ringsLead 3 none) rm_X11_ringsLead (va_Pc [.ref a_t, .int s1] (RW D Y sz [(a_t, .inr (8, [.ref a_t_s, .ref a_t_past, .ref a_t_kept, .int v_t_isKept, .int v_t_pasts, .ref a_t_pad, .int v_t_typed, .ref a_t_cell, .ref a_t_other, .ref a_t_rows, .int v_t_ends, .ref a_t_read, .int v_t_many, .int v_t_spot, .ref a_t_track, .ref a_t_lead, .ref a_t_distance, .ref a_t_line])), (a_t_s, .inl (Y.1, 41, .inl f_t_s)), (a_t_cell, .inl (Y.1, 7, .inl f_t_cell)), (a_t_rows, .inl (Y.1, 341, .inl f_t_rows))])) (QV D [(a_t, .inr (8, [.ref a_t_s, .ref a_t_past, .ref a_t_kept, .int v_t_isKept, .int v_t_pasts, .ref a_t_pad, .int v_t_typed, .ref a_t_cell, .ref a_t_other, .ref a_t_rows, .int R.1, .ref a_t_read, .int v_t_many, .int v_t_spot, .ref a_t_track, .ref a_t_lead, .ref a_t_distance, .ref a_t_line])), (a_t_s, .inl (Y.1, 41, .inl f_t_s)), (a_t_cell, .inl (Y.1, 7, .inl R.2.1)), (a_t_rows, .inl (Y.1, 341, .inl R.2.2))] (va_A [(a_t, .inr (8, [.ref a_t_s, .ref a_t_past, .ref a_t_kept, .int v_t_isKept, .int v_t_pasts, .ref a_t_pad, .int v_t_typed, .ref a_t_cell, .ref a_t_other, .ref a_t_rows, .int v_t_ends, .ref a_t_read, .int v_t_many, .int v_t_spot, .ref a_t_track, .ref a_t_lead, .ref a_t_distance, .ref a_t_line])), (a_t_s, .inl (Y.1, 41, .inl f_t_s)), (a_t_cell, .inl (Y.1, 7, .inl f_t_cell)), (a_t_rows, .inl (Y.1, 341, .inl f_t_rows))] sz)) 0 0 (va_A [(a_t, .inr (8, [.ref a_t_s, .ref a_t_past, .ref a_t_kept, .int v_t_isKept, .int v_t_pasts, .ref a_t_pad, .int v_t_typed, .ref a_t_cell, .ref a_t_other, .ref a_t_rows, .int v_t_ends, .ref a_t_read, .int v_t_many, .int v_t_spot, .ref a_t_track, .ref a_t_lead, .ref a_t_distance, .ref a_t_line])), (a_t_s, .inl (Y.1, 41, .inl f_t_s)), (a_t_cell, .inl (Y.1, 7, .inl f_t_cell)), (a_t_rows, .inl (Y.1, 341, .inl f_t_rows))] sz) := by
  refine rw_start (Qc := fun A => QV D [(a_t, .inr (8, [.ref a_t_s, .ref a_t_past, .ref a_t_kept, .int v_t_isKept, .int v_t_pasts, .ref a_t_pad, .int v_t_typed, .ref a_t_cell, .ref a_t_other, .ref a_t_rows, .int R.1, .ref a_t_read, .int v_t_many, .int v_t_spot, .ref a_t_track, .ref a_t_lead, .ref a_t_distance, .ref a_t_line])), (a_t_s, .inl (Y.1, 41, .inl f_t_s)), (a_t_cell, .inl (Y.1, 7, .inl R.2.1)), (a_t_rows, .inl (Y.1, 341, .inl R.2.2))] A) (by decide) (Nat.le_of_ble_eq_true rfl) ?_
  intro p e s m below meth c ls A hx hb hml hr hlocks hown hts hnm hA hP hD hS hE hl
  generalize hargs : List.toArray _ = args at hts ⊢
  have hown : s.vm.findClass RX11 = some m.cls := hown
  have E : EN p m c cX11_ringsLead 3 s args RX11 := ⟨hx, hb, hml, hown, hts⟩
  have hl : lv_has ls 3 [(0, .ref a_t), (1, .int s1)] := hl
  generalize hQ : MQ below _ args s 0 0 _ = Q
  unfold f_X11_ringsLead at hf
  have L2 : ∀ (n : Nat) (s1 : Int32) (s2 : Int32) (v_t_ends : Int32) (f_t_cell : Nat → Int32) (f_t_rows : Nat → Int32) (H : Heap) (locs : List Loc) (ls : Array Slot), f_X11_ringsLead_L2 s1 f_t_s n s2 v_t_ends f_t_cell f_t_rows = some R → va_P D vwCl [(a_t, .inr (8, [.ref a_t_s, .ref a_t_past, .ref a_t_kept, .int v_t_isKept, .int v_t_pasts, .ref a_t_pad, .int v_t_typed, .ref a_t_cell, .ref a_t_other, .ref a_t_rows, .int v_t_ends, .ref a_t_read, .int v_t_many, .int v_t_spot, .ref a_t_track, .ref a_t_lead, .ref a_t_distance, .ref a_t_line])), (a_t_s, .inl (Y.1, 41, .inl f_t_s)), (a_t_cell, .inl (Y.1, 7, .inl f_t_cell)), (a_t_rows, .inl (Y.1, 341, .inl f_t_rows))] H → va_D A [(a_t, .inr (8, [.ref a_t_s, .ref a_t_past, .ref a_t_kept, .int v_t_isKept, .int v_t_pasts, .ref a_t_pad, .int v_t_typed, .ref a_t_cell, .ref a_t_other, .ref a_t_rows, .int v_t_ends, .ref a_t_read, .int v_t_many, .int v_t_spot, .ref a_t_track, .ref a_t_lead, .ref a_t_distance, .ref a_t_line])), (a_t_s, .inl (Y.1, 41, .inl f_t_s)), (a_t_cell, .inl (Y.1, 7, .inl f_t_cell)), (a_t_rows, .inl (Y.1, 341, .inl f_t_rows))] → va_S A s.heap H locs → lv_has ls 3 [(0, .ref a_t), (1, .int s1), (2, .int s2)] → W p l e rm_X11_ringsLead s m args below meth c H locs 0 0 Q (F0 m 2 ls []) := by
    intro n
    induction n with
    | zero =>
      intro s1 s2 v_t_ends f_t_cell f_t_rows H locs ls hf
      cases hf
    | succ n ih =>
      intro s1 s2 v_t_ends f_t_cell f_t_rows H locs ls hf hP hD hS hl
      unfold f_X11_ringsLead_L2 at hf
      refine lv_iload_n hx hb dX11_ringsLead_2 rfl (lv_at hl 2 rfl) ?_
      refine lv_aload_n hx hb dX11_ringsLead_3 rfl (lv_at hl 0 rfl) ?_
      refine va_get (D := D) (ci := 8) (v := .ref a_t_s) (C := RX11) (T := TX11) (N := 18) hx hb hts inX11 hown hE.1 hP 0 rfl rfl 0 (by decide) (hts _ qw761) (fun _ h9 => h9) rfl dX11_ringsLead_4 ?_
      refine lv_iconst (v := 1) hx hb dX11_ringsLead_7 (by decide) ?_
      refine va_iald hx hb hE.1 hP 1 0 rfl rfl (inb_in (by decide)) dX11_ringsLead_8 ?_
      refine lv_icmp_ge (tgt := 51) hx hb dX11_ringsLead_9 (by decide) (fun c1 => ?_) (fun c1 => ?_)
      · have hf := ite_t c1 hf
        obtain rfl := Option.some.inj hf
        subst hQ
        exact en_v hx hb hr hlocks hP hD hS dX11_ringsLead_51
      have hf := ite_f c1 hf
      refine lv_aload_n hx hb dX11_ringsLead_12 rfl (lv_at hl 0 rfl) ?_
      refine lv_aload_n hx hb dX11_ringsLead_13 rfl (lv_at hl 0 rfl) ?_
      refine lv_iload_n hx hb dX11_ringsLead_14 rfl (lv_at hl 1 rfl) ?_
      refine lv_iload_n hx hb dX11_ringsLead_15 rfl (lv_at hl 2 rfl) ?_
      obtain ⟨q2, h3, hf⟩ := bd_s hf
      refine af_oi (run_V (As := [.int s1, .int s2]) (rest := [.ref a_t]) E (c_X11_changeOf l D Y a_t a_t_s a_t_past a_t_kept a_t_pad a_t_cell a_t_other a_t_rows a_t_read a_t_track a_t_lead a_t_distance a_t_line v_t_isKept v_t_pasts v_t_typed v_t_ends v_t_many v_t_spot f_t_s s1 s2 q2 h3) qw914 qw916 qw35 qw76 qw917 rfl rfl hd_X11_changeOf ⟨Nat.le_of_ble_eq_true rfl, Nat.le_of_ble_eq_true rfl⟩ (pre_roV hP hE [0, 1] rfl (ci := 8) (q0 := 0) rfl rfl) rfl hl.1 rfl (Nat.le_of_ble_eq_true rfl) dX11_ringsLead_16 ⟨Nat.zero_le _, Nat.zero_le _⟩) ?_
      obtain ⟨q4, h5, hf⟩ := bd_s hf
      refine af_v0 (wc := [(a_t, .inr (8, [.ref a_t_s, .ref a_t_past, .ref a_t_kept, .int v_t_isKept, .int v_t_pasts, .ref a_t_pad, .int v_t_typed, .ref a_t_cell, .ref a_t_other, .ref a_t_rows, .int v_t_ends, .ref a_t_read, .int v_t_many, .int v_t_spot, .ref a_t_track, .ref a_t_lead, .ref a_t_distance, .ref a_t_line])), (a_t_s, .inl (Y.1, 41, .inl f_t_s)), (a_t_cell, .inl (Y.1, 7, .inl f_t_cell))]) (wr := [(a_t_rows, .inl (Y.1, 341, .inl f_t_rows))]) (wn := [(a_t, .inr (8, [.ref a_t_s, .ref a_t_past, .ref a_t_kept, .int v_t_isKept, .int v_t_pasts, .ref a_t_pad, .int v_t_typed, .ref a_t_cell, .ref a_t_other, .ref a_t_rows, .int v_t_ends, .ref a_t_read, .int v_t_many, .int v_t_spot, .ref a_t_track, .ref a_t_lead, .ref a_t_distance, .ref a_t_line])), (a_t_s, .inl (Y.1, 41, .inl f_t_s)), (a_t_cell, .inl (Y.1, 7, .inl q4)), (a_t_rows, .inl (Y.1, 341, .inl f_t_rows))]) (run_V (As := [.int q2]) (rest := []) E (c_X11_rings l D Y a_t a_t_s a_t_past a_t_kept a_t_pad a_t_cell a_t_other a_t_rows a_t_read a_t_track a_t_lead a_t_distance a_t_line v_t_isKept v_t_pasts v_t_typed v_t_ends v_t_many v_t_spot f_t_s f_t_cell q2 H.size q4 h5) qw918 qw920 qw36 qw76 qw921 rfl rfl hd_X11_rings ⟨Nat.le_of_ble_eq_true rfl, Nat.le_of_ble_eq_true rfl⟩ (pre_rwV hP hD hE [0, 1, 2] rfl (by decide) rfl (ci := 8) (q0 := 0) rfl rfl) rfl hl.1 rfl (Nat.le_of_ble_eq_true rfl) dX11_ringsLead_19 ⟨Nat.zero_le _, Nat.zero_le _⟩) hP hD hS hA [0, 1, 2] [3] [1, 2, 3, 0] rfl rfl (by decide) (by decide) rfl rfl (by decide) (fun H locs  hP hD hS => ?_)
      refine lv_aload_n hx hb dX11_ringsLead_22 rfl (lv_at hl 0 rfl) ?_
      refine lv_dup hx hb dX11_ringsLead_23 rfl ?_
      refine va_get (D := D) (ci := 8) (v := .int v_t_ends) (C := RX11) (T := TX11) (N := 18) hx hb hts inX11 hown hE.1 hP 0 rfl rfl 10 (by decide) (hts _ qw771) (fun _ h9 => h9) rfl dX11_ringsLead_24 ?_
      refine lv_iconst (v := 1) hx hb dX11_ringsLead_27 (by decide) ?_
      refine lv_iadd hx hb dX11_ringsLead_28 ?_
      refine nm_W hf (fun x6 hf => ?_)
      refine va_put (D := D) (ci := 8) (v := .int x6) (ty := .int) (C := RX11) (T := TX11) (N := 18) hx hb hts inX11 tyX11 tyX11_ok nmX11 hown hE.1 hP hD hS 0 rfl rfl 10 (by decide) (hts _ qw771) (fun _ h9 => h9) rfl (tyX11_ok 10 (by decide)) rfl rfl (Nat.le_of_ble_eq_true rfl) dX11_ringsLead_29 (fun H locs hP hD hS => ?_)
      have hP : va_P D vwCl [(a_t, .inr (8, [.ref a_t_s, .ref a_t_past, .ref a_t_kept, .int v_t_isKept, .int v_t_pasts, .ref a_t_pad, .int v_t_typed, .ref a_t_cell, .ref a_t_other, .ref a_t_rows, .int x6, .ref a_t_read, .int v_t_many, .int v_t_spot, .ref a_t_track, .ref a_t_lead, .ref a_t_distance, .ref a_t_line])), (a_t_s, .inl (Y.1, 41, .inl f_t_s)), (a_t_cell, .inl (Y.1, 7, .inl q4)), (a_t_rows, .inl (Y.1, 341, .inl f_t_rows))] H := hP
      have hD : va_D A [(a_t, .inr (8, [.ref a_t_s, .ref a_t_past, .ref a_t_kept, .int v_t_isKept, .int v_t_pasts, .ref a_t_pad, .int v_t_typed, .ref a_t_cell, .ref a_t_other, .ref a_t_rows, .int x6, .ref a_t_read, .int v_t_many, .int v_t_spot, .ref a_t_track, .ref a_t_lead, .ref a_t_distance, .ref a_t_line])), (a_t_s, .inl (Y.1, 41, .inl f_t_s)), (a_t_cell, .inl (Y.1, 7, .inl q4)), (a_t_rows, .inl (Y.1, 341, .inl f_t_rows))] := hD
      refine lv_aload_n hx hb dX11_ringsLead_32 rfl (lv_at hl 0 rfl) ?_
      refine va_get (D := D) (ci := 8) (v := .ref a_t_rows) (C := RX11) (T := TX11) (N := 18) hx hb hts inX11 hown hE.1 hP 0 rfl rfl 9 (by decide) (hts _ qw770) (fun _ h9 => h9) rfl dX11_ringsLead_33 ?_
      refine lv_aload_n hx hb dX11_ringsLead_36 rfl (lv_at hl 0 rfl) ?_
      refine va_get (D := D) (ci := 8) (v := .int x6) (C := RX11) (T := TX11) (N := 18) hx hb hts inX11 hown hE.1 hP 0 rfl rfl 10 (by decide) (hts _ qw771) (fun _ h9 => h9) rfl dX11_ringsLead_37 ?_
      refine lv_aload_n hx hb dX11_ringsLead_40 rfl (lv_at hl 0 rfl) ?_
      obtain ⟨q7, h8, hf⟩ := bd_s hf
      refine af_oi (run_V (As := []) (rest := [.int x6, .ref a_t_rows]) E (c_X11_rank l D Y a_t a_t_s a_t_past a_t_kept a_t_pad a_t_cell a_t_other a_t_rows a_t_read a_t_track a_t_lead a_t_distance a_t_line v_t_isKept v_t_pasts v_t_typed x6 v_t_many v_t_spot f_t_s q4 q7 h8) qw922 qw924 qw37 qw76 qw925 rfl rfl hd_X11_rank ⟨Nat.le_of_ble_eq_true rfl, Nat.le_of_ble_eq_true rfl⟩ (pre_roV hP hE [0, 1, 2] rfl (ci := 8) (q0 := 0) rfl rfl) rfl hl.1 rfl (Nat.le_of_ble_eq_true rfl) dX11_ringsLead_41 ⟨Nat.zero_le _, Nat.zero_le _⟩) ?_
      obtain ⟨g9, hf⟩ := gd_s hf
      refine va_iast hx hb hE.1 hP hD hS 3 0 rfl rfl (inb_in g9) dX11_ringsLead_44 (fun H locs hP hD hS => ?_)
      have hP : va_P D vwCl [(a_t, .inr (8, [.ref a_t_s, .ref a_t_past, .ref a_t_kept, .int v_t_isKept, .int v_t_pasts, .ref a_t_pad, .int v_t_typed, .ref a_t_cell, .ref a_t_other, .ref a_t_rows, .int x6, .ref a_t_read, .int v_t_many, .int v_t_spot, .ref a_t_track, .ref a_t_lead, .ref a_t_distance, .ref a_t_line])), (a_t_s, .inl (Y.1, 41, .inl f_t_s)), (a_t_cell, .inl (Y.1, 7, .inl q4)), (a_t_rows, .inl (Y.1, 341, .inl (upd f_t_rows x6.toNatClampNeg q7)))] H := hP
      have hD : va_D A [(a_t, .inr (8, [.ref a_t_s, .ref a_t_past, .ref a_t_kept, .int v_t_isKept, .int v_t_pasts, .ref a_t_pad, .int v_t_typed, .ref a_t_cell, .ref a_t_other, .ref a_t_rows, .int x6, .ref a_t_read, .int v_t_many, .int v_t_spot, .ref a_t_track, .ref a_t_lead, .ref a_t_distance, .ref a_t_line])), (a_t_s, .inl (Y.1, 41, .inl f_t_s)), (a_t_cell, .inl (Y.1, 7, .inl q4)), (a_t_rows, .inl (Y.1, 341, .inl (upd f_t_rows x6.toNatClampNeg q7)))] := hD
      refine lv_iinc (v := (s2 + 1)) (lv' := [(2, .int (s2 + 1)), (0, .ref a_t), (1, .int s1)]) hx hb dX11_ringsLead_45 hl (k := 2) rfl rfl (by decide) rfl (fun ls hl => ?_)
      refine lv_goto (tgt := 2) hx hb dX11_ringsLead_48 (by decide) ?_
      exact ih _ _ _ _ _ _ _ _ hf hP hD hS (lv_sub hl [1, 2, 0] rfl)
  refine lv_iconst (v := 0) hx hb dX11_ringsLead_0 (by decide) ?_
  refine lv_istore_n (lv' := [(2, .int 0), (0, .ref a_t), (1, .int s1)]) hx hb dX11_ringsLead_1 rfl hl (by decide) rfl (fun ls hl => ?_)
  exact L2 _ _ _ _ _ _ _ _ _ hf hP hD hS (lv_sub hl [1, 2, 0] rfl)

def f_X11_ringsAll_L18 (k : Int32 → Int32 → (Nat → Int32) → (Nat → Int32) → Option (Int32 × (Nat → Int32) × (Nat → Int32))) (s1 : Int32) (f_t_s : Nat → Int32) : Nat → Int32 → Int32 → (Nat → Int32) → (Nat → Int32) → Option (Int32 × (Nat → Int32) × (Nat → Int32))
  | 0, _, _, _, _ => none
  | n + 1, s2, v_t_ends, f_t_cell, f_t_rows => (if (f_t_s (2 : Int32).toNatClampNeg) ≤ s2 then (k s2 v_t_ends f_t_cell f_t_rows) else gd (inb ((25 : Int32) + s2) 41) (bd (f_X11_ringsLead (f_t_s ((25 : Int32) + s2).toNatClampNeg) v_t_ends f_t_s f_t_cell f_t_rows) (fun q5 => (f_X11_ringsAll_L18 k s1 f_t_s n (s2 + 1) q5.1 q5.2.1 q5.2.2))))
def f_X11_ringsAll (s1 : Int32) (v_t_ends : Int32) (f_t_s : Nat → Int32) (f_t_cell : Nat → Int32) (f_t_rows : Nat → Int32) : Option (Int32 × (Nat → Int32) × (Nat → Int32)) :=
  bd (f_X11_toRounds f_t_s f_t_cell) (fun q1 => (f_X11_ringsAll_L18 (fun (y7 : Int32) (y8 : Int32) (y9 : Nat → Int32) (y10 : Nat → Int32) => (if s1 < 0 then some (y8, y9, y10) else bd (f_X11_ringsLead s1 y8 f_t_s y9 y10) (fun q12 => some (q12.1, q12.2.1, q12.2.2)))) s1 f_t_s fu 0 0 q1 (upd f_t_rows (0 : Int32).toNatClampNeg 0)))
abbrev rm_X11_ringsAll : Room := { frames := 3, cells := 0, slots := 0, locals := 71 }
set_option maxHeartbeats 4000000 in
set_option maxRecDepth 100000 in
theorem c_X11_ringsAll (l : Launch) (D : va_G) (Y : ClassId × ClassId × ClassId) (a_t a_t_s a_t_past a_t_kept a_t_pad a_t_cell a_t_other a_t_rows a_t_read a_t_track a_t_lead a_t_distance a_t_line : Nat) (v_t_isKept : Int32) (v_t_pasts : Int32) (v_t_typed : Int32) (v_t_ends : Int32) (v_t_many : Int32) (v_t_spot : Int32) (f_t_s : Nat → Int32) (f_t_cell : Nat → Int32) (f_t_rows : Nat → Int32) (s1 : Int32) (sz : Nat) (R : Int32 × (Nat → Int32) × (Nat → Int32)) (hf : f_X11_ringsAll s1 v_t_ends f_t_s f_t_cell f_t_rows = some R) : Met l yX11_ringsAll (ws_ yX11_ringsAll cX11_ringsAll 3 none) rm_X11_ringsAll (va_Pc [.ref a_t, .int s1] (RW D Y sz [(a_t, .inr (8, [.ref a_t_s, .ref a_t_past, .ref a_t_kept, .int v_t_isKept, .int v_t_pasts, .ref a_t_pad, .int v_t_typed, .ref a_t_cell, .ref a_t_other, .ref a_t_rows, .int v_t_ends, .ref a_t_read, .int v_t_many, .int v_t_spot, .ref a_t_track, .ref a_t_lead, .ref a_t_distance, .ref a_t_line])), (a_t_s, .inl (Y.1, 41, .inl f_t_s)), (a_t_cell, .inl (Y.1, 7, .inl f_t_cell)), (a_t_rows, .inl (Y.1, 341, .inl f_t_rows))])) (QV D [(a_t, .inr (8, [.ref a_t_s, .ref a_t_past, .ref a_t_kept, .int v_t_isKept, .int v_t_pasts, .ref a_t_pad, .int v_t_typed, .ref a_t_cell, .ref a_t_other, .ref a_t_rows, .int R.1, .ref a_t_read, .int v_t_many, .int v_t_spot, .ref a_t_track, .ref a_t_lead, .ref a_t_distance, .ref a_t_line])), (a_t_s, .inl (Y.1, 41, .inl f_t_s)), (a_t_cell, .inl (Y.1, 7, .inl R.2.1)), (a_t_rows, .inl (Y.1, 341, .inl R.2.2))] (va_A [(a_t, .inr (8, [.ref a_t_s, .ref a_t_past, .ref a_t_kept, .int v_t_isKept, .int v_t_pasts, .ref a_t_pad, .int v_t_typed, .ref a_t_cell, .ref a_t_other, .ref a_t_rows, .int v_t_ends, .ref a_t_read, .int v_t_many, .int v_t_spot, .ref a_t_track, .ref a_t_lead, .ref a_t_distance, .ref a_t_line])), (a_t_s, .inl (Y.1, 41, .inl f_t_s)), (a_t_cell, .inl (Y.1, 7, .inl f_t_cell)), (a_t_rows, .inl (Y.1, 341, .inl f_t_rows))] sz)) 0 0 (va_A [(a_t, .inr (8, [.ref a_t_s, .ref a_t_past, .ref a_t_kept, .int v_t_isKept, .int v_t_pasts, .ref a_t_pad, .int v_t_typed, .ref a_t_cell, .ref a_t_other, .ref a_t_rows, .int v_t_ends, .ref a_t_read, .int v_t_many, .int v_t_spot, .ref a_t_track, .ref a_t_lead, .ref a_t_distance, .ref a_t_line])), (a_t_s, .inl (Y.1, 41, .inl f_t_s)), (a_t_cell, .inl (Y.1, 7, .inl f_t_cell)), (a_t_rows, .inl (Y.1, 341, .inl f_t_rows))] sz) := by
  refine rw_start (Qc := fun A => QV D [(a_t, .inr (8, [.ref a_t_s, .ref a_t_past, .ref a_t_kept, .int v_t_isKept, .int v_t_pasts, .ref a_t_pad, .int v_t_typed, .ref a_t_cell, .ref a_t_other, .ref a_t_rows, .int R.1, .ref a_t_read, .int v_t_many, .int v_t_spot, .ref a_t_track, .ref a_t_lead, .ref a_t_distance, .ref a_t_line])), (a_t_s, .inl (Y.1, 41, .inl f_t_s)), (a_t_cell, .inl (Y.1, 7, .inl R.2.1)), (a_t_rows, .inl (Y.1, 341, .inl R.2.2))] A) (by decide) (Nat.le_of_ble_eq_true rfl) ?_
  intro p e s m below meth c ls A hx hb hml hr hlocks hown hts hnm hA hP hD hS hE hl
  generalize hargs : List.toArray _ = args at hts ⊢
  have hown : s.vm.findClass RX11 = some m.cls := hown
  have E : EN p m c cX11_ringsAll 3 s args RX11 := ⟨hx, hb, hml, hown, hts⟩
  have hl : lv_has ls 3 [(0, .ref a_t), (1, .int s1)] := hl
  generalize hQ : MQ below _ args s 0 0 _ = Q
  unfold f_X11_ringsAll at hf
  have L18 : ∀ (n : Nat) (k : Int32 → Int32 → (Nat → Int32) → (Nat → Int32) → Option (Int32 × (Nat → Int32) × (Nat → Int32))) (s1 : Int32) (s2 : Int32) (v_t_ends : Int32) (f_t_cell : Nat → Int32) (f_t_rows : Nat → Int32) (H : Heap) (locs : List Loc) (ls : Array Slot), f_X11_ringsAll_L18 k s1 f_t_s n s2 v_t_ends f_t_cell f_t_rows = some R → va_P D vwCl [(a_t, .inr (8, [.ref a_t_s, .ref a_t_past, .ref a_t_kept, .int v_t_isKept, .int v_t_pasts, .ref a_t_pad, .int v_t_typed, .ref a_t_cell, .ref a_t_other, .ref a_t_rows, .int v_t_ends, .ref a_t_read, .int v_t_many, .int v_t_spot, .ref a_t_track, .ref a_t_lead, .ref a_t_distance, .ref a_t_line])), (a_t_s, .inl (Y.1, 41, .inl f_t_s)), (a_t_cell, .inl (Y.1, 7, .inl f_t_cell)), (a_t_rows, .inl (Y.1, 341, .inl f_t_rows))] H → va_D A [(a_t, .inr (8, [.ref a_t_s, .ref a_t_past, .ref a_t_kept, .int v_t_isKept, .int v_t_pasts, .ref a_t_pad, .int v_t_typed, .ref a_t_cell, .ref a_t_other, .ref a_t_rows, .int v_t_ends, .ref a_t_read, .int v_t_many, .int v_t_spot, .ref a_t_track, .ref a_t_lead, .ref a_t_distance, .ref a_t_line])), (a_t_s, .inl (Y.1, 41, .inl f_t_s)), (a_t_cell, .inl (Y.1, 7, .inl f_t_cell)), (a_t_rows, .inl (Y.1, 341, .inl f_t_rows))] → va_S A s.heap H locs → lv_has ls 3 [(0, .ref a_t), (1, .int s1), (2, .int s2)] → (∀ (y_s2 : Int32) (y_v_t_ends : Int32) (y_f_t_cell : Nat → Int32) (y_f_t_rows : Nat → Int32) (H : Heap) (locs : List Loc) (ls : Array Slot), k y_s2 y_v_t_ends y_f_t_cell y_f_t_rows = some R → va_P D vwCl [(a_t, .inr (8, [.ref a_t_s, .ref a_t_past, .ref a_t_kept, .int v_t_isKept, .int v_t_pasts, .ref a_t_pad, .int v_t_typed, .ref a_t_cell, .ref a_t_other, .ref a_t_rows, .int y_v_t_ends, .ref a_t_read, .int v_t_many, .int v_t_spot, .ref a_t_track, .ref a_t_lead, .ref a_t_distance, .ref a_t_line])), (a_t_s, .inl (Y.1, 41, .inl f_t_s)), (a_t_cell, .inl (Y.1, 7, .inl y_f_t_cell)), (a_t_rows, .inl (Y.1, 341, .inl y_f_t_rows))] H → va_D A [(a_t, .inr (8, [.ref a_t_s, .ref a_t_past, .ref a_t_kept, .int v_t_isKept, .int v_t_pasts, .ref a_t_pad, .int v_t_typed, .ref a_t_cell, .ref a_t_other, .ref a_t_rows, .int y_v_t_ends, .ref a_t_read, .int v_t_many, .int v_t_spot, .ref a_t_track, .ref a_t_lead, .ref a_t_distance, .ref a_t_line])), (a_t_s, .inl (Y.1, 41, .inl f_t_s)), (a_t_cell, .inl (Y.1, 7, .inl y_f_t_cell)), (a_t_rows, .inl (Y.1, 341, .inl y_f_t_rows))] → va_S A s.heap H locs → lv_has ls 3 [(0, .ref a_t), (1, .int s1)] → W p l e rm_X11_ringsAll s m args below meth c H locs 0 0 Q (F0 m 47 ls [])) → W p l e rm_X11_ringsAll s m args below meth c H locs 0 0 Q (F0 m 18 ls []) := by
    intro n
    induction n with
    | zero =>
      intro k s1 s2 v_t_ends f_t_cell f_t_rows H locs ls hf
      cases hf
    | succ n ih =>
      intro k s1 s2 v_t_ends f_t_cell f_t_rows H locs ls hf hP hD hS hl hk
      unfold f_X11_ringsAll_L18 at hf
      refine lv_iload_n hx hb dX11_ringsAll_18 rfl (lv_at hl 2 rfl) ?_
      refine lv_aload_n hx hb dX11_ringsAll_19 rfl (lv_at hl 0 rfl) ?_
      refine va_get (D := D) (ci := 8) (v := .ref a_t_s) (C := RX11) (T := TX11) (N := 18) hx hb hts inX11 hown hE.1 hP 0 rfl rfl 0 (by decide) (hts _ qw761) (fun _ h9 => h9) rfl dX11_ringsAll_20 ?_
      refine lv_iconst (v := 2) hx hb dX11_ringsAll_23 (by decide) ?_
      refine va_iald hx hb hE.1 hP 1 0 rfl rfl (inb_in (by decide)) dX11_ringsAll_24 ?_
      refine lv_icmp_ge (tgt := 47) hx hb dX11_ringsAll_25 (by decide) (fun c3 => ?_) (fun c3 => ?_)
      · have hf := ite_t c3 hf
        exact hk _ _ _ _ _ _ _ hf hP hD hS (lv_sub hl [0, 1] rfl)
      have hf := ite_f c3 hf
      refine lv_aload_n hx hb dX11_ringsAll_28 rfl (lv_at hl 0 rfl) ?_
      refine lv_aload_n hx hb dX11_ringsAll_29 rfl (lv_at hl 0 rfl) ?_
      refine va_get (D := D) (ci := 8) (v := .ref a_t_s) (C := RX11) (T := TX11) (N := 18) hx hb hts inX11 hown hE.1 hP 0 rfl rfl 0 (by decide) (hts _ qw761) (fun _ h9 => h9) rfl dX11_ringsAll_30 ?_
      refine lv_bipush (v := 25) hx hb dX11_ringsAll_33 (by decide) ?_
      refine lv_iload_n hx hb dX11_ringsAll_35 rfl (lv_at hl 2 rfl) ?_
      refine lv_iadd hx hb dX11_ringsAll_36 ?_
      obtain ⟨g4, hf⟩ := gd_s hf
      refine va_iald hx hb hE.1 hP 1 0 rfl rfl (inb_in g4) dX11_ringsAll_37 ?_
      obtain ⟨q5, h6, hf⟩ := bd_s hf
      refine af_v0 (wc := [(a_t, .inr (8, [.ref a_t_s, .ref a_t_past, .ref a_t_kept, .int v_t_isKept, .int v_t_pasts, .ref a_t_pad, .int v_t_typed, .ref a_t_cell, .ref a_t_other, .ref a_t_rows, .int v_t_ends, .ref a_t_read, .int v_t_many, .int v_t_spot, .ref a_t_track, .ref a_t_lead, .ref a_t_distance, .ref a_t_line])), (a_t_s, .inl (Y.1, 41, .inl f_t_s)), (a_t_cell, .inl (Y.1, 7, .inl f_t_cell)), (a_t_rows, .inl (Y.1, 341, .inl f_t_rows))]) (wr := []) (wn := [(a_t, .inr (8, [.ref a_t_s, .ref a_t_past, .ref a_t_kept, .int v_t_isKept, .int v_t_pasts, .ref a_t_pad, .int v_t_typed, .ref a_t_cell, .ref a_t_other, .ref a_t_rows, .int q5.1, .ref a_t_read, .int v_t_many, .int v_t_spot, .ref a_t_track, .ref a_t_lead, .ref a_t_distance, .ref a_t_line])), (a_t_s, .inl (Y.1, 41, .inl f_t_s)), (a_t_cell, .inl (Y.1, 7, .inl q5.2.1)), (a_t_rows, .inl (Y.1, 341, .inl q5.2.2))]) (run_V (As := [.int (f_t_s ((25 : Int32) + s2).toNatClampNeg)]) (rest := []) E (c_X11_ringsLead l D Y a_t a_t_s a_t_past a_t_kept a_t_pad a_t_cell a_t_other a_t_rows a_t_read a_t_track a_t_lead a_t_distance a_t_line v_t_isKept v_t_pasts v_t_typed v_t_ends v_t_many v_t_spot f_t_s f_t_cell f_t_rows (f_t_s ((25 : Int32) + s2).toNatClampNeg) H.size q5 h6) qw910 qw912 qw34 qw76 qw913 rfl rfl hd_X11_ringsLead ⟨Nat.le_of_ble_eq_true rfl, Nat.le_of_ble_eq_true rfl⟩ (pre_rwV hP hD hE [0, 1, 2, 3] rfl (by decide) rfl (ci := 8) (q0 := 0) rfl rfl) rfl hl.1 rfl (Nat.le_of_ble_eq_true rfl) dX11_ringsAll_38 ⟨Nat.zero_le _, Nat.zero_le _⟩) hP hD hS hA [0, 1, 2, 3] [] [0, 1, 2, 3] rfl rfl (by decide) (by decide) rfl rfl (by decide) (fun H locs  hP hD hS => ?_)
      refine lv_iinc (v := (s2 + 1)) (lv' := [(2, .int (s2 + 1)), (0, .ref a_t), (1, .int s1)]) hx hb dX11_ringsAll_41 hl (k := 2) rfl rfl (by decide) rfl (fun ls hl => ?_)
      refine lv_goto (tgt := 18) hx hb dX11_ringsAll_44 (by decide) ?_
      exact ih _ _ _ _ _ _ _ _ _ hf hP hD hS (lv_sub hl [1, 2, 0] rfl) hk
  refine lv_aload_n hx hb dX11_ringsAll_0 rfl (lv_at hl 0 rfl) ?_
  obtain ⟨q1, h2, hf⟩ := bd_s hf
  refine af_v0 (wc := [(a_t, .inr (8, [.ref a_t_s, .ref a_t_past, .ref a_t_kept, .int v_t_isKept, .int v_t_pasts, .ref a_t_pad, .int v_t_typed, .ref a_t_cell, .ref a_t_other, .ref a_t_rows, .int v_t_ends, .ref a_t_read, .int v_t_many, .int v_t_spot, .ref a_t_track, .ref a_t_lead, .ref a_t_distance, .ref a_t_line])), (a_t_s, .inl (Y.1, 41, .inl f_t_s)), (a_t_cell, .inl (Y.1, 7, .inl f_t_cell))]) (wr := [(a_t_rows, .inl (Y.1, 341, .inl f_t_rows))]) (wn := [(a_t, .inr (8, [.ref a_t_s, .ref a_t_past, .ref a_t_kept, .int v_t_isKept, .int v_t_pasts, .ref a_t_pad, .int v_t_typed, .ref a_t_cell, .ref a_t_other, .ref a_t_rows, .int v_t_ends, .ref a_t_read, .int v_t_many, .int v_t_spot, .ref a_t_track, .ref a_t_lead, .ref a_t_distance, .ref a_t_line])), (a_t_s, .inl (Y.1, 41, .inl f_t_s)), (a_t_cell, .inl (Y.1, 7, .inl q1)), (a_t_rows, .inl (Y.1, 341, .inl f_t_rows))]) (run_V (As := []) (rest := []) E (c_X11_toRounds l D Y a_t a_t_s a_t_past a_t_kept a_t_pad a_t_cell a_t_other a_t_rows a_t_read a_t_track a_t_lead a_t_distance a_t_line v_t_isKept v_t_pasts v_t_typed v_t_ends v_t_many v_t_spot f_t_s f_t_cell s.heap.size q1 h2) qw906 qw908 qw33 qw76 qw909 rfl rfl hd_X11_toRounds ⟨Nat.le_of_ble_eq_true rfl, Nat.le_of_ble_eq_true rfl⟩ (pre_rwV hP hD hE [0, 1, 2] rfl (by decide) rfl (ci := 8) (q0 := 0) rfl rfl) rfl hl.1 rfl (Nat.le_of_ble_eq_true rfl) dX11_ringsAll_1 ⟨Nat.zero_le _, Nat.zero_le _⟩) hP hD hS hA [0, 1, 2] [3] [1, 2, 3, 0] rfl rfl (by decide) (by decide) rfl rfl (by decide) (fun H locs  hP hD hS => ?_)
  refine lv_aload_n hx hb dX11_ringsAll_4 rfl (lv_at hl 0 rfl) ?_
  refine lv_iconst (v := 0) hx hb dX11_ringsAll_5 (by decide) ?_
  refine va_put (D := D) (ci := 8) (v := .int 0) (ty := .int) (C := RX11) (T := TX11) (N := 18) hx hb hts inX11 tyX11 tyX11_ok nmX11 hown hE.1 hP hD hS 0 rfl rfl 10 (by decide) (hts _ qw771) (fun _ h9 => h9) rfl (tyX11_ok 10 (by decide)) rfl rfl (Nat.le_of_ble_eq_true rfl) dX11_ringsAll_6 (fun H locs hP hD hS => ?_)
  have hP : va_P D vwCl [(a_t, .inr (8, [.ref a_t_s, .ref a_t_past, .ref a_t_kept, .int v_t_isKept, .int v_t_pasts, .ref a_t_pad, .int v_t_typed, .ref a_t_cell, .ref a_t_other, .ref a_t_rows, .int 0, .ref a_t_read, .int v_t_many, .int v_t_spot, .ref a_t_track, .ref a_t_lead, .ref a_t_distance, .ref a_t_line])), (a_t_s, .inl (Y.1, 41, .inl f_t_s)), (a_t_cell, .inl (Y.1, 7, .inl q1)), (a_t_rows, .inl (Y.1, 341, .inl f_t_rows))] H := hP
  have hD : va_D A [(a_t, .inr (8, [.ref a_t_s, .ref a_t_past, .ref a_t_kept, .int v_t_isKept, .int v_t_pasts, .ref a_t_pad, .int v_t_typed, .ref a_t_cell, .ref a_t_other, .ref a_t_rows, .int 0, .ref a_t_read, .int v_t_many, .int v_t_spot, .ref a_t_track, .ref a_t_lead, .ref a_t_distance, .ref a_t_line])), (a_t_s, .inl (Y.1, 41, .inl f_t_s)), (a_t_cell, .inl (Y.1, 7, .inl q1)), (a_t_rows, .inl (Y.1, 341, .inl f_t_rows))] := hD
  refine lv_aload_n hx hb dX11_ringsAll_9 rfl (lv_at hl 0 rfl) ?_
  refine va_get (D := D) (ci := 8) (v := .ref a_t_rows) (C := RX11) (T := TX11) (N := 18) hx hb hts inX11 hown hE.1 hP 0 rfl rfl 9 (by decide) (hts _ qw770) (fun _ h9 => h9) rfl dX11_ringsAll_10 ?_
  refine lv_iconst (v := 0) hx hb dX11_ringsAll_13 (by decide) ?_
  refine lv_iconst (v := 0) hx hb dX11_ringsAll_14 (by decide) ?_
  refine va_iast hx hb hE.1 hP hD hS 3 0 rfl rfl (inb_in (by decide)) dX11_ringsAll_15 (fun H locs hP hD hS => ?_)
  have hP : va_P D vwCl [(a_t, .inr (8, [.ref a_t_s, .ref a_t_past, .ref a_t_kept, .int v_t_isKept, .int v_t_pasts, .ref a_t_pad, .int v_t_typed, .ref a_t_cell, .ref a_t_other, .ref a_t_rows, .int 0, .ref a_t_read, .int v_t_many, .int v_t_spot, .ref a_t_track, .ref a_t_lead, .ref a_t_distance, .ref a_t_line])), (a_t_s, .inl (Y.1, 41, .inl f_t_s)), (a_t_cell, .inl (Y.1, 7, .inl q1)), (a_t_rows, .inl (Y.1, 341, .inl (upd f_t_rows (0 : Int32).toNatClampNeg 0)))] H := hP
  have hD : va_D A [(a_t, .inr (8, [.ref a_t_s, .ref a_t_past, .ref a_t_kept, .int v_t_isKept, .int v_t_pasts, .ref a_t_pad, .int v_t_typed, .ref a_t_cell, .ref a_t_other, .ref a_t_rows, .int 0, .ref a_t_read, .int v_t_many, .int v_t_spot, .ref a_t_track, .ref a_t_lead, .ref a_t_distance, .ref a_t_line])), (a_t_s, .inl (Y.1, 41, .inl f_t_s)), (a_t_cell, .inl (Y.1, 7, .inl q1)), (a_t_rows, .inl (Y.1, 341, .inl (upd f_t_rows (0 : Int32).toNatClampNeg 0)))] := hD
  refine lv_iconst (v := 0) hx hb dX11_ringsAll_16 (by decide) ?_
  refine lv_istore_n (lv' := [(2, .int 0), (0, .ref a_t), (1, .int s1)]) hx hb dX11_ringsAll_17 rfl hl (by decide) rfl (fun ls hl => ?_)
  refine L18 _ _ _ _ _ _ _ _ _ _ hf hP hD hS (lv_sub hl [1, 2, 0] rfl) ?_
  intro y7 y8 y9 y10 H locs ls hf hP hD hS hl
  refine lv_iload_n hx hb dX11_ringsAll_47 rfl (lv_at hl 1 rfl) ?_
  refine lv_if_lt (tgt := 56) hx hb dX11_ringsAll_48 (by decide) (fun c11 => ?_) (fun c11 => ?_)
  · have hf := ite_t c11 hf
    obtain rfl := Option.some.inj hf
    subst hQ
    exact en_v hx hb hr hlocks hP hD hS dX11_ringsAll_56
  have hf := ite_f c11 hf
  refine lv_aload_n hx hb dX11_ringsAll_51 rfl (lv_at hl 0 rfl) ?_
  refine lv_iload_n hx hb dX11_ringsAll_52 rfl (lv_at hl 1 rfl) ?_
  obtain ⟨q12, h13, hf⟩ := bd_s hf
  refine af_v0 (wc := [(a_t, .inr (8, [.ref a_t_s, .ref a_t_past, .ref a_t_kept, .int v_t_isKept, .int v_t_pasts, .ref a_t_pad, .int v_t_typed, .ref a_t_cell, .ref a_t_other, .ref a_t_rows, .int y8, .ref a_t_read, .int v_t_many, .int v_t_spot, .ref a_t_track, .ref a_t_lead, .ref a_t_distance, .ref a_t_line])), (a_t_s, .inl (Y.1, 41, .inl f_t_s)), (a_t_cell, .inl (Y.1, 7, .inl y9)), (a_t_rows, .inl (Y.1, 341, .inl y10))]) (wr := []) (wn := [(a_t, .inr (8, [.ref a_t_s, .ref a_t_past, .ref a_t_kept, .int v_t_isKept, .int v_t_pasts, .ref a_t_pad, .int v_t_typed, .ref a_t_cell, .ref a_t_other, .ref a_t_rows, .int q12.1, .ref a_t_read, .int v_t_many, .int v_t_spot, .ref a_t_track, .ref a_t_lead, .ref a_t_distance, .ref a_t_line])), (a_t_s, .inl (Y.1, 41, .inl f_t_s)), (a_t_cell, .inl (Y.1, 7, .inl q12.2.1)), (a_t_rows, .inl (Y.1, 341, .inl q12.2.2))]) (run_V (As := [.int s1]) (rest := []) E (c_X11_ringsLead l D Y a_t a_t_s a_t_past a_t_kept a_t_pad a_t_cell a_t_other a_t_rows a_t_read a_t_track a_t_lead a_t_distance a_t_line v_t_isKept v_t_pasts v_t_typed y8 v_t_many v_t_spot f_t_s y9 y10 s1 H.size q12 h13) qw910 qw912 qw34 qw76 qw913 rfl rfl hd_X11_ringsLead ⟨Nat.le_of_ble_eq_true rfl, Nat.le_of_ble_eq_true rfl⟩ (pre_rwV hP hD hE [0, 1, 2, 3] rfl (by decide) rfl (ci := 8) (q0 := 0) rfl rfl) rfl hl.1 rfl (Nat.le_of_ble_eq_true rfl) dX11_ringsAll_53 ⟨Nat.zero_le _, Nat.zero_le _⟩) hP hD hS hA [0, 1, 2, 3] [] [0, 1, 2, 3] rfl rfl (by decide) (by decide) rfl rfl (by decide) (fun H locs  hP hD hS => ?_)
  obtain rfl := Option.some.inj hf
  subst hQ
  exact en_v hx hb hr hlocks hP hD hS dX11_ringsAll_56

def f_X11_bells (s1 : Int32) (v_t_pasts : Int32) (f_t_s : Nat → Int32) (f_t_past : Nat → Int32) : Option (Int32 × Int32 × (Nat → Int32) × (Nat → Int32)) :=
  (if (f_X11_in s1 4 7) = 0 then some ((-1), v_t_pasts, f_t_s, f_t_past) else bd (f_X11_changes v_t_pasts f_t_s f_t_past) (fun q3 => nm (f_t_s (0 : Int32).toNatClampNeg) (fun (x5 : Int32) => bd (f_X11_lays s1 f_t_s) (fun q6 => some (x5, q3.1, q6, q3.2)))))
abbrev rm_X11_bells : Room := { frames := 2, cells := 0, slots := 0, locals := 49 }
set_option maxHeartbeats 4000000 in
set_option maxRecDepth 100000 in
theorem c_X11_bells (l : Launch) (D : va_G) (Y : ClassId × ClassId × ClassId) (a_t a_t_s a_t_past a_t_kept a_t_pad a_t_cell a_t_other a_t_rows a_t_read a_t_track a_t_lead a_t_distance a_t_line : Nat) (v_t_isKept : Int32) (v_t_pasts : Int32) (v_t_typed : Int32) (v_t_ends : Int32) (v_t_many : Int32) (v_t_spot : Int32) (f_t_s : Nat → Int32) (f_t_past : Nat → Int32) (s1 : Int32) (sz : Nat) (R : Int32 × Int32 × (Nat → Int32) × (Nat → Int32)) (hf : f_X11_bells s1 v_t_pasts f_t_s f_t_past = some R) : Met l yX11_bells (ws_ yX11_bells cX11_bells 3 (some .int)) rm_X11_bells (va_Pc [.ref a_t, .int s1] (RW D Y sz [(a_t, .inr (8, [.ref a_t_s, .ref a_t_past, .ref a_t_kept, .int v_t_isKept, .int v_t_pasts, .ref a_t_pad, .int v_t_typed, .ref a_t_cell, .ref a_t_other, .ref a_t_rows, .int v_t_ends, .ref a_t_read, .int v_t_many, .int v_t_spot, .ref a_t_track, .ref a_t_lead, .ref a_t_distance, .ref a_t_line])), (a_t_s, .inl (Y.1, 41, .inl f_t_s)), (a_t_past, .inl (Y.1, 164, .inl f_t_past))])) (QI D R.1 [(a_t, .inr (8, [.ref a_t_s, .ref a_t_past, .ref a_t_kept, .int v_t_isKept, .int R.2.1, .ref a_t_pad, .int v_t_typed, .ref a_t_cell, .ref a_t_other, .ref a_t_rows, .int v_t_ends, .ref a_t_read, .int v_t_many, .int v_t_spot, .ref a_t_track, .ref a_t_lead, .ref a_t_distance, .ref a_t_line])), (a_t_s, .inl (Y.1, 41, .inl R.2.2.1)), (a_t_past, .inl (Y.1, 164, .inl R.2.2.2))] (va_A [(a_t, .inr (8, [.ref a_t_s, .ref a_t_past, .ref a_t_kept, .int v_t_isKept, .int v_t_pasts, .ref a_t_pad, .int v_t_typed, .ref a_t_cell, .ref a_t_other, .ref a_t_rows, .int v_t_ends, .ref a_t_read, .int v_t_many, .int v_t_spot, .ref a_t_track, .ref a_t_lead, .ref a_t_distance, .ref a_t_line])), (a_t_s, .inl (Y.1, 41, .inl f_t_s)), (a_t_past, .inl (Y.1, 164, .inl f_t_past))] sz)) 0 0 (va_A [(a_t, .inr (8, [.ref a_t_s, .ref a_t_past, .ref a_t_kept, .int v_t_isKept, .int v_t_pasts, .ref a_t_pad, .int v_t_typed, .ref a_t_cell, .ref a_t_other, .ref a_t_rows, .int v_t_ends, .ref a_t_read, .int v_t_many, .int v_t_spot, .ref a_t_track, .ref a_t_lead, .ref a_t_distance, .ref a_t_line])), (a_t_s, .inl (Y.1, 41, .inl f_t_s)), (a_t_past, .inl (Y.1, 164, .inl f_t_past))] sz) := by
  refine rw_start (Qc := fun A => QI D R.1 [(a_t, .inr (8, [.ref a_t_s, .ref a_t_past, .ref a_t_kept, .int v_t_isKept, .int R.2.1, .ref a_t_pad, .int v_t_typed, .ref a_t_cell, .ref a_t_other, .ref a_t_rows, .int v_t_ends, .ref a_t_read, .int v_t_many, .int v_t_spot, .ref a_t_track, .ref a_t_lead, .ref a_t_distance, .ref a_t_line])), (a_t_s, .inl (Y.1, 41, .inl R.2.2.1)), (a_t_past, .inl (Y.1, 164, .inl R.2.2.2))] A) (by decide) (Nat.le_of_ble_eq_true rfl) ?_
  intro p e s m below meth c ls A hx hb hml hr hlocks hown hts hnm hA hP hD hS hE hl
  generalize hargs : List.toArray _ = args at hts ⊢
  have hown : s.vm.findClass RX11 = some m.cls := hown
  have E : EN p m c cX11_bells 3 s args RX11 := ⟨hx, hb, hml, hown, hts⟩
  have hl : lv_has ls 3 [(0, .ref a_t), (1, .int s1)] := hl
  generalize hQ : MQ below _ args s 0 0 _ = Q
  unfold f_X11_bells at hf
  refine lv_iload_n hx hb dX11_bells_0 rfl (lv_at hl 1 rfl) ?_
  refine lv_iconst (v := 4) hx hb dX11_bells_1 (by decide) ?_
  refine lv_bipush (v := 7) hx hb dX11_bells_2 (by decide) ?_
  refine af_oz (run_S (As := [.int s1, .int 4, .int 7]) (rest := []) E (c_X11_in l D Y s1 4 7 (f_X11_in s1 4 7) rfl) qw820 qw821 qw76 qw822 rfl rfl hd_X11_in ⟨Nat.le_of_ble_eq_true rfl, Nat.le_of_ble_eq_true rfl⟩ (pre_roS hP hE [] rfl) rfl hl.1 rfl (Nat.le_of_ble_eq_true rfl) dX11_bells_4 ⟨Nat.zero_le _, Nat.zero_le _⟩) (fun z1 => ?_)
  refine lv_if_ne (tgt := 12) hx hb dX11_bells_7 (by decide) (fun c2 => ?_) (fun c2 => ?_)
  · have hf := ite_f c2 hf
    refine lv_aload_n hx hb dX11_bells_12 rfl (lv_at hl 0 rfl) ?_
    obtain ⟨q3, h4, hf⟩ := bd_s hf
    refine af_v0 (wc := [(a_t, .inr (8, [.ref a_t_s, .ref a_t_past, .ref a_t_kept, .int v_t_isKept, .int v_t_pasts, .ref a_t_pad, .int v_t_typed, .ref a_t_cell, .ref a_t_other, .ref a_t_rows, .int v_t_ends, .ref a_t_read, .int v_t_many, .int v_t_spot, .ref a_t_track, .ref a_t_lead, .ref a_t_distance, .ref a_t_line])), (a_t_s, .inl (Y.1, 41, .inl f_t_s)), (a_t_past, .inl (Y.1, 164, .inl f_t_past))]) (wr := []) (wn := [(a_t, .inr (8, [.ref a_t_s, .ref a_t_past, .ref a_t_kept, .int v_t_isKept, .int q3.1, .ref a_t_pad, .int v_t_typed, .ref a_t_cell, .ref a_t_other, .ref a_t_rows, .int v_t_ends, .ref a_t_read, .int v_t_many, .int v_t_spot, .ref a_t_track, .ref a_t_lead, .ref a_t_distance, .ref a_t_line])), (a_t_s, .inl (Y.1, 41, .inl f_t_s)), (a_t_past, .inl (Y.1, 164, .inl q3.2))]) (run_V (As := []) (rest := []) E (c_X11_changes l D Y a_t a_t_s a_t_past a_t_kept a_t_pad a_t_cell a_t_other a_t_rows a_t_read a_t_track a_t_lead a_t_distance a_t_line v_t_isKept v_t_pasts v_t_typed v_t_ends v_t_many v_t_spot f_t_s f_t_past s.heap.size q3 h4) qw823 qw825 qw22 qw76 qw826 rfl rfl hd_X11_changes ⟨Nat.le_of_ble_eq_true rfl, Nat.le_of_ble_eq_true rfl⟩ (pre_rwV hP hD hE [0, 1, 2] rfl (by decide) rfl (ci := 8) (q0 := 0) rfl rfl) rfl hl.1 rfl (Nat.le_of_ble_eq_true rfl) dX11_bells_13 ⟨Nat.zero_le _, Nat.zero_le _⟩) hP hD hS hA [0, 1, 2] [] [0, 1, 2] rfl rfl (by decide) (by decide) rfl rfl (by decide) (fun H locs  hP hD hS => ?_)
    refine lv_aload_n hx hb dX11_bells_16 rfl (lv_at hl 0 rfl) ?_
    refine va_get (D := D) (ci := 8) (v := .ref a_t_s) (C := RX11) (T := TX11) (N := 18) hx hb hts inX11 hown hE.1 hP 0 rfl rfl 0 (by decide) (hts _ qw761) (fun _ h9 => h9) rfl dX11_bells_17 ?_
    refine lv_iconst (v := 0) hx hb dX11_bells_20 (by decide) ?_
    refine va_iald hx hb hE.1 hP 1 0 rfl rfl (inb_in (by decide)) dX11_bells_21 ?_
    refine nm_W hf (fun x5 hf => ?_)
    refine lv_istore_n (lv' := [(2, .int x5), (0, .ref a_t), (1, .int s1)]) hx hb dX11_bells_22 rfl hl (by decide) rfl (fun ls hl => ?_)
    refine lv_aload_n hx hb dX11_bells_23 rfl (lv_at hl 1 rfl) ?_
    refine lv_iload_n hx hb dX11_bells_24 rfl (lv_at hl 2 rfl) ?_
    obtain ⟨q6, h7, hf⟩ := bd_s hf
    refine af_v0 (wc := [(a_t, .inr (8, [.ref a_t_s, .ref a_t_past, .ref a_t_kept, .int v_t_isKept, .int q3.1, .ref a_t_pad, .int v_t_typed, .ref a_t_cell, .ref a_t_other, .ref a_t_rows, .int v_t_ends, .ref a_t_read, .int v_t_many, .int v_t_spot, .ref a_t_track, .ref a_t_lead, .ref a_t_distance, .ref a_t_line])), (a_t_s, .inl (Y.1, 41, .inl f_t_s))]) (wr := [(a_t_past, .inl (Y.1, 164, .inl q3.2))]) (wn := [(a_t, .inr (8, [.ref a_t_s, .ref a_t_past, .ref a_t_kept, .int v_t_isKept, .int q3.1, .ref a_t_pad, .int v_t_typed, .ref a_t_cell, .ref a_t_other, .ref a_t_rows, .int v_t_ends, .ref a_t_read, .int v_t_many, .int v_t_spot, .ref a_t_track, .ref a_t_lead, .ref a_t_distance, .ref a_t_line])), (a_t_s, .inl (Y.1, 41, .inl q6)), (a_t_past, .inl (Y.1, 164, .inl q3.2))]) (run_V (As := [.int s1]) (rest := []) E (c_X11_lays l D Y a_t a_t_s a_t_past a_t_kept a_t_pad a_t_cell a_t_other a_t_rows a_t_read a_t_track a_t_lead a_t_distance a_t_line v_t_isKept q3.1 v_t_typed v_t_ends v_t_many v_t_spot f_t_s s1 H.size q6 h7) qw757 qw759 qw21 qw76 qw760 rfl rfl hd_X11_lays ⟨Nat.le_of_ble_eq_true rfl, Nat.le_of_ble_eq_true rfl⟩ (pre_rwV hP hD hE [0, 1] rfl (by decide) rfl (ci := 8) (q0 := 0) rfl rfl) rfl hl.1 rfl (Nat.le_of_ble_eq_true rfl) dX11_bells_25 ⟨Nat.zero_le _, Nat.zero_le _⟩) hP hD hS hA [0, 1] [2] [1, 2, 0] rfl rfl (by decide) (by decide) rfl rfl (by decide) (fun H locs  hP hD hS => ?_)
    refine lv_iload_n hx hb dX11_bells_28 rfl (lv_at hl 0 rfl) ?_
    obtain rfl := Option.some.inj hf
    subst hQ
    exact en_i hx hb hr hlocks hP hD hS rfl dX11_bells_29
  have hf := ite_t c2 hf
  refine lv_iconst (v := (-1)) hx hb dX11_bells_10 (by decide) ?_
  obtain rfl := Option.some.inj hf
  subst hQ
  exact en_i hx hb hr hlocks hP hD hS rfl dX11_bells_11
