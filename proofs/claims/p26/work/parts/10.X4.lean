def f_X4_bit (s0 : Int32) : Int32 :=
  ((1 : Int32) <<< ((s0 - 1) &&& 31))
abbrev rm_X4_bit : Room := { frames := 1, cells := 0, slots := 0, locals := 24 }
set_option maxHeartbeats 4000000 in
set_option maxRecDepth 100000 in
theorem c_X4_bit (l : Launch) (D : va_G) (Y : ClassId × ClassId × ClassId × ClassId) (s0 : Int32) (R : Int32) (hf : f_X4_bit s0 = R) : Met l yX4_bit (ws_ yX4_bit cX4_bit 1 (some .int)) rm_X4_bit (va_Pc [.int s0] (RO D Y [])) (OI R) 0 0 (fun _ => False) := by
  refine ro_start (by decide) (Nat.le_of_ble_eq_true rfl) ?_
  intro p e s m below meth c ls hx hb hml hr hlocks hown hts hP hE hl
  generalize hargs : List.toArray _ = args at hts ⊢
  have hown : s.vm.findClass RX4 = some m.cls := hown
  have E : EN p m c cX4_bit 1 s args RX4 := ⟨hx, hb, hml, hown, hts⟩
  have hl : lv_has ls 1 [(0, .int s0)] := hl
  generalize hQ : MQ below _ args s 0 0 _ = Q
  unfold f_X4_bit at hf
  refine lv_iconst (v := 1) hx hb dX4_bit_0 (by decide) ?_
  refine lv_iload_n hx hb dX4_bit_1 rfl (lv_at hl 0 rfl) ?_
  refine lv_iconst (v := 1) hx hb dX4_bit_2 (by decide) ?_
  refine lv_isub hx hb dX4_bit_3 ?_
  refine lv_ishl hx hb dX4_bit_4 ?_
  subst hf
  subst hQ
  exact en_oi hx hb hr hlocks rfl dX4_bit_5

def f_X4_has (s0 : Int32) (s1 : Int32) : Int32 :=
  (if (s0 &&& (f_X4_bit s1)) = 0 then 0 else 1)
abbrev rm_X4_has : Room := { frames := 2, cells := 0, slots := 0, locals := 44 }
set_option maxHeartbeats 4000000 in
set_option maxRecDepth 100000 in
theorem c_X4_has (l : Launch) (D : va_G) (Y : ClassId × ClassId × ClassId × ClassId) (s0 : Int32) (s1 : Int32) (R : Int32) (hf : f_X4_has s0 s1 = R) : Met l yX4_has (ws_ yX4_has cX4_has 2 (some .boolean)) rm_X4_has (va_Pc [.int s0, .int s1] (RO D Y [])) (OZ R) 0 0 (fun _ => False) := by
  refine ro_start (by decide) (Nat.le_of_ble_eq_true rfl) ?_
  intro p e s m below meth c ls hx hb hml hr hlocks hown hts hP hE hl
  generalize hargs : List.toArray _ = args at hts ⊢
  have hown : s.vm.findClass RX4 = some m.cls := hown
  have E : EN p m c cX4_has 2 s args RX4 := ⟨hx, hb, hml, hown, hts⟩
  have hl : lv_has ls 2 [(0, .int s0), (1, .int s1)] := hl
  generalize hQ : MQ below _ args s 0 0 _ = Q
  unfold f_X4_has at hf
  refine lv_iload_n hx hb dX4_has_0 rfl (lv_at hl 0 rfl) ?_
  refine lv_iload_n hx hb dX4_has_1 rfl (lv_at hl 1 rfl) ?_
  refine af_oi (run_S (As := [.int s1]) (rest := [.int s0]) E (c_X4_bit l D Y s1 (f_X4_bit s1) rfl) qw415 qw313 qw32 qw314 rfl rfl hd_X4_bit ⟨Nat.le_of_ble_eq_true rfl, Nat.le_of_ble_eq_true rfl⟩ (pre_roS hP hE [] rfl) rfl hl.1 rfl (Nat.le_of_ble_eq_true rfl) dX4_has_2 ⟨Nat.zero_le _, Nat.zero_le _⟩) ?_
  refine lv_iand hx hb dX4_has_5 ?_
  refine lv_if_eq (tgt := 13) hx hb dX4_has_6 (by decide) (fun c1 => ?_) (fun c1 => ?_)
  · have hf := ite_t c1 hf
    refine lv_iconst (v := 0) hx hb dX4_has_13 (by decide) ?_
    subst hf
    subst hQ
    exact en_oz hx hb hr hlocks rfl (Or.inl rfl) dX4_has_14
  have hf := ite_f c1 hf
  refine lv_iconst (v := 1) hx hb dX4_has_9 (by decide) ?_
  refine lv_goto (tgt := 14) hx hb dX4_has_10 (by decide) ?_
  subst hf
  subst hQ
  exact en_oz hx hb hr hlocks rfl (Or.inr rfl) dX4_has_14

def f_X4_areRight_L25 (k : Int32 → Int32 → Option (Int32)) (s0 : Int32) (s1 : Int32) : Nat → Int32 → Int32 → Option (Int32)
  | 0, _, _ => none
  | n + 1, s3, s4 => (if s1 < s4 then (k s3 s4) else (if (f_X4_has s0 s4) = 0 then (f_X4_areRight_L25 k s0 s1 n (s3 + 1) (s4 + 1)) else (if (s3 - s3 / 2 * 2) = 0 then (f_X4_areRight_L25 k s0 s1 n s3 (s4 + 1)) else some 0)))
def f_X4_areRight (s0 : Int32) (s1 : Int32) : Option (Int32) :=
  nm ((f_X4_bit (s1 + 1)) - 1) (fun (x1 : Int32) => (if s0 < 0 then some 0 else (if s0 < x1 then (f_X4_areRight_L25 (fun (y8 : Int32) (y9 : Int32) => (if (y8 - y8 / 2 * 2) = 0 then some 1 else some 0)) s0 s1 fu 0 1) else some 0)))
abbrev rm_X4_areRight : Room := { frames := 3, cells := 0, slots := 0, locals := 65 }
set_option maxHeartbeats 4000000 in
set_option maxRecDepth 100000 in
theorem c_X4_areRight (l : Launch) (D : va_G) (Y : ClassId × ClassId × ClassId × ClassId) (s0 : Int32) (s1 : Int32) (R : Int32) (hf : f_X4_areRight s0 s1 = some R) : Met l yX4_areRight (ws_ yX4_areRight cX4_areRight 5 (some .boolean)) rm_X4_areRight (va_Pc [.int s0, .int s1] (RO D Y [])) (OZ R) 0 0 (fun _ => False) := by
  refine ro_start (by decide) (Nat.le_of_ble_eq_true rfl) ?_
  intro p e s m below meth c ls hx hb hml hr hlocks hown hts hP hE hl
  generalize hargs : List.toArray _ = args at hts ⊢
  have hown : s.vm.findClass RX4 = some m.cls := hown
  have E : EN p m c cX4_areRight 5 s args RX4 := ⟨hx, hb, hml, hown, hts⟩
  have hl : lv_has ls 5 [(0, .int s0), (1, .int s1)] := hl
  generalize hQ : MQ below _ args s 0 0 _ = Q
  unfold f_X4_areRight at hf
  have L25 : ∀ (n : Nat) (k : Int32 → Int32 → Option (Int32)) (s0 : Int32) (s1 : Int32) (s3 : Int32) (s4 : Int32) (ls : Array Slot), f_X4_areRight_L25 k s0 s1 n s3 s4 = some R → lv_has ls 5 [(0, .int s0), (1, .int s1), (3, .int s3), (4, .int s4)] → (∀ (y_s3 : Int32) (y_s4 : Int32) (ls : Array Slot), k y_s3 y_s4 = some R → lv_has ls 5 [(3, .int y_s3)] → W p l e rm_X4_areRight s m args below meth c s.heap [] 0 0 Q (F0 m 60 ls [])) → W p l e rm_X4_areRight s m args below meth c s.heap [] 0 0 Q (F0 m 25 ls []) := by
    intro n
    induction n with
    | zero =>
      intro k s0 s1 s3 s4 ls hf
      cases hf
    | succ n ih =>
      intro k s0 s1 s3 s4 ls hf hl hk
      unfold f_X4_areRight_L25 at hf
      refine lv_iload hx hb dX4_areRight_25 (lv_at hl 3 rfl) ?_
      refine lv_iload_n hx hb dX4_areRight_27 rfl (lv_at hl 1 rfl) ?_
      refine lv_icmp_gt (tgt := 60) hx hb dX4_areRight_28 (by decide) (fun c4 => ?_) (fun c4 => ?_)
      · have hf := ite_t c4 hf
        exact hk _ _ _ hf (lv_sub hl [2] rfl)
      have hf := ite_f c4 hf
      refine lv_iload_n hx hb dX4_areRight_31 rfl (lv_at hl 0 rfl) ?_
      refine lv_iload hx hb dX4_areRight_32 (lv_at hl 3 rfl) ?_
      refine af_oz (run_S (As := [.int s0, .int s4]) (rest := []) E (c_X4_has l D Y s0 s4 (f_X4_has s0 s4) rfl) qw663 qw413 qw32 qw414 rfl rfl hd_X4_has ⟨Nat.le_of_ble_eq_true rfl, Nat.le_of_ble_eq_true rfl⟩ (pre_roS hP hE [] rfl) rfl hl.1 rfl (Nat.le_of_ble_eq_true rfl) dX4_areRight_34 ⟨Nat.zero_le _, Nat.zero_le _⟩) (fun z5 => ?_)
      refine lv_if_ne (tgt := 46) hx hb dX4_areRight_37 (by decide) (fun c6 => ?_) (fun c6 => ?_)
      · have hf := ite_f c6 hf
        refine lv_iload_n hx hb dX4_areRight_46 rfl (lv_at hl 2 rfl) ?_
        refine lv_iconst (v := 2) hx hb dX4_areRight_47 (by decide) ?_
        refine lv_irem hx hb dX4_areRight_48 (by decide) ?_
        refine lv_if_eq (tgt := 54) hx hb dX4_areRight_49 (by decide) (fun c7 => ?_) (fun c7 => ?_)
        · have hf := ite_t c7 hf
          refine lv_iinc (v := (s4 + 1)) (lv' := [(4, .int (s4 + 1)), (0, .int s0), (1, .int s1), (3, .int s3)]) hx hb dX4_areRight_54 hl (k := 3) rfl rfl (by decide) rfl (fun ls hl => ?_)
          refine lv_goto (tgt := 25) hx hb dX4_areRight_57 (by decide) ?_
          exact ih _ _ _ _ _ _ hf (lv_sub hl [1, 2, 3, 0] rfl) hk
        have hf := ite_f c7 hf
        refine lv_iconst (v := 0) hx hb dX4_areRight_52 (by decide) ?_
        obtain rfl := Option.some.inj hf
        subst hQ
        exact en_oz hx hb hr hlocks rfl (Or.inl rfl) dX4_areRight_53
      have hf := ite_t c6 hf
      refine lv_iinc (v := (s3 + 1)) (lv' := [(3, .int (s3 + 1)), (0, .int s0), (1, .int s1), (4, .int s4)]) hx hb dX4_areRight_40 hl (k := 2) rfl rfl (by decide) rfl (fun ls hl => ?_)
      refine lv_goto (tgt := 54) hx hb dX4_areRight_43 (by decide) ?_
      refine lv_iinc (v := (s4 + 1)) (lv' := [(4, .int (s4 + 1)), (3, .int (s3 + 1)), (0, .int s0), (1, .int s1)]) hx hb dX4_areRight_54 hl (k := 3) rfl rfl (by decide) rfl (fun ls hl => ?_)
      refine lv_goto (tgt := 25) hx hb dX4_areRight_57 (by decide) ?_
      exact ih _ _ _ _ _ _ hf (lv_sub hl [2, 3, 1, 0] rfl) hk
  refine lv_iload_n hx hb dX4_areRight_0 rfl (lv_at hl 1 rfl) ?_
  refine lv_iconst (v := 1) hx hb dX4_areRight_1 (by decide) ?_
  refine lv_iadd hx hb dX4_areRight_2 ?_
  refine af_oi (run_S (As := [.int (s1 + 1)]) (rest := []) E (c_X4_bit l D Y (s1 + 1) (f_X4_bit (s1 + 1)) rfl) qw415 qw313 qw32 qw314 rfl rfl hd_X4_bit ⟨Nat.le_of_ble_eq_true rfl, Nat.le_of_ble_eq_true rfl⟩ (pre_roS hP hE [] rfl) rfl hl.1 rfl (Nat.le_of_ble_eq_true rfl) dX4_areRight_3 ⟨Nat.zero_le _, Nat.zero_le _⟩) ?_
  refine lv_iconst (v := 1) hx hb dX4_areRight_6 (by decide) ?_
  refine lv_isub hx hb dX4_areRight_7 ?_
  refine nm_W hf (fun x1 hf => ?_)
  refine lv_istore_n (lv' := [(2, .int x1), (0, .int s0), (1, .int s1)]) hx hb dX4_areRight_8 rfl hl (by decide) rfl (fun ls hl => ?_)
  refine lv_iload_n hx hb dX4_areRight_9 rfl (lv_at hl 1 rfl) ?_
  refine lv_if_lt (tgt := 18) hx hb dX4_areRight_10 (by decide) (fun c2 => ?_) (fun c2 => ?_)
  · have hf := ite_t c2 hf
    refine lv_iconst (v := 0) hx hb dX4_areRight_18 (by decide) ?_
    obtain rfl := Option.some.inj hf
    subst hQ
    exact en_oz hx hb hr hlocks rfl (Or.inl rfl) dX4_areRight_19
  have hf := ite_f c2 hf
  refine lv_iload_n hx hb dX4_areRight_13 rfl (lv_at hl 1 rfl) ?_
  refine lv_iload_n hx hb dX4_areRight_14 rfl (lv_at hl 0 rfl) ?_
  refine lv_icmp_lt (tgt := 20) hx hb dX4_areRight_15 (by decide) (fun c3 => ?_) (fun c3 => ?_)
  · have hf := ite_t c3 hf
    refine lv_iconst (v := 0) hx hb dX4_areRight_20 (by decide) ?_
    refine lv_istore_n (lv' := [(3, .int 0), (2, .int x1), (0, .int s0), (1, .int s1)]) hx hb dX4_areRight_21 rfl hl (by decide) rfl (fun ls hl => ?_)
    refine lv_iconst (v := 1) hx hb dX4_areRight_22 (by decide) ?_
    refine lv_istore (lv' := [(4, .int 1), (3, .int 0), (2, .int x1), (0, .int s0), (1, .int s1)]) hx hb dX4_areRight_23 hl (by decide) rfl (fun ls hl => ?_)
    refine L25 _ _ _ _ _ _ _ hf (lv_sub hl [3, 4, 1, 0] rfl) ?_
    intro y8 y9 ls hf hl
    refine lv_iload_n hx hb dX4_areRight_60 rfl (lv_at hl 0 rfl) ?_
    refine lv_iconst (v := 2) hx hb dX4_areRight_61 (by decide) ?_
    refine lv_irem hx hb dX4_areRight_62 (by decide) ?_
    refine lv_if_ne (tgt := 70) hx hb dX4_areRight_63 (by decide) (fun c10 => ?_) (fun c10 => ?_)
    · have hf := ite_f c10 hf
      refine lv_iconst (v := 0) hx hb dX4_areRight_70 (by decide) ?_
      obtain rfl := Option.some.inj hf
      subst hQ
      exact en_oz hx hb hr hlocks rfl (Or.inl rfl) dX4_areRight_71
    have hf := ite_t c10 hf
    refine lv_iconst (v := 1) hx hb dX4_areRight_66 (by decide) ?_
    refine lv_goto (tgt := 71) hx hb dX4_areRight_67 (by decide) ?_
    obtain rfl := Option.some.inj hf
    subst hQ
    exact en_oz hx hb hr hlocks rfl (Or.inr rfl) dX4_areRight_71
  have hf := ite_f c3 hf
  refine lv_iconst (v := 0) hx hb dX4_areRight_18 (by decide) ?_
  obtain rfl := Option.some.inj hf
  subst hQ
  exact en_oz hx hb hr hlocks rfl (Or.inl rfl) dX4_areRight_19
