def f_X4_bit (s0 : Int32) : Int32 :=
  ((1 : Int32) <<< ((s0 - 1) &&& 31))
abbrev rm_X4_bit : Room := { frames := 1, cells := 0, slots := 0, locals := 24 }
set_option maxHeartbeats 4000000 in
set_option maxRecDepth 100000 in
theorem c_X4_bit (l : Launch) (D : va_G) (Y : ClassId × ClassId × ClassId) (s0 : Int32) (R : Int32) (hf : f_X4_bit s0 = R) : Met l yX4_bit (ws_ yX4_bit cX4_bit 1 (some .int)) rm_X4_bit (va_Pc [.int s0] (RO D Y [])) (OI R) 0 0 (fun _ => False) := by
  refine ro_start (by decide) (Nat.le_of_ble_eq_true rfl) ?_
  intro p e s m below meth c ls hx hb hml hr hlocks hown hts hP hE hl
  generalize hargs : List.toArray _ = args at hts ⊢
  have hown : s.vm.findClass RX4 = some m.cls := hown
  have E : EN p m c cX4_bit 1 s args RX4 := ⟨hx, hb, hml, hown, hts⟩
  have hl : lv_has ls 1 [(0, .int s0)] := hl
  generalize hQ : MQ below _ args s 0 0 _ = Q
  unfold f_X4_bit at hf
  refine lv_iconst (v := 1) hx hb dX4_bit_0 (by decide) ?_
  refine lv_iload_n hx hb dX4_bit_1 rfl (lv_at hl 0 rfl) ?_
  refine lv_iconst (v := 1) hx hb dX4_bit_2 (by decide) ?_
  refine lv_isub hx hb dX4_bit_3 ?_
  refine lv_ishl hx hb dX4_bit_4 ?_
  subst hf
  subst hQ
  exact en_oi hx hb hr hlocks rfl dX4_bit_5

def f_X4_has (s0 : Int32) (s1 : Int32) : Int32 :=
  (if (s0 &&& (f_X4_bit s1)) = 0 then 0 else 1)
abbrev rm_X4_has : Room := { frames := 2, cells := 0, slots := 0, locals := 44 }
set_option maxHeartbeats 4000000 in
set_option maxRecDepth 100000 in
theorem c_X4_has (l : Launch) (D : va_G) (Y : ClassId × ClassId × ClassId) (s0 : Int32) (s1 : Int32) (R : Int32) (hf : f_X4_has s0 s1 = R) : Met l yX4_has (ws_ yX4_has cX4_has 2 (some .boolean)) rm_X4_has (va_Pc [.int s0, .int s1] (RO D Y [])) (OZ R) 0 0 (fun _ => False) := by
  refine ro_start (by decide) (Nat.le_of_ble_eq_true rfl) ?_
  intro p e s m below meth c ls hx hb hml hr hlocks hown hts hP hE hl
  generalize hargs : List.toArray _ = args at hts ⊢
  have hown : s.vm.findClass RX4 = some m.cls := hown
  have E : EN p m c cX4_has 2 s args RX4 := ⟨hx, hb, hml, hown, hts⟩
  have hl : lv_has ls 2 [(0, .int s0), (1, .int s1)] := hl
  generalize hQ : MQ below _ args s 0 0 _ = Q
  unfold f_X4_has at hf
  refine lv_iload_n hx hb dX4_has_0 rfl (lv_at hl 0 rfl) ?_
  refine lv_iload_n hx hb dX4_has_1 rfl (lv_at hl 1 rfl) ?_
  refine af_oi (run_S (As := [.int s1]) (rest := [.int s0]) E (c_X4_bit l D Y s1 (f_X4_bit s1) rfl) qw345 qw346 qw75 qw347 rfl rfl hd_X4_bit ⟨Nat.le_of_ble_eq_true rfl, Nat.le_of_ble_eq_true rfl⟩ (pre_roS hP hE [] rfl) rfl hl.1 rfl (Nat.le_of_ble_eq_true rfl) dX4_has_2 ⟨Nat.zero_le _, Nat.zero_le _⟩) ?_
  refine lv_iand hx hb dX4_has_5 ?_
  refine lv_if_eq (tgt := 13) hx hb dX4_has_6 (by decide) (fun c1 => ?_) (fun c1 => ?_)
  · have hf := ite_t c1 hf
    refine lv_iconst (v := 0) hx hb dX4_has_13 (by decide) ?_
    subst hf
    subst hQ
    exact en_oz hx hb hr hlocks rfl (Or.inl rfl) dX4_has_14
  have hf := ite_f c1 hf
  refine lv_iconst (v := 1) hx hb dX4_has_9 (by decide) ?_
  refine lv_goto (tgt := 14) hx hb dX4_has_10 (by decide) ?_
  subst hf
  subst hQ
  exact en_oz hx hb hr hlocks rfl (Or.inr rfl) dX4_has_14

def f_X4_areRight_L22 (s0 : Int32) (s1 : Int32) : Nat → Int32 → Option (Int32)
  | 0, _ => none
  | n + 1, s3 => (if s1 < s3 then some 1 else (if (f_X4_has s0 s3) = 0 then (if s3 = s1 then some 0 else (if (f_X4_has s0 (s3 + 1)) = 0 then (f_X4_areRight_L22 s0 s1 n (s3 + 2)) else some 0)) else (f_X4_areRight_L22 s0 s1 n (s3 + 1))))
def f_X4_areRight (s0 : Int32) (s1 : Int32) : Option (Int32) :=
  nm ((f_X4_bit (s1 + 1)) - 1) (fun (x1 : Int32) => (if s0 < 0 then some 0 else (if s0 < x1 then (f_X4_areRight_L22 s0 s1 fu 1) else some 0)))
abbrev rm_X4_areRight : Room := { frames := 3, cells := 0, slots := 0, locals := 65 }
set_option maxHeartbeats 4000000 in
set_option maxRecDepth 100000 in
theorem c_X4_areRight (l : Launch) (D : va_G) (Y : ClassId × ClassId × ClassId) (s0 : Int32) (s1 : Int32) (R : Int32) (hf : f_X4_areRight s0 s1 = some R) : Met l yX4_areRight (ws_ yX4_areRight cX4_areRight 4 (some .boolean)) rm_X4_areRight (va_Pc [.int s0, .int s1] (RO D Y [])) (OZ R) 0 0 (fun _ => False) := by
  refine ro_start (by decide) (Nat.le_of_ble_eq_true rfl) ?_
  intro p e s m below meth c ls hx hb hml hr hlocks hown hts hP hE hl
  generalize hargs : List.toArray _ = args at hts ⊢
  have hown : s.vm.findClass RX4 = some m.cls := hown
  have E : EN p m c cX4_areRight 4 s args RX4 := ⟨hx, hb, hml, hown, hts⟩
  have hl : lv_has ls 4 [(0, .int s0), (1, .int s1)] := hl
  generalize hQ : MQ below _ args s 0 0 _ = Q
  unfold f_X4_areRight at hf
  have L22 : ∀ (n : Nat) (s0 : Int32) (s1 : Int32) (s3 : Int32) (ls : Array Slot), f_X4_areRight_L22 s0 s1 n s3 = some R → lv_has ls 4 [(0, .int s0), (1, .int s1), (3, .int s3)] → W p l e rm_X4_areRight s m args below meth c s.heap [] 0 0 Q (F0 m 22 ls []) := by
    intro n
    induction n with
    | zero =>
      intro s0 s1 s3 ls hf
      cases hf
    | succ n ih =>
      intro s0 s1 s3 ls hf hl
      unfold f_X4_areRight_L22 at hf
      refine lv_iload_n hx hb dX4_areRight_22 rfl (lv_at hl 2 rfl) ?_
      refine lv_iload_n hx hb dX4_areRight_23 rfl (lv_at hl 1 rfl) ?_
      refine lv_icmp_gt (tgt := 64) hx hb dX4_areRight_24 (by decide) (fun c4 => ?_) (fun c4 => ?_)
      · have hf := ite_t c4 hf
        refine lv_iconst (v := 1) hx hb dX4_areRight_64 (by decide) ?_
        obtain rfl := Option.some.inj hf
        subst hQ
        exact en_oz hx hb hr hlocks rfl (Or.inr rfl) dX4_areRight_65
      have hf := ite_f c4 hf
      refine lv_iload_n hx hb dX4_areRight_27 rfl (lv_at hl 0 rfl) ?_
      refine lv_iload_n hx hb dX4_areRight_28 rfl (lv_at hl 2 rfl) ?_
      refine af_oz (run_S (As := [.int s0, .int s3]) (rest := []) E (c_X4_has l D Y s0 s3 (f_X4_has s0 s3) rfl) qw348 qw349 qw75 qw350 rfl rfl hd_X4_has ⟨Nat.le_of_ble_eq_true rfl, Nat.le_of_ble_eq_true rfl⟩ (pre_roS hP hE [] rfl) rfl hl.1 rfl (Nat.le_of_ble_eq_true rfl) dX4_areRight_29 ⟨Nat.zero_le _, Nat.zero_le _⟩) (fun z5 => ?_)
      refine lv_if_eq (tgt := 41) hx hb dX4_areRight_32 (by decide) (fun c6 => ?_) (fun c6 => ?_)
      · have hf := ite_t c6 hf
        refine lv_iload_n hx hb dX4_areRight_41 rfl (lv_at hl 2 rfl) ?_
        refine lv_iload_n hx hb dX4_areRight_42 rfl (lv_at hl 1 rfl) ?_
        refine lv_icmp_eq (tgt := 56) hx hb dX4_areRight_43 (by decide) (fun c7 => ?_) (fun c7 => ?_)
        · have hf := ite_t c7 hf
          refine lv_iconst (v := 0) hx hb dX4_areRight_56 (by decide) ?_
          obtain rfl := Option.some.inj hf
          subst hQ
          exact en_oz hx hb hr hlocks rfl (Or.inl rfl) dX4_areRight_57
        have hf := ite_f c7 hf
        refine lv_iload_n hx hb dX4_areRight_46 rfl (lv_at hl 0 rfl) ?_
        refine lv_iload_n hx hb dX4_areRight_47 rfl (lv_at hl 2 rfl) ?_
        refine lv_iconst (v := 1) hx hb dX4_areRight_48 (by decide) ?_
        refine lv_iadd hx hb dX4_areRight_49 ?_
        refine af_oz (run_S (As := [.int s0, .int (s3 + 1)]) (rest := []) E (c_X4_has l D Y s0 (s3 + 1) (f_X4_has s0 (s3 + 1)) rfl) qw348 qw349 qw75 qw350 rfl rfl hd_X4_has ⟨Nat.le_of_ble_eq_true rfl, Nat.le_of_ble_eq_true rfl⟩ (pre_roS hP hE [] rfl) rfl hl.1 rfl (Nat.le_of_ble_eq_true rfl) dX4_areRight_50 ⟨Nat.zero_le _, Nat.zero_le _⟩) (fun z8 => ?_)
        refine lv_if_eq (tgt := 58) hx hb dX4_areRight_53 (by decide) (fun c9 => ?_) (fun c9 => ?_)
        · have hf := ite_t c9 hf
          refine lv_iinc (v := (s3 + 2)) (lv' := [(3, .int (s3 + 2)), (0, .int s0), (1, .int s1)]) hx hb dX4_areRight_58 hl (k := 2) rfl rfl (by decide) rfl (fun ls hl => ?_)
          refine lv_goto (tgt := 22) hx hb dX4_areRight_61 (by decide) ?_
          exact ih _ _ _ _ hf (lv_sub hl [1, 2, 0] rfl)
        have hf := ite_f c9 hf
        refine lv_iconst (v := 0) hx hb dX4_areRight_56 (by decide) ?_
        obtain rfl := Option.some.inj hf
        subst hQ
        exact en_oz hx hb hr hlocks rfl (Or.inl rfl) dX4_areRight_57
      have hf := ite_f c6 hf
      refine lv_iinc (v := (s3 + 1)) (lv' := [(3, .int (s3 + 1)), (0, .int s0), (1, .int s1)]) hx hb dX4_areRight_35 hl (k := 2) rfl rfl (by decide) rfl (fun ls hl => ?_)
      refine lv_goto (tgt := 22) hx hb dX4_areRight_38 (by decide) ?_
      exact ih _ _ _ _ hf (lv_sub hl [1, 2, 0] rfl)
  refine lv_iload_n hx hb dX4_areRight_0 rfl (lv_at hl 1 rfl) ?_
  refine lv_iconst (v := 1) hx hb dX4_areRight_1 (by decide) ?_
  refine lv_iadd hx hb dX4_areRight_2 ?_
  refine af_oi (run_S (As := [.int (s1 + 1)]) (rest := []) E (c_X4_bit l D Y (s1 + 1) (f_X4_bit (s1 + 1)) rfl) qw345 qw346 qw75 qw347 rfl rfl hd_X4_bit ⟨Nat.le_of_ble_eq_true rfl, Nat.le_of_ble_eq_true rfl⟩ (pre_roS hP hE [] rfl) rfl hl.1 rfl (Nat.le_of_ble_eq_true rfl) dX4_areRight_3 ⟨Nat.zero_le _, Nat.zero_le _⟩) ?_
  refine lv_iconst (v := 1) hx hb dX4_areRight_6 (by decide) ?_
  refine lv_isub hx hb dX4_areRight_7 ?_
  refine nm_W hf (fun x1 hf => ?_)
  refine lv_istore_n (lv' := [(2, .int x1), (0, .int s0), (1, .int s1)]) hx hb dX4_areRight_8 rfl hl (by decide) rfl (fun ls hl => ?_)
  refine lv_iload_n hx hb dX4_areRight_9 rfl (lv_at hl 1 rfl) ?_
  refine lv_if_lt (tgt := 18) hx hb dX4_areRight_10 (by decide) (fun c2 => ?_) (fun c2 => ?_)
  · have hf := ite_t c2 hf
    refine lv_iconst (v := 0) hx hb dX4_areRight_18 (by decide) ?_
    obtain rfl := Option.some.inj hf
    subst hQ
    exact en_oz hx hb hr hlocks rfl (Or.inl rfl) dX4_areRight_19
  have hf := ite_f c2 hf
  refine lv_iload_n hx hb dX4_areRight_13 rfl (lv_at hl 1 rfl) ?_
  refine lv_iload_n hx hb dX4_areRight_14 rfl (lv_at hl 0 rfl) ?_
  refine lv_icmp_lt (tgt := 20) hx hb dX4_areRight_15 (by decide) (fun c3 => ?_) (fun c3 => ?_)
  · have hf := ite_t c3 hf
    refine lv_iconst (v := 1) hx hb dX4_areRight_20 (by decide) ?_
    refine lv_istore_n (lv' := [(3, .int 1), (2, .int x1), (0, .int s0), (1, .int s1)]) hx hb dX4_areRight_21 rfl hl (by decide) rfl (fun ls hl => ?_)
    exact L22 _ _ _ _ _ hf (lv_sub hl [2, 3, 0] rfl)
  have hf := ite_f c3 hf
  refine lv_iconst (v := 0) hx hb dX4_areRight_18 (by decide) ?_
  obtain rfl := Option.some.inj hf
  subst hQ
  exact en_oz hx hb hr hlocks rfl (Or.inl rfl) dX4_areRight_19

def f_X4_canBecomeRight_L14 (s0 : Int32) (s2 : Int32) : Nat → Int32 → Option (Int32)
  | 0, _ => none
  | n + 1, s3 => (if s2 < s3 then some 0 else bd (f_X4_areRight (s0 ||| (f_X4_bit s3)) s2) (fun q7 => (if q7 = 0 then (f_X4_canBecomeRight_L14 s0 s2 n (s3 + 1)) else some 1)))
def f_X4_canBecomeRight (s0 : Int32) (s1 : Int32) (s2 : Int32) : Option (Int32) :=
  bd (f_X4_areRight s0 s2) (fun q1 => (if q1 = 0 then nm (s1 + 1) (fun (x5 : Int32) => (f_X4_canBecomeRight_L14 s0 s2 fu x5)) else some 1))
abbrev rm_X4_canBecomeRight : Room := { frames := 4, cells := 0, slots := 0, locals := 88 }
set_option maxHeartbeats 4000000 in
set_option maxRecDepth 100000 in
theorem c_X4_canBecomeRight (l : Launch) (D : va_G) (Y : ClassId × ClassId × ClassId) (s0 : Int32) (s1 : Int32) (s2 : Int32) (R : Int32) (hf : f_X4_canBecomeRight s0 s1 s2 = some R) : Met l yX4_canBecomeRight (ws_ yX4_canBecomeRight cX4_canBecomeRight 4 (some .boolean)) rm_X4_canBecomeRight (va_Pc [.int s0, .int s1, .int s2] (RO D Y [])) (OZ R) 0 0 (fun _ => False) := by
  refine ro_start (by decide) (Nat.le_of_ble_eq_true rfl) ?_
  intro p e s m below meth c ls hx hb hml hr hlocks hown hts hP hE hl
  generalize hargs : List.toArray _ = args at hts ⊢
  have hown : s.vm.findClass RX4 = some m.cls := hown
  have E : EN p m c cX4_canBecomeRight 4 s args RX4 := ⟨hx, hb, hml, hown, hts⟩
  have hl : lv_has ls 4 [(0, .int s0), (1, .int s1), (2, .int s2)] := hl
  generalize hQ : MQ below _ args s 0 0 _ = Q
  unfold f_X4_canBecomeRight at hf
  have L14 : ∀ (n : Nat) (s0 : Int32) (s2 : Int32) (s3 : Int32) (ls : Array Slot), f_X4_canBecomeRight_L14 s0 s2 n s3 = some R → lv_has ls 4 [(0, .int s0), (2, .int s2), (3, .int s3)] → W p l e rm_X4_canBecomeRight s m args below meth c s.heap [] 0 0 Q (F0 m 14 ls []) := by
    intro n
    induction n with
    | zero =>
      intro s0 s2 s3 ls hf
      cases hf
    | succ n ih =>
      intro s0 s2 s3 ls hf hl
      unfold f_X4_canBecomeRight_L14 at hf
      refine lv_iload_n hx hb dX4_canBecomeRight_14 rfl (lv_at hl 2 rfl) ?_
      refine lv_iload_n hx hb dX4_canBecomeRight_15 rfl (lv_at hl 1 rfl) ?_
      refine lv_icmp_gt (tgt := 40) hx hb dX4_canBecomeRight_16 (by decide) (fun c6 => ?_) (fun c6 => ?_)
      · have hf := ite_t c6 hf
        refine lv_iconst (v := 0) hx hb dX4_canBecomeRight_40 (by decide) ?_
        obtain rfl := Option.some.inj hf
        subst hQ
        exact en_oz hx hb hr hlocks rfl (Or.inl rfl) dX4_canBecomeRight_41
      have hf := ite_f c6 hf
      refine lv_iload_n hx hb dX4_canBecomeRight_19 rfl (lv_at hl 0 rfl) ?_
      refine lv_iload_n hx hb dX4_canBecomeRight_20 rfl (lv_at hl 2 rfl) ?_
      refine af_oi (run_S (As := [.int s3]) (rest := [.int s0]) E (c_X4_bit l D Y s3 (f_X4_bit s3) rfl) qw345 qw346 qw75 qw347 rfl rfl hd_X4_bit ⟨Nat.le_of_ble_eq_true rfl, Nat.le_of_ble_eq_true rfl⟩ (pre_roS hP hE [] rfl) rfl hl.1 rfl (Nat.le_of_ble_eq_true rfl) dX4_canBecomeRight_21 ⟨Nat.zero_le _, Nat.zero_le _⟩) ?_
      refine lv_ior hx hb dX4_canBecomeRight_24 ?_
      refine lv_iload_n hx hb dX4_canBecomeRight_25 rfl (lv_at hl 1 rfl) ?_
      obtain ⟨q7, h8, hf⟩ := bd_s hf
      refine af_oz (run_S (As := [.int (s0 ||| (f_X4_bit s3)), .int s2]) (rest := []) E (c_X4_areRight l D Y (s0 ||| (f_X4_bit s3)) s2 q7 h8) qw367 qw343 qw75 qw344 rfl rfl hd_X4_areRight ⟨Nat.le_of_ble_eq_true rfl, Nat.le_of_ble_eq_true rfl⟩ (pre_roS hP hE [] rfl) rfl hl.1 rfl (Nat.le_of_ble_eq_true rfl) dX4_canBecomeRight_26 ⟨Nat.zero_le _, Nat.zero_le _⟩) (fun z9 => ?_)
      refine lv_if_eq (tgt := 34) hx hb dX4_canBecomeRight_29 (by decide) (fun c10 => ?_) (fun c10 => ?_)
      · have hf := ite_t c10 hf
        refine lv_iinc (v := (s3 + 1)) (lv' := [(3, .int (s3 + 1)), (0, .int s0), (2, .int s2)]) hx hb dX4_canBecomeRight_34 hl (k := 2) rfl rfl (by decide) rfl (fun ls hl => ?_)
        refine lv_goto (tgt := 14) hx hb dX4_canBecomeRight_37 (by decide) ?_
        exact ih _ _ _ _ hf (lv_sub hl [1, 2, 0] rfl)
      have hf := ite_f c10 hf
      refine lv_iconst (v := 1) hx hb dX4_canBecomeRight_32 (by decide) ?_
      obtain rfl := Option.some.inj hf
      subst hQ
      exact en_oz hx hb hr hlocks rfl (Or.inr rfl) dX4_canBecomeRight_33
  refine lv_iload_n hx hb dX4_canBecomeRight_0 rfl (lv_at hl 0 rfl) ?_
  refine lv_iload_n hx hb dX4_canBecomeRight_1 rfl (lv_at hl 2 rfl) ?_
  obtain ⟨q1, h2, hf⟩ := bd_s hf
  refine af_oz (run_S (As := [.int s0, .int s2]) (rest := []) E (c_X4_areRight l D Y s0 s2 q1 h2) qw367 qw343 qw75 qw344 rfl rfl hd_X4_areRight ⟨Nat.le_of_ble_eq_true rfl, Nat.le_of_ble_eq_true rfl⟩ (pre_roS hP hE [] rfl) rfl hl.1 rfl (Nat.le_of_ble_eq_true rfl) dX4_canBecomeRight_2 ⟨Nat.zero_le _, Nat.zero_le _⟩) (fun z3 => ?_)
  refine lv_if_eq (tgt := 10) hx hb dX4_canBecomeRight_5 (by decide) (fun c4 => ?_) (fun c4 => ?_)
  · have hf := ite_t c4 hf
    refine lv_iload_n hx hb dX4_canBecomeRight_10 rfl (lv_at hl 1 rfl) ?_
    refine lv_iconst (v := 1) hx hb dX4_canBecomeRight_11 (by decide) ?_
    refine lv_iadd hx hb dX4_canBecomeRight_12 ?_
    refine nm_W hf (fun x5 hf => ?_)
    refine lv_istore_n (lv' := [(3, .int x5), (0, .int s0), (1, .int s1), (2, .int s2)]) hx hb dX4_canBecomeRight_13 rfl hl (by decide) rfl (fun ls hl => ?_)
    exact L14 _ _ _ _ _ hf (lv_sub hl [1, 3, 0] rfl)
  have hf := ite_f c4 hf
  refine lv_iconst (v := 1) hx hb dX4_canBecomeRight_8 (by decide) ?_
  obtain rfl := Option.some.inj hf
  subst hQ
  exact en_oz hx hb hr hlocks rfl (Or.inr rfl) dX4_canBecomeRight_9
