theorem qw366 : Cond.constantLong RL 9 (8) ∈ lw_all := lw_in (List.mem_of_getElem? (i := 366) (by decide +kernel)) rfl
theorem qw509 : Cond.constantLong RL 11 (2097151) ∈ lw_all := lw_in (List.mem_of_getElem? (i := 509) (by decide +kernel)) rfl
theorem qw519 : Cond.constantLong RL 31 (7) ∈ lw_all := lw_in (List.mem_of_getElem? (i := 519) (by decide +kernel)) rfl
def f_L_isRight_L19 (k : Int32 → Int32 → Option (Int32)) (s0 : Int32) (s1 : Int32) : Nat → Int32 → Int32 → Option (Int32)
  | 0, _, _ => none
  | n + 1, s2, s3 => (if s0 ≤ s3 then (k s2 s3) else nm (if ((s1 >>> (s3 &&& 31)) &&& 1) = 1 then (1 : Int32) else (0 : Int32)) (fun (w4 : Int32) => (if w4 = 0 then nm (if w4 = 0 then (s2 + 1) else (0 : Int32)) (fun (w6 : Int32) => (f_L_isRight_L19 k s0 s1 n w6 (s3 + 1))) else (if (s2 - s2 / 2 * 2) = 1 then some 0 else nm (if w4 = 0 then (s2 + 1) else (0 : Int32)) (fun (w9 : Int32) => (f_L_isRight_L19 k s0 s1 n w9 (s3 + 1)))))))
def f_L_isRight (s0 : Int32) (s1 : Int32) : Option (Int32) :=
  (if s1 < 0 then some 0 else (if s1 < (((1 : Int32) <<< (s0 &&& 31)) - 1) then (f_L_isRight_L19 (fun (y12 : Int32) (y13 : Int32) => (if (y12 - y12 / 2 * 2) = 0 then some 1 else some 0)) s0 s1 fu 0 0) else some 0))
abbrev rm_L_isRight : Room := { frames := 1, cells := 0, slots := 0, locals := 24 }
set_option maxHeartbeats 4000000 in
set_option maxRecDepth 100000 in
theorem c_L_isRight (l : Launch) (D : va_G) (Y : ClassId × ClassId × ClassId × ClassId) (s0 : Int32) (s1 : Int32) (R : Int32) (hf : f_L_isRight s0 s1 = some R) : Met l yL_isRight (ws_ yL_isRight cL_isRight 5 (some .boolean)) rm_L_isRight (va_Pc [.int s0, .int s1] (RO D Y [])) (OZ R) 0 0 (fun _ => False) := by
  refine ro_start (by decide) (Nat.le_of_ble_eq_true rfl) ?_
  intro p e s m below meth c ls hx hb hml hr hlocks hown hts hP hE hl
  generalize hargs : List.toArray _ = args at hts ⊢
  have hown : s.vm.findClass RL = some m.cls := hown
  have E : EN p m c cL_isRight 5 s args RL := ⟨hx, hb, hml, hown, hts⟩
  have hl : lv_has ls 5 [(0, .int s0), (1, .int s1)] := hl
  generalize hQ : MQ below _ args s 0 0 _ = Q
  unfold f_L_isRight at hf
  have L19 : ∀ (n : Nat) (k : Int32 → Int32 → Option (Int32)) (s0 : Int32) (s1 : Int32) (s2 : Int32) (s3 : Int32) (ls : Array Slot), f_L_isRight_L19 k s0 s1 n s2 s3 = some R → lv_has ls 5 [(0, .int s0), (1, .int s1), (2, .int s2), (3, .int s3)] → (∀ (y_s2 : Int32) (y_s3 : Int32) (ls : Array Slot), k y_s2 y_s3 = some R → lv_has ls 5 [(2, .int y_s2)] → W p l e rm_L_isRight s m args below meth c s.heap [] 0 0 Q (F0 m 73 ls [])) → W p l e rm_L_isRight s m args below meth c s.heap [] 0 0 Q (F0 m 19 ls []) := by
    intro n
    induction n with
    | zero =>
      intro k s0 s1 s2 s3 ls hf
      cases hf
    | succ n ih =>
      intro k s0 s1 s2 s3 ls hf hl hk
      unfold f_L_isRight_L19 at hf
      refine lv_iload_n hx hb dL_isRight_19 rfl (lv_at hl 3 rfl) ?_
      refine lv_iload_n hx hb dL_isRight_20 rfl (lv_at hl 0 rfl) ?_
      refine lv_icmp_ge (tgt := 73) hx hb dL_isRight_21 (by decide) (fun c3 => ?_) (fun c3 => ?_)
      · have hf := ite_t c3 hf
        exact hk _ _ _ hf (lv_sub hl [2] rfl)
      have hf := ite_f c3 hf
      refine lv_iload_n hx hb dL_isRight_24 rfl (lv_at hl 1 rfl) ?_
      refine lv_iload_n hx hb dL_isRight_25 rfl (lv_at hl 3 rfl) ?_
      refine lv_ishr hx hb dL_isRight_26 ?_
      refine lv_iconst (v := 1) hx hb dL_isRight_27 (by decide) ?_
      refine lv_iand hx hb dL_isRight_28 ?_
      refine lv_iconst (v := 1) hx hb dL_isRight_29 (by decide) ?_
      refine mg (P := fun (w4 : Int32) => ∀ (ls : Array Slot), lv_has ls 5 [(0, .int s0), (1, .int s1), (2, .int s2), (3, .int s3)] → W p l e rm_L_isRight s m args below meth c s.heap [] 0 0 Q (F0 m 38 ls [.int w4])) hf (fun w4 hf ls hl => ?_) (fun hJ => ?_)
      · refine lv_istore (lv' := [(4, .int w4), (0, .int s0), (1, .int s1), (2, .int s2), (3, .int s3)]) hx hb dL_isRight_38 hl (by decide) rfl (fun ls hl => ?_)
        refine lv_iload hx hb dL_isRight_40 (lv_at hl 0 rfl) ?_
        refine lv_if_eq (tgt := 54) hx hb dL_isRight_42 (by decide) (fun c5 => ?_) (fun c5 => ?_)
        · have hf := ite_t c5 hf
          refine lv_iload hx hb dL_isRight_54 (lv_at hl 0 rfl) ?_
          refine mg (P := fun (w6 : Int32) => ∀ (ls : Array Slot), lv_has ls 5 [(0, .int s0), (1, .int s1), (3, .int s3)] → W p l e rm_L_isRight s m args below meth c s.heap [] 0 0 Q (F0 m 66 ls [.int w6])) hf (fun w6 hf ls hl => ?_) (fun hJ => ?_)
          · refine lv_istore_n (lv' := [(2, .int w6), (0, .int s0), (1, .int s1), (3, .int s3)]) hx hb dL_isRight_66 rfl hl (by decide) rfl (fun ls hl => ?_)
            refine lv_iinc (v := (s3 + 1)) (lv' := [(3, .int (s3 + 1)), (2, .int w6), (0, .int s0), (1, .int s1)]) hx hb dL_isRight_67 hl (k := 3) rfl rfl (by decide) rfl (fun ls hl => ?_)
            refine lv_goto (tgt := 19) hx hb dL_isRight_70 (by decide) ?_
            exact ih _ _ _ _ _ _ hf (lv_sub hl [2, 3, 1, 0] rfl) hk
          refine lv_if_eq (tgt := 63) hx hb dL_isRight_56 (by decide) (fun c7 => ?_) (fun c7 => ?_)
          · have hf := nmi_t c7 hf
            refine lv_iload_n hx hb dL_isRight_63 rfl (lv_at hl 3 rfl) ?_
            refine lv_iconst (v := 1) hx hb dL_isRight_64 (by decide) ?_
            refine lv_iadd hx hb dL_isRight_65 ?_
            exact hJ _ (nm_b hf) _ (lv_sub hl [1, 2, 4] rfl)
          have hf := nmi_f c7 hf
          refine lv_iconst (v := 0) hx hb dL_isRight_59 (by decide) ?_
          refine lv_goto (tgt := 66) hx hb dL_isRight_60 (by decide) ?_
          exact hJ _ (nm_b hf) _ (lv_sub hl [1, 2, 4] rfl)
        have hf := ite_f c5 hf
        refine lv_iload_n hx hb dL_isRight_45 rfl (lv_at hl 3 rfl) ?_
        refine lv_iconst (v := 2) hx hb dL_isRight_46 (by decide) ?_
        refine lv_irem hx hb dL_isRight_47 (by decide) ?_
        refine lv_iconst (v := 1) hx hb dL_isRight_48 (by decide) ?_
        refine lv_icmp_ne (tgt := 54) hx hb dL_isRight_49 (by decide) (fun c8 => ?_) (fun c8 => ?_)
        · have hf := ite_f c8 hf
          refine lv_iload hx hb dL_isRight_54 (lv_at hl 0 rfl) ?_
          refine mg (P := fun (w9 : Int32) => ∀ (ls : Array Slot), lv_has ls 5 [(0, .int s0), (1, .int s1), (3, .int s3)] → W p l e rm_L_isRight s m args below meth c s.heap [] 0 0 Q (F0 m 66 ls [.int w9])) hf (fun w9 hf ls hl => ?_) (fun hJ => ?_)
          · refine lv_istore_n (lv' := [(2, .int w9), (0, .int s0), (1, .int s1), (3, .int s3)]) hx hb dL_isRight_66 rfl hl (by decide) rfl (fun ls hl => ?_)
            refine lv_iinc (v := (s3 + 1)) (lv' := [(3, .int (s3 + 1)), (2, .int w9), (0, .int s0), (1, .int s1)]) hx hb dL_isRight_67 hl (k := 3) rfl rfl (by decide) rfl (fun ls hl => ?_)
            refine lv_goto (tgt := 19) hx hb dL_isRight_70 (by decide) ?_
            exact ih _ _ _ _ _ _ hf (lv_sub hl [2, 3, 1, 0] rfl) hk
          refine lv_if_eq (tgt := 63) hx hb dL_isRight_56 (by decide) (fun c10 => ?_) (fun c10 => ?_)
          · have hf := nmi_t c10 hf
            refine lv_iload_n hx hb dL_isRight_63 rfl (lv_at hl 3 rfl) ?_
            refine lv_iconst (v := 1) hx hb dL_isRight_64 (by decide) ?_
            refine lv_iadd hx hb dL_isRight_65 ?_
            exact hJ _ (nm_b hf) _ (lv_sub hl [1, 2, 4] rfl)
          have hf := nmi_f c10 hf
          refine lv_iconst (v := 0) hx hb dL_isRight_59 (by decide) ?_
          refine lv_goto (tgt := 66) hx hb dL_isRight_60 (by decide) ?_
          exact hJ _ (nm_b hf) _ (lv_sub hl [1, 2, 4] rfl)
        have hf := ite_t c8 hf
        refine lv_iconst (v := 0) hx hb dL_isRight_52 (by decide) ?_
        obtain rfl := Option.some.inj hf
        subst hQ
        exact en_oz hx hb hr hlocks rfl (Or.inl rfl) dL_isRight_53
      refine lv_icmp_ne (tgt := 37) hx hb dL_isRight_30 (by decide) (fun c11 => ?_) (fun c11 => ?_)
      · have hf := nmi_f c11 hf
        refine lv_iconst (v := 0) hx hb dL_isRight_37 (by decide) ?_
        exact hJ _ (nm_b hf) _ (lv_sub hl [0, 1, 2, 3] rfl)
      have hf := nmi_t c11 hf
      refine lv_iconst (v := 1) hx hb dL_isRight_33 (by decide) ?_
      refine lv_goto (tgt := 38) hx hb dL_isRight_34 (by decide) ?_
      exact hJ _ (nm_b hf) _ (lv_sub hl [0, 1, 2, 3] rfl)
  refine lv_iload_n hx hb dL_isRight_0 rfl (lv_at hl 1 rfl) ?_
  refine lv_if_lt (tgt := 13) hx hb dL_isRight_1 (by decide) (fun c1 => ?_) (fun c1 => ?_)
  · have hf := ite_t c1 hf
    refine lv_iconst (v := 0) hx hb dL_isRight_13 (by decide) ?_
    obtain rfl := Option.some.inj hf
    subst hQ
    exact en_oz hx hb hr hlocks rfl (Or.inl rfl) dL_isRight_14
  have hf := ite_f c1 hf
  refine lv_iload_n hx hb dL_isRight_4 rfl (lv_at hl 1 rfl) ?_
  refine lv_iconst (v := 1) hx hb dL_isRight_5 (by decide) ?_
  refine lv_iload_n hx hb dL_isRight_6 rfl (lv_at hl 0 rfl) ?_
  refine lv_ishl hx hb dL_isRight_7 ?_
  refine lv_iconst (v := 1) hx hb dL_isRight_8 (by decide) ?_
  refine lv_isub hx hb dL_isRight_9 ?_
  refine lv_icmp_lt (tgt := 15) hx hb dL_isRight_10 (by decide) (fun c2 => ?_) (fun c2 => ?_)
  · have hf := ite_t c2 hf
    refine lv_iconst (v := 0) hx hb dL_isRight_15 (by decide) ?_
    refine lv_istore_n (lv' := [(2, .int 0), (0, .int s0), (1, .int s1)]) hx hb dL_isRight_16 rfl hl (by decide) rfl (fun ls hl => ?_)
    refine lv_iconst (v := 0) hx hb dL_isRight_17 (by decide) ?_
    refine lv_istore_n (lv' := [(3, .int 0), (2, .int 0), (0, .int s0), (1, .int s1)]) hx hb dL_isRight_18 rfl hl (by decide) rfl (fun ls hl => ?_)
    refine L19 _ _ _ _ _ _ _ hf (lv_sub hl [2, 3, 1, 0] rfl) ?_
    intro y12 y13 ls hf hl
    refine lv_iload_n hx hb dL_isRight_73 rfl (lv_at hl 0 rfl) ?_
    refine lv_iconst (v := 2) hx hb dL_isRight_74 (by decide) ?_
    refine lv_irem hx hb dL_isRight_75 (by decide) ?_
    refine lv_if_ne (tgt := 83) hx hb dL_isRight_76 (by decide) (fun c14 => ?_) (fun c14 => ?_)
    · have hf := ite_f c14 hf
      refine lv_iconst (v := 0) hx hb dL_isRight_83 (by decide) ?_
      obtain rfl := Option.some.inj hf
      subst hQ
      exact en_oz hx hb hr hlocks rfl (Or.inl rfl) dL_isRight_84
    have hf := ite_t c14 hf
    refine lv_iconst (v := 1) hx hb dL_isRight_79 (by decide) ?_
    refine lv_goto (tgt := 84) hx hb dL_isRight_80 (by decide) ?_
    obtain rfl := Option.some.inj hf
    subst hQ
    exact en_oz hx hb hr hlocks rfl (Or.inr rfl) dL_isRight_84
  have hf := ite_f c2 hf
  refine lv_iconst (v := 0) hx hb dL_isRight_13 (by decide) ?_
  obtain rfl := Option.some.inj hf
  subst hQ
  exact en_oz hx hb hr hlocks rfl (Or.inl rfl) dL_isRight_14

def f_L_digit (s0 : Int32) (s1 : Int64) (s3 : Int32) : Int32 :=
  ((s1 >>> (((3 : Int32) * ((s0 - 1) - s3)).toInt64 &&& 63)) &&& (7 : Int64)).toInt32
abbrev rm_L_digit : Room := { frames := 1, cells := 0, slots := 0, locals := 24 }
set_option maxHeartbeats 4000000 in
set_option maxRecDepth 100000 in
theorem c_L_digit (l : Launch) (D : va_G) (Y : ClassId × ClassId × ClassId × ClassId) (s0 : Int32) (s1 : Int64) (s3 : Int32) (R : Int32) (hf : f_L_digit s0 s1 s3 = R) : Met l yL_digit (ws_ yL_digit cL_digit 4 (some .int)) rm_L_digit (va_Pc [.int s0, .long s1, .int s3] (RO D Y [])) (OI R) 0 0 (fun _ => False) := by
  refine ro_start (by decide) (Nat.le_of_ble_eq_true rfl) ?_
  intro p e s m below meth c ls hx hb hml hr hlocks hown hts hP hE hl
  generalize hargs : List.toArray _ = args at hts ⊢
  have hown : s.vm.findClass RL = some m.cls := hown
  have E : EN p m c cL_digit 4 s args RL := ⟨hx, hb, hml, hown, hts⟩
  have hl : lv_has ls 4 [(0, .int s0), (1, .long s1), (3, .int s3)] := hl
  generalize hQ : MQ below _ args s 0 0 _ = Q
  unfold f_L_digit at hf
  refine lv_lload_n hx hb dL_digit_0 rfl (lv_at hl 1 rfl) ?_
  refine lv_iconst (v := 3) hx hb dL_digit_1 (by decide) ?_
  refine lv_iload_n hx hb dL_digit_2 rfl (lv_at hl 0 rfl) ?_
  refine lv_iconst (v := 1) hx hb dL_digit_3 (by decide) ?_
  refine lv_isub hx hb dL_digit_4 ?_
  refine lv_iload_n hx hb dL_digit_5 rfl (lv_at hl 2 rfl) ?_
  refine lv_isub hx hb dL_digit_6 ?_
  refine lv_imul hx hb dL_digit_7 ?_
  refine lv_lshr hx hb dL_digit_8 rfl ?_
  refine lv_ldc2 hx hb hown (hts _ qw519) dL_digit_9 ?_
  refine lv_land hx hb dL_digit_12 ?_
  refine lv_l2i hx hb dL_digit_13 rfl ?_
  subst hf
  subst hQ
  exact en_oi hx hb hr hlocks rfl dL_digit_14

def f_L_sounds (s0 : Int32) (s1 : Int64) : Int32 :=
  (if (f_L_digit s0 s1 (s0 - 2)) ≤ (f_L_digit s0 s1 (s0 - 3)) then 0 else (if (f_L_digit s0 s1 (s0 - 1)) ≤ (f_L_digit s0 s1 (s0 - 2)) then 0 else 1))
abbrev rm_L_sounds : Room := { frames := 2, cells := 0, slots := 0, locals := 47 }
set_option maxHeartbeats 4000000 in
set_option maxRecDepth 100000 in
theorem c_L_sounds (l : Launch) (D : va_G) (Y : ClassId × ClassId × ClassId × ClassId) (s0 : Int32) (s1 : Int64) (R : Int32) (hf : f_L_sounds s0 s1 = R) : Met l yL_sounds (ws_ yL_sounds cL_sounds 3 (some .boolean)) rm_L_sounds (va_Pc [.int s0, .long s1] (RO D Y [])) (OZ R) 0 0 (fun _ => False) := by
  refine ro_start (by decide) (Nat.le_of_ble_eq_true rfl) ?_
  intro p e s m below meth c ls hx hb hml hr hlocks hown hts hP hE hl
  generalize hargs : List.toArray _ = args at hts ⊢
  have hown : s.vm.findClass RL = some m.cls := hown
  have E : EN p m c cL_sounds 3 s args RL := ⟨hx, hb, hml, hown, hts⟩
  have hl : lv_has ls 3 [(0, .int s0), (1, .long s1)] := hl
  generalize hQ : MQ below _ args s 0 0 _ = Q
  unfold f_L_sounds at hf
  refine lv_iload_n hx hb dL_sounds_0 rfl (lv_at hl 0 rfl) ?_
  refine lv_lload_n hx hb dL_sounds_1 rfl (lv_at hl 1 rfl) ?_
  refine lv_iload_n hx hb dL_sounds_2 rfl (lv_at hl 0 rfl) ?_
  refine lv_iconst (v := 3) hx hb dL_sounds_3 (by decide) ?_
  refine lv_isub hx hb dL_sounds_4 ?_
  refine af_oi (run_S (As := [.int s0, .long s1, .int (s0 - 3)]) (rest := []) E (c_L_digit l D Y s0 s1 (s0 - 3) (f_L_digit s0 s1 (s0 - 3)) rfl) qw516 qw517 qw18 qw518 rfl rfl hd_L_digit ⟨Nat.le_of_ble_eq_true rfl, Nat.le_of_ble_eq_true rfl⟩ (pre_roS hP hE [] rfl) rfl hl.1 rfl (Nat.le_of_ble_eq_true rfl) dL_sounds_5 ⟨Nat.le_of_ble_eq_true rfl, Nat.le_of_ble_eq_true rfl⟩) ?_
  refine lv_iload_n hx hb dL_sounds_8 rfl (lv_at hl 0 rfl) ?_
  refine lv_lload_n hx hb dL_sounds_9 rfl (lv_at hl 1 rfl) ?_
  refine lv_iload_n hx hb dL_sounds_10 rfl (lv_at hl 0 rfl) ?_
  refine lv_iconst (v := 2) hx hb dL_sounds_11 (by decide) ?_
  refine lv_isub hx hb dL_sounds_12 ?_
  refine af_oi (run_S (As := [.int s0, .long s1, .int (s0 - 2)]) (rest := [.int (f_L_digit s0 s1 (s0 - 3))]) E (c_L_digit l D Y s0 s1 (s0 - 2) (f_L_digit s0 s1 (s0 - 2)) rfl) qw516 qw517 qw18 qw518 rfl rfl hd_L_digit ⟨Nat.le_of_ble_eq_true rfl, Nat.le_of_ble_eq_true rfl⟩ (pre_roS hP hE [] rfl) rfl hl.1 rfl (Nat.le_of_ble_eq_true rfl) dL_sounds_13 ⟨Nat.le_of_ble_eq_true rfl, Nat.le_of_ble_eq_true rfl⟩) ?_
  refine lv_icmp_ge (tgt := 42) hx hb dL_sounds_16 (by decide) (fun c1 => ?_) (fun c1 => ?_)
  · have hf := ite_t c1 hf
    refine lv_iconst (v := 0) hx hb dL_sounds_42 (by decide) ?_
    subst hf
    subst hQ
    exact en_oz hx hb hr hlocks rfl (Or.inl rfl) dL_sounds_43
  have hf := ite_f c1 hf
  refine lv_iload_n hx hb dL_sounds_19 rfl (lv_at hl 0 rfl) ?_
  refine lv_lload_n hx hb dL_sounds_20 rfl (lv_at hl 1 rfl) ?_
  refine lv_iload_n hx hb dL_sounds_21 rfl (lv_at hl 0 rfl) ?_
  refine lv_iconst (v := 2) hx hb dL_sounds_22 (by decide) ?_
  refine lv_isub hx hb dL_sounds_23 ?_
  refine af_oi (run_S (As := [.int s0, .long s1, .int (s0 - 2)]) (rest := []) E (c_L_digit l D Y s0 s1 (s0 - 2) (f_L_digit s0 s1 (s0 - 2)) rfl) qw516 qw517 qw18 qw518 rfl rfl hd_L_digit ⟨Nat.le_of_ble_eq_true rfl, Nat.le_of_ble_eq_true rfl⟩ (pre_roS hP hE [] rfl) rfl hl.1 rfl (Nat.le_of_ble_eq_true rfl) dL_sounds_24 ⟨Nat.le_of_ble_eq_true rfl, Nat.le_of_ble_eq_true rfl⟩) ?_
  refine lv_iload_n hx hb dL_sounds_27 rfl (lv_at hl 0 rfl) ?_
  refine lv_lload_n hx hb dL_sounds_28 rfl (lv_at hl 1 rfl) ?_
  refine lv_iload_n hx hb dL_sounds_29 rfl (lv_at hl 0 rfl) ?_
  refine lv_iconst (v := 1) hx hb dL_sounds_30 (by decide) ?_
  refine lv_isub hx hb dL_sounds_31 ?_
  refine af_oi (run_S (As := [.int s0, .long s1, .int (s0 - 1)]) (rest := [.int (f_L_digit s0 s1 (s0 - 2))]) E (c_L_digit l D Y s0 s1 (s0 - 1) (f_L_digit s0 s1 (s0 - 1)) rfl) qw516 qw517 qw18 qw518 rfl rfl hd_L_digit ⟨Nat.le_of_ble_eq_true rfl, Nat.le_of_ble_eq_true rfl⟩ (pre_roS hP hE [] rfl) rfl hl.1 rfl (Nat.le_of_ble_eq_true rfl) dL_sounds_32 ⟨Nat.le_of_ble_eq_true rfl, Nat.le_of_ble_eq_true rfl⟩) ?_
  refine lv_icmp_ge (tgt := 42) hx hb dL_sounds_35 (by decide) (fun c2 => ?_) (fun c2 => ?_)
  · have hf := ite_t c2 hf
    refine lv_iconst (v := 0) hx hb dL_sounds_42 (by decide) ?_
    subst hf
    subst hQ
    exact en_oz hx hb hr hlocks rfl (Or.inl rfl) dL_sounds_43
  have hf := ite_f c2 hf
  refine lv_iconst (v := 1) hx hb dL_sounds_38 (by decide) ?_
  refine lv_goto (tgt := 43) hx hb dL_sounds_39 (by decide) ?_
  subst hf
  subst hQ
  exact en_oz hx hb hr hlocks rfl (Or.inr rfl) dL_sounds_43

def f_L_rowAt (s1 : Int32) (f_p0 : Nat → Int64) : Option (Int64) :=
  gd (inb (s1 / 3) 64) (some (((f_p0 (s1 / 3).toNatClampNeg) >>> (((21 : Int32) * (s1 - s1 / 3 * 3)).toInt64 &&& 63)) &&& (2097151 : Int64)))
abbrev rm_L_rowAt : Room := { frames := 1, cells := 0, slots := 0, locals := 24 }
set_option maxHeartbeats 4000000 in
set_option maxRecDepth 100000 in
theorem c_L_rowAt (l : Launch) (D : va_G) (Y : ClassId × ClassId × ClassId × ClassId) (a_p0 : Nat) (f_p0 : Nat → Int64) (s1 : Int32) (R : Int64) (hf : f_L_rowAt s1 f_p0 = some R) : Met l yL_rowAt (ws_ yL_rowAt cL_rowAt 2 (some .long)) rm_L_rowAt (va_Pc [.ref a_p0, .int s1] (RO D Y [(a_p0, .inl (Y.2.2.2, 64, .inr (.inl f_p0)))])) (OL R) 0 0 (fun _ => False) := by
  refine ro_start (by decide) (Nat.le_of_ble_eq_true rfl) ?_
  intro p e s m below meth c ls hx hb hml hr hlocks hown hts hP hE hl
  generalize hargs : List.toArray _ = args at hts ⊢
  have hown : s.vm.findClass RL = some m.cls := hown
  have E : EN p m c cL_rowAt 2 s args RL := ⟨hx, hb, hml, hown, hts⟩
  have hl : lv_has ls 2 [(0, .ref a_p0), (1, .int s1)] := hl
  generalize hQ : MQ below _ args s 0 0 _ = Q
  unfold f_L_rowAt at hf
  refine lv_aload_n hx hb dL_rowAt_0 rfl (lv_at hl 0 rfl) ?_
  refine lv_iload_n hx hb dL_rowAt_1 rfl (lv_at hl 1 rfl) ?_
  refine lv_iconst (v := 3) hx hb dL_rowAt_2 (by decide) ?_
  refine lv_idiv hx hb dL_rowAt_3 (by decide) ?_
  obtain ⟨g1, hf⟩ := gd_s hf
  refine va_lald hx hb hE.1 hP 0 3 rfl rfl (inb_in g1) dL_rowAt_4 ?_
  refine lv_bipush (v := 21) hx hb dL_rowAt_5 (by decide) ?_
  refine lv_iload_n hx hb dL_rowAt_7 rfl (lv_at hl 1 rfl) ?_
  refine lv_iconst (v := 3) hx hb dL_rowAt_8 (by decide) ?_
  refine lv_irem hx hb dL_rowAt_9 (by decide) ?_
  refine lv_imul hx hb dL_rowAt_10 ?_
  refine lv_lshr hx hb dL_rowAt_11 rfl ?_
  refine lv_ldc2 hx hb hown (hts _ qw509) dL_rowAt_12 ?_
  refine lv_land hx hb dL_rowAt_15 ?_
  obtain rfl := Option.some.inj hf
  subst hQ
  exact en_ol hx hb hr hlocks rfl dL_rowAt_16

def f_L_first_L2 (s1 : Int32) (f_p0 : Nat → Int64) : Nat → Int32 → Option (Int32)
  | 0, _ => none
  | n + 1, s3 => bd (f_L_rowAt s3 f_p0) (fun q1 => bd (f_L_rowAt s1 f_p0) (fun q3 => (if (lg_cmp q1 q3) = 0 then some s3 else (f_L_first_L2 s1 f_p0 n (s3 + 1)))))
def f_L_first (s1 : Int32) (s2 : Int32) (f_p0 : Nat → Int64) : Option (Int32) :=
  (f_L_first_L2 s1 f_p0 fu s2)
abbrev rm_L_first : Room := { frames := 2, cells := 0, slots := 0, locals := 45 }
set_option maxHeartbeats 4000000 in
set_option maxRecDepth 100000 in
theorem c_L_first (l : Launch) (D : va_G) (Y : ClassId × ClassId × ClassId × ClassId) (a_p0 : Nat) (f_p0 : Nat → Int64) (s1 : Int32) (s2 : Int32) (R : Int32) (hf : f_L_first s1 s2 f_p0 = some R) : Met l yL_first (ws_ yL_first cL_first 4 (some .int)) rm_L_first (va_Pc [.ref a_p0, .int s1, .int s2] (RO D Y [(a_p0, .inl (Y.2.2.2, 64, .inr (.inl f_p0)))])) (OI R) 0 0 (fun _ => False) := by
  refine ro_start (by decide) (Nat.le_of_ble_eq_true rfl) ?_
  intro p e s m below meth c ls hx hb hml hr hlocks hown hts hP hE hl
  generalize hargs : List.toArray _ = args at hts ⊢
  have hown : s.vm.findClass RL = some m.cls := hown
  have E : EN p m c cL_first 4 s args RL := ⟨hx, hb, hml, hown, hts⟩
  have hl : lv_has ls 4 [(0, .ref a_p0), (1, .int s1), (2, .int s2)] := hl
  generalize hQ : MQ below _ args s 0 0 _ = Q
  unfold f_L_first at hf
  have L2 : ∀ (n : Nat) (s1 : Int32) (s3 : Int32) (ls : Array Slot), f_L_first_L2 s1 f_p0 n s3 = some R → lv_has ls 4 [(0, .ref a_p0), (1, .int s1), (3, .int s3)] → W p l e rm_L_first s m args below meth c s.heap [] 0 0 Q (F0 m 2 ls []) := by
    intro n
    induction n with
    | zero =>
      intro s1 s3 ls hf
      cases hf
    | succ n ih =>
      intro s1 s3 ls hf hl
      unfold f_L_first_L2 at hf
      refine lv_aload_n hx hb dL_first_2 rfl (lv_at hl 0 rfl) ?_
      refine lv_iload_n hx hb dL_first_3 rfl (lv_at hl 2 rfl) ?_
      obtain ⟨q1, h2, hf⟩ := bd_s hf
      refine af_ol (run_S (As := [.ref a_p0, .int s3]) (rest := []) E (c_L_rowAt l D Y a_p0 f_p0 s3 q1 h2) qw506 qw507 qw18 qw508 rfl rfl hd_L_rowAt ⟨Nat.le_of_ble_eq_true rfl, Nat.le_of_ble_eq_true rfl⟩ (pre_roS hP hE [0] rfl) rfl hl.1 rfl (Nat.le_of_ble_eq_true rfl) dL_first_4 ⟨Nat.le_of_ble_eq_true rfl, Nat.le_of_ble_eq_true rfl⟩) ?_
      refine lv_aload_n hx hb dL_first_7 rfl (lv_at hl 0 rfl) ?_
      refine lv_iload_n hx hb dL_first_8 rfl (lv_at hl 1 rfl) ?_
      obtain ⟨q3, h4, hf⟩ := bd_s hf
      refine af_ol (run_S (As := [.ref a_p0, .int s1]) (rest := [.long q1]) E (c_L_rowAt l D Y a_p0 f_p0 s1 q3 h4) qw506 qw507 qw18 qw508 rfl rfl hd_L_rowAt ⟨Nat.le_of_ble_eq_true rfl, Nat.le_of_ble_eq_true rfl⟩ (pre_roS hP hE [0] rfl) rfl hl.1 rfl (Nat.le_of_ble_eq_true rfl) dL_first_9 ⟨Nat.le_of_ble_eq_true rfl, Nat.le_of_ble_eq_true rfl⟩) ?_
      refine W.lcmp hx hb dL_first_12 ?_
      refine lv_if_eq (tgt := 22) hx hb dL_first_13 (by decide) (fun c5 => ?_) (fun c5 => ?_)
      · have hf := ite_t c5 hf
        refine lv_iload_n hx hb dL_first_22 rfl (lv_at hl 2 rfl) ?_
        obtain rfl := Option.some.inj hf
        subst hQ
        exact en_oi hx hb hr hlocks rfl dL_first_23
      have hf := ite_f c5 hf
      refine lv_iinc (v := (s3 + 1)) (lv' := [(3, .int (s3 + 1)), (0, .ref a_p0), (1, .int s1)]) hx hb dL_first_16 hl (k := 2) rfl rfl (by decide) rfl (fun ls hl => ?_)
      refine lv_goto (tgt := 2) hx hb dL_first_19 (by decide) ?_
      exact ih _ _ _ hf (lv_sub hl [1, 2, 0] rfl)
  refine lv_iload_n hx hb dL_first_0 rfl (lv_at hl 2 rfl) ?_
  refine lv_istore_n (lv' := [(3, .int s2), (0, .ref a_p0), (1, .int s1), (2, .int s2)]) hx hb dL_first_1 rfl hl (by decide) rfl (fun ls hl => ?_)
  exact L2 _ _ _ _ hf (lv_sub hl [1, 2, 0] rfl)

def f_L_change (s4 : Int32) (f_p0 : Nat → Int32) (f_p1 : Nat → Int32) (f_p2 : Nat → Int32) (f_p3 : Nat → Int32) : Option (Int32) :=
  gd (nzb (f_p0 (1 : Int32).toNatClampNeg)) (nm (s4 - s4 / (f_p0 (1 : Int32).toNatClampNeg) * (f_p0 (1 : Int32).toNatClampNeg)) (fun (x2 : Int32) => gd (inb (s4 / (f_p0 (1 : Int32).toNatClampNeg)) 16) (nm (f_p3 (s4 / (f_p0 (1 : Int32).toNatClampNeg)).toNatClampNeg) (fun (x4 : Int32) => (if x2 = ((f_p0 (1 : Int32).toNatClampNeg) - 1) then (if x4 ≤ 0 then gd (inb x2 20) (some (f_p1 x2.toNatClampNeg)) else gd (inb x4 3) (some (f_p2 x4.toNatClampNeg))) else gd (inb x2 20) (some (f_p1 x2.toNatClampNeg)))))))
abbrev rm_L_change : Room := { frames := 1, cells := 0, slots := 0, locals := 24 }
set_option maxHeartbeats 4000000 in
set_option maxRecDepth 100000 in
theorem c_L_change (l : Launch) (D : va_G) (Y : ClassId × ClassId × ClassId × ClassId) (a_p0 a_p1 a_p2 a_p3 : Nat) (f_p0 : Nat → Int32) (f_p1 : Nat → Int32) (f_p2 : Nat → Int32) (f_p3 : Nat → Int32) (s4 : Int32) (R : Int32) (hf : f_L_change s4 f_p0 f_p1 f_p2 f_p3 = some R) : Met l yL_change (ws_ yL_change cL_change 7 (some .int)) rm_L_change (va_Pc [.ref a_p0, .ref a_p1, .ref a_p2, .ref a_p3, .int s4] (RO D Y [(a_p0, .inl (Y.1, 3, .inl f_p0)), (a_p1, .inl (Y.1, 20, .inl f_p1)), (a_p2, .inl (Y.1, 3, .inl f_p2)), (a_p3, .inl (Y.1, 16, .inl f_p3))])) (OI R) 0 0 (fun _ => False) := by
  refine ro_start (by decide) (Nat.le_of_ble_eq_true rfl) ?_
  intro p e s m below meth c ls hx hb hml hr hlocks hown hts hP hE hl
  generalize hargs : List.toArray _ = args at hts ⊢
  have hown : s.vm.findClass RL = some m.cls := hown
  have E : EN p m c cL_change 7 s args RL := ⟨hx, hb, hml, hown, hts⟩
  have hl : lv_has ls 7 [(0, .ref a_p0), (1, .ref a_p1), (2, .ref a_p2), (3, .ref a_p3), (4, .int s4)] := hl
  generalize hQ : MQ below _ args s 0 0 _ = Q
  unfold f_L_change at hf
  refine lv_iload hx hb dL_change_0 (lv_at hl 4 rfl) ?_
  refine lv_aload_n hx hb dL_change_2 rfl (lv_at hl 0 rfl) ?_
  refine lv_iconst (v := 1) hx hb dL_change_3 (by decide) ?_
  refine va_iald hx hb hE.1 hP 0 0 rfl rfl (inb_in (by decide)) dL_change_4 ?_
  obtain ⟨g1, hf⟩ := gd_s hf
  refine lv_irem hx hb dL_change_5 (nzb_ne g1) ?_
  refine nm_W hf (fun x2 hf => ?_)
  refine lv_istore (lv' := [(5, .int x2), (0, .ref a_p0), (1, .ref a_p1), (2, .ref a_p2), (3, .ref a_p3), (4, .int s4)]) hx hb dL_change_6 hl (by decide) rfl (fun ls hl => ?_)
  refine lv_aload_n hx hb dL_change_8 rfl (lv_at hl 4 rfl) ?_
  refine lv_iload hx hb dL_change_9 (lv_at hl 5 rfl) ?_
  refine lv_aload_n hx hb dL_change_11 rfl (lv_at hl 1 rfl) ?_
  refine lv_iconst (v := 1) hx hb dL_change_12 (by decide) ?_
  refine va_iald hx hb hE.1 hP 0 0 rfl rfl (inb_in (by decide)) dL_change_13 ?_
  refine lv_idiv hx hb dL_change_14 (nzb_ne g1) ?_
  obtain ⟨g3, hf⟩ := gd_s hf
  refine va_iald hx hb hE.1 hP 3 0 rfl rfl (inb_in g3) dL_change_15 ?_
  refine nm_W hf (fun x4 hf => ?_)
  refine lv_istore (lv' := [(6, .int x4), (5, .int x2), (0, .ref a_p0), (1, .ref a_p1), (2, .ref a_p2), (3, .ref a_p3), (4, .int s4)]) hx hb dL_change_16 hl (by decide) rfl (fun ls hl => ?_)
  refine lv_iload hx hb dL_change_18 (lv_at hl 1 rfl) ?_
  refine lv_aload_n hx hb dL_change_20 rfl (lv_at hl 2 rfl) ?_
  refine lv_iconst (v := 1) hx hb dL_change_21 (by decide) ?_
  refine va_iald hx hb hE.1 hP 0 0 rfl rfl (inb_in (by decide)) dL_change_22 ?_
  refine lv_iconst (v := 1) hx hb dL_change_23 (by decide) ?_
  refine lv_isub hx hb dL_change_24 ?_
  refine lv_icmp_ne (tgt := 40) hx hb dL_change_25 (by decide) (fun c5 => ?_) (fun c5 => ?_)
  · have hf := ite_f c5 hf
    refine lv_aload_n hx hb dL_change_40 rfl (lv_at hl 3 rfl) ?_
    refine lv_iload hx hb dL_change_41 (lv_at hl 1 rfl) ?_
    obtain ⟨g6, hf⟩ := gd_s hf
    refine va_iald hx hb hE.1 hP 1 0 rfl rfl (inb_in g6) dL_change_43 ?_
    obtain rfl := Option.some.inj hf
    subst hQ
    exact en_oi hx hb hr hlocks rfl dL_change_44
  have hf := ite_t c5 hf
  refine lv_iload hx hb dL_change_28 (lv_at hl 0 rfl) ?_
  refine lv_if_le (tgt := 40) hx hb dL_change_30 (by decide) (fun c7 => ?_) (fun c7 => ?_)
  · have hf := ite_t c7 hf
    refine lv_aload_n hx hb dL_change_40 rfl (lv_at hl 3 rfl) ?_
    refine lv_iload hx hb dL_change_41 (lv_at hl 1 rfl) ?_
    obtain ⟨g8, hf⟩ := gd_s hf
    refine va_iald hx hb hE.1 hP 1 0 rfl rfl (inb_in g8) dL_change_43 ?_
    obtain rfl := Option.some.inj hf
    subst hQ
    exact en_oi hx hb hr hlocks rfl dL_change_44
  have hf := ite_f c7 hf
  refine lv_aload_n hx hb dL_change_33 rfl (lv_at hl 4 rfl) ?_
  refine lv_iload hx hb dL_change_34 (lv_at hl 0 rfl) ?_
  obtain ⟨g9, hf⟩ := gd_s hf
  refine va_iald hx hb hE.1 hP 2 0 rfl rfl (inb_in g9) dL_change_36 ?_
  refine lv_goto (tgt := 44) hx hb dL_change_37 (by decide) ?_
  obtain rfl := Option.some.inj hf
  subst hQ
  exact en_oi hx hb hr hlocks rfl dL_change_44

def f_L_code_L5 (k : Int64 → Int32 → Option (Int64)) (s0 : Int32) (f_p1 : Nat → Int32) : Nat → Int64 → Int32 → Option (Int64)
  | 0, _, _ => none
  | n + 1, s2, s4 => (if s0 ≤ s4 then (k s2 s4) else gd (inb s4 7) (nm (((8 : Int64) * s2) + ((f_p1 s4.toNatClampNeg).toInt64)) (fun (x4 : Int64) => (f_L_code_L5 k s0 f_p1 n x4 (s4 + 1)))))
def f_L_code (s0 : Int32) (f_p1 : Nat → Int32) : Option (Int64) :=
  nm (0 : Int64) (fun (x1 : Int64) => (f_L_code_L5 (fun (y5 : Int64) (y6 : Int32) => some y5) s0 f_p1 fu x1 0))
abbrev rm_L_code : Room := { frames := 1, cells := 0, slots := 0, locals := 24 }
set_option maxHeartbeats 4000000 in
set_option maxRecDepth 100000 in
theorem c_L_code (l : Launch) (D : va_G) (Y : ClassId × ClassId × ClassId × ClassId) (a_p1 : Nat) (f_p1 : Nat → Int32) (s0 : Int32) (R : Int64) (hf : f_L_code s0 f_p1 = some R) : Met l yL_code (ws_ yL_code cL_code 5 (some .long)) rm_L_code (va_Pc [.int s0, .ref a_p1] (RO D Y [(a_p1, .inl (Y.1, 7, .inl f_p1))])) (OL R) 0 0 (fun _ => False) := by
  refine ro_start (by decide) (Nat.le_of_ble_eq_true rfl) ?_
  intro p e s m below meth c ls hx hb hml hr hlocks hown hts hP hE hl
  generalize hargs : List.toArray _ = args at hts ⊢
  have hown : s.vm.findClass RL = some m.cls := hown
  have E : EN p m c cL_code 5 s args RL := ⟨hx, hb, hml, hown, hts⟩
  have hl : lv_has ls 5 [(0, .int s0), (1, .ref a_p1)] := hl
  generalize hQ : MQ below _ args s 0 0 _ = Q
  unfold f_L_code at hf
  have L5 : ∀ (n : Nat) (k : Int64 → Int32 → Option (Int64)) (s0 : Int32) (s2 : Int64) (s4 : Int32) (ls : Array Slot), f_L_code_L5 k s0 f_p1 n s2 s4 = some R → lv_has ls 5 [(0, .int s0), (1, .ref a_p1), (2, .long s2), (4, .int s4)] → (∀ (y_s2 : Int64) (y_s4 : Int32) (ls : Array Slot), k y_s2 y_s4 = some R → lv_has ls 5 [(2, .long y_s2)] → W p l e rm_L_code s m args below meth c s.heap [] 0 0 Q (F0 m 29 ls [])) → W p l e rm_L_code s m args below meth c s.heap [] 0 0 Q (F0 m 5 ls []) := by
    intro n
    induction n with
    | zero =>
      intro k s0 s2 s4 ls hf
      cases hf
    | succ n ih =>
      intro k s0 s2 s4 ls hf hl hk
      unfold f_L_code_L5 at hf
      refine lv_iload hx hb dL_code_5 (lv_at hl 3 rfl) ?_
      refine lv_iload_n hx hb dL_code_7 rfl (lv_at hl 0 rfl) ?_
      refine lv_icmp_ge (tgt := 29) hx hb dL_code_8 (by decide) (fun c2 => ?_) (fun c2 => ?_)
      · have hf := ite_t c2 hf
        exact hk _ _ _ hf (lv_sub hl [2] rfl)
      have hf := ite_f c2 hf
      refine lv_ldc2 hx hb hown (hts _ qw366) dL_code_11 ?_
      refine lv_lload_n hx hb dL_code_14 rfl (lv_at hl 2 rfl) ?_
      refine lv_lmul hx hb dL_code_15 ?_
      refine lv_aload_n hx hb dL_code_16 rfl (lv_at hl 1 rfl) ?_
      refine lv_iload hx hb dL_code_17 (lv_at hl 3 rfl) ?_
      obtain ⟨g3, hf⟩ := gd_s hf
      refine va_iald hx hb hE.1 hP 0 0 rfl rfl (inb_in g3) dL_code_19 ?_
      refine lv_i2l hx hb dL_code_20 rfl ?_
      refine lv_ladd hx hb dL_code_21 ?_
      refine nm_Wl hf (fun x4 hf => ?_)
      refine lv_lstore_n (lv' := [(2, .long x4), (0, .int s0), (1, .ref a_p1), (4, .int s4)]) hx hb dL_code_22 rfl hl (by decide) rfl (fun ls hl => ?_)
      refine lv_iinc (v := (s4 + 1)) (lv' := [(4, .int (s4 + 1)), (2, .long x4), (0, .int s0), (1, .ref a_p1)]) hx hb dL_code_23 hl (k := 3) rfl rfl (by decide) rfl (fun ls hl => ?_)
      refine lv_goto (tgt := 5) hx hb dL_code_26 (by decide) ?_
      exact ih _ _ _ _ _ hf (lv_sub hl [2, 3, 1, 0] rfl) hk
  refine lv_lconst (v := 0) hx hb dL_code_0 (by decide) ?_
  refine nm_Wl hf (fun x1 hf => ?_)
  refine lv_lstore_n (lv' := [(2, .long x1), (0, .int s0), (1, .ref a_p1)]) hx hb dL_code_1 rfl hl (by decide) rfl (fun ls hl => ?_)
  refine lv_iconst (v := 0) hx hb dL_code_2 (by decide) ?_
  refine lv_istore (lv' := [(4, .int 0), (2, .long x1), (0, .int s0), (1, .ref a_p1)]) hx hb dL_code_3 hl (by decide) rfl (fun ls hl => ?_)
  refine L5 _ _ _ _ _ _ hf (lv_sub hl [2, 3, 1, 0] rfl) ?_
  intro y5 y6 ls hf hl
  refine lv_lload_n hx hb dL_code_29 rfl (lv_at hl 0 rfl) ?_
  obtain rfl := Option.some.inj hf
  subst hQ
  exact en_ol hx hb hr hlocks rfl dL_code_30
