def f_X6_put (s0 : Int32) (s1 : Int32) (s2 : Int32) : Int32 :=
  (s0 ||| (s2 <<< (((3 : Int32) * (s1 - 1)) &&& 31)))
abbrev rm_X6_put : Room := { frames := 1, cells := 0, slots := 0, locals := 24 }
set_option maxHeartbeats 4000000 in
set_option maxRecDepth 100000 in
theorem c_X6_put (l : Launch) (D : va_G) (Y : ClassId × ClassId × ClassId × ClassId) (s0 : Int32) (s1 : Int32) (s2 : Int32) (R : Int32) (hf : f_X6_put s0 s1 s2 = R) : Met l yX6_put (ws_ yX6_put cX6_put 3 (some .int)) rm_X6_put (va_Pc [.int s0, .int s1, .int s2] (RO D Y [])) (OI R) 0 0 (fun _ => False) := by
  refine ro_start (by decide) (Nat.le_of_ble_eq_true rfl) ?_
  intro p e s m below meth c ls hx hb hml hr hlocks hown hts hP hE hl
  generalize hargs : List.toArray _ = args at hts ⊢
  have hown : s.vm.findClass RX6 = some m.cls := hown
  have E : EN p m c cX6_put 3 s args RX6 := ⟨hx, hb, hml, hown, hts⟩
  have hl : lv_has ls 3 [(0, .int s0), (1, .int s1), (2, .int s2)] := hl
  generalize hQ : MQ below _ args s 0 0 _ = Q
  unfold f_X6_put at hf
  refine lv_iload_n hx hb dX6_put_0 rfl (lv_at hl 0 rfl) ?_
  refine lv_iload_n hx hb dX6_put_1 rfl (lv_at hl 2 rfl) ?_
  refine lv_iconst (v := 3) hx hb dX6_put_2 (by decide) ?_
  refine lv_iload_n hx hb dX6_put_3 rfl (lv_at hl 1 rfl) ?_
  refine lv_iconst (v := 1) hx hb dX6_put_4 (by decide) ?_
  refine lv_isub hx hb dX6_put_5 ?_
  refine lv_imul hx hb dX6_put_6 ?_
  refine lv_ishl hx hb dX6_put_7 ?_
  refine lv_ior hx hb dX6_put_8 ?_
  subst hf
  subst hQ
  exact en_oi hx hb hr hlocks rfl dX6_put_9

def f_X6_rounds_L4 (s0 : Int32) : Nat → Int32 → Int32 → Option (Int32)
  | 0, _, _ => none
  | n + 1, s1, s2 => (if s0 < s2 then some s1 else nm (f_X6_put s1 s2 s2) (fun (x2 : Int32) => (f_X6_rounds_L4 s0 n x2 (s2 + 1))))
def f_X6_rounds (s0 : Int32) : Option (Int32) :=
  (f_X6_rounds_L4 s0 fu 0 1)
abbrev rm_X6_rounds : Room := { frames := 2, cells := 0, slots := 0, locals := 46 }
set_option maxHeartbeats 4000000 in
set_option maxRecDepth 100000 in
theorem c_X6_rounds (l : Launch) (D : va_G) (Y : ClassId × ClassId × ClassId × ClassId) (s0 : Int32) (R : Int32) (hf : f_X6_rounds s0 = some R) : Met l yX6_rounds (ws_ yX6_rounds cX6_rounds 3 (some .int)) rm_X6_rounds (va_Pc [.int s0] (RO D Y [])) (OI R) 0 0 (fun _ => False) := by
  refine ro_start (by decide) (Nat.le_of_ble_eq_true rfl) ?_
  intro p e s m below meth c ls hx hb hml hr hlocks hown hts hP hE hl
  generalize hargs : List.toArray _ = args at hts ⊢
  have hown : s.vm.findClass RX6 = some m.cls := hown
  have E : EN p m c cX6_rounds 3 s args RX6 := ⟨hx, hb, hml, hown, hts⟩
  have hl : lv_has ls 3 [(0, .int s0)] := hl
  generalize hQ : MQ below _ args s 0 0 _ = Q
  unfold f_X6_rounds at hf
  have L4 : ∀ (n : Nat) (s0 : Int32) (s1 : Int32) (s2 : Int32) (ls : Array Slot), f_X6_rounds_L4 s0 n s1 s2 = some R → lv_has ls 3 [(0, .int s0), (1, .int s1), (2, .int s2)] → W p l e rm_X6_rounds s m args below meth c s.heap [] 0 0 Q (F0 m 4 ls []) := by
    intro n
    induction n with
    | zero =>
      intro s0 s1 s2 ls hf
      cases hf
    | succ n ih =>
      intro s0 s1 s2 ls hf hl
      unfold f_X6_rounds_L4 at hf
      refine lv_iload_n hx hb dX6_rounds_4 rfl (lv_at hl 2 rfl) ?_
      refine lv_iload_n hx hb dX6_rounds_5 rfl (lv_at hl 0 rfl) ?_
      refine lv_icmp_gt (tgt := 22) hx hb dX6_rounds_6 (by decide) (fun c1 => ?_) (fun c1 => ?_)
      · have hf := ite_t c1 hf
        refine lv_iload_n hx hb dX6_rounds_22 rfl (lv_at hl 1 rfl) ?_
        obtain rfl := Option.some.inj hf
        subst hQ
        exact en_oi hx hb hr hlocks rfl dX6_rounds_23
      have hf := ite_f c1 hf
      refine lv_iload_n hx hb dX6_rounds_9 rfl (lv_at hl 1 rfl) ?_
      refine lv_iload_n hx hb dX6_rounds_10 rfl (lv_at hl 2 rfl) ?_
      refine lv_iload_n hx hb dX6_rounds_11 rfl (lv_at hl 2 rfl) ?_
      refine af_oi (run_S (As := [.int s1, .int s2, .int s2]) (rest := []) E (c_X6_put l D Y s1 s2 s2 (f_X6_put s1 s2 s2) rfl) qw398 qw399 qw34 qw400 rfl rfl hd_X6_put ⟨Nat.le_of_ble_eq_true rfl, Nat.le_of_ble_eq_true rfl⟩ (pre_roS hP hE [] rfl) rfl hl.1 rfl (Nat.le_of_ble_eq_true rfl) dX6_rounds_12 ⟨Nat.zero_le _, Nat.zero_le _⟩) ?_
      refine nm_W hf (fun x2 hf => ?_)
      refine lv_istore_n (lv' := [(1, .int x2), (0, .int s0), (2, .int s2)]) hx hb dX6_rounds_15 rfl hl (by decide) rfl (fun ls hl => ?_)
      refine lv_iinc (v := (s2 + 1)) (lv' := [(2, .int (s2 + 1)), (1, .int x2), (0, .int s0)]) hx hb dX6_rounds_16 hl (k := 2) rfl rfl (by decide) rfl (fun ls hl => ?_)
      refine lv_goto (tgt := 4) hx hb dX6_rounds_19 (by decide) ?_
      exact ih _ _ _ _ hf (lv_sub hl [2, 1, 0] rfl)
  refine lv_iconst (v := 0) hx hb dX6_rounds_0 (by decide) ?_
  refine lv_istore_n (lv' := [(1, .int 0), (0, .int s0)]) hx hb dX6_rounds_1 rfl hl (by decide) rfl (fun ls hl => ?_)
  refine lv_iconst (v := 1) hx hb dX6_rounds_2 (by decide) ?_
  refine lv_istore_n (lv' := [(2, .int 1), (1, .int 0), (0, .int s0)]) hx hb dX6_rounds_3 rfl hl (by decide) rfl (fun ls hl => ?_)
  exact L4 _ _ _ _ _ hf (lv_sub hl [2, 1, 0] rfl)

def f_X6_bellAt (s0 : Int32) (s1 : Int32) : Int32 :=
  ((s0 >>> (((3 : Int32) * (s1 - 1)) &&& 31)) &&& 7)
abbrev rm_X6_bellAt : Room := { frames := 1, cells := 0, slots := 0, locals := 24 }
set_option maxHeartbeats 4000000 in
set_option maxRecDepth 100000 in
theorem c_X6_bellAt (l : Launch) (D : va_G) (Y : ClassId × ClassId × ClassId × ClassId) (s0 : Int32) (s1 : Int32) (R : Int32) (hf : f_X6_bellAt s0 s1 = R) : Met l yX6_bellAt (ws_ yX6_bellAt cX6_bellAt 2 (some .int)) rm_X6_bellAt (va_Pc [.int s0, .int s1] (RO D Y [])) (OI R) 0 0 (fun _ => False) := by
  refine ro_start (by decide) (Nat.le_of_ble_eq_true rfl) ?_
  intro p e s m below meth c ls hx hb hml hr hlocks hown hts hP hE hl
  generalize hargs : List.toArray _ = args at hts ⊢
  have hown : s.vm.findClass RX6 = some m.cls := hown
  have E : EN p m c cX6_bellAt 2 s args RX6 := ⟨hx, hb, hml, hown, hts⟩
  have hl : lv_has ls 2 [(0, .int s0), (1, .int s1)] := hl
  generalize hQ : MQ below _ args s 0 0 _ = Q
  unfold f_X6_bellAt at hf
  refine lv_iload_n hx hb dX6_bellAt_0 rfl (lv_at hl 0 rfl) ?_
  refine lv_iconst (v := 3) hx hb dX6_bellAt_1 (by decide) ?_
  refine lv_iload_n hx hb dX6_bellAt_2 rfl (lv_at hl 1 rfl) ?_
  refine lv_iconst (v := 1) hx hb dX6_bellAt_3 (by decide) ?_
  refine lv_isub hx hb dX6_bellAt_4 ?_
  refine lv_imul hx hb dX6_bellAt_5 ?_
  refine lv_ishr hx hb dX6_bellAt_6 ?_
  refine lv_bipush (v := 7) hx hb dX6_bellAt_7 (by decide) ?_
  refine lv_iand hx hb dX6_bellAt_9 ?_
  subst hf
  subst hQ
  exact en_oi hx hb hr hlocks rfl dX6_bellAt_10

def f_X6_behindChange_L5 (s0 : Int32) (s1 : Int32) (s2 : Int32) : Nat → Int32 → Int32 → Option (Int32)
  | 0, _, _ => none
  | n + 1, s3, s4 => (if s2 < s4 then some s3 else nm (if s4 = s2 then ((f_X6_put s3 s4 (f_X6_bellAt s0 s4)), (s4 + 1)) else (if (f_X4_has s1 s4) = 0 then ((f_X6_put (f_X6_put s3 s4 (f_X6_bellAt s0 (s4 + 1))) (s4 + 1) (f_X6_bellAt s0 s4)), (s4 + 2)) else ((f_X6_put s3 s4 (f_X6_bellAt s0 s4)), (s4 + 1)))) (fun (w3 : Int32 × Int32) => (f_X6_behindChange_L5 s0 s1 s2 n w3.1 w3.2)))
def f_X6_behindChange (s0 : Int32) (s1 : Int32) (s2 : Int32) : Option (Int32) :=
  (f_X6_behindChange_L5 s0 s1 s2 fu 0 1)
abbrev rm_X6_behindChange : Room := { frames := 3, cells := 0, slots := 0, locals := 65 }
set_option maxHeartbeats 4000000 in
set_option maxRecDepth 100000 in
theorem c_X6_behindChange (l : Launch) (D : va_G) (Y : ClassId × ClassId × ClassId × ClassId) (s0 : Int32) (s1 : Int32) (s2 : Int32) (R : Int32) (hf : f_X6_behindChange s0 s1 s2 = some R) : Met l yX6_behindChange (ws_ yX6_behindChange cX6_behindChange 5 (some .int)) rm_X6_behindChange (va_Pc [.int s0, .int s1, .int s2] (RO D Y [])) (OI R) 0 0 (fun _ => False) := by
  refine ro_start (by decide) (Nat.le_of_ble_eq_true rfl) ?_
  intro p e s m below meth c ls hx hb hml hr hlocks hown hts hP hE hl
  generalize hargs : List.toArray _ = args at hts ⊢
  have hown : s.vm.findClass RX6 = some m.cls := hown
  have E : EN p m c cX6_behindChange 5 s args RX6 := ⟨hx, hb, hml, hown, hts⟩
  have hl : lv_has ls 5 [(0, .int s0), (1, .int s1), (2, .int s2)] := hl
  generalize hQ : MQ below _ args s 0 0 _ = Q
  unfold f_X6_behindChange at hf
  have L5 : ∀ (n : Nat) (s0 : Int32) (s1 : Int32) (s2 : Int32) (s3 : Int32) (s4 : Int32) (ls : Array Slot), f_X6_behindChange_L5 s0 s1 s2 n s3 s4 = some R → lv_has ls 5 [(0, .int s0), (1, .int s1), (2, .int s2), (3, .int s3), (4, .int s4)] → W p l e rm_X6_behindChange s m args below meth c s.heap [] 0 0 Q (F0 m 5 ls []) := by
    intro n
    induction n with
    | zero =>
      intro s0 s1 s2 s3 s4 ls hf
      cases hf
    | succ n ih =>
      intro s0 s1 s2 s3 s4 ls hf hl
      unfold f_X6_behindChange_L5 at hf
      refine lv_iload hx hb dX6_behindChange_5 (lv_at hl 4 rfl) ?_
      refine lv_iload_n hx hb dX6_behindChange_7 rfl (lv_at hl 2 rfl) ?_
      refine lv_icmp_gt (tgt := 81) hx hb dX6_behindChange_8 (by decide) (fun c1 => ?_) (fun c1 => ?_)
      · have hf := ite_t c1 hf
        refine lv_iload_n hx hb dX6_behindChange_81 rfl (lv_at hl 3 rfl) ?_
        obtain rfl := Option.some.inj hf
        subst hQ
        exact en_oi hx hb hr hlocks rfl dX6_behindChange_82
      have hf := ite_f c1 hf
      refine lv_iload hx hb dX6_behindChange_11 (lv_at hl 4 rfl) ?_
      refine lv_iload_n hx hb dX6_behindChange_13 rfl (lv_at hl 2 rfl) ?_
      refine mg (P := fun (w3 : Int32 × Int32) => ∀ (ls : Array Slot), lv_has ls 5 [(0, .int s0), (1, .int s1), (2, .int s2), (3, .int w3.1), (4, .int w3.2)] → W p l e rm_X6_behindChange s m args below meth c s.heap [] 0 0 Q (F0 m 5 ls [])) hf (fun w3 hf ls hl => ?_) (fun hJ => ?_)
      · exact ih _ _ _ _ _ _ hf (lv_sub hl [0, 1, 2, 3, 4] rfl)
      refine lv_icmp_eq (tgt := 26) hx hb dX6_behindChange_14 (by decide) (fun c4 => ?_) (fun c4 => ?_)
      · have hf := nmi_t c4 hf
        refine lv_iload_n hx hb dX6_behindChange_26 rfl (lv_at hl 3 rfl) ?_
        refine lv_iload hx hb dX6_behindChange_27 (lv_at hl 4 rfl) ?_
        refine lv_iload_n hx hb dX6_behindChange_29 rfl (lv_at hl 0 rfl) ?_
        refine lv_iload hx hb dX6_behindChange_30 (lv_at hl 4 rfl) ?_
        refine af_oi (run_S (As := [.int s0, .int s4]) (rest := [.int s4, .int s3]) E (c_X6_bellAt l D Y s0 s4 (f_X6_bellAt s0 s4) rfl) qw416 qw417 qw34 qw418 rfl rfl hd_X6_bellAt ⟨Nat.le_of_ble_eq_true rfl, Nat.le_of_ble_eq_true rfl⟩ (pre_roS hP hE [] rfl) rfl hl.1 rfl (Nat.le_of_ble_eq_true rfl) dX6_behindChange_32 ⟨Nat.zero_le _, Nat.zero_le _⟩) ?_
        refine af_oi (run_S (As := [.int s3, .int s4, .int (f_X6_bellAt s0 s4)]) (rest := []) E (c_X6_put l D Y s3 s4 (f_X6_bellAt s0 s4) (f_X6_put s3 s4 (f_X6_bellAt s0 s4)) rfl) qw398 qw399 qw34 qw400 rfl rfl hd_X6_put ⟨Nat.le_of_ble_eq_true rfl, Nat.le_of_ble_eq_true rfl⟩ (pre_roS hP hE [] rfl) rfl hl.1 rfl (Nat.le_of_ble_eq_true rfl) dX6_behindChange_35 ⟨Nat.zero_le _, Nat.zero_le _⟩) ?_
        refine lv_istore_n (lv' := [(3, .int (f_X6_put s3 s4 (f_X6_bellAt s0 s4))), (0, .int s0), (1, .int s1), (2, .int s2), (4, .int s4)]) hx hb dX6_behindChange_38 rfl hl (by decide) rfl (fun ls hl => ?_)
        refine lv_iinc (v := (s4 + 1)) (lv' := [(4, .int (s4 + 1)), (3, .int (f_X6_put s3 s4 (f_X6_bellAt s0 s4))), (0, .int s0), (1, .int s1), (2, .int s2)]) hx hb dX6_behindChange_39 hl (k := 4) rfl rfl (by decide) rfl (fun ls hl => ?_)
        refine lv_goto (tgt := 5) hx hb dX6_behindChange_42 (by decide) ?_
        exact hJ _ (nm_b hf) _ (lv_sub hl [2, 3, 4, 1, 0] rfl)
      have hf := nmi_f c4 hf
      refine lv_iload_n hx hb dX6_behindChange_17 rfl (lv_at hl 1 rfl) ?_
      refine lv_iload hx hb dX6_behindChange_18 (lv_at hl 4 rfl) ?_
      refine af_oz (run_S (As := [.int s1, .int s4]) (rest := []) E (c_X4_has l D Y s1 s4 (f_X4_has s1 s4) rfl) qw412 qw413 qw32 qw414 rfl rfl hd_X4_has ⟨Nat.le_of_ble_eq_true rfl, Nat.le_of_ble_eq_true rfl⟩ (pre_roS hP hE [] rfl) rfl hl.1 rfl (Nat.le_of_ble_eq_true rfl) dX6_behindChange_20 ⟨Nat.zero_le _, Nat.zero_le _⟩) (fun z5 => ?_)
      refine lv_if_eq (tgt := 45) hx hb dX6_behindChange_23 (by decide) (fun c6 => ?_) (fun c6 => ?_)
      · have hf := nmi_t c6 hf
        refine lv_iload_n hx hb dX6_behindChange_45 rfl (lv_at hl 3 rfl) ?_
        refine lv_iload hx hb dX6_behindChange_46 (lv_at hl 4 rfl) ?_
        refine lv_iload_n hx hb dX6_behindChange_48 rfl (lv_at hl 0 rfl) ?_
        refine lv_iload hx hb dX6_behindChange_49 (lv_at hl 4 rfl) ?_
        refine lv_iconst (v := 1) hx hb dX6_behindChange_51 (by decide) ?_
        refine lv_iadd hx hb dX6_behindChange_52 ?_
        refine af_oi (run_S (As := [.int s0, .int (s4 + 1)]) (rest := [.int s4, .int s3]) E (c_X6_bellAt l D Y s0 (s4 + 1) (f_X6_bellAt s0 (s4 + 1)) rfl) qw416 qw417 qw34 qw418 rfl rfl hd_X6_bellAt ⟨Nat.le_of_ble_eq_true rfl, Nat.le_of_ble_eq_true rfl⟩ (pre_roS hP hE [] rfl) rfl hl.1 rfl (Nat.le_of_ble_eq_true rfl) dX6_behindChange_53 ⟨Nat.zero_le _, Nat.zero_le _⟩) ?_
        refine af_oi (run_S (As := [.int s3, .int s4, .int (f_X6_bellAt s0 (s4 + 1))]) (rest := []) E (c_X6_put l D Y s3 s4 (f_X6_bellAt s0 (s4 + 1)) (f_X6_put s3 s4 (f_X6_bellAt s0 (s4 + 1))) rfl) qw398 qw399 qw34 qw400 rfl rfl hd_X6_put ⟨Nat.le_of_ble_eq_true rfl, Nat.le_of_ble_eq_true rfl⟩ (pre_roS hP hE [] rfl) rfl hl.1 rfl (Nat.le_of_ble_eq_true rfl) dX6_behindChange_56 ⟨Nat.zero_le _, Nat.zero_le _⟩) ?_
        refine lv_istore_n (lv' := [(3, .int (f_X6_put s3 s4 (f_X6_bellAt s0 (s4 + 1)))), (0, .int s0), (1, .int s1), (2, .int s2), (4, .int s4)]) hx hb dX6_behindChange_59 rfl hl (by decide) rfl (fun ls hl => ?_)
        refine lv_iload_n hx hb dX6_behindChange_60 rfl (lv_at hl 0 rfl) ?_
        refine lv_iload hx hb dX6_behindChange_61 (lv_at hl 4 rfl) ?_
        refine lv_iconst (v := 1) hx hb dX6_behindChange_63 (by decide) ?_
        refine lv_iadd hx hb dX6_behindChange_64 ?_
        refine lv_iload_n hx hb dX6_behindChange_65 rfl (lv_at hl 1 rfl) ?_
        refine lv_iload hx hb dX6_behindChange_66 (lv_at hl 4 rfl) ?_
        refine af_oi (run_S (As := [.int s0, .int s4]) (rest := [.int (s4 + 1), .int (f_X6_put s3 s4 (f_X6_bellAt s0 (s4 + 1)))]) E (c_X6_bellAt l D Y s0 s4 (f_X6_bellAt s0 s4) rfl) qw416 qw417 qw34 qw418 rfl rfl hd_X6_bellAt ⟨Nat.le_of_ble_eq_true rfl, Nat.le_of_ble_eq_true rfl⟩ (pre_roS hP hE [] rfl) rfl hl.1 rfl (Nat.le_of_ble_eq_true rfl) dX6_behindChange_68 ⟨Nat.zero_le _, Nat.zero_le _⟩) ?_
        refine af_oi (run_S (As := [.int (f_X6_put s3 s4 (f_X6_bellAt s0 (s4 + 1))), .int (s4 + 1), .int (f_X6_bellAt s0 s4)]) (rest := []) E (c_X6_put l D Y (f_X6_put s3 s4 (f_X6_bellAt s0 (s4 + 1))) (s4 + 1) (f_X6_bellAt s0 s4) (f_X6_put (f_X6_put s3 s4 (f_X6_bellAt s0 (s4 + 1))) (s4 + 1) (f_X6_bellAt s0 s4)) rfl) qw398 qw399 qw34 qw400 rfl rfl hd_X6_put ⟨Nat.le_of_ble_eq_true rfl, Nat.le_of_ble_eq_true rfl⟩ (pre_roS hP hE [] rfl) rfl hl.1 rfl (Nat.le_of_ble_eq_true rfl) dX6_behindChange_71 ⟨Nat.zero_le _, Nat.zero_le _⟩) ?_
        refine lv_istore_n (lv' := [(3, .int (f_X6_put (f_X6_put s3 s4 (f_X6_bellAt s0 (s4 + 1))) (s4 + 1) (f_X6_bellAt s0 s4))), (0, .int s0), (1, .int s1), (2, .int s2), (4, .int s4)]) hx hb dX6_behindChange_74 rfl hl (by decide) rfl (fun ls hl => ?_)
        refine lv_iinc (v := (s4 + 2)) (lv' := [(4, .int (s4 + 2)), (3, .int (f_X6_put (f_X6_put s3 s4 (f_X6_bellAt s0 (s4 + 1))) (s4 + 1) (f_X6_bellAt s0 s4))), (0, .int s0), (1, .int s1), (2, .int s2)]) hx hb dX6_behindChange_75 hl (k := 4) rfl rfl (by decide) rfl (fun ls hl => ?_)
        refine lv_goto (tgt := 5) hx hb dX6_behindChange_78 (by decide) ?_
        exact hJ _ (nm_b hf) _ (lv_sub hl [2, 3, 4, 1, 0] rfl)
      have hf := nmi_f c6 hf
      refine lv_iload_n hx hb dX6_behindChange_26 rfl (lv_at hl 3 rfl) ?_
      refine lv_iload hx hb dX6_behindChange_27 (lv_at hl 4 rfl) ?_
      refine lv_iload_n hx hb dX6_behindChange_29 rfl (lv_at hl 0 rfl) ?_
      refine lv_iload hx hb dX6_behindChange_30 (lv_at hl 4 rfl) ?_
      refine af_oi (run_S (As := [.int s0, .int s4]) (rest := [.int s4, .int s3]) E (c_X6_bellAt l D Y s0 s4 (f_X6_bellAt s0 s4) rfl) qw416 qw417 qw34 qw418 rfl rfl hd_X6_bellAt ⟨Nat.le_of_ble_eq_true rfl, Nat.le_of_ble_eq_true rfl⟩ (pre_roS hP hE [] rfl) rfl hl.1 rfl (Nat.le_of_ble_eq_true rfl) dX6_behindChange_32 ⟨Nat.zero_le _, Nat.zero_le _⟩) ?_
      refine af_oi (run_S (As := [.int s3, .int s4, .int (f_X6_bellAt s0 s4)]) (rest := []) E (c_X6_put l D Y s3 s4 (f_X6_bellAt s0 s4) (f_X6_put s3 s4 (f_X6_bellAt s0 s4)) rfl) qw398 qw399 qw34 qw400 rfl rfl hd_X6_put ⟨Nat.le_of_ble_eq_true rfl, Nat.le_of_ble_eq_true rfl⟩ (pre_roS hP hE [] rfl) rfl hl.1 rfl (Nat.le_of_ble_eq_true rfl) dX6_behindChange_35 ⟨Nat.zero_le _, Nat.zero_le _⟩) ?_
      refine lv_istore_n (lv' := [(3, .int (f_X6_put s3 s4 (f_X6_bellAt s0 s4))), (0, .int s0), (1, .int s1), (2, .int s2), (4, .int s4)]) hx hb dX6_behindChange_38 rfl hl (by decide) rfl (fun ls hl => ?_)
      refine lv_iinc (v := (s4 + 1)) (lv' := [(4, .int (s4 + 1)), (3, .int (f_X6_put s3 s4 (f_X6_bellAt s0 s4))), (0, .int s0), (1, .int s1), (2, .int s2)]) hx hb dX6_behindChange_39 hl (k := 4) rfl rfl (by decide) rfl (fun ls hl => ?_)
      refine lv_goto (tgt := 5) hx hb dX6_behindChange_42 (by decide) ?_
      exact hJ _ (nm_b hf) _ (lv_sub hl [2, 3, 4, 1, 0] rfl)
  refine lv_iconst (v := 0) hx hb dX6_behindChange_0 (by decide) ?_
  refine lv_istore_n (lv' := [(3, .int 0), (0, .int s0), (1, .int s1), (2, .int s2)]) hx hb dX6_behindChange_1 rfl hl (by decide) rfl (fun ls hl => ?_)
  refine lv_iconst (v := 1) hx hb dX6_behindChange_2 (by decide) ?_
  refine lv_istore (lv' := [(4, .int 1), (3, .int 0), (0, .int s0), (1, .int s1), (2, .int s2)]) hx hb dX6_behindChange_3 hl (by decide) rfl (fun ls hl => ?_)
  exact L5 _ _ _ _ _ _ _ hf (lv_sub hl [2, 3, 4, 1, 0] rfl)

def f_J6_bitCount_0f7a4 (s0 : Int32) : Int32 :=
  nm (s0 - (((s0.toUInt32 >>> ((1 : Int32).toUInt32 &&& Int32.toUInt32 31)).toInt32) &&& 1431655765)) (fun (x1 : Int32) => nm ((x1 &&& 858993459) + (((x1.toUInt32 >>> ((2 : Int32).toUInt32 &&& Int32.toUInt32 31)).toInt32) &&& 858993459)) (fun (x2 : Int32) => nm ((x2 + ((x2.toUInt32 >>> ((4 : Int32).toUInt32 &&& Int32.toUInt32 31)).toInt32)) &&& 252645135) (fun (x3 : Int32) => nm (x3 + ((x3.toUInt32 >>> ((8 : Int32).toUInt32 &&& Int32.toUInt32 31)).toInt32)) (fun (x4 : Int32) => nm (x4 + ((x4.toUInt32 >>> ((16 : Int32).toUInt32 &&& Int32.toUInt32 31)).toInt32)) (fun (x5 : Int32) => (x5 &&& 63))))))
abbrev rm_J6_bitCount_0f7a4 : Room := { frames := 1, cells := 0, slots := 0, locals := 24 }
set_option maxHeartbeats 4000000 in
set_option maxRecDepth 100000 in
theorem c_J6_bitCount_0f7a4 (l : Launch) (D : va_G) (Y : ClassId × ClassId × ClassId × ClassId) (s0 : Int32) (R : Int32) (hf : f_J6_bitCount_0f7a4 s0 = R) : Met l yJ6_bitCount_0f7a4 (ws_ yJ6_bitCount_0f7a4 cJ6_bitCount_0f7a4 1 (some .int)) rm_J6_bitCount_0f7a4 (va_Pc [.int s0] (RO D Y [])) (OI R) 0 0 (fun _ => False) := by
  refine ro_start (by decide) (Nat.le_of_ble_eq_true rfl) ?_
  intro p e s m below meth c ls hx hb hml hr hlocks hown hts hP hE hl
  generalize hargs : List.toArray _ = args at hts ⊢
  have hown : s.vm.findClass RJ6 = some m.cls := hown
  have E : EN p m c cJ6_bitCount_0f7a4 1 s args RJ6 := ⟨hx, hb, hml, hown, hts⟩
  have hl : lv_has ls 1 [(0, .int s0)] := hl
  generalize hQ : MQ below _ args s 0 0 _ = Q
  unfold f_J6_bitCount_0f7a4 at hf
  refine lv_iload_n hx hb dJ6_bitCount_0f7a4_0 rfl (lv_at hl 0 rfl) ?_
  refine lv_iload_n hx hb dJ6_bitCount_0f7a4_1 rfl (lv_at hl 0 rfl) ?_
  refine lv_iconst (v := 1) hx hb dJ6_bitCount_0f7a4_2 (by decide) ?_
  refine lv_iushr hx hb dJ6_bitCount_0f7a4_3 rfl ?_
  refine lv_ldcw hx hb hown (hts _ qw438) dJ6_bitCount_0f7a4_4 ?_
  refine lv_iand hx hb dJ6_bitCount_0f7a4_7 ?_
  refine lv_isub hx hb dJ6_bitCount_0f7a4_8 ?_
  refine nm_W hf (fun x1 hf => ?_)
  refine lv_istore_n (lv' := [(0, .int x1)]) hx hb dJ6_bitCount_0f7a4_9 rfl hl (by decide) rfl (fun ls hl => ?_)
  refine lv_iload_n hx hb dJ6_bitCount_0f7a4_10 rfl (lv_at hl 0 rfl) ?_
  refine lv_ldcw hx hb hown (hts _ qw439) dJ6_bitCount_0f7a4_11 ?_
  refine lv_iand hx hb dJ6_bitCount_0f7a4_14 ?_
  refine lv_iload_n hx hb dJ6_bitCount_0f7a4_15 rfl (lv_at hl 0 rfl) ?_
  refine lv_iconst (v := 2) hx hb dJ6_bitCount_0f7a4_16 (by decide) ?_
  refine lv_iushr hx hb dJ6_bitCount_0f7a4_17 rfl ?_
  refine lv_ldcw hx hb hown (hts _ qw439) dJ6_bitCount_0f7a4_18 ?_
  refine lv_iand hx hb dJ6_bitCount_0f7a4_21 ?_
  refine lv_iadd hx hb dJ6_bitCount_0f7a4_22 ?_
  refine nm_W hf (fun x2 hf => ?_)
  refine lv_istore_n (lv' := [(0, .int x2)]) hx hb dJ6_bitCount_0f7a4_23 rfl hl (by decide) rfl (fun ls hl => ?_)
  refine lv_iload_n hx hb dJ6_bitCount_0f7a4_24 rfl (lv_at hl 0 rfl) ?_
  refine lv_iload_n hx hb dJ6_bitCount_0f7a4_25 rfl (lv_at hl 0 rfl) ?_
  refine lv_iconst (v := 4) hx hb dJ6_bitCount_0f7a4_26 (by decide) ?_
  refine lv_iushr hx hb dJ6_bitCount_0f7a4_27 rfl ?_
  refine lv_iadd hx hb dJ6_bitCount_0f7a4_28 ?_
  refine lv_ldcw hx hb hown (hts _ qw440) dJ6_bitCount_0f7a4_29 ?_
  refine lv_iand hx hb dJ6_bitCount_0f7a4_32 ?_
  refine nm_W hf (fun x3 hf => ?_)
  refine lv_istore_n (lv' := [(0, .int x3)]) hx hb dJ6_bitCount_0f7a4_33 rfl hl (by decide) rfl (fun ls hl => ?_)
  refine lv_iload_n hx hb dJ6_bitCount_0f7a4_34 rfl (lv_at hl 0 rfl) ?_
  refine lv_iload_n hx hb dJ6_bitCount_0f7a4_35 rfl (lv_at hl 0 rfl) ?_
  refine lv_bipush (v := 8) hx hb dJ6_bitCount_0f7a4_36 (by decide) ?_
  refine lv_iushr hx hb dJ6_bitCount_0f7a4_38 rfl ?_
  refine lv_iadd hx hb dJ6_bitCount_0f7a4_39 ?_
  refine nm_W hf (fun x4 hf => ?_)
  refine lv_istore_n (lv' := [(0, .int x4)]) hx hb dJ6_bitCount_0f7a4_40 rfl hl (by decide) rfl (fun ls hl => ?_)
  refine lv_iload_n hx hb dJ6_bitCount_0f7a4_41 rfl (lv_at hl 0 rfl) ?_
  refine lv_iload_n hx hb dJ6_bitCount_0f7a4_42 rfl (lv_at hl 0 rfl) ?_
  refine lv_bipush (v := 16) hx hb dJ6_bitCount_0f7a4_43 (by decide) ?_
  refine lv_iushr hx hb dJ6_bitCount_0f7a4_45 rfl ?_
  refine lv_iadd hx hb dJ6_bitCount_0f7a4_46 ?_
  refine nm_W hf (fun x5 hf => ?_)
  refine lv_istore_n (lv' := [(0, .int x5)]) hx hb dJ6_bitCount_0f7a4_47 rfl hl (by decide) rfl (fun ls hl => ?_)
  refine lv_iload_n hx hb dJ6_bitCount_0f7a4_48 rfl (lv_at hl 0 rfl) ?_
  refine lv_bipush (v := 63) hx hb dJ6_bitCount_0f7a4_49 (by decide) ?_
  refine lv_iand hx hb dJ6_bitCount_0f7a4_51 ?_
  subst hf
  subst hQ
  exact en_oi hx hb hr hlocks rfl dJ6_bitCount_0f7a4_52

def f_X6_rank_L7 (s0 : Int32) (s1 : Int32) : Nat → Int32 → Int32 → Int32 → Option (Int32)
  | 0, _, _, _ => none
  | n + 1, s2, s3, s4 => (if s1 < s4 then some s2 else nm (f_X6_bellAt s0 s4) (fun (x2 : Int32) => nm ((f_X4_bit x2) - 1) (fun (x3 : Int32) => nm ((x2 - 1) - (f_J6_bitCount_0f7a4 (s3 &&& x3))) (fun (x4 : Int32) => nm ((s2 * ((s1 - s4) + 1)) + x4) (fun (x5 : Int32) => nm (s3 ||| (f_X4_bit x2)) (fun (x6 : Int32) => (f_X6_rank_L7 s0 s1 n x5 x6 (s4 + 1))))))))
def f_X6_rank (s0 : Int32) (s1 : Int32) : Option (Int32) :=
  (f_X6_rank_L7 s0 s1 fu 0 0 1)
abbrev rm_X6_rank : Room := { frames := 2, cells := 0, slots := 0, locals := 45 }
set_option maxHeartbeats 4000000 in
set_option maxRecDepth 100000 in
theorem c_X6_rank (l : Launch) (D : va_G) (Y : ClassId × ClassId × ClassId × ClassId) (s0 : Int32) (s1 : Int32) (R : Int32) (hf : f_X6_rank s0 s1 = some R) : Met l yX6_rank (ws_ yX6_rank cX6_rank 8 (some .int)) rm_X6_rank (va_Pc [.int s0, .int s1] (RO D Y [])) (OI R) 0 0 (fun _ => False) := by
  refine ro_start (by decide) (Nat.le_of_ble_eq_true rfl) ?_
  intro p e s m below meth c ls hx hb hml hr hlocks hown hts hP hE hl
  generalize hargs : List.toArray _ = args at hts ⊢
  have hown : s.vm.findClass RX6 = some m.cls := hown
  have E : EN p m c cX6_rank 8 s args RX6 := ⟨hx, hb, hml, hown, hts⟩
  have hl : lv_has ls 8 [(0, .int s0), (1, .int s1)] := hl
  generalize hQ : MQ below _ args s 0 0 _ = Q
  unfold f_X6_rank at hf
  have L7 : ∀ (n : Nat) (s0 : Int32) (s1 : Int32) (s2 : Int32) (s3 : Int32) (s4 : Int32) (ls : Array Slot), f_X6_rank_L7 s0 s1 n s2 s3 s4 = some R → lv_has ls 8 [(0, .int s0), (1, .int s1), (2, .int s2), (3, .int s3), (4, .int s4)] → W p l e rm_X6_rank s m args below meth c s.heap [] 0 0 Q (F0 m 7 ls []) := by
    intro n
    induction n with
    | zero =>
      intro s0 s1 s2 s3 s4 ls hf
      cases hf
    | succ n ih =>
      intro s0 s1 s2 s3 s4 ls hf hl
      unfold f_X6_rank_L7 at hf
      refine lv_iload hx hb dX6_rank_7 (lv_at hl 4 rfl) ?_
      refine lv_iload_n hx hb dX6_rank_9 rfl (lv_at hl 1 rfl) ?_
      refine lv_icmp_gt (tgt := 70) hx hb dX6_rank_10 (by decide) (fun c1 => ?_) (fun c1 => ?_)
      · have hf := ite_t c1 hf
        refine lv_iload_n hx hb dX6_rank_70 rfl (lv_at hl 2 rfl) ?_
        obtain rfl := Option.some.inj hf
        subst hQ
        exact en_oi hx hb hr hlocks rfl dX6_rank_71
      have hf := ite_f c1 hf
      refine lv_iload_n hx hb dX6_rank_13 rfl (lv_at hl 0 rfl) ?_
      refine lv_iload hx hb dX6_rank_14 (lv_at hl 4 rfl) ?_
      refine af_oi (run_S (As := [.int s0, .int s4]) (rest := []) E (c_X6_bellAt l D Y s0 s4 (f_X6_bellAt s0 s4) rfl) qw416 qw417 qw34 qw418 rfl rfl hd_X6_bellAt ⟨Nat.le_of_ble_eq_true rfl, Nat.le_of_ble_eq_true rfl⟩ (pre_roS hP hE [] rfl) rfl hl.1 rfl (Nat.le_of_ble_eq_true rfl) dX6_rank_16 ⟨Nat.zero_le _, Nat.zero_le _⟩) ?_
      refine nm_W hf (fun x2 hf => ?_)
      refine lv_istore (lv' := [(5, .int x2), (0, .int s0), (1, .int s1), (2, .int s2), (3, .int s3), (4, .int s4)]) hx hb dX6_rank_19 hl (by decide) rfl (fun ls hl => ?_)
      refine lv_iload hx hb dX6_rank_21 (lv_at hl 0 rfl) ?_
      refine af_oi (run_S (As := [.int x2]) (rest := []) E (c_X4_bit l D Y x2 (f_X4_bit x2) rfl) qw434 qw313 qw32 qw314 rfl rfl hd_X4_bit ⟨Nat.le_of_ble_eq_true rfl, Nat.le_of_ble_eq_true rfl⟩ (pre_roS hP hE [] rfl) rfl hl.1 rfl (Nat.le_of_ble_eq_true rfl) dX6_rank_23 ⟨Nat.zero_le _, Nat.zero_le _⟩) ?_
      refine lv_iconst (v := 1) hx hb dX6_rank_26 (by decide) ?_
      refine lv_isub hx hb dX6_rank_27 ?_
      refine nm_W hf (fun x3 hf => ?_)
      refine lv_istore (lv' := [(6, .int x3), (5, .int x2), (0, .int s0), (1, .int s1), (2, .int s2), (3, .int s3), (4, .int s4)]) hx hb dX6_rank_28 hl (by decide) rfl (fun ls hl => ?_)
      refine lv_iload hx hb dX6_rank_30 (lv_at hl 1 rfl) ?_
      refine lv_iconst (v := 1) hx hb dX6_rank_32 (by decide) ?_
      refine lv_isub hx hb dX6_rank_33 ?_
      refine lv_iload_n hx hb dX6_rank_34 rfl (lv_at hl 5 rfl) ?_
      refine lv_iload hx hb dX6_rank_35 (lv_at hl 0 rfl) ?_
      refine lv_iand hx hb dX6_rank_37 ?_
      refine af_oi (run_S (As := [.int (s3 &&& x3)]) (rest := [.int (x2 - 1)]) E (c_J6_bitCount_0f7a4 l D Y (s3 &&& x3) (f_J6_bitCount_0f7a4 (s3 &&& x3)) rfl) qw435 qw436 qw35 qw437 rfl rfl hd_J6_bitCount_0f7a4 ⟨Nat.le_of_ble_eq_true rfl, Nat.le_of_ble_eq_true rfl⟩ (pre_roS hP hE [] rfl) rfl hl.1 rfl (Nat.le_of_ble_eq_true rfl) dX6_rank_38 ⟨Nat.zero_le _, Nat.zero_le _⟩) ?_
      refine lv_isub hx hb dX6_rank_41 ?_
      refine nm_W hf (fun x4 hf => ?_)
      refine lv_istore (lv' := [(7, .int x4), (6, .int x3), (5, .int x2), (0, .int s0), (1, .int s1), (2, .int s2), (3, .int s3), (4, .int s4)]) hx hb dX6_rank_42 hl (by decide) rfl (fun ls hl => ?_)
      refine lv_iload_n hx hb dX6_rank_44 rfl (lv_at hl 5 rfl) ?_
      refine lv_iload_n hx hb dX6_rank_45 rfl (lv_at hl 4 rfl) ?_
      refine lv_iload hx hb dX6_rank_46 (lv_at hl 7 rfl) ?_
      refine lv_isub hx hb dX6_rank_48 ?_
      refine lv_iconst (v := 1) hx hb dX6_rank_49 (by decide) ?_
      refine lv_iadd hx hb dX6_rank_50 ?_
      refine lv_imul hx hb dX6_rank_51 ?_
      refine lv_iload hx hb dX6_rank_52 (lv_at hl 0 rfl) ?_
      refine lv_iadd hx hb dX6_rank_54 ?_
      refine nm_W hf (fun x5 hf => ?_)
      refine lv_istore_n (lv' := [(2, .int x5), (7, .int x4), (6, .int x3), (5, .int x2), (0, .int s0), (1, .int s1), (3, .int s3), (4, .int s4)]) hx hb dX6_rank_55 rfl hl (by decide) rfl (fun ls hl => ?_)
      refine lv_iload_n hx hb dX6_rank_56 rfl (lv_at hl 6 rfl) ?_
      refine lv_iload hx hb dX6_rank_57 (lv_at hl 3 rfl) ?_
      refine af_oi (run_S (As := [.int x2]) (rest := [.int s3]) E (c_X4_bit l D Y x2 (f_X4_bit x2) rfl) qw434 qw313 qw32 qw314 rfl rfl hd_X4_bit ⟨Nat.le_of_ble_eq_true rfl, Nat.le_of_ble_eq_true rfl⟩ (pre_roS hP hE [] rfl) rfl hl.1 rfl (Nat.le_of_ble_eq_true rfl) dX6_rank_59 ⟨Nat.zero_le _, Nat.zero_le _⟩) ?_
      refine lv_ior hx hb dX6_rank_62 ?_
      refine nm_W hf (fun x6 hf => ?_)
      refine lv_istore_n (lv' := [(3, .int x6), (2, .int x5), (7, .int x4), (6, .int x3), (5, .int x2), (0, .int s0), (1, .int s1), (4, .int s4)]) hx hb dX6_rank_63 rfl hl (by decide) rfl (fun ls hl => ?_)
      refine lv_iinc (v := (s4 + 1)) (lv' := [(4, .int (s4 + 1)), (3, .int x6), (2, .int x5), (7, .int x4), (6, .int x3), (5, .int x2), (0, .int s0), (1, .int s1)]) hx hb dX6_rank_64 hl (k := 7) rfl rfl (by decide) rfl (fun ls hl => ?_)
      refine lv_goto (tgt := 7) hx hb dX6_rank_67 (by decide) ?_
      exact ih _ _ _ _ _ _ hf (lv_sub hl [6, 7, 2, 1, 0] rfl)
  refine lv_iconst (v := 0) hx hb dX6_rank_0 (by decide) ?_
  refine lv_istore_n (lv' := [(2, .int 0), (0, .int s0), (1, .int s1)]) hx hb dX6_rank_1 rfl hl (by decide) rfl (fun ls hl => ?_)
  refine lv_iconst (v := 0) hx hb dX6_rank_2 (by decide) ?_
  refine lv_istore_n (lv' := [(3, .int 0), (2, .int 0), (0, .int s0), (1, .int s1)]) hx hb dX6_rank_3 rfl hl (by decide) rfl (fun ls hl => ?_)
  refine lv_iconst (v := 1) hx hb dX6_rank_4 (by decide) ?_
  refine lv_istore (lv' := [(4, .int 1), (3, .int 0), (2, .int 0), (0, .int s0), (1, .int s1)]) hx hb dX6_rank_5 hl (by decide) rfl (fun ls hl => ?_)
  exact L7 _ _ _ _ _ _ _ hf (lv_sub hl [3, 4, 2, 1, 0] rfl)

def f_X6_backwards_L4 (s0 : Int32) (s1 : Int32) : Nat → Int32 → Int32 → Option (Int32)
  | 0, _, _ => none
  | n + 1, s2, s3 => (if s1 < s3 then some s2 else nm (f_X6_put s2 (f_X6_bellAt s0 s3) s3) (fun (x2 : Int32) => (f_X6_backwards_L4 s0 s1 n x2 (s3 + 1))))
def f_X6_backwards (s0 : Int32) (s1 : Int32) : Option (Int32) :=
  (f_X6_backwards_L4 s0 s1 fu 0 1)
abbrev rm_X6_backwards : Room := { frames := 2, cells := 0, slots := 0, locals := 46 }
set_option maxHeartbeats 4000000 in
set_option maxRecDepth 100000 in
theorem c_X6_backwards (l : Launch) (D : va_G) (Y : ClassId × ClassId × ClassId × ClassId) (s0 : Int32) (s1 : Int32) (R : Int32) (hf : f_X6_backwards s0 s1 = some R) : Met l yX6_backwards (ws_ yX6_backwards cX6_backwards 4 (some .int)) rm_X6_backwards (va_Pc [.int s0, .int s1] (RO D Y [])) (OI R) 0 0 (fun _ => False) := by
  refine ro_start (by decide) (Nat.le_of_ble_eq_true rfl) ?_
  intro p e s m below meth c ls hx hb hml hr hlocks hown hts hP hE hl
  generalize hargs : List.toArray _ = args at hts ⊢
  have hown : s.vm.findClass RX6 = some m.cls := hown
  have E : EN p m c cX6_backwards 4 s args RX6 := ⟨hx, hb, hml, hown, hts⟩
  have hl : lv_has ls 4 [(0, .int s0), (1, .int s1)] := hl
  generalize hQ : MQ below _ args s 0 0 _ = Q
  unfold f_X6_backwards at hf
  have L4 : ∀ (n : Nat) (s0 : Int32) (s1 : Int32) (s2 : Int32) (s3 : Int32) (ls : Array Slot), f_X6_backwards_L4 s0 s1 n s2 s3 = some R → lv_has ls 4 [(0, .int s0), (1, .int s1), (2, .int s2), (3, .int s3)] → W p l e rm_X6_backwards s m args below meth c s.heap [] 0 0 Q (F0 m 4 ls []) := by
    intro n
    induction n with
    | zero =>
      intro s0 s1 s2 s3 ls hf
      cases hf
    | succ n ih =>
      intro s0 s1 s2 s3 ls hf hl
      unfold f_X6_backwards_L4 at hf
      refine lv_iload_n hx hb dX6_backwards_4 rfl (lv_at hl 3 rfl) ?_
      refine lv_iload_n hx hb dX6_backwards_5 rfl (lv_at hl 1 rfl) ?_
      refine lv_icmp_gt (tgt := 26) hx hb dX6_backwards_6 (by decide) (fun c1 => ?_) (fun c1 => ?_)
      · have hf := ite_t c1 hf
        refine lv_iload_n hx hb dX6_backwards_26 rfl (lv_at hl 2 rfl) ?_
        obtain rfl := Option.some.inj hf
        subst hQ
        exact en_oi hx hb hr hlocks rfl dX6_backwards_27
      have hf := ite_f c1 hf
      refine lv_iload_n hx hb dX6_backwards_9 rfl (lv_at hl 2 rfl) ?_
      refine lv_iload_n hx hb dX6_backwards_10 rfl (lv_at hl 0 rfl) ?_
      refine lv_iload_n hx hb dX6_backwards_11 rfl (lv_at hl 3 rfl) ?_
      refine af_oi (run_S (As := [.int s0, .int s3]) (rest := [.int s2]) E (c_X6_bellAt l D Y s0 s3 (f_X6_bellAt s0 s3) rfl) qw416 qw417 qw34 qw418 rfl rfl hd_X6_bellAt ⟨Nat.le_of_ble_eq_true rfl, Nat.le_of_ble_eq_true rfl⟩ (pre_roS hP hE [] rfl) rfl hl.1 rfl (Nat.le_of_ble_eq_true rfl) dX6_backwards_12 ⟨Nat.zero_le _, Nat.zero_le _⟩) ?_
      refine lv_iload_n hx hb dX6_backwards_15 rfl (lv_at hl 3 rfl) ?_
      refine af_oi (run_S (As := [.int s2, .int (f_X6_bellAt s0 s3), .int s3]) (rest := []) E (c_X6_put l D Y s2 (f_X6_bellAt s0 s3) s3 (f_X6_put s2 (f_X6_bellAt s0 s3) s3) rfl) qw398 qw399 qw34 qw400 rfl rfl hd_X6_put ⟨Nat.le_of_ble_eq_true rfl, Nat.le_of_ble_eq_true rfl⟩ (pre_roS hP hE [] rfl) rfl hl.1 rfl (Nat.le_of_ble_eq_true rfl) dX6_backwards_16 ⟨Nat.zero_le _, Nat.zero_le _⟩) ?_
      refine nm_W hf (fun x2 hf => ?_)
      refine lv_istore_n (lv' := [(2, .int x2), (0, .int s0), (1, .int s1), (3, .int s3)]) hx hb dX6_backwards_19 rfl hl (by decide) rfl (fun ls hl => ?_)
      refine lv_iinc (v := (s3 + 1)) (lv' := [(3, .int (s3 + 1)), (2, .int x2), (0, .int s0), (1, .int s1)]) hx hb dX6_backwards_20 hl (k := 3) rfl rfl (by decide) rfl (fun ls hl => ?_)
      refine lv_goto (tgt := 4) hx hb dX6_backwards_23 (by decide) ?_
      exact ih _ _ _ _ _ hf (lv_sub hl [2, 3, 1, 0] rfl)
  refine lv_iconst (v := 0) hx hb dX6_backwards_0 (by decide) ?_
  refine lv_istore_n (lv' := [(2, .int 0), (0, .int s0), (1, .int s1)]) hx hb dX6_backwards_1 rfl hl (by decide) rfl (fun ls hl => ?_)
  refine lv_iconst (v := 1) hx hb dX6_backwards_2 (by decide) ?_
  refine lv_istore_n (lv' := [(3, .int 1), (2, .int 0), (0, .int s0), (1, .int s1)]) hx hb dX6_backwards_3 rfl hl (by decide) rfl (fun ls hl => ?_)
  exact L4 _ _ _ _ _ _ hf (lv_sub hl [2, 3, 1, 0] rfl)

def f_X6_behindLead_L5 (s0 : Int32) (s1 : Int32) (s2 : Int32) : Nat → Int32 → Int32 → Option (Int32)
  | 0, _, _ => none
  | n + 1, s3, s4 => (if s2 < s4 then some s3 else nm (f_X6_put s3 s4 (f_X6_bellAt s0 (f_X6_bellAt s1 s4))) (fun (x2 : Int32) => (f_X6_behindLead_L5 s0 s1 s2 n x2 (s4 + 1))))
def f_X6_behindLead (s0 : Int32) (s1 : Int32) (s2 : Int32) : Option (Int32) :=
  (f_X6_behindLead_L5 s0 s1 s2 fu 0 1)
abbrev rm_X6_behindLead : Room := { frames := 2, cells := 0, slots := 0, locals := 46 }
set_option maxHeartbeats 4000000 in
set_option maxRecDepth 100000 in
theorem c_X6_behindLead (l : Launch) (D : va_G) (Y : ClassId × ClassId × ClassId × ClassId) (s0 : Int32) (s1 : Int32) (s2 : Int32) (R : Int32) (hf : f_X6_behindLead s0 s1 s2 = some R) : Met l yX6_behindLead (ws_ yX6_behindLead cX6_behindLead 5 (some .int)) rm_X6_behindLead (va_Pc [.int s0, .int s1, .int s2] (RO D Y [])) (OI R) 0 0 (fun _ => False) := by
  refine ro_start (by decide) (Nat.le_of_ble_eq_true rfl) ?_
  intro p e s m below meth c ls hx hb hml hr hlocks hown hts hP hE hl
  generalize hargs : List.toArray _ = args at hts ⊢
  have hown : s.vm.findClass RX6 = some m.cls := hown
  have E : EN p m c cX6_behindLead 5 s args RX6 := ⟨hx, hb, hml, hown, hts⟩
  have hl : lv_has ls 5 [(0, .int s0), (1, .int s1), (2, .int s2)] := hl
  generalize hQ : MQ below _ args s 0 0 _ = Q
  unfold f_X6_behindLead at hf
  have L5 : ∀ (n : Nat) (s0 : Int32) (s1 : Int32) (s2 : Int32) (s3 : Int32) (s4 : Int32) (ls : Array Slot), f_X6_behindLead_L5 s0 s1 s2 n s3 s4 = some R → lv_has ls 5 [(0, .int s0), (1, .int s1), (2, .int s2), (3, .int s3), (4, .int s4)] → W p l e rm_X6_behindLead s m args below meth c s.heap [] 0 0 Q (F0 m 5 ls []) := by
    intro n
    induction n with
    | zero =>
      intro s0 s1 s2 s3 s4 ls hf
      cases hf
    | succ n ih =>
      intro s0 s1 s2 s3 s4 ls hf hl
      unfold f_X6_behindLead_L5 at hf
      refine lv_iload hx hb dX6_behindLead_5 (lv_at hl 4 rfl) ?_
      refine lv_iload_n hx hb dX6_behindLead_7 rfl (lv_at hl 2 rfl) ?_
      refine lv_icmp_gt (tgt := 34) hx hb dX6_behindLead_8 (by decide) (fun c1 => ?_) (fun c1 => ?_)
      · have hf := ite_t c1 hf
        refine lv_iload_n hx hb dX6_behindLead_34 rfl (lv_at hl 3 rfl) ?_
        obtain rfl := Option.some.inj hf
        subst hQ
        exact en_oi hx hb hr hlocks rfl dX6_behindLead_35
      have hf := ite_f c1 hf
      refine lv_iload_n hx hb dX6_behindLead_11 rfl (lv_at hl 3 rfl) ?_
      refine lv_iload hx hb dX6_behindLead_12 (lv_at hl 4 rfl) ?_
      refine lv_iload_n hx hb dX6_behindLead_14 rfl (lv_at hl 0 rfl) ?_
      refine lv_iload_n hx hb dX6_behindLead_15 rfl (lv_at hl 1 rfl) ?_
      refine lv_iload hx hb dX6_behindLead_16 (lv_at hl 4 rfl) ?_
      refine af_oi (run_S (As := [.int s1, .int s4]) (rest := [.int s0, .int s4, .int s3]) E (c_X6_bellAt l D Y s1 s4 (f_X6_bellAt s1 s4) rfl) qw416 qw417 qw34 qw418 rfl rfl hd_X6_bellAt ⟨Nat.le_of_ble_eq_true rfl, Nat.le_of_ble_eq_true rfl⟩ (pre_roS hP hE [] rfl) rfl hl.1 rfl (Nat.le_of_ble_eq_true rfl) dX6_behindLead_18 ⟨Nat.zero_le _, Nat.zero_le _⟩) ?_
      refine af_oi (run_S (As := [.int s0, .int (f_X6_bellAt s1 s4)]) (rest := [.int s4, .int s3]) E (c_X6_bellAt l D Y s0 (f_X6_bellAt s1 s4) (f_X6_bellAt s0 (f_X6_bellAt s1 s4)) rfl) qw416 qw417 qw34 qw418 rfl rfl hd_X6_bellAt ⟨Nat.le_of_ble_eq_true rfl, Nat.le_of_ble_eq_true rfl⟩ (pre_roS hP hE [] rfl) rfl hl.1 rfl (Nat.le_of_ble_eq_true rfl) dX6_behindLead_21 ⟨Nat.zero_le _, Nat.zero_le _⟩) ?_
      refine af_oi (run_S (As := [.int s3, .int s4, .int (f_X6_bellAt s0 (f_X6_bellAt s1 s4))]) (rest := []) E (c_X6_put l D Y s3 s4 (f_X6_bellAt s0 (f_X6_bellAt s1 s4)) (f_X6_put s3 s4 (f_X6_bellAt s0 (f_X6_bellAt s1 s4))) rfl) qw398 qw399 qw34 qw400 rfl rfl hd_X6_put ⟨Nat.le_of_ble_eq_true rfl, Nat.le_of_ble_eq_true rfl⟩ (pre_roS hP hE [] rfl) rfl hl.1 rfl (Nat.le_of_ble_eq_true rfl) dX6_behindLead_24 ⟨Nat.zero_le _, Nat.zero_le _⟩) ?_
      refine nm_W hf (fun x2 hf => ?_)
      refine lv_istore_n (lv' := [(3, .int x2), (0, .int s0), (1, .int s1), (2, .int s2), (4, .int s4)]) hx hb dX6_behindLead_27 rfl hl (by decide) rfl (fun ls hl => ?_)
      refine lv_iinc (v := (s4 + 1)) (lv' := [(4, .int (s4 + 1)), (3, .int x2), (0, .int s0), (1, .int s1), (2, .int s2)]) hx hb dX6_behindLead_28 hl (k := 4) rfl rfl (by decide) rfl (fun ls hl => ?_)
      refine lv_goto (tgt := 5) hx hb dX6_behindLead_31 (by decide) ?_
      exact ih _ _ _ _ _ _ hf (lv_sub hl [2, 3, 4, 1, 0] rfl)
  refine lv_iconst (v := 0) hx hb dX6_behindLead_0 (by decide) ?_
  refine lv_istore_n (lv' := [(3, .int 0), (0, .int s0), (1, .int s1), (2, .int s2)]) hx hb dX6_behindLead_1 rfl hl (by decide) rfl (fun ls hl => ?_)
  refine lv_iconst (v := 1) hx hb dX6_behindLead_2 (by decide) ?_
  refine lv_istore (lv' := [(4, .int 1), (3, .int 0), (0, .int s0), (1, .int s1), (2, .int s2)]) hx hb dX6_behindLead_3 hl (by decide) rfl (fun ls hl => ?_)
  exact L5 _ _ _ _ _ _ _ hf (lv_sub hl [2, 3, 4, 1, 0] rfl)

def f_X6_bellsInPlace_L4 (s0 : Int32) (s1 : Int32) : Nat → Int32 → Int32 → Option (Int32)
  | 0, _, _ => none
  | n + 1, s2, s3 => (if s1 < s3 then some s2 else nm (if (f_X6_bellAt s0 s3) = s3 then (s2 + 1) else s2) (fun (w2 : Int32) => (f_X6_bellsInPlace_L4 s0 s1 n w2 (s3 + 1))))
def f_X6_bellsInPlace (s0 : Int32) (s1 : Int32) : Option (Int32) :=
  (f_X6_bellsInPlace_L4 s0 s1 fu 0 1)
abbrev rm_X6_bellsInPlace : Room := { frames := 2, cells := 0, slots := 0, locals := 45 }
set_option maxHeartbeats 4000000 in
set_option maxRecDepth 100000 in
theorem c_X6_bellsInPlace (l : Launch) (D : va_G) (Y : ClassId × ClassId × ClassId × ClassId) (s0 : Int32) (s1 : Int32) (R : Int32) (hf : f_X6_bellsInPlace s0 s1 = some R) : Met l yX6_bellsInPlace (ws_ yX6_bellsInPlace cX6_bellsInPlace 4 (some .int)) rm_X6_bellsInPlace (va_Pc [.int s0, .int s1] (RO D Y [])) (OI R) 0 0 (fun _ => False) := by
  refine ro_start (by decide) (Nat.le_of_ble_eq_true rfl) ?_
  intro p e s m below meth c ls hx hb hml hr hlocks hown hts hP hE hl
  generalize hargs : List.toArray _ = args at hts ⊢
  have hown : s.vm.findClass RX6 = some m.cls := hown
  have E : EN p m c cX6_bellsInPlace 4 s args RX6 := ⟨hx, hb, hml, hown, hts⟩
  have hl : lv_has ls 4 [(0, .int s0), (1, .int s1)] := hl
  generalize hQ : MQ below _ args s 0 0 _ = Q
  unfold f_X6_bellsInPlace at hf
  have L4 : ∀ (n : Nat) (s0 : Int32) (s1 : Int32) (s2 : Int32) (s3 : Int32) (ls : Array Slot), f_X6_bellsInPlace_L4 s0 s1 n s2 s3 = some R → lv_has ls 4 [(0, .int s0), (1, .int s1), (2, .int s2), (3, .int s3)] → W p l e rm_X6_bellsInPlace s m args below meth c s.heap [] 0 0 Q (F0 m 4 ls []) := by
    intro n
    induction n with
    | zero =>
      intro s0 s1 s2 s3 ls hf
      cases hf
    | succ n ih =>
      intro s0 s1 s2 s3 ls hf hl
      unfold f_X6_bellsInPlace_L4 at hf
      refine lv_iload_n hx hb dX6_bellsInPlace_4 rfl (lv_at hl 3 rfl) ?_
      refine lv_iload_n hx hb dX6_bellsInPlace_5 rfl (lv_at hl 1 rfl) ?_
      refine lv_icmp_gt (tgt := 27) hx hb dX6_bellsInPlace_6 (by decide) (fun c1 => ?_) (fun c1 => ?_)
      · have hf := ite_t c1 hf
        refine lv_iload_n hx hb dX6_bellsInPlace_27 rfl (lv_at hl 2 rfl) ?_
        obtain rfl := Option.some.inj hf
        subst hQ
        exact en_oi hx hb hr hlocks rfl dX6_bellsInPlace_28
      have hf := ite_f c1 hf
      refine lv_iload_n hx hb dX6_bellsInPlace_9 rfl (lv_at hl 0 rfl) ?_
      refine lv_iload_n hx hb dX6_bellsInPlace_10 rfl (lv_at hl 3 rfl) ?_
      refine af_oi (run_S (As := [.int s0, .int s3]) (rest := []) E (c_X6_bellAt l D Y s0 s3 (f_X6_bellAt s0 s3) rfl) qw416 qw417 qw34 qw418 rfl rfl hd_X6_bellAt ⟨Nat.le_of_ble_eq_true rfl, Nat.le_of_ble_eq_true rfl⟩ (pre_roS hP hE [] rfl) rfl hl.1 rfl (Nat.le_of_ble_eq_true rfl) dX6_bellsInPlace_11 ⟨Nat.zero_le _, Nat.zero_le _⟩) ?_
      refine lv_iload_n hx hb dX6_bellsInPlace_14 rfl (lv_at hl 3 rfl) ?_
      refine mg (P := fun (w2 : Int32) => ∀ (ls : Array Slot), lv_has ls 4 [(0, .int s0), (1, .int s1), (2, .int w2), (3, .int s3)] → W p l e rm_X6_bellsInPlace s m args below meth c s.heap [] 0 0 Q (F0 m 21 ls [])) hf (fun w2 hf ls hl => ?_) (fun hJ => ?_)
      · refine lv_iinc (v := (s3 + 1)) (lv' := [(3, .int (s3 + 1)), (0, .int s0), (1, .int s1), (2, .int w2)]) hx hb dX6_bellsInPlace_21 hl (k := 3) rfl rfl (by decide) rfl (fun ls hl => ?_)
        refine lv_goto (tgt := 4) hx hb dX6_bellsInPlace_24 (by decide) ?_
        exact ih _ _ _ _ _ hf (lv_sub hl [1, 2, 3, 0] rfl)
      refine lv_icmp_ne (tgt := 21) hx hb dX6_bellsInPlace_15 (by decide) (fun c3 => ?_) (fun c3 => ?_)
      · have hf := nmi_f c3 hf
        exact hJ _ (nm_b hf) _ (lv_sub hl [0, 1, 2, 3] rfl)
      have hf := nmi_t c3 hf
      refine lv_iinc (v := (s2 + 1)) (lv' := [(2, .int (s2 + 1)), (0, .int s0), (1, .int s1), (3, .int s3)]) hx hb dX6_bellsInPlace_18 hl (k := 2) rfl rfl (by decide) rfl (fun ls hl => ?_)
      exact hJ _ (nm_b hf) _ (lv_sub hl [1, 2, 0, 3] rfl)
  refine lv_iconst (v := 0) hx hb dX6_bellsInPlace_0 (by decide) ?_
  refine lv_istore_n (lv' := [(2, .int 0), (0, .int s0), (1, .int s1)]) hx hb dX6_bellsInPlace_1 rfl hl (by decide) rfl (fun ls hl => ?_)
  refine lv_iconst (v := 1) hx hb dX6_bellsInPlace_2 (by decide) ?_
  refine lv_istore_n (lv' := [(3, .int 1), (2, .int 0), (0, .int s0), (1, .int s1)]) hx hb dX6_bellsInPlace_3 rfl hl (by decide) rfl (fun ls hl => ?_)
  exact L4 _ _ _ _ _ _ hf (lv_sub hl [2, 3, 1, 0] rfl)

def f_X6_soundsWell (s0 : Int32) (s1 : Int32) : Int32 :=
  nm (f_X6_bellAt s0 (s1 - 2)) (fun (x1 : Int32) => nm (f_X6_bellAt s0 (s1 - 1)) (fun (x2 : Int32) => (if x2 ≤ x1 then 0 else (if (f_X6_bellAt s0 s1) ≤ x2 then 0 else 1))))
abbrev rm_X6_soundsWell : Room := { frames := 2, cells := 0, slots := 0, locals := 45 }
set_option maxHeartbeats 4000000 in
set_option maxRecDepth 100000 in
theorem c_X6_soundsWell (l : Launch) (D : va_G) (Y : ClassId × ClassId × ClassId × ClassId) (s0 : Int32) (s1 : Int32) (R : Int32) (hf : f_X6_soundsWell s0 s1 = R) : Met l yX6_soundsWell (ws_ yX6_soundsWell cX6_soundsWell 4 (some .boolean)) rm_X6_soundsWell (va_Pc [.int s0, .int s1] (RO D Y [])) (OZ R) 0 0 (fun _ => False) := by
  refine ro_start (by decide) (Nat.le_of_ble_eq_true rfl) ?_
  intro p e s m below meth c ls hx hb hml hr hlocks hown hts hP hE hl
  generalize hargs : List.toArray _ = args at hts ⊢
  have hown : s.vm.findClass RX6 = some m.cls := hown
  have E : EN p m c cX6_soundsWell 4 s args RX6 := ⟨hx, hb, hml, hown, hts⟩
  have hl : lv_has ls 4 [(0, .int s0), (1, .int s1)] := hl
  generalize hQ : MQ below _ args s 0 0 _ = Q
  unfold f_X6_soundsWell at hf
  refine lv_iload_n hx hb dX6_soundsWell_0 rfl (lv_at hl 0 rfl) ?_
  refine lv_iload_n hx hb dX6_soundsWell_1 rfl (lv_at hl 1 rfl) ?_
  refine lv_iconst (v := 2) hx hb dX6_soundsWell_2 (by decide) ?_
  refine lv_isub hx hb dX6_soundsWell_3 ?_
  refine af_oi (run_S (As := [.int s0, .int (s1 - 2)]) (rest := []) E (c_X6_bellAt l D Y s0 (s1 - 2) (f_X6_bellAt s0 (s1 - 2)) rfl) qw416 qw417 qw34 qw418 rfl rfl hd_X6_bellAt ⟨Nat.le_of_ble_eq_true rfl, Nat.le_of_ble_eq_true rfl⟩ (pre_roS hP hE [] rfl) rfl hl.1 rfl (Nat.le_of_ble_eq_true rfl) dX6_soundsWell_4 ⟨Nat.zero_le _, Nat.zero_le _⟩) ?_
  refine nm_W hf (fun x1 hf => ?_)
  refine lv_istore_n (lv' := [(2, .int x1), (0, .int s0), (1, .int s1)]) hx hb dX6_soundsWell_7 rfl hl (by decide) rfl (fun ls hl => ?_)
  refine lv_iload_n hx hb dX6_soundsWell_8 rfl (lv_at hl 1 rfl) ?_
  refine lv_iload_n hx hb dX6_soundsWell_9 rfl (lv_at hl 2 rfl) ?_
  refine lv_iconst (v := 1) hx hb dX6_soundsWell_10 (by decide) ?_
  refine lv_isub hx hb dX6_soundsWell_11 ?_
  refine af_oi (run_S (As := [.int s0, .int (s1 - 1)]) (rest := []) E (c_X6_bellAt l D Y s0 (s1 - 1) (f_X6_bellAt s0 (s1 - 1)) rfl) qw416 qw417 qw34 qw418 rfl rfl hd_X6_bellAt ⟨Nat.le_of_ble_eq_true rfl, Nat.le_of_ble_eq_true rfl⟩ (pre_roS hP hE [] rfl) rfl hl.1 rfl (Nat.le_of_ble_eq_true rfl) dX6_soundsWell_12 ⟨Nat.zero_le _, Nat.zero_le _⟩) ?_
  refine nm_W hf (fun x2 hf => ?_)
  refine lv_istore_n (lv' := [(3, .int x2), (2, .int x1), (0, .int s0), (1, .int s1)]) hx hb dX6_soundsWell_15 rfl hl (by decide) rfl (fun ls hl => ?_)
  refine lv_iload_n hx hb dX6_soundsWell_16 rfl (lv_at hl 1 rfl) ?_
  refine lv_iload_n hx hb dX6_soundsWell_17 rfl (lv_at hl 0 rfl) ?_
  refine lv_icmp_ge (tgt := 34) hx hb dX6_soundsWell_18 (by decide) (fun c3 => ?_) (fun c3 => ?_)
  · have hf := ite_t c3 hf
    refine lv_iconst (v := 0) hx hb dX6_soundsWell_34 (by decide) ?_
    subst hf
    subst hQ
    exact en_oz hx hb hr hlocks rfl (Or.inl rfl) dX6_soundsWell_35
  have hf := ite_f c3 hf
  refine lv_iload_n hx hb dX6_soundsWell_21 rfl (lv_at hl 0 rfl) ?_
  refine lv_iload_n hx hb dX6_soundsWell_22 rfl (lv_at hl 2 rfl) ?_
  refine lv_iload_n hx hb dX6_soundsWell_23 rfl (lv_at hl 3 rfl) ?_
  refine af_oi (run_S (As := [.int s0, .int s1]) (rest := [.int x2]) E (c_X6_bellAt l D Y s0 s1 (f_X6_bellAt s0 s1) rfl) qw416 qw417 qw34 qw418 rfl rfl hd_X6_bellAt ⟨Nat.le_of_ble_eq_true rfl, Nat.le_of_ble_eq_true rfl⟩ (pre_roS hP hE [] rfl) rfl hl.1 rfl (Nat.le_of_ble_eq_true rfl) dX6_soundsWell_24 ⟨Nat.zero_le _, Nat.zero_le _⟩) ?_
  refine lv_icmp_ge (tgt := 34) hx hb dX6_soundsWell_27 (by decide) (fun c4 => ?_) (fun c4 => ?_)
  · have hf := ite_t c4 hf
    refine lv_iconst (v := 0) hx hb dX6_soundsWell_34 (by decide) ?_
    subst hf
    subst hQ
    exact en_oz hx hb hr hlocks rfl (Or.inl rfl) dX6_soundsWell_35
  have hf := ite_f c4 hf
  refine lv_iconst (v := 1) hx hb dX6_soundsWell_30 (by decide) ?_
  refine lv_goto (tgt := 35) hx hb dX6_soundsWell_31 (by decide) ?_
  subst hf
  subst hQ
  exact en_oz hx hb hr hlocks rfl (Or.inr rfl) dX6_soundsWell_35

def f_X6_signByCycles_L24 (k : Int32 → Int32 → Int32 → Int32 → Option (Int32)) (s0 : Int32) (s1 : Int32) (s4 : Int32) : Nat → Int32 → Int32 → Int32 → Int32 → Option (Int32)
  | 0, _, _, _, _ => none
  | n + 1, s2, s3, s5, s6 => (if s1 ≤ s6 then (k s2 s3 s5 s6) else (if s5 = s4 then (k s2 s3 s5 s6) else (if (f_X4_has s2 s4) = 0 then nm (s2 ||| (f_X4_bit s5)) (fun (x7 : Int32) => nm (f_X6_bellAt s0 s5) (fun (x8 : Int32) => (f_X6_signByCycles_L24 k s0 s1 s4 n x7 (s3 + 1) x8 (s6 + 1)))) else (k s2 s3 s5 s6))))
def f_X6_signByCycles_L7 (k : Int32 → Int32 → Int32 → Option (Int32)) (s0 : Int32) (s1 : Int32) : Nat → Int32 → Int32 → Int32 → Option (Int32)
  | 0, _, _, _ => none
  | n + 1, s2, s3, s4 => (if s1 < s4 then (k s2 s3 s4) else nm (f_X6_bellAt s0 s4) (fun (x2 : Int32) => (f_X6_signByCycles_L24 (fun (y9 : Int32) (y10 : Int32) (y11 : Int32) (y12 : Int32) => (f_X6_signByCycles_L7 k s0 s1 n y9 y10 (s4 + 1))) s0 s1 s4 fu s2 s3 x2 0)))
def f_X6_signByCycles (s0 : Int32) (s1 : Int32) : Option (Int32) :=
  (f_X6_signByCycles_L7 (fun (y13 : Int32) (y14 : Int32) (y15 : Int32) => some (y14 - y14 / 2 * 2)) s0 s1 fu 0 0 1)
abbrev rm_X6_signByCycles : Room := { frames := 3, cells := 0, slots := 0, locals := 65 }
set_option maxHeartbeats 4000000 in
set_option maxRecDepth 100000 in
theorem c_X6_signByCycles (l : Launch) (D : va_G) (Y : ClassId × ClassId × ClassId × ClassId) (s0 : Int32) (s1 : Int32) (R : Int32) (hf : f_X6_signByCycles s0 s1 = some R) : Met l yX6_signByCycles (ws_ yX6_signByCycles cX6_signByCycles 7 (some .int)) rm_X6_signByCycles (va_Pc [.int s0, .int s1] (RO D Y [])) (OI R) 0 0 (fun _ => False) := by
  refine ro_start (by decide) (Nat.le_of_ble_eq_true rfl) ?_
  intro p e s m below meth c ls hx hb hml hr hlocks hown hts hP hE hl
  generalize hargs : List.toArray _ = args at hts ⊢
  have hown : s.vm.findClass RX6 = some m.cls := hown
  have E : EN p m c cX6_signByCycles 7 s args RX6 := ⟨hx, hb, hml, hown, hts⟩
  have hl : lv_has ls 7 [(0, .int s0), (1, .int s1)] := hl
  generalize hQ : MQ below _ args s 0 0 _ = Q
  unfold f_X6_signByCycles at hf
  have L24 : ∀ (n : Nat) (k : Int32 → Int32 → Int32 → Int32 → Option (Int32)) (s0 : Int32) (s1 : Int32) (s4 : Int32) (s2 : Int32) (s3 : Int32) (s5 : Int32) (s6 : Int32) (ls : Array Slot), f_X6_signByCycles_L24 k s0 s1 s4 n s2 s3 s5 s6 = some R → lv_has ls 7 [(0, .int s0), (1, .int s1), (2, .int s2), (3, .int s3), (4, .int s4), (5, .int s5), (6, .int s6)] → (∀ (y_s2 : Int32) (y_s3 : Int32) (y_s5 : Int32) (y_s6 : Int32) (ls : Array Slot), k y_s2 y_s3 y_s5 y_s6 = some R → lv_has ls 7 [(0, .int s0), (1, .int s1), (2, .int y_s2), (3, .int y_s3), (4, .int s4)] → W p l e rm_X6_signByCycles s m args below meth c s.heap [] 0 0 Q (F0 m 71 ls [])) → W p l e rm_X6_signByCycles s m args below meth c s.heap [] 0 0 Q (F0 m 24 ls []) := by
    intro n
    induction n with
    | zero =>
      intro k s0 s1 s4 s2 s3 s5 s6 ls hf
      cases hf
    | succ n ih =>
      intro k s0 s1 s4 s2 s3 s5 s6 ls hf hl hk
      unfold f_X6_signByCycles_L24 at hf
      refine lv_iload hx hb dX6_signByCycles_24 (lv_at hl 6 rfl) ?_
      refine lv_iload_n hx hb dX6_signByCycles_26 rfl (lv_at hl 1 rfl) ?_
      refine lv_icmp_ge (tgt := 71) hx hb dX6_signByCycles_27 (by decide) (fun c3 => ?_) (fun c3 => ?_)
      · have hf := ite_t c3 hf
        exact hk _ _ _ _ _ hf (lv_sub hl [0, 1, 2, 3, 4] rfl)
      have hf := ite_f c3 hf
      refine lv_iload hx hb dX6_signByCycles_30 (lv_at hl 5 rfl) ?_
      refine lv_iload hx hb dX6_signByCycles_32 (lv_at hl 4 rfl) ?_
      refine lv_icmp_eq (tgt := 71) hx hb dX6_signByCycles_34 (by decide) (fun c4 => ?_) (fun c4 => ?_)
      · have hf := ite_t c4 hf
        exact hk _ _ _ _ _ hf (lv_sub hl [0, 1, 2, 3, 4] rfl)
      have hf := ite_f c4 hf
      refine lv_iload_n hx hb dX6_signByCycles_37 rfl (lv_at hl 2 rfl) ?_
      refine lv_iload hx hb dX6_signByCycles_38 (lv_at hl 4 rfl) ?_
      refine af_oz (run_S (As := [.int s2, .int s4]) (rest := []) E (c_X4_has l D Y s2 s4 (f_X4_has s2 s4) rfl) qw412 qw413 qw32 qw414 rfl rfl hd_X4_has ⟨Nat.le_of_ble_eq_true rfl, Nat.le_of_ble_eq_true rfl⟩ (pre_roS hP hE [] rfl) rfl hl.1 rfl (Nat.le_of_ble_eq_true rfl) dX6_signByCycles_40 ⟨Nat.zero_le _, Nat.zero_le _⟩) (fun z5 => ?_)
      refine lv_if_ne (tgt := 71) hx hb dX6_signByCycles_43 (by decide) (fun c6 => ?_) (fun c6 => ?_)
      · have hf := ite_f c6 hf
        exact hk _ _ _ _ _ hf (lv_sub hl [0, 1, 2, 3, 4] rfl)
      have hf := ite_t c6 hf
      refine lv_iload_n hx hb dX6_signByCycles_46 rfl (lv_at hl 2 rfl) ?_
      refine lv_iload hx hb dX6_signByCycles_47 (lv_at hl 5 rfl) ?_
      refine af_oi (run_S (As := [.int s5]) (rest := [.int s2]) E (c_X4_bit l D Y s5 (f_X4_bit s5) rfl) qw434 qw313 qw32 qw314 rfl rfl hd_X4_bit ⟨Nat.le_of_ble_eq_true rfl, Nat.le_of_ble_eq_true rfl⟩ (pre_roS hP hE [] rfl) rfl hl.1 rfl (Nat.le_of_ble_eq_true rfl) dX6_signByCycles_49 ⟨Nat.zero_le _, Nat.zero_le _⟩) ?_
      refine lv_ior hx hb dX6_signByCycles_52 ?_
      refine nm_W hf (fun x7 hf => ?_)
      refine lv_istore_n (lv' := [(2, .int x7), (0, .int s0), (1, .int s1), (3, .int s3), (4, .int s4), (5, .int s5), (6, .int s6)]) hx hb dX6_signByCycles_53 rfl hl (by decide) rfl (fun ls hl => ?_)
      refine lv_iinc (v := (s3 + 1)) (lv' := [(3, .int (s3 + 1)), (2, .int x7), (0, .int s0), (1, .int s1), (4, .int s4), (5, .int s5), (6, .int s6)]) hx hb dX6_signByCycles_54 hl (k := 3) rfl rfl (by decide) rfl (fun ls hl => ?_)
      refine lv_iload_n hx hb dX6_signByCycles_57 rfl (lv_at hl 2 rfl) ?_
      refine lv_iload hx hb dX6_signByCycles_58 (lv_at hl 5 rfl) ?_
      refine af_oi (run_S (As := [.int s0, .int s5]) (rest := []) E (c_X6_bellAt l D Y s0 s5 (f_X6_bellAt s0 s5) rfl) qw416 qw417 qw34 qw418 rfl rfl hd_X6_bellAt ⟨Nat.le_of_ble_eq_true rfl, Nat.le_of_ble_eq_true rfl⟩ (pre_roS hP hE [] rfl) rfl hl.1 rfl (Nat.le_of_ble_eq_true rfl) dX6_signByCycles_60 ⟨Nat.zero_le _, Nat.zero_le _⟩) ?_
      refine nm_W hf (fun x8 hf => ?_)
      refine lv_istore (lv' := [(5, .int x8), (3, .int (s3 + 1)), (2, .int x7), (0, .int s0), (1, .int s1), (4, .int s4), (6, .int s6)]) hx hb dX6_signByCycles_63 hl (by decide) rfl (fun ls hl => ?_)
      refine lv_iinc (v := (s6 + 1)) (lv' := [(6, .int (s6 + 1)), (5, .int x8), (3, .int (s3 + 1)), (2, .int x7), (0, .int s0), (1, .int s1), (4, .int s4)]) hx hb dX6_signByCycles_65 hl (k := 6) rfl rfl (by decide) rfl (fun ls hl => ?_)
      refine lv_goto (tgt := 24) hx hb dX6_signByCycles_68 (by decide) ?_
      exact ih _ _ _ _ _ _ _ _ _ hf (lv_sub hl [4, 5, 3, 2, 6, 1, 0] rfl) hk
  have L7 : ∀ (n : Nat) (k : Int32 → Int32 → Int32 → Option (Int32)) (s0 : Int32) (s1 : Int32) (s2 : Int32) (s3 : Int32) (s4 : Int32) (ls : Array Slot), f_X6_signByCycles_L7 k s0 s1 n s2 s3 s4 = some R → lv_has ls 7 [(0, .int s0), (1, .int s1), (2, .int s2), (3, .int s3), (4, .int s4)] → (∀ (y_s2 : Int32) (y_s3 : Int32) (y_s4 : Int32) (ls : Array Slot), k y_s2 y_s3 y_s4 = some R → lv_has ls 7 [(3, .int y_s3)] → W p l e rm_X6_signByCycles s m args below meth c s.heap [] 0 0 Q (F0 m 77 ls [])) → W p l e rm_X6_signByCycles s m args below meth c s.heap [] 0 0 Q (F0 m 7 ls []) := by
    intro n
    induction n with
    | zero =>
      intro k s0 s1 s2 s3 s4 ls hf
      cases hf
    | succ n ih =>
      intro k s0 s1 s2 s3 s4 ls hf hl hk
      unfold f_X6_signByCycles_L7 at hf
      refine lv_iload hx hb dX6_signByCycles_7 (lv_at hl 4 rfl) ?_
      refine lv_iload_n hx hb dX6_signByCycles_9 rfl (lv_at hl 1 rfl) ?_
      refine lv_icmp_gt (tgt := 77) hx hb dX6_signByCycles_10 (by decide) (fun c1 => ?_) (fun c1 => ?_)
      · have hf := ite_t c1 hf
        exact hk _ _ _ _ hf (lv_sub hl [3] rfl)
      have hf := ite_f c1 hf
      refine lv_iload_n hx hb dX6_signByCycles_13 rfl (lv_at hl 0 rfl) ?_
      refine lv_iload hx hb dX6_signByCycles_14 (lv_at hl 4 rfl) ?_
      refine af_oi (run_S (As := [.int s0, .int s4]) (rest := []) E (c_X6_bellAt l D Y s0 s4 (f_X6_bellAt s0 s4) rfl) qw416 qw417 qw34 qw418 rfl rfl hd_X6_bellAt ⟨Nat.le_of_ble_eq_true rfl, Nat.le_of_ble_eq_true rfl⟩ (pre_roS hP hE [] rfl) rfl hl.1 rfl (Nat.le_of_ble_eq_true rfl) dX6_signByCycles_16 ⟨Nat.zero_le _, Nat.zero_le _⟩) ?_
      refine nm_W hf (fun x2 hf => ?_)
      refine lv_istore (lv' := [(5, .int x2), (0, .int s0), (1, .int s1), (2, .int s2), (3, .int s3), (4, .int s4)]) hx hb dX6_signByCycles_19 hl (by decide) rfl (fun ls hl => ?_)
      refine lv_iconst (v := 0) hx hb dX6_signByCycles_21 (by decide) ?_
      refine lv_istore (lv' := [(6, .int 0), (5, .int x2), (0, .int s0), (1, .int s1), (2, .int s2), (3, .int s3), (4, .int s4)]) hx hb dX6_signByCycles_22 hl (by decide) rfl (fun ls hl => ?_)
      refine L24 _ _ _ _ _ _ _ _ _ _ hf (lv_sub hl [2, 3, 4, 5, 6, 1, 0] rfl) ?_
      intro y9 y10 y11 y12 ls hf hl
      refine lv_iinc (v := (s4 + 1)) (lv' := [(4, .int (s4 + 1)), (0, .int s0), (1, .int s1), (2, .int y9), (3, .int y10)]) hx hb dX6_signByCycles_71 hl (k := 4) rfl rfl (by decide) rfl (fun ls hl => ?_)
      refine lv_goto (tgt := 7) hx hb dX6_signByCycles_74 (by decide) ?_
      exact ih _ _ _ _ _ _ _ hf (lv_sub hl [1, 2, 3, 4, 0] rfl) hk
  refine lv_iconst (v := 0) hx hb dX6_signByCycles_0 (by decide) ?_
  refine lv_istore_n (lv' := [(2, .int 0), (0, .int s0), (1, .int s1)]) hx hb dX6_signByCycles_1 rfl hl (by decide) rfl (fun ls hl => ?_)
  refine lv_iconst (v := 0) hx hb dX6_signByCycles_2 (by decide) ?_
  refine lv_istore_n (lv' := [(3, .int 0), (2, .int 0), (0, .int s0), (1, .int s1)]) hx hb dX6_signByCycles_3 rfl hl (by decide) rfl (fun ls hl => ?_)
  refine lv_iconst (v := 1) hx hb dX6_signByCycles_4 (by decide) ?_
  refine lv_istore (lv' := [(4, .int 1), (3, .int 0), (2, .int 0), (0, .int s0), (1, .int s1)]) hx hb dX6_signByCycles_5 hl (by decide) rfl (fun ls hl => ?_)
  refine L7 _ _ _ _ _ _ _ _ hf (lv_sub hl [3, 4, 2, 1, 0] rfl) ?_
  intro y13 y14 y15 ls hf hl
  refine lv_iload_n hx hb dX6_signByCycles_77 rfl (lv_at hl 0 rfl) ?_
  refine lv_iconst (v := 2) hx hb dX6_signByCycles_78 (by decide) ?_
  refine lv_irem hx hb dX6_signByCycles_79 (by decide) ?_
  obtain rfl := Option.some.inj hf
  subst hQ
  exact en_oi hx hb hr hlocks rfl dX6_signByCycles_80

def f_X6_signByPairs_L14 (k : Int32 → Int32 → Option (Int32)) (s0 : Int32) (s1 : Int32) (s3 : Int32) : Nat → Int32 → Int32 → Option (Int32)
  | 0, _, _ => none
  | n + 1, s2, s4 => (if s1 < s4 then (k s2 s4) else nm (if (f_X6_bellAt s0 s3) ≤ (f_X6_bellAt s0 s4) then s2 else (s2 + 1)) (fun (w4 : Int32) => (f_X6_signByPairs_L14 k s0 s1 s3 n w4 (s4 + 1))))
def f_X6_signByPairs_L4 (k : Int32 → Int32 → Option (Int32)) (s0 : Int32) (s1 : Int32) : Nat → Int32 → Int32 → Option (Int32)
  | 0, _, _ => none
  | n + 1, s2, s3 => (if s1 < s3 then (k s2 s3) else nm (s3 + 1) (fun (x2 : Int32) => (f_X6_signByPairs_L14 (fun (y6 : Int32) (y7 : Int32) => (f_X6_signByPairs_L4 k s0 s1 n y6 (s3 + 1))) s0 s1 s3 fu s2 x2)))
def f_X6_signByPairs (s0 : Int32) (s1 : Int32) : Option (Int32) :=
  (f_X6_signByPairs_L4 (fun (y8 : Int32) (y9 : Int32) => some (y8 - y8 / 2 * 2)) s0 s1 fu 0 1)
abbrev rm_X6_signByPairs : Room := { frames := 2, cells := 0, slots := 0, locals := 45 }
set_option maxHeartbeats 4000000 in
set_option maxRecDepth 100000 in
theorem c_X6_signByPairs (l : Launch) (D : va_G) (Y : ClassId × ClassId × ClassId × ClassId) (s0 : Int32) (s1 : Int32) (R : Int32) (hf : f_X6_signByPairs s0 s1 = some R) : Met l yX6_signByPairs (ws_ yX6_signByPairs cX6_signByPairs 5 (some .int)) rm_X6_signByPairs (va_Pc [.int s0, .int s1] (RO D Y [])) (OI R) 0 0 (fun _ => False) := by
  refine ro_start (by decide) (Nat.le_of_ble_eq_true rfl) ?_
  intro p e s m below meth c ls hx hb hml hr hlocks hown hts hP hE hl
  generalize hargs : List.toArray _ = args at hts ⊢
  have hown : s.vm.findClass RX6 = some m.cls := hown
  have E : EN p m c cX6_signByPairs 5 s args RX6 := ⟨hx, hb, hml, hown, hts⟩
  have hl : lv_has ls 5 [(0, .int s0), (1, .int s1)] := hl
  generalize hQ : MQ below _ args s 0 0 _ = Q
  unfold f_X6_signByPairs at hf
  have L14 : ∀ (n : Nat) (k : Int32 → Int32 → Option (Int32)) (s0 : Int32) (s1 : Int32) (s3 : Int32) (s2 : Int32) (s4 : Int32) (ls : Array Slot), f_X6_signByPairs_L14 k s0 s1 s3 n s2 s4 = some R → lv_has ls 5 [(0, .int s0), (1, .int s1), (2, .int s2), (3, .int s3), (4, .int s4)] → (∀ (y_s2 : Int32) (y_s4 : Int32) (ls : Array Slot), k y_s2 y_s4 = some R → lv_has ls 5 [(0, .int s0), (1, .int s1), (2, .int y_s2), (3, .int s3)] → W p l e rm_X6_signByPairs s m args below meth c s.heap [] 0 0 Q (F0 m 43 ls [])) → W p l e rm_X6_signByPairs s m args below meth c s.heap [] 0 0 Q (F0 m 14 ls []) := by
    intro n
    induction n with
    | zero =>
      intro k s0 s1 s3 s2 s4 ls hf
      cases hf
    | succ n ih =>
      intro k s0 s1 s3 s2 s4 ls hf hl hk
      unfold f_X6_signByPairs_L14 at hf
      refine lv_iload hx hb dX6_signByPairs_14 (lv_at hl 4 rfl) ?_
      refine lv_iload_n hx hb dX6_signByPairs_16 rfl (lv_at hl 1 rfl) ?_
      refine lv_icmp_gt (tgt := 43) hx hb dX6_signByPairs_17 (by decide) (fun c3 => ?_) (fun c3 => ?_)
      · have hf := ite_t c3 hf
        exact hk _ _ _ hf (lv_sub hl [0, 1, 2, 3] rfl)
      have hf := ite_f c3 hf
      refine lv_iload_n hx hb dX6_signByPairs_20 rfl (lv_at hl 0 rfl) ?_
      refine lv_iload_n hx hb dX6_signByPairs_21 rfl (lv_at hl 3 rfl) ?_
      refine af_oi (run_S (As := [.int s0, .int s3]) (rest := []) E (c_X6_bellAt l D Y s0 s3 (f_X6_bellAt s0 s3) rfl) qw416 qw417 qw34 qw418 rfl rfl hd_X6_bellAt ⟨Nat.le_of_ble_eq_true rfl, Nat.le_of_ble_eq_true rfl⟩ (pre_roS hP hE [] rfl) rfl hl.1 rfl (Nat.le_of_ble_eq_true rfl) dX6_signByPairs_22 ⟨Nat.zero_le _, Nat.zero_le _⟩) ?_
      refine lv_iload_n hx hb dX6_signByPairs_25 rfl (lv_at hl 0 rfl) ?_
      refine lv_iload hx hb dX6_signByPairs_26 (lv_at hl 4 rfl) ?_
      refine af_oi (run_S (As := [.int s0, .int s4]) (rest := [.int (f_X6_bellAt s0 s3)]) E (c_X6_bellAt l D Y s0 s4 (f_X6_bellAt s0 s4) rfl) qw416 qw417 qw34 qw418 rfl rfl hd_X6_bellAt ⟨Nat.le_of_ble_eq_true rfl, Nat.le_of_ble_eq_true rfl⟩ (pre_roS hP hE [] rfl) rfl hl.1 rfl (Nat.le_of_ble_eq_true rfl) dX6_signByPairs_28 ⟨Nat.zero_le _, Nat.zero_le _⟩) ?_
      refine mg (P := fun (w4 : Int32) => ∀ (ls : Array Slot), lv_has ls 5 [(0, .int s0), (1, .int s1), (2, .int w4), (3, .int s3), (4, .int s4)] → W p l e rm_X6_signByPairs s m args below meth c s.heap [] 0 0 Q (F0 m 37 ls [])) hf (fun w4 hf ls hl => ?_) (fun hJ => ?_)
      · refine lv_iinc (v := (s4 + 1)) (lv' := [(4, .int (s4 + 1)), (0, .int s0), (1, .int s1), (2, .int w4), (3, .int s3)]) hx hb dX6_signByPairs_37 hl (k := 4) rfl rfl (by decide) rfl (fun ls hl => ?_)
        refine lv_goto (tgt := 14) hx hb dX6_signByPairs_40 (by decide) ?_
        exact ih _ _ _ _ _ _ _ hf (lv_sub hl [1, 2, 3, 4, 0] rfl) hk
      refine lv_icmp_le (tgt := 37) hx hb dX6_signByPairs_31 (by decide) (fun c5 => ?_) (fun c5 => ?_)
      · have hf := nmi_t c5 hf
        exact hJ _ (nm_b hf) _ (lv_sub hl [0, 1, 2, 3, 4] rfl)
      have hf := nmi_f c5 hf
      refine lv_iinc (v := (s2 + 1)) (lv' := [(2, .int (s2 + 1)), (0, .int s0), (1, .int s1), (3, .int s3), (4, .int s4)]) hx hb dX6_signByPairs_34 hl (k := 2) rfl rfl (by decide) rfl (fun ls hl => ?_)
      exact hJ _ (nm_b hf) _ (lv_sub hl [1, 2, 0, 3, 4] rfl)
  have L4 : ∀ (n : Nat) (k : Int32 → Int32 → Option (Int32)) (s0 : Int32) (s1 : Int32) (s2 : Int32) (s3 : Int32) (ls : Array Slot), f_X6_signByPairs_L4 k s0 s1 n s2 s3 = some R → lv_has ls 5 [(0, .int s0), (1, .int s1), (2, .int s2), (3, .int s3)] → (∀ (y_s2 : Int32) (y_s3 : Int32) (ls : Array Slot), k y_s2 y_s3 = some R → lv_has ls 5 [(2, .int y_s2)] → W p l e rm_X6_signByPairs s m args below meth c s.heap [] 0 0 Q (F0 m 49 ls [])) → W p l e rm_X6_signByPairs s m args below meth c s.heap [] 0 0 Q (F0 m 4 ls []) := by
    intro n
    induction n with
    | zero =>
      intro k s0 s1 s2 s3 ls hf
      cases hf
    | succ n ih =>
      intro k s0 s1 s2 s3 ls hf hl hk
      unfold f_X6_signByPairs_L4 at hf
      refine lv_iload_n hx hb dX6_signByPairs_4 rfl (lv_at hl 3 rfl) ?_
      refine lv_iload_n hx hb dX6_signByPairs_5 rfl (lv_at hl 1 rfl) ?_
      refine lv_icmp_gt (tgt := 49) hx hb dX6_signByPairs_6 (by decide) (fun c1 => ?_) (fun c1 => ?_)
      · have hf := ite_t c1 hf
        exact hk _ _ _ hf (lv_sub hl [2] rfl)
      have hf := ite_f c1 hf
      refine lv_iload_n hx hb dX6_signByPairs_9 rfl (lv_at hl 3 rfl) ?_
      refine lv_iconst (v := 1) hx hb dX6_signByPairs_10 (by decide) ?_
      refine lv_iadd hx hb dX6_signByPairs_11 ?_
      refine nm_W hf (fun x2 hf => ?_)
      refine lv_istore (lv' := [(4, .int x2), (0, .int s0), (1, .int s1), (2, .int s2), (3, .int s3)]) hx hb dX6_signByPairs_12 hl (by decide) rfl (fun ls hl => ?_)
      refine L14 _ _ _ _ _ _ _ _ hf (lv_sub hl [1, 2, 3, 4, 0] rfl) ?_
      intro y6 y7 ls hf hl
      refine lv_iinc (v := (s3 + 1)) (lv' := [(3, .int (s3 + 1)), (0, .int s0), (1, .int s1), (2, .int y6)]) hx hb dX6_signByPairs_43 hl (k := 3) rfl rfl (by decide) rfl (fun ls hl => ?_)
      refine lv_goto (tgt := 4) hx hb dX6_signByPairs_46 (by decide) ?_
      exact ih _ _ _ _ _ _ hf (lv_sub hl [1, 2, 3, 0] rfl) hk
  refine lv_iconst (v := 0) hx hb dX6_signByPairs_0 (by decide) ?_
  refine lv_istore_n (lv' := [(2, .int 0), (0, .int s0), (1, .int s1)]) hx hb dX6_signByPairs_1 rfl hl (by decide) rfl (fun ls hl => ?_)
  refine lv_iconst (v := 1) hx hb dX6_signByPairs_2 (by decide) ?_
  refine lv_istore_n (lv' := [(3, .int 1), (2, .int 0), (0, .int s0), (1, .int s1)]) hx hb dX6_signByPairs_3 rfl hl (by decide) rfl (fun ls hl => ?_)
  refine L4 _ _ _ _ _ _ _ hf (lv_sub hl [2, 3, 1, 0] rfl) ?_
  intro y8 y9 ls hf hl
  refine lv_iload_n hx hb dX6_signByPairs_49 rfl (lv_at hl 0 rfl) ?_
  refine lv_iconst (v := 2) hx hb dX6_signByPairs_50 (by decide) ?_
  refine lv_irem hx hb dX6_signByPairs_51 (by decide) ?_
  obtain rfl := Option.some.inj hf
  subst hQ
  exact en_oi hx hb hr hlocks rfl dX6_signByPairs_52

def f_X6_placeOf_L2 (s0 : Int32) (s1 : Int32) (s2 : Int32) : Nat → Int32 → Option (Int32)
  | 0, _ => none
  | n + 1, s3 => (if s2 ≤ s3 then some s2 else (if (f_X6_bellAt s0 s3) = s1 then some s3 else (f_X6_placeOf_L2 s0 s1 s2 n (s3 + 1))))
def f_X6_placeOf (s0 : Int32) (s1 : Int32) (s2 : Int32) : Option (Int32) :=
  (f_X6_placeOf_L2 s0 s1 s2 fu 1)
abbrev rm_X6_placeOf : Room := { frames := 2, cells := 0, slots := 0, locals := 45 }
set_option maxHeartbeats 4000000 in
set_option maxRecDepth 100000 in
theorem c_X6_placeOf (l : Launch) (D : va_G) (Y : ClassId × ClassId × ClassId × ClassId) (s0 : Int32) (s1 : Int32) (s2 : Int32) (R : Int32) (hf : f_X6_placeOf s0 s1 s2 = some R) : Met l yX6_placeOf (ws_ yX6_placeOf cX6_placeOf 4 (some .int)) rm_X6_placeOf (va_Pc [.int s0, .int s1, .int s2] (RO D Y [])) (OI R) 0 0 (fun _ => False) := by
  refine ro_start (by decide) (Nat.le_of_ble_eq_true rfl) ?_
  intro p e s m below meth c ls hx hb hml hr hlocks hown hts hP hE hl
  generalize hargs : List.toArray _ = args at hts ⊢
  have hown : s.vm.findClass RX6 = some m.cls := hown
  have E : EN p m c cX6_placeOf 4 s args RX6 := ⟨hx, hb, hml, hown, hts⟩
  have hl : lv_has ls 4 [(0, .int s0), (1, .int s1), (2, .int s2)] := hl
  generalize hQ : MQ below _ args s 0 0 _ = Q
  unfold f_X6_placeOf at hf
  have L2 : ∀ (n : Nat) (s0 : Int32) (s1 : Int32) (s2 : Int32) (s3 : Int32) (ls : Array Slot), f_X6_placeOf_L2 s0 s1 s2 n s3 = some R → lv_has ls 4 [(0, .int s0), (1, .int s1), (2, .int s2), (3, .int s3)] → W p l e rm_X6_placeOf s m args below meth c s.heap [] 0 0 Q (F0 m 2 ls []) := by
    intro n
    induction n with
    | zero =>
      intro s0 s1 s2 s3 ls hf
      cases hf
    | succ n ih =>
      intro s0 s1 s2 s3 ls hf hl
      unfold f_X6_placeOf_L2 at hf
      refine lv_iload_n hx hb dX6_placeOf_2 rfl (lv_at hl 3 rfl) ?_
      refine lv_iload_n hx hb dX6_placeOf_3 rfl (lv_at hl 2 rfl) ?_
      refine lv_icmp_ge (tgt := 24) hx hb dX6_placeOf_4 (by decide) (fun c1 => ?_) (fun c1 => ?_)
      · have hf := ite_t c1 hf
        refine lv_iload_n hx hb dX6_placeOf_24 rfl (lv_at hl 2 rfl) ?_
        obtain rfl := Option.some.inj hf
        subst hQ
        exact en_oi hx hb hr hlocks rfl dX6_placeOf_25
      have hf := ite_f c1 hf
      refine lv_iload_n hx hb dX6_placeOf_7 rfl (lv_at hl 0 rfl) ?_
      refine lv_iload_n hx hb dX6_placeOf_8 rfl (lv_at hl 3 rfl) ?_
      refine af_oi (run_S (As := [.int s0, .int s3]) (rest := []) E (c_X6_bellAt l D Y s0 s3 (f_X6_bellAt s0 s3) rfl) qw416 qw417 qw34 qw418 rfl rfl hd_X6_bellAt ⟨Nat.le_of_ble_eq_true rfl, Nat.le_of_ble_eq_true rfl⟩ (pre_roS hP hE [] rfl) rfl hl.1 rfl (Nat.le_of_ble_eq_true rfl) dX6_placeOf_9 ⟨Nat.zero_le _, Nat.zero_le _⟩) ?_
      refine lv_iload_n hx hb dX6_placeOf_12 rfl (lv_at hl 1 rfl) ?_
      refine lv_icmp_ne (tgt := 18) hx hb dX6_placeOf_13 (by decide) (fun c2 => ?_) (fun c2 => ?_)
      · have hf := ite_f c2 hf
        refine lv_iinc (v := (s3 + 1)) (lv' := [(3, .int (s3 + 1)), (0, .int s0), (1, .int s1), (2, .int s2)]) hx hb dX6_placeOf_18 hl (k := 3) rfl rfl (by decide) rfl (fun ls hl => ?_)
        refine lv_goto (tgt := 2) hx hb dX6_placeOf_21 (by decide) ?_
        exact ih _ _ _ _ _ hf (lv_sub hl [1, 2, 3, 0] rfl)
      have hf := ite_t c2 hf
      refine lv_iload_n hx hb dX6_placeOf_16 rfl (lv_at hl 3 rfl) ?_
      obtain rfl := Option.some.inj hf
      subst hQ
      exact en_oi hx hb hr hlocks rfl dX6_placeOf_17
  refine lv_iconst (v := 1) hx hb dX6_placeOf_0 (by decide) ?_
  refine lv_istore_n (lv' := [(3, .int 1), (0, .int s0), (1, .int s1), (2, .int s2)]) hx hb dX6_placeOf_1 rfl hl (by decide) rfl (fun ls hl => ?_)
  exact L2 _ _ _ _ _ _ hf (lv_sub hl [1, 2, 3, 0] rfl)
