def f_L_ring_L5 (s0 : Int32) (s1 : Int32) : Nat → Int32 → Int32 → (Nat → Int32) → Option ((Nat → Int32))
  | 0, _, _, _ => none
  | n + 1, s3, s4, f_p2 => (if s0 ≤ s4 then some f_p2 else jj (fun (kk3 : (Int32 × (Nat → Int32)) → Option ((Nat → Int32))) => (if ((s1 >>> (s4 &&& 31)) &&& 1) = 0 then (if (0 : Int32) ≤ s3 then gd (inb s3 7) (nm (f_p2 s3.toNatClampNeg) (fun (x7 : Int32) => gd (inb s4 7) (kk3 ((-1), (upd (upd f_p2 s3.toNatClampNeg (f_p2 s4.toNatClampNeg)) s4.toNatClampNeg x7))))) else kk3 (s4, f_p2)) else kk3 (s3, f_p2))) (fun (w2 : Int32 × (Nat → Int32)) => (f_L_ring_L5 s0 s1 n w2.1 (s4 + 1) w2.2)))
def f_L_ring (s0 : Int32) (s1 : Int32) (f_p2 : Nat → Int32) : Option ((Nat → Int32)) :=
  (f_L_ring_L5 s0 s1 fu (-1) 0 f_p2)
abbrev rm_L_ring : Room := { frames := 1, cells := 0, slots := 0, locals := 24 }
set_option maxHeartbeats 4000000 in
set_option maxRecDepth 100000 in
theorem c_L_ring (l : Launch) (D : va_G) (Y : ClassId × ClassId × ClassId × ClassId) (a_p2 : Nat) (f_p2 : Nat → Int32) (s0 : Int32) (s1 : Int32) (sz : Nat) (R : (Nat → Int32)) (hf : f_L_ring s0 s1 f_p2 = some R) : Met l yL_ring (ws_ yL_ring cL_ring 6 none) rm_L_ring (va_Pc [.int s0, .int s1, .ref a_p2] (RW D Y sz [(a_p2, .inl (Y.1, 7, .inl f_p2))])) (QV D [(a_p2, .inl (Y.1, 7, .inl R))] (va_A [(a_p2, .inl (Y.1, 7, .inl f_p2))] sz)) 0 0 (va_A [(a_p2, .inl (Y.1, 7, .inl f_p2))] sz) := by
  refine rw_start (Qc := (fun A => QV D [(a_p2, .inl (Y.1, 7, .inl R))] A)) (by decide) (Nat.le_of_ble_eq_true rfl) ?_
  intro p e s m below meth c ls A hx hb hml hr hlocks hown hts hnm hA hP hD hS hE hl
  generalize hargs : List.toArray _ = args at hts ⊢
  have hown : s.vm.findClass RL = some m.cls := hown
  have E : EN p m c cL_ring 6 s args RL := ⟨hx, hb, hml, hown, hts⟩
  have hl : lv_has ls 6 [(0, .int s0), (1, .int s1), (2, .ref a_p2)] := hl
  generalize hQ : MQ below _ args s 0 0 _ = Q
  unfold f_L_ring at hf
  have L5 : ∀ (n : Nat) (s0 : Int32) (s1 : Int32) (s3 : Int32) (s4 : Int32) (f_p2 : Nat → Int32) (H : Heap) (locs : List Loc) (ls : Array Slot), f_L_ring_L5 s0 s1 n s3 s4 f_p2 = some R → va_P D vwCl [(a_p2, .inl (Y.1, 7, .inl f_p2))] H → va_D A [(a_p2, .inl (Y.1, 7, .inl f_p2))] → va_S A s.heap H locs → lv_has ls 6 [(0, .int s0), (1, .int s1), (2, .ref a_p2), (3, .int s3), (4, .int s4)] → W p l e rm_L_ring s m args below meth c H locs 0 0 Q (F0 m 5 ls []) := by
    intro n
    induction n with
    | zero =>
      intro s0 s1 s3 s4 f_p2 H locs ls hf
      cases hf
    | succ n ih =>
      intro s0 s1 s3 s4 f_p2 H locs ls hf hP hD hS hl
      unfold f_L_ring_L5 at hf
      refine lv_iload hx hb dL_ring_5 (lv_at hl 4 rfl) ?_
      refine lv_iload_n hx hb dL_ring_7 rfl (lv_at hl 0 rfl) ?_
      refine lv_icmp_ge (tgt := 56) hx hb dL_ring_8 (by decide) (fun c1 => ?_) (fun c1 => ?_)
      · have hf := ite_t c1 hf
        obtain rfl := Option.some.inj hf
        subst hQ
        exact en_v hx hb hr hlocks hP hD hS dL_ring_56
      have hf := ite_f c1 hf
      refine lv_iload_n hx hb dL_ring_11 rfl (lv_at hl 1 rfl) ?_
      refine lv_iload hx hb dL_ring_12 (lv_at hl 4 rfl) ?_
      refine lv_ishr hx hb dL_ring_14 ?_
      refine lv_iconst (v := 1) hx hb dL_ring_15 (by decide) ?_
      refine lv_iand hx hb dL_ring_16 ?_
      refine jj_W (P := fun (w2 : Int32 × (Nat → Int32)) => ∀ (H : Heap) (locs : List Loc) (ls : Array Slot), va_P D vwCl [(a_p2, .inl (Y.1, 7, .inl w2.2))] H → va_D A [(a_p2, .inl (Y.1, 7, .inl w2.2))] → va_S A s.heap H locs → lv_has ls 6 [(0, .int s0), (1, .int s1), (2, .ref a_p2), (3, .int w2.1), (4, .int s4)] → W p l e rm_L_ring s m args below meth c H locs 0 0 Q (F0 m 50 ls [])) hf (fun w2 hf H locs ls hP hD hS hl => ?_) (fun kk3 hkk3 hf => ?_)
      · refine lv_iinc (v := (s4 + 1)) (lv' := [(4, .int (s4 + 1)), (0, .int s0), (1, .int s1), (2, .ref a_p2), (3, .int w2.1)]) hx hb dL_ring_50 hl (k := 4) rfl rfl (by decide) rfl (fun ls hl => ?_)
        refine lv_goto (tgt := 5) hx hb dL_ring_53 (by decide) ?_
        exact ih _ _ _ _ _ _ _ _ hf hP hD hS (lv_sub hl [1, 2, 3, 4, 0] rfl)
      refine lv_if_ne (tgt := 50) hx hb dL_ring_17 (by decide) (fun c4 => ?_) (fun c4 => ?_)
      · have hf := ite_f c4 hf
        exact hkk3 _ hf _ _ _ hP hD hS (lv_sub hl [0, 1, 2, 3, 4] rfl)
      have hf := ite_t c4 hf
      refine lv_iload_n hx hb dL_ring_20 rfl (lv_at hl 3 rfl) ?_
      refine lv_if_ge (tgt := 30) hx hb dL_ring_21 (by decide) (fun c5 => ?_) (fun c5 => ?_)
      · have hf := ite_t c5 hf
        refine lv_aload_n hx hb dL_ring_30 rfl (lv_at hl 2 rfl) ?_
        refine lv_iload_n hx hb dL_ring_31 rfl (lv_at hl 3 rfl) ?_
        obtain ⟨g6, hf⟩ := gd_s hf
        refine va_iald hx hb hE.1 hP 0 0 rfl rfl (inb_in g6) dL_ring_32 ?_
        refine nm_W hf (fun x7 hf => ?_)
        refine lv_istore (lv' := [(5, .int x7), (0, .int s0), (1, .int s1), (2, .ref a_p2), (3, .int s3), (4, .int s4)]) hx hb dL_ring_33 hl (by decide) rfl (fun ls hl => ?_)
        refine lv_aload_n hx hb dL_ring_35 rfl (lv_at hl 3 rfl) ?_
        refine lv_iload_n hx hb dL_ring_36 rfl (lv_at hl 4 rfl) ?_
        refine lv_aload_n hx hb dL_ring_37 rfl (lv_at hl 3 rfl) ?_
        refine lv_iload hx hb dL_ring_38 (lv_at hl 5 rfl) ?_
        obtain ⟨g8, hf⟩ := gd_s hf
        refine va_iald hx hb hE.1 hP 0 0 rfl rfl (inb_in g8) dL_ring_40 ?_
        refine va_iast hx hb hE.1 hP hD hS 0 0 rfl rfl (inb_in g6) dL_ring_41 (fun H locs hP hD hS => ?_)
        have hP : va_P D vwCl [(a_p2, .inl (Y.1, 7, .inl (upd f_p2 s3.toNatClampNeg (f_p2 s4.toNatClampNeg))))] H := hP
        have hD : va_D A [(a_p2, .inl (Y.1, 7, .inl (upd f_p2 s3.toNatClampNeg (f_p2 s4.toNatClampNeg))))] := hD
        refine lv_aload_n hx hb dL_ring_42 rfl (lv_at hl 3 rfl) ?_
        refine lv_iload hx hb dL_ring_43 (lv_at hl 5 rfl) ?_
        refine lv_iload hx hb dL_ring_45 (lv_at hl 0 rfl) ?_
        refine va_iast hx hb hE.1 hP hD hS 0 0 rfl rfl (inb_in g8) dL_ring_47 (fun H locs hP hD hS => ?_)
        have hP : va_P D vwCl [(a_p2, .inl (Y.1, 7, .inl (upd (upd f_p2 s3.toNatClampNeg (f_p2 s4.toNatClampNeg)) s4.toNatClampNeg x7)))] H := hP
        have hD : va_D A [(a_p2, .inl (Y.1, 7, .inl (upd (upd f_p2 s3.toNatClampNeg (f_p2 s4.toNatClampNeg)) s4.toNatClampNeg x7)))] := hD
        refine lv_iconst (v := (-1)) hx hb dL_ring_48 (by decide) ?_
        refine lv_istore_n (lv' := [(3, .int (-1)), (5, .int x7), (0, .int s0), (1, .int s1), (2, .ref a_p2), (4, .int s4)]) hx hb dL_ring_49 rfl hl (by decide) rfl (fun ls hl => ?_)
        exact hkk3 _ hf _ _ _ hP hD hS (lv_sub hl [2, 3, 4, 0, 5] rfl)
      have hf := ite_f c5 hf
      refine lv_iload hx hb dL_ring_24 (lv_at hl 4 rfl) ?_
      refine lv_istore_n (lv' := [(3, .int s4), (0, .int s0), (1, .int s1), (2, .ref a_p2), (4, .int s4)]) hx hb dL_ring_26 rfl hl (by decide) rfl (fun ls hl => ?_)
      refine lv_goto (tgt := 50) hx hb dL_ring_27 (by decide) ?_
      exact hkk3 _ hf _ _ _ hP hD hS (lv_sub hl [1, 2, 3, 0, 4] rfl)
  refine lv_iconst (v := (-1)) hx hb dL_ring_0 (by decide) ?_
  refine lv_istore_n (lv' := [(3, .int (-1)), (0, .int s0), (1, .int s1), (2, .ref a_p2)]) hx hb dL_ring_1 rfl hl (by decide) rfl (fun ls hl => ?_)
  refine lv_iconst (v := 0) hx hb dL_ring_2 (by decide) ?_
  refine lv_istore (lv' := [(4, .int 0), (3, .int (-1)), (0, .int s0), (1, .int s1), (2, .ref a_p2)]) hx hb dL_ring_3 hl (by decide) rfl (fun ls hl => ?_)
  exact L5 _ _ _ _ _ _ _ _ _ hf hP hD hS (lv_sub hl [2, 3, 4, 1, 0] rfl)

def f_L_rounds_L2 (s0 : Int32) : Nat → Int32 → (Nat → Int32) → Option ((Nat → Int32))
  | 0, _, _ => none
  | n + 1, s2, f_p1 => (if s0 ≤ s2 then some f_p1 else gd (inb s2 7) ((f_L_rounds_L2 s0 n (s2 + 1) (upd f_p1 s2.toNatClampNeg (s2 + 1)))))
def f_L_rounds (s0 : Int32) (f_p1 : Nat → Int32) : Option ((Nat → Int32)) :=
  (f_L_rounds_L2 s0 fu 0 f_p1)
abbrev rm_L_rounds : Room := { frames := 1, cells := 0, slots := 0, locals := 24 }
set_option maxHeartbeats 4000000 in
set_option maxRecDepth 100000 in
theorem c_L_rounds (l : Launch) (D : va_G) (Y : ClassId × ClassId × ClassId × ClassId) (a_p1 : Nat) (f_p1 : Nat → Int32) (s0 : Int32) (sz : Nat) (R : (Nat → Int32)) (hf : f_L_rounds s0 f_p1 = some R) : Met l yL_rounds (ws_ yL_rounds cL_rounds 3 none) rm_L_rounds (va_Pc [.int s0, .ref a_p1] (RW D Y sz [(a_p1, .inl (Y.1, 7, .inl f_p1))])) (QV D [(a_p1, .inl (Y.1, 7, .inl R))] (va_A [(a_p1, .inl (Y.1, 7, .inl f_p1))] sz)) 0 0 (va_A [(a_p1, .inl (Y.1, 7, .inl f_p1))] sz) := by
  refine rw_start (Qc := (fun A => QV D [(a_p1, .inl (Y.1, 7, .inl R))] A)) (by decide) (Nat.le_of_ble_eq_true rfl) ?_
  intro p e s m below meth c ls A hx hb hml hr hlocks hown hts hnm hA hP hD hS hE hl
  generalize hargs : List.toArray _ = args at hts ⊢
  have hown : s.vm.findClass RL = some m.cls := hown
  have E : EN p m c cL_rounds 3 s args RL := ⟨hx, hb, hml, hown, hts⟩
  have hl : lv_has ls 3 [(0, .int s0), (1, .ref a_p1)] := hl
  generalize hQ : MQ below _ args s 0 0 _ = Q
  unfold f_L_rounds at hf
  have L2 : ∀ (n : Nat) (s0 : Int32) (s2 : Int32) (f_p1 : Nat → Int32) (H : Heap) (locs : List Loc) (ls : Array Slot), f_L_rounds_L2 s0 n s2 f_p1 = some R → va_P D vwCl [(a_p1, .inl (Y.1, 7, .inl f_p1))] H → va_D A [(a_p1, .inl (Y.1, 7, .inl f_p1))] → va_S A s.heap H locs → lv_has ls 3 [(0, .int s0), (1, .ref a_p1), (2, .int s2)] → W p l e rm_L_rounds s m args below meth c H locs 0 0 Q (F0 m 2 ls []) := by
    intro n
    induction n with
    | zero =>
      intro s0 s2 f_p1 H locs ls hf
      cases hf
    | succ n ih =>
      intro s0 s2 f_p1 H locs ls hf hP hD hS hl
      unfold f_L_rounds_L2 at hf
      refine lv_iload_n hx hb dL_rounds_2 rfl (lv_at hl 2 rfl) ?_
      refine lv_iload_n hx hb dL_rounds_3 rfl (lv_at hl 0 rfl) ?_
      refine lv_icmp_ge (tgt := 19) hx hb dL_rounds_4 (by decide) (fun c1 => ?_) (fun c1 => ?_)
      · have hf := ite_t c1 hf
        obtain rfl := Option.some.inj hf
        subst hQ
        exact en_v hx hb hr hlocks hP hD hS dL_rounds_19
      have hf := ite_f c1 hf
      refine lv_aload_n hx hb dL_rounds_7 rfl (lv_at hl 1 rfl) ?_
      refine lv_iload_n hx hb dL_rounds_8 rfl (lv_at hl 2 rfl) ?_
      refine lv_iload_n hx hb dL_rounds_9 rfl (lv_at hl 2 rfl) ?_
      refine lv_iconst (v := 1) hx hb dL_rounds_10 (by decide) ?_
      refine lv_iadd hx hb dL_rounds_11 ?_
      obtain ⟨g2, hf⟩ := gd_s hf
      refine va_iast hx hb hE.1 hP hD hS 0 0 rfl rfl (inb_in g2) dL_rounds_12 (fun H locs hP hD hS => ?_)
      have hP : va_P D vwCl [(a_p1, .inl (Y.1, 7, .inl (upd f_p1 s2.toNatClampNeg (s2 + 1))))] H := hP
      have hD : va_D A [(a_p1, .inl (Y.1, 7, .inl (upd f_p1 s2.toNatClampNeg (s2 + 1))))] := hD
      refine lv_iinc (v := (s2 + 1)) (lv' := [(2, .int (s2 + 1)), (0, .int s0), (1, .ref a_p1)]) hx hb dL_rounds_13 hl (k := 2) rfl rfl (by decide) rfl (fun ls hl => ?_)
      refine lv_goto (tgt := 2) hx hb dL_rounds_16 (by decide) ?_
      exact ih _ _ _ _ _ _ hf hP hD hS (lv_sub hl [1, 2, 0] rfl)
  refine lv_iconst (v := 0) hx hb dL_rounds_0 (by decide) ?_
  refine lv_istore_n (lv' := [(2, .int 0), (0, .int s0), (1, .ref a_p1)]) hx hb dL_rounds_1 rfl hl (by decide) rfl (fun ls hl => ?_)
  exact L2 _ _ _ _ _ _ _ hf hP hD hS (lv_sub hl [1, 2, 0] rfl)

def f_L_beginning_L37 (k : Int32 → (Nat → Int32) → Option ((Nat → Int32) × (Nat → Int32) × (Nat → Int32))) (s3 : Int32) (s4 : Int32) (s5 : Int32) (f_p0 : Nat → Int32) (f_p2 : Nat → Int32) : Nat → Int32 → (Nat → Int32) → Option ((Nat → Int32) × (Nat → Int32) × (Nat → Int32))
  | 0, _, _ => none
  | n + 1, s6, f_p1 => (if ((2 : Int32) * s3) ≤ s6 then (k s6 f_p1) else nm (if (s6 - s6 / 2 * 2) = 0 then (if s5 = 0 then s4 else (0 : Int32)) else (if s5 = 0 then (1 : Int32) else ((1 : Int32) + s4))) (fun (w4 : Int32) => gd (inb s6 20) ((f_L_beginning_L37 k s3 s4 s5 f_p0 f_p2 n (s6 + 1) (upd f_p1 s6.toNatClampNeg w4)))))
def f_L_beginning (s3 : Int32) (f_p0 : Nat → Int32) (f_p1 : Nat → Int32) (f_p2 : Nat → Int32) : Option ((Nat → Int32) × (Nat → Int32) × (Nat → Int32)) :=
  nm ((1 : Int32) <<< ((s3 - 1) &&& 31)) (fun (x1 : Int32) => nm (if (s3 - s3 / 2 * 2) = 0 then (1 : Int32) else (0 : Int32)) (fun (w2 : Int32) => (f_L_beginning_L37 (fun (y9 : Int32) (y10 : Nat → Int32) => nm (if w2 = 0 then ((3 : Int32) + x1) else (3 : Int32)) (fun (w11 : Int32) => gd (inb (((2 : Int32) * s3) - 1) 20) (nm (if s3 = 4 then (9 : Int32) else (if w2 = 0 then ((9 : Int32) + x1) else (9 : Int32))) (fun (w13 : Int32) => nm (if s3 = 4 then (12 : Int32) else (if s3 = 5 then (7 : Int32) else (if s3 = 6 then (15 : Int32) else (79 : Int32)))) (fun (w14 : Int32) => some ((upd (upd (upd f_p0 (0 : Int32).toNatClampNeg s3) (1 : Int32).toNatClampNeg ((2 : Int32) * s3)) (2 : Int32).toNatClampNeg 0), (upd y10 (((2 : Int32) * s3) - 1).toNatClampNeg w11), (upd (upd f_p2 (1 : Int32).toNatClampNeg w13) (2 : Int32).toNatClampNeg w14))))))) s3 x1 w2 (upd (upd (upd f_p0 (0 : Int32).toNatClampNeg s3) (1 : Int32).toNatClampNeg ((2 : Int32) * s3)) (2 : Int32).toNatClampNeg 0) f_p2 fu 0 f_p1)))
abbrev rm_L_beginning : Room := { frames := 1, cells := 0, slots := 0, locals := 24 }
set_option maxHeartbeats 4000000 in
set_option maxRecDepth 100000 in
theorem c_L_beginning (l : Launch) (D : va_G) (Y : ClassId × ClassId × ClassId × ClassId) (a_p0 a_p1 a_p2 : Nat) (f_p0 : Nat → Int32) (f_p1 : Nat → Int32) (f_p2 : Nat → Int32) (s3 : Int32) (sz : Nat) (R : (Nat → Int32) × (Nat → Int32) × (Nat → Int32)) (hf : f_L_beginning s3 f_p0 f_p1 f_p2 = some R) : Met l yL_beginning (ws_ yL_beginning cL_beginning 7 none) rm_L_beginning (va_Pc [.ref a_p0, .ref a_p1, .ref a_p2, .int s3] (RW D Y sz [(a_p0, .inl (Y.1, 3, .inl f_p0)), (a_p1, .inl (Y.1, 20, .inl f_p1)), (a_p2, .inl (Y.1, 3, .inl f_p2))])) (QV D [(a_p0, .inl (Y.1, 3, .inl R.1)), (a_p1, .inl (Y.1, 20, .inl R.2.1)), (a_p2, .inl (Y.1, 3, .inl R.2.2))] (va_A [(a_p0, .inl (Y.1, 3, .inl f_p0)), (a_p1, .inl (Y.1, 20, .inl f_p1)), (a_p2, .inl (Y.1, 3, .inl f_p2))] sz)) 0 0 (va_A [(a_p0, .inl (Y.1, 3, .inl f_p0)), (a_p1, .inl (Y.1, 20, .inl f_p1)), (a_p2, .inl (Y.1, 3, .inl f_p2))] sz) := by
  refine rw_start (Qc := (fun A => QV D [(a_p0, .inl (Y.1, 3, .inl R.1)), (a_p1, .inl (Y.1, 20, .inl R.2.1)), (a_p2, .inl (Y.1, 3, .inl R.2.2))] A)) (by decide) (Nat.le_of_ble_eq_true rfl) ?_
  intro p e s m below meth c ls A hx hb hml hr hlocks hown hts hnm hA hP hD hS hE hl
  generalize hargs : List.toArray _ = args at hts ⊢
  have hown : s.vm.findClass RL = some m.cls := hown
  have E : EN p m c cL_beginning 7 s args RL := ⟨hx, hb, hml, hown, hts⟩
  have hl : lv_has ls 7 [(0, .ref a_p0), (1, .ref a_p1), (2, .ref a_p2), (3, .int s3)] := hl
  generalize hQ : MQ below _ args s 0 0 _ = Q
  unfold f_L_beginning at hf
  have L37 : ∀ (n : Nat) (k : Int32 → (Nat → Int32) → Option ((Nat → Int32) × (Nat → Int32) × (Nat → Int32))) (s3 : Int32) (s4 : Int32) (s5 : Int32) (f_p0 : Nat → Int32) (f_p2 : Nat → Int32) (s6 : Int32) (f_p1 : Nat → Int32) (H : Heap) (locs : List Loc) (ls : Array Slot), f_L_beginning_L37 k s3 s4 s5 f_p0 f_p2 n s6 f_p1 = some R → va_P D vwCl [(a_p0, .inl (Y.1, 3, .inl f_p0)), (a_p1, .inl (Y.1, 20, .inl f_p1)), (a_p2, .inl (Y.1, 3, .inl f_p2))] H → va_D A [(a_p0, .inl (Y.1, 3, .inl f_p0)), (a_p1, .inl (Y.1, 20, .inl f_p1)), (a_p2, .inl (Y.1, 3, .inl f_p2))] → va_S A s.heap H locs → lv_has ls 7 [(1, .ref a_p1), (2, .ref a_p2), (3, .int s3), (4, .int s4), (5, .int s5), (6, .int s6)] → (∀ (y_s6 : Int32) (y_f_p1 : Nat → Int32) (H : Heap) (locs : List Loc) (ls : Array Slot), k y_s6 y_f_p1 = some R → va_P D vwCl [(a_p0, .inl (Y.1, 3, .inl f_p0)), (a_p1, .inl (Y.1, 20, .inl y_f_p1)), (a_p2, .inl (Y.1, 3, .inl f_p2))] H → va_D A [(a_p0, .inl (Y.1, 3, .inl f_p0)), (a_p1, .inl (Y.1, 20, .inl y_f_p1)), (a_p2, .inl (Y.1, 3, .inl f_p2))] → va_S A s.heap H locs → lv_has ls 7 [(1, .ref a_p1), (2, .ref a_p2), (3, .int s3), (4, .int s4), (5, .int s5)] → W p l e rm_L_beginning s m args below meth c H locs 0 0 Q (F0 m 89 ls [])) → W p l e rm_L_beginning s m args below meth c H locs 0 0 Q (F0 m 37 ls []) := by
    intro n
    induction n with
    | zero =>
      intro k s3 s4 s5 f_p0 f_p2 s6 f_p1 H locs ls hf
      cases hf
    | succ n ih =>
      intro k s3 s4 s5 f_p0 f_p2 s6 f_p1 H locs ls hf hP hD hS hl hk
      unfold f_L_beginning_L37 at hf
      refine lv_iload hx hb dL_beginning_37 (lv_at hl 5 rfl) ?_
      refine lv_iconst (v := 2) hx hb dL_beginning_39 (by decide) ?_
      refine lv_iload_n hx hb dL_beginning_40 rfl (lv_at hl 2 rfl) ?_
      refine lv_imul hx hb dL_beginning_41 ?_
      refine lv_icmp_ge (tgt := 89) hx hb dL_beginning_42 (by decide) (fun c3 => ?_) (fun c3 => ?_)
      · have hf := ite_t c3 hf
        exact hk _ _ _ _ _ hf hP hD hS (lv_sub hl [0, 1, 2, 3, 4] rfl)
      have hf := ite_f c3 hf
      refine lv_aload_n hx hb dL_beginning_45 rfl (lv_at hl 0 rfl) ?_
      refine lv_iload hx hb dL_beginning_46 (lv_at hl 5 rfl) ?_
      refine lv_iload hx hb dL_beginning_48 (lv_at hl 5 rfl) ?_
      refine lv_iconst (v := 2) hx hb dL_beginning_50 (by decide) ?_
      refine lv_irem hx hb dL_beginning_51 (by decide) ?_
      refine mg (P := fun (w4 : Int32) => ∀ (ls : Array Slot), lv_has ls 7 [(1, .ref a_p1), (2, .ref a_p2), (3, .int s3), (4, .int s4), (5, .int s5), (6, .int s6)] → W p l e rm_L_beginning s m args below meth c H locs 0 0 Q (F0 m 82 ls [.int w4, .int s6, .ref a_p1])) hf (fun w4 hf ls hl => ?_) (fun hJ => ?_)
      · obtain ⟨g5, hf⟩ := gd_s hf
        refine va_iast hx hb hE.1 hP hD hS 1 0 rfl rfl (inb_in g5) dL_beginning_82 (fun H locs hP hD hS => ?_)
        have hP : va_P D vwCl [(a_p0, .inl (Y.1, 3, .inl f_p0)), (a_p1, .inl (Y.1, 20, .inl (upd f_p1 s6.toNatClampNeg w4))), (a_p2, .inl (Y.1, 3, .inl f_p2))] H := hP
        have hD : va_D A [(a_p0, .inl (Y.1, 3, .inl f_p0)), (a_p1, .inl (Y.1, 20, .inl (upd f_p1 s6.toNatClampNeg w4))), (a_p2, .inl (Y.1, 3, .inl f_p2))] := hD
        refine lv_iinc (v := (s6 + 1)) (lv' := [(6, .int (s6 + 1)), (1, .ref a_p1), (2, .ref a_p2), (3, .int s3), (4, .int s4), (5, .int s5)]) hx hb dL_beginning_83 hl (k := 5) rfl rfl (by decide) rfl (fun ls hl => ?_)
        refine lv_goto (tgt := 37) hx hb dL_beginning_86 (by decide) ?_
        exact ih _ _ _ _ _ _ _ _ _ _ _ hf hP hD hS (lv_sub hl [1, 2, 3, 4, 5, 0] rfl) hk
      refine lv_if_ne (tgt := 69) hx hb dL_beginning_52 (by decide) (fun c6 => ?_) (fun c6 => ?_)
      · have hf := nmi_f c6 hf
        refine lv_iload hx hb dL_beginning_69 (lv_at hl 4 rfl) ?_
        refine lv_if_eq (tgt := 81) hx hb dL_beginning_71 (by decide) (fun c7 => ?_) (fun c7 => ?_)
        · have hf := nmi_t c7 hf
          refine lv_iconst (v := 1) hx hb dL_beginning_81 (by decide) ?_
          exact hJ _ (nm_b hf) _ (lv_sub hl [0, 1, 2, 3, 4, 5] rfl)
        have hf := nmi_f c7 hf
        refine lv_iconst (v := 1) hx hb dL_beginning_74 (by decide) ?_
        refine lv_iload hx hb dL_beginning_75 (lv_at hl 3 rfl) ?_
        refine lv_iadd hx hb dL_beginning_77 ?_
        refine lv_goto (tgt := 82) hx hb dL_beginning_78 (by decide) ?_
        exact hJ _ (nm_b hf) _ (lv_sub hl [0, 1, 2, 3, 4, 5] rfl)
      have hf := nmi_t c6 hf
      refine lv_iload hx hb dL_beginning_55 (lv_at hl 4 rfl) ?_
      refine lv_if_eq (tgt := 64) hx hb dL_beginning_57 (by decide) (fun c8 => ?_) (fun c8 => ?_)
      · have hf := nmi_t c8 hf
        refine lv_iload hx hb dL_beginning_64 (lv_at hl 3 rfl) ?_
        refine lv_goto (tgt := 82) hx hb dL_beginning_66 (by decide) ?_
        exact hJ _ (nm_b hf) _ (lv_sub hl [0, 1, 2, 3, 4, 5] rfl)
      have hf := nmi_f c8 hf
      refine lv_iconst (v := 0) hx hb dL_beginning_60 (by decide) ?_
      refine lv_goto (tgt := 82) hx hb dL_beginning_61 (by decide) ?_
      exact hJ _ (nm_b hf) _ (lv_sub hl [0, 1, 2, 3, 4, 5] rfl)
  refine lv_iconst (v := 1) hx hb dL_beginning_0 (by decide) ?_
  refine lv_iload_n hx hb dL_beginning_1 rfl (lv_at hl 3 rfl) ?_
  refine lv_iconst (v := 1) hx hb dL_beginning_2 (by decide) ?_
  refine lv_isub hx hb dL_beginning_3 ?_
  refine lv_ishl hx hb dL_beginning_4 ?_
  refine nm_W hf (fun x1 hf => ?_)
  refine lv_istore (lv' := [(4, .int x1), (0, .ref a_p0), (1, .ref a_p1), (2, .ref a_p2), (3, .int s3)]) hx hb dL_beginning_5 hl (by decide) rfl (fun ls hl => ?_)
  refine lv_iload_n hx hb dL_beginning_7 rfl (lv_at hl 4 rfl) ?_
  refine lv_iconst (v := 2) hx hb dL_beginning_8 (by decide) ?_
  refine lv_irem hx hb dL_beginning_9 (by decide) ?_
  refine mg (P := fun (w2 : Int32) => ∀ (ls : Array Slot), lv_has ls 7 [(0, .ref a_p0), (1, .ref a_p1), (2, .ref a_p2), (3, .int s3), (4, .int x1)] → W p l e rm_L_beginning s m args below meth c s.heap [] 0 0 Q (F0 m 18 ls [.int w2])) hf (fun w2 hf ls hl => ?_) (fun hJ => ?_)
  · refine lv_istore (lv' := [(5, .int w2), (0, .ref a_p0), (1, .ref a_p1), (2, .ref a_p2), (3, .int s3), (4, .int x1)]) hx hb dL_beginning_18 hl (by decide) rfl (fun ls hl => ?_)
    refine lv_aload_n hx hb dL_beginning_20 rfl (lv_at hl 1 rfl) ?_
    refine lv_iconst (v := 0) hx hb dL_beginning_21 (by decide) ?_
    refine lv_iload_n hx hb dL_beginning_22 rfl (lv_at hl 4 rfl) ?_
    refine va_iast hx hb hE.1 hP hD hS 0 0 rfl rfl (inb_in (by decide)) dL_beginning_23 (fun H locs hP hD hS => ?_)
    have hP : va_P D vwCl [(a_p0, .inl (Y.1, 3, .inl (upd f_p0 (0 : Int32).toNatClampNeg s3))), (a_p1, .inl (Y.1, 20, .inl f_p1)), (a_p2, .inl (Y.1, 3, .inl f_p2))] H := hP
    have hD : va_D A [(a_p0, .inl (Y.1, 3, .inl (upd f_p0 (0 : Int32).toNatClampNeg s3))), (a_p1, .inl (Y.1, 20, .inl f_p1)), (a_p2, .inl (Y.1, 3, .inl f_p2))] := hD
    refine lv_aload_n hx hb dL_beginning_24 rfl (lv_at hl 1 rfl) ?_
    refine lv_iconst (v := 1) hx hb dL_beginning_25 (by decide) ?_
    refine lv_iconst (v := 2) hx hb dL_beginning_26 (by decide) ?_
    refine lv_iload_n hx hb dL_beginning_27 rfl (lv_at hl 4 rfl) ?_
    refine lv_imul hx hb dL_beginning_28 ?_
    refine va_iast hx hb hE.1 hP hD hS 0 0 rfl rfl (inb_in (by decide)) dL_beginning_29 (fun H locs hP hD hS => ?_)
    have hP : va_P D vwCl [(a_p0, .inl (Y.1, 3, .inl (upd (upd f_p0 (0 : Int32).toNatClampNeg s3) (1 : Int32).toNatClampNeg ((2 : Int32) * s3)))), (a_p1, .inl (Y.1, 20, .inl f_p1)), (a_p2, .inl (Y.1, 3, .inl f_p2))] H := hP
    have hD : va_D A [(a_p0, .inl (Y.1, 3, .inl (upd (upd f_p0 (0 : Int32).toNatClampNeg s3) (1 : Int32).toNatClampNeg ((2 : Int32) * s3)))), (a_p1, .inl (Y.1, 20, .inl f_p1)), (a_p2, .inl (Y.1, 3, .inl f_p2))] := hD
    refine lv_aload_n hx hb dL_beginning_30 rfl (lv_at hl 1 rfl) ?_
    refine lv_iconst (v := 2) hx hb dL_beginning_31 (by decide) ?_
    refine lv_iconst (v := 0) hx hb dL_beginning_32 (by decide) ?_
    refine va_iast hx hb hE.1 hP hD hS 0 0 rfl rfl (inb_in (by decide)) dL_beginning_33 (fun H locs hP hD hS => ?_)
    have hP : va_P D vwCl [(a_p0, .inl (Y.1, 3, .inl (upd (upd (upd f_p0 (0 : Int32).toNatClampNeg s3) (1 : Int32).toNatClampNeg ((2 : Int32) * s3)) (2 : Int32).toNatClampNeg 0))), (a_p1, .inl (Y.1, 20, .inl f_p1)), (a_p2, .inl (Y.1, 3, .inl f_p2))] H := hP
    have hD : va_D A [(a_p0, .inl (Y.1, 3, .inl (upd (upd (upd f_p0 (0 : Int32).toNatClampNeg s3) (1 : Int32).toNatClampNeg ((2 : Int32) * s3)) (2 : Int32).toNatClampNeg 0))), (a_p1, .inl (Y.1, 20, .inl f_p1)), (a_p2, .inl (Y.1, 3, .inl f_p2))] := hD
    refine lv_iconst (v := 0) hx hb dL_beginning_34 (by decide) ?_
    refine lv_istore (lv' := [(6, .int 0), (5, .int w2), (0, .ref a_p0), (1, .ref a_p1), (2, .ref a_p2), (3, .int s3), (4, .int x1)]) hx hb dL_beginning_35 hl (by decide) rfl (fun ls hl => ?_)
    refine L37 _ _ _ _ _ _ _ _ _ _ _ _ hf hP hD hS (lv_sub hl [3, 4, 5, 6, 1, 0] rfl) ?_
    intro y9 y10 H locs ls hf hP hD hS hl
    refine lv_aload_n hx hb dL_beginning_89 rfl (lv_at hl 0 rfl) ?_
    refine lv_iconst (v := 2) hx hb dL_beginning_90 (by decide) ?_
    refine lv_iload_n hx hb dL_beginning_91 rfl (lv_at hl 2 rfl) ?_
    refine lv_imul hx hb dL_beginning_92 ?_
    refine lv_iconst (v := 1) hx hb dL_beginning_93 (by decide) ?_
    refine lv_isub hx hb dL_beginning_94 ?_
    refine lv_iload hx hb dL_beginning_95 (lv_at hl 4 rfl) ?_
    refine mg (P := fun (w11 : Int32) => ∀ (ls : Array Slot), lv_has ls 7 [(2, .ref a_p2), (3, .int s3), (4, .int x1), (5, .int w2)] → W p l e rm_L_beginning s m args below meth c H locs 0 0 Q (F0 m 108 ls [.int w11, .int (((2 : Int32) * s3) - 1), .ref a_p1])) hf (fun w11 hf ls hl => ?_) (fun hJ => ?_)
    · obtain ⟨g12, hf⟩ := gd_s hf
      refine va_iast hx hb hE.1 hP hD hS 1 0 rfl rfl (inb_in g12) dL_beginning_108 (fun H locs hP hD hS => ?_)
      have hP : va_P D vwCl [(a_p0, .inl (Y.1, 3, .inl (upd (upd (upd f_p0 (0 : Int32).toNatClampNeg s3) (1 : Int32).toNatClampNeg ((2 : Int32) * s3)) (2 : Int32).toNatClampNeg 0))), (a_p1, .inl (Y.1, 20, .inl (upd y10 (((2 : Int32) * s3) - 1).toNatClampNeg w11))), (a_p2, .inl (Y.1, 3, .inl f_p2))] H := hP
      have hD : va_D A [(a_p0, .inl (Y.1, 3, .inl (upd (upd (upd f_p0 (0 : Int32).toNatClampNeg s3) (1 : Int32).toNatClampNeg ((2 : Int32) * s3)) (2 : Int32).toNatClampNeg 0))), (a_p1, .inl (Y.1, 20, .inl (upd y10 (((2 : Int32) * s3) - 1).toNatClampNeg w11))), (a_p2, .inl (Y.1, 3, .inl f_p2))] := hD
      refine lv_aload_n hx hb dL_beginning_109 rfl (lv_at hl 0 rfl) ?_
      refine lv_iconst (v := 1) hx hb dL_beginning_110 (by decide) ?_
      refine lv_iload_n hx hb dL_beginning_111 rfl (lv_at hl 1 rfl) ?_
      refine lv_iconst (v := 4) hx hb dL_beginning_112 (by decide) ?_
      refine mg (P := fun (w13 : Int32) => ∀ (ls : Array Slot), lv_has ls 7 [(2, .ref a_p2), (3, .int s3)] → W p l e rm_L_beginning s m args below meth c H locs 0 0 Q (F0 m 136 ls [.int w13, .int 1, .ref a_p2])) hf (fun w13 hf ls hl => ?_) (fun hJ => ?_)
      · refine va_iast hx hb hE.1 hP hD hS 2 0 rfl rfl (inb_in (by decide)) dL_beginning_136 (fun H locs hP hD hS => ?_)
        have hP : va_P D vwCl [(a_p0, .inl (Y.1, 3, .inl (upd (upd (upd f_p0 (0 : Int32).toNatClampNeg s3) (1 : Int32).toNatClampNeg ((2 : Int32) * s3)) (2 : Int32).toNatClampNeg 0))), (a_p1, .inl (Y.1, 20, .inl (upd y10 (((2 : Int32) * s3) - 1).toNatClampNeg w11))), (a_p2, .inl (Y.1, 3, .inl (upd f_p2 (1 : Int32).toNatClampNeg w13)))] H := hP
        have hD : va_D A [(a_p0, .inl (Y.1, 3, .inl (upd (upd (upd f_p0 (0 : Int32).toNatClampNeg s3) (1 : Int32).toNatClampNeg ((2 : Int32) * s3)) (2 : Int32).toNatClampNeg 0))), (a_p1, .inl (Y.1, 20, .inl (upd y10 (((2 : Int32) * s3) - 1).toNatClampNeg w11))), (a_p2, .inl (Y.1, 3, .inl (upd f_p2 (1 : Int32).toNatClampNeg w13)))] := hD
        refine lv_aload_n hx hb dL_beginning_137 rfl (lv_at hl 0 rfl) ?_
        refine lv_iconst (v := 2) hx hb dL_beginning_138 (by decide) ?_
        refine lv_iload_n hx hb dL_beginning_139 rfl (lv_at hl 1 rfl) ?_
        refine lv_iconst (v := 4) hx hb dL_beginning_140 (by decide) ?_
        refine mg (P := fun (w14 : Int32) => ∀ (ls : Array Slot), lv_has ls 7 [] → W p l e rm_L_beginning s m args below meth c H locs 0 0 Q (F0 m 172 ls [.int w14, .int 2, .ref a_p2])) hf (fun w14 hf ls hl => ?_) (fun hJ => ?_)
        · refine va_iast hx hb hE.1 hP hD hS 2 0 rfl rfl (inb_in (by decide)) dL_beginning_172 (fun H locs hP hD hS => ?_)
          have hP : va_P D vwCl [(a_p0, .inl (Y.1, 3, .inl (upd (upd (upd f_p0 (0 : Int32).toNatClampNeg s3) (1 : Int32).toNatClampNeg ((2 : Int32) * s3)) (2 : Int32).toNatClampNeg 0))), (a_p1, .inl (Y.1, 20, .inl (upd y10 (((2 : Int32) * s3) - 1).toNatClampNeg w11))), (a_p2, .inl (Y.1, 3, .inl (upd (upd f_p2 (1 : Int32).toNatClampNeg w13) (2 : Int32).toNatClampNeg w14)))] H := hP
          have hD : va_D A [(a_p0, .inl (Y.1, 3, .inl (upd (upd (upd f_p0 (0 : Int32).toNatClampNeg s3) (1 : Int32).toNatClampNeg ((2 : Int32) * s3)) (2 : Int32).toNatClampNeg 0))), (a_p1, .inl (Y.1, 20, .inl (upd y10 (((2 : Int32) * s3) - 1).toNatClampNeg w11))), (a_p2, .inl (Y.1, 3, .inl (upd (upd f_p2 (1 : Int32).toNatClampNeg w13) (2 : Int32).toNatClampNeg w14)))] := hD
          obtain rfl := Option.some.inj hf
          subst hQ
          exact en_v hx hb hr hlocks hP hD hS dL_beginning_173
        refine lv_icmp_ne (tgt := 149) hx hb dL_beginning_141 (by decide) (fun c15 => ?_) (fun c15 => ?_)
        · have hf := nmi_f c15 hf
          refine lv_iload_n hx hb dL_beginning_149 rfl (lv_at hl 1 rfl) ?_
          refine lv_iconst (v := 5) hx hb dL_beginning_150 (by decide) ?_
          refine lv_icmp_ne (tgt := 159) hx hb dL_beginning_151 (by decide) (fun c16 => ?_) (fun c16 => ?_)
          · have hf := nmi_f c16 hf
            refine lv_iload_n hx hb dL_beginning_159 rfl (lv_at hl 1 rfl) ?_
            refine lv_bipush (v := 6) hx hb dL_beginning_160 (by decide) ?_
            refine lv_icmp_ne (tgt := 170) hx hb dL_beginning_162 (by decide) (fun c17 => ?_) (fun c17 => ?_)
            · have hf := nmi_f c17 hf
              refine lv_bipush (v := 79) hx hb dL_beginning_170 (by decide) ?_
              exact hJ _ (nm_b hf) _ (lv_sub hl [] rfl)
            have hf := nmi_t c17 hf
            refine lv_bipush (v := 15) hx hb dL_beginning_165 (by decide) ?_
            refine lv_goto (tgt := 172) hx hb dL_beginning_167 (by decide) ?_
            exact hJ _ (nm_b hf) _ (lv_sub hl [] rfl)
          have hf := nmi_t c16 hf
          refine lv_bipush (v := 7) hx hb dL_beginning_154 (by decide) ?_
          refine lv_goto (tgt := 172) hx hb dL_beginning_156 (by decide) ?_
          exact hJ _ (nm_b hf) _ (lv_sub hl [] rfl)
        have hf := nmi_t c15 hf
        refine lv_bipush (v := 12) hx hb dL_beginning_144 (by decide) ?_
        refine lv_goto (tgt := 172) hx hb dL_beginning_146 (by decide) ?_
        exact hJ _ (nm_b hf) _ (lv_sub hl [] rfl)
      refine lv_icmp_ne (tgt := 121) hx hb dL_beginning_113 (by decide) (fun c18 => ?_) (fun c18 => ?_)
      · have hf := nmi_f c18 hf
        refine lv_iload hx hb dL_beginning_121 (lv_at hl 3 rfl) ?_
        refine lv_if_eq (tgt := 131) hx hb dL_beginning_123 (by decide) (fun c19 => ?_) (fun c19 => ?_)
        · have hf := nmi_t c19 hf
          refine lv_bipush (v := 9) hx hb dL_beginning_131 (by decide) ?_
          refine lv_iload hx hb dL_beginning_133 (lv_at hl 2 rfl) ?_
          refine lv_iadd hx hb dL_beginning_135 ?_
          exact hJ _ (nm_b hf) _ (lv_sub hl [0, 1] rfl)
        have hf := nmi_f c19 hf
        refine lv_bipush (v := 9) hx hb dL_beginning_126 (by decide) ?_
        refine lv_goto (tgt := 136) hx hb dL_beginning_128 (by decide) ?_
        exact hJ _ (nm_b hf) _ (lv_sub hl [0, 1] rfl)
      have hf := nmi_t c18 hf
      refine lv_bipush (v := 9) hx hb dL_beginning_116 (by decide) ?_
      refine lv_goto (tgt := 136) hx hb dL_beginning_118 (by decide) ?_
      exact hJ _ (nm_b hf) _ (lv_sub hl [0, 1] rfl)
    refine lv_if_eq (tgt := 104) hx hb dL_beginning_97 (by decide) (fun c20 => ?_) (fun c20 => ?_)
    · have hf := nmi_t c20 hf
      refine lv_iconst (v := 3) hx hb dL_beginning_104 (by decide) ?_
      refine lv_iload hx hb dL_beginning_105 (lv_at hl 3 rfl) ?_
      refine lv_iadd hx hb dL_beginning_107 ?_
      exact hJ _ (nm_b hf) _ (lv_sub hl [1, 2, 3, 4] rfl)
    have hf := nmi_f c20 hf
    refine lv_iconst (v := 3) hx hb dL_beginning_100 (by decide) ?_
    refine lv_goto (tgt := 108) hx hb dL_beginning_101 (by decide) ?_
    exact hJ _ (nm_b hf) _ (lv_sub hl [1, 2, 3, 4] rfl)
  refine lv_if_ne (tgt := 17) hx hb dL_beginning_10 (by decide) (fun c21 => ?_) (fun c21 => ?_)
  · have hf := nmi_f c21 hf
    refine lv_iconst (v := 0) hx hb dL_beginning_17 (by decide) ?_
    exact hJ _ (nm_b hf) _ (lv_sub hl [1, 2, 3, 4, 0] rfl)
  have hf := nmi_t c21 hf
  refine lv_iconst (v := 1) hx hb dL_beginning_13 (by decide) ?_
  refine lv_goto (tgt := 18) hx hb dL_beginning_14 (by decide) ?_
  exact hJ _ (nm_b hf) _ (lv_sub hl [1, 2, 3, 4, 0] rfl)

def f_L_all_L3 (k : Int32 → (Nat → Int64) → Option ((Nat → Int32) × (Nat → Int64))) (f_p0 : Nat → Int32) (f_p1 : Nat → Int32) (f_p2 : Nat → Int32) (f_p3 : Nat → Int32) (f_p4 : Nat → Int32) : Nat → Int32 → (Nat → Int64) → Option ((Nat → Int32) × (Nat → Int64))
  | 0, _, _ => none
  | n + 1, s6, f_p5 => (if (64 : Int32) ≤ s6 then (k s6 f_p5) else gd (inb s6 64) ((f_L_all_L3 k f_p0 f_p1 f_p2 f_p3 f_p4 n (s6 + 1) (vp_updL f_p5 s6.toNatClampNeg (0 : Int64)))))
def f_L_all_L45 (f_p0 : Nat → Int32) (f_p1 : Nat → Int32) (f_p2 : Nat → Int32) (f_p3 : Nat → Int32) : Nat → Int32 → (Nat → Int32) → (Nat → Int64) → Option ((Nat → Int32) × (Nat → Int64))
  | 0, _, _, _ => none
  | n + 1, s6, f_p4, f_p5 => (if ((f_p0 (1 : Int32).toNatClampNeg) * (f_p0 (2 : Int32).toNatClampNeg)) ≤ s6 then some (f_p4, f_p5) else bd (f_L_change s6 f_p0 f_p1 f_p2 f_p3) (fun q10 => bd (f_L_ring (f_p0 (0 : Int32).toNatClampNeg) q10 f_p4) (fun q12 => gd (inb ((s6 + 1) / 3) 64) (bd (f_L_code (f_p0 (0 : Int32).toNatClampNeg) q12) (fun q15 => (f_L_all_L45 f_p0 f_p1 f_p2 f_p3 n (s6 + 1) q12 (vp_updL f_p5 ((s6 + 1) / 3).toNatClampNeg ((f_p5 ((s6 + 1) / 3).toNatClampNeg) ||| (q15 <<< (((21 : Int32) * ((s6 + 1) - (s6 + 1) / 3 * 3)).toInt64 &&& 63))))))))))
def f_L_all (f_p0 : Nat → Int32) (f_p1 : Nat → Int32) (f_p2 : Nat → Int32) (f_p3 : Nat → Int32) (f_p4 : Nat → Int32) (f_p5 : Nat → Int64) : Option ((Nat → Int32) × (Nat → Int64)) :=
  (f_L_all_L3 (fun (y3 : Int32) (y4 : Nat → Int64) => bd (f_L_rounds (f_p0 (0 : Int32).toNatClampNeg) f_p4) (fun q5 => bd (f_L_code (f_p0 (0 : Int32).toNatClampNeg) q5) (fun q7 => (f_L_all_L45 f_p0 f_p1 f_p2 f_p3 fu 0 q5 (vp_updL y4 (0 : Int32).toNatClampNeg q7))))) f_p0 f_p1 f_p2 f_p3 f_p4 fu 0 f_p5)
abbrev rm_L_all : Room := { frames := 2, cells := 0, slots := 0, locals := 50 }
set_option maxHeartbeats 4000000 in
set_option maxRecDepth 100000 in
theorem c_L_all (l : Launch) (D : va_G) (Y : ClassId × ClassId × ClassId × ClassId) (a_p0 a_p1 a_p2 a_p3 a_p4 a_p5 : Nat) (f_p0 : Nat → Int32) (f_p1 : Nat → Int32) (f_p2 : Nat → Int32) (f_p3 : Nat → Int32) (f_p4 : Nat → Int32) (f_p5 : Nat → Int64) (sz : Nat) (R : (Nat → Int32) × (Nat → Int64)) (hf : f_L_all f_p0 f_p1 f_p2 f_p3 f_p4 f_p5 = some R) : Met l yL_all (ws_ yL_all cL_all 7 none) rm_L_all (va_Pc [.ref a_p0, .ref a_p1, .ref a_p2, .ref a_p3, .ref a_p4, .ref a_p5] (RW D Y sz [(a_p0, .inl (Y.1, 3, .inl f_p0)), (a_p1, .inl (Y.1, 20, .inl f_p1)), (a_p2, .inl (Y.1, 3, .inl f_p2)), (a_p3, .inl (Y.1, 16, .inl f_p3)), (a_p4, .inl (Y.1, 7, .inl f_p4)), (a_p5, .inl (Y.2.2.2, 64, .inr (.inl f_p5)))])) (QV D [(a_p0, .inl (Y.1, 3, .inl f_p0)), (a_p1, .inl (Y.1, 20, .inl f_p1)), (a_p2, .inl (Y.1, 3, .inl f_p2)), (a_p3, .inl (Y.1, 16, .inl f_p3)), (a_p4, .inl (Y.1, 7, .inl R.1)), (a_p5, .inl (Y.2.2.2, 64, .inr (.inl R.2)))] (va_A [(a_p0, .inl (Y.1, 3, .inl f_p0)), (a_p1, .inl (Y.1, 20, .inl f_p1)), (a_p2, .inl (Y.1, 3, .inl f_p2)), (a_p3, .inl (Y.1, 16, .inl f_p3)), (a_p4, .inl (Y.1, 7, .inl f_p4)), (a_p5, .inl (Y.2.2.2, 64, .inr (.inl f_p5)))] sz)) 0 0 (va_A [(a_p0, .inl (Y.1, 3, .inl f_p0)), (a_p1, .inl (Y.1, 20, .inl f_p1)), (a_p2, .inl (Y.1, 3, .inl f_p2)), (a_p3, .inl (Y.1, 16, .inl f_p3)), (a_p4, .inl (Y.1, 7, .inl f_p4)), (a_p5, .inl (Y.2.2.2, 64, .inr (.inl f_p5)))] sz) := by
  refine rw_start (Qc := (fun A => QV D [(a_p0, .inl (Y.1, 3, .inl f_p0)), (a_p1, .inl (Y.1, 20, .inl f_p1)), (a_p2, .inl (Y.1, 3, .inl f_p2)), (a_p3, .inl (Y.1, 16, .inl f_p3)), (a_p4, .inl (Y.1, 7, .inl R.1)), (a_p5, .inl (Y.2.2.2, 64, .inr (.inl R.2)))] A)) (by decide) (Nat.le_of_ble_eq_true rfl) ?_
  intro p e s m below meth c ls A hx hb hml hr hlocks hown hts hnm hA hP hD hS hE hl
  generalize hargs : List.toArray _ = args at hts ⊢
  have hown : s.vm.findClass RL = some m.cls := hown
  have E : EN p m c cL_all 7 s args RL := ⟨hx, hb, hml, hown, hts⟩
  have hl : lv_has ls 7 [(0, .ref a_p0), (1, .ref a_p1), (2, .ref a_p2), (3, .ref a_p3), (4, .ref a_p4), (5, .ref a_p5)] := hl
  generalize hQ : MQ below _ args s 0 0 _ = Q
  unfold f_L_all at hf
  have L3 : ∀ (n : Nat) (k : Int32 → (Nat → Int64) → Option ((Nat → Int32) × (Nat → Int64))) (f_p4 : Nat → Int32) (s6 : Int32) (f_p5 : Nat → Int64) (H : Heap) (locs : List Loc) (ls : Array Slot), f_L_all_L3 k f_p0 f_p1 f_p2 f_p3 f_p4 n s6 f_p5 = some R → va_P D vwCl [(a_p0, .inl (Y.1, 3, .inl f_p0)), (a_p1, .inl (Y.1, 20, .inl f_p1)), (a_p2, .inl (Y.1, 3, .inl f_p2)), (a_p3, .inl (Y.1, 16, .inl f_p3)), (a_p4, .inl (Y.1, 7, .inl f_p4)), (a_p5, .inl (Y.2.2.2, 64, .inr (.inl f_p5)))] H → va_D A [(a_p0, .inl (Y.1, 3, .inl f_p0)), (a_p1, .inl (Y.1, 20, .inl f_p1)), (a_p2, .inl (Y.1, 3, .inl f_p2)), (a_p3, .inl (Y.1, 16, .inl f_p3)), (a_p4, .inl (Y.1, 7, .inl f_p4)), (a_p5, .inl (Y.2.2.2, 64, .inr (.inl f_p5)))] → va_S A s.heap H locs → lv_has ls 7 [(0, .ref a_p0), (1, .ref a_p1), (2, .ref a_p2), (3, .ref a_p3), (4, .ref a_p4), (5, .ref a_p5), (6, .int s6)] → (∀ (y_s6 : Int32) (y_f_p5 : Nat → Int64) (H : Heap) (locs : List Loc) (ls : Array Slot), k y_s6 y_f_p5 = some R → va_P D vwCl [(a_p0, .inl (Y.1, 3, .inl f_p0)), (a_p1, .inl (Y.1, 20, .inl f_p1)), (a_p2, .inl (Y.1, 3, .inl f_p2)), (a_p3, .inl (Y.1, 16, .inl f_p3)), (a_p4, .inl (Y.1, 7, .inl f_p4)), (a_p5, .inl (Y.2.2.2, 64, .inr (.inl y_f_p5)))] H → va_D A [(a_p0, .inl (Y.1, 3, .inl f_p0)), (a_p1, .inl (Y.1, 20, .inl f_p1)), (a_p2, .inl (Y.1, 3, .inl f_p2)), (a_p3, .inl (Y.1, 16, .inl f_p3)), (a_p4, .inl (Y.1, 7, .inl f_p4)), (a_p5, .inl (Y.2.2.2, 64, .inr (.inl y_f_p5)))] → va_S A s.heap H locs → lv_has ls 7 [(0, .ref a_p0), (1, .ref a_p1), (2, .ref a_p2), (3, .ref a_p3), (4, .ref a_p4), (5, .ref a_p5)] → W p l e rm_L_all s m args below meth c H locs 0 0 Q (F0 m 22 ls [])) → W p l e rm_L_all s m args below meth c H locs 0 0 Q (F0 m 3 ls []) := by
    intro n
    induction n with
    | zero =>
      intro k f_p4 s6 f_p5 H locs ls hf
      cases hf
    | succ n ih =>
      intro k f_p4 s6 f_p5 H locs ls hf hP hD hS hl hk
      unfold f_L_all_L3 at hf
      refine lv_iload hx hb dL_all_3 (lv_at hl 6 rfl) ?_
      refine lv_bipush (v := 64) hx hb dL_all_5 (by decide) ?_
      refine lv_icmp_ge (tgt := 22) hx hb dL_all_7 (by decide) (fun c1 => ?_) (fun c1 => ?_)
      · have hf := ite_t c1 hf
        exact hk _ _ _ _ _ hf hP hD hS (lv_sub hl [0, 1, 2, 3, 4, 5] rfl)
      have hf := ite_f c1 hf
      refine lv_aload hx hb dL_all_10 (lv_at hl 5 rfl) ?_
      refine lv_iload hx hb dL_all_12 (lv_at hl 6 rfl) ?_
      refine lv_lconst (v := 0) hx hb dL_all_14 (by decide) ?_
      obtain ⟨g2, hf⟩ := gd_s hf
      refine va_last hx hb hE.1 hP hD hS 5 3 rfl rfl (inb_in g2) dL_all_15 (fun H locs hP hD hS => ?_)
      have hP : va_P D vwCl [(a_p0, .inl (Y.1, 3, .inl f_p0)), (a_p1, .inl (Y.1, 20, .inl f_p1)), (a_p2, .inl (Y.1, 3, .inl f_p2)), (a_p3, .inl (Y.1, 16, .inl f_p3)), (a_p4, .inl (Y.1, 7, .inl f_p4)), (a_p5, .inl (Y.2.2.2, 64, .inr (.inl (vp_updL f_p5 s6.toNatClampNeg (0 : Int64)))))] H := hP
      have hD : va_D A [(a_p0, .inl (Y.1, 3, .inl f_p0)), (a_p1, .inl (Y.1, 20, .inl f_p1)), (a_p2, .inl (Y.1, 3, .inl f_p2)), (a_p3, .inl (Y.1, 16, .inl f_p3)), (a_p4, .inl (Y.1, 7, .inl f_p4)), (a_p5, .inl (Y.2.2.2, 64, .inr (.inl (vp_updL f_p5 s6.toNatClampNeg (0 : Int64)))))] := hD
      refine lv_iinc (v := (s6 + 1)) (lv' := [(6, .int (s6 + 1)), (0, .ref a_p0), (1, .ref a_p1), (2, .ref a_p2), (3, .ref a_p3), (4, .ref a_p4), (5, .ref a_p5)]) hx hb dL_all_16 hl (k := 6) rfl rfl (by decide) rfl (fun ls hl => ?_)
      refine lv_goto (tgt := 3) hx hb dL_all_19 (by decide) ?_
      exact ih _ _ _ _ _ _ _ hf hP hD hS (lv_sub hl [1, 2, 3, 4, 5, 6, 0] rfl) hk
  have L45 : ∀ (n : Nat) (s6 : Int32) (f_p4 : Nat → Int32) (f_p5 : Nat → Int64) (H : Heap) (locs : List Loc) (ls : Array Slot), f_L_all_L45 f_p0 f_p1 f_p2 f_p3 n s6 f_p4 f_p5 = some R → va_P D vwCl [(a_p0, .inl (Y.1, 3, .inl f_p0)), (a_p1, .inl (Y.1, 20, .inl f_p1)), (a_p2, .inl (Y.1, 3, .inl f_p2)), (a_p3, .inl (Y.1, 16, .inl f_p3)), (a_p4, .inl (Y.1, 7, .inl f_p4)), (a_p5, .inl (Y.2.2.2, 64, .inr (.inl f_p5)))] H → va_D A [(a_p0, .inl (Y.1, 3, .inl f_p0)), (a_p1, .inl (Y.1, 20, .inl f_p1)), (a_p2, .inl (Y.1, 3, .inl f_p2)), (a_p3, .inl (Y.1, 16, .inl f_p3)), (a_p4, .inl (Y.1, 7, .inl f_p4)), (a_p5, .inl (Y.2.2.2, 64, .inr (.inl f_p5)))] → va_S A s.heap H locs → lv_has ls 7 [(0, .ref a_p0), (1, .ref a_p1), (2, .ref a_p2), (3, .ref a_p3), (4, .ref a_p4), (5, .ref a_p5), (6, .int s6)] → W p l e rm_L_all s m args below meth c H locs 0 0 Q (F0 m 45 ls []) := by
    intro n
    induction n with
    | zero =>
      intro s6 f_p4 f_p5 H locs ls hf
      cases hf
    | succ n ih =>
      intro s6 f_p4 f_p5 H locs ls hf hP hD hS hl
      unfold f_L_all_L45 at hf
      refine lv_iload hx hb dL_all_45 (lv_at hl 6 rfl) ?_
      refine lv_aload_n hx hb dL_all_47 rfl (lv_at hl 0 rfl) ?_
      refine lv_iconst (v := 1) hx hb dL_all_48 (by decide) ?_
      refine va_iald hx hb hE.1 hP 0 0 rfl rfl (inb_in (by decide)) dL_all_49 ?_
      refine lv_aload_n hx hb dL_all_50 rfl (lv_at hl 0 rfl) ?_
      refine lv_iconst (v := 2) hx hb dL_all_51 (by decide) ?_
      refine va_iald hx hb hE.1 hP 0 0 rfl rfl (inb_in (by decide)) dL_all_52 ?_
      refine lv_imul hx hb dL_all_53 ?_
      refine lv_icmp_ge (tgt := 110) hx hb dL_all_54 (by decide) (fun c9 => ?_) (fun c9 => ?_)
      · have hf := ite_t c9 hf
        obtain rfl := Option.some.inj hf
        subst hQ
        exact en_v hx hb hr hlocks hP hD hS dL_all_110
      have hf := ite_f c9 hf
      refine lv_aload_n hx hb dL_all_57 rfl (lv_at hl 0 rfl) ?_
      refine lv_iconst (v := 0) hx hb dL_all_58 (by decide) ?_
      refine va_iald hx hb hE.1 hP 0 0 rfl rfl (inb_in (by decide)) dL_all_59 ?_
      refine lv_aload_n hx hb dL_all_60 rfl (lv_at hl 0 rfl) ?_
      refine lv_aload_n hx hb dL_all_61 rfl (lv_at hl 1 rfl) ?_
      refine lv_aload_n hx hb dL_all_62 rfl (lv_at hl 2 rfl) ?_
      refine lv_aload_n hx hb dL_all_63 rfl (lv_at hl 3 rfl) ?_
      refine lv_iload hx hb dL_all_64 (lv_at hl 6 rfl) ?_
      obtain ⟨q10, h11, hf⟩ := bd_s hf
      refine af_oi (run_S (As := [.ref a_p0, .ref a_p1, .ref a_p2, .ref a_p3, .int s6]) (rest := [.int (f_p0 (0 : Int32).toNatClampNeg)]) E (c_L_change l D Y a_p0 a_p1 a_p2 a_p3 f_p0 f_p1 f_p2 f_p3 s6 q10 h11) qw367 qw368 qw18 qw369 rfl rfl hd_L_change ⟨Nat.le_of_ble_eq_true rfl, Nat.le_of_ble_eq_true rfl⟩ (pre_roS hP hE [0, 1, 2, 3] rfl) rfl hl.1 rfl (Nat.le_of_ble_eq_true rfl) dL_all_66 ⟨Nat.le_of_ble_eq_true rfl, Nat.le_of_ble_eq_true rfl⟩) ?_
      refine lv_aload hx hb dL_all_69 (lv_at hl 4 rfl) ?_
      obtain ⟨q12, h13, hf⟩ := bd_s hf
      refine af_v0 (wc := [(a_p4, .inl (Y.1, 7, .inl f_p4))]) (wr := [(a_p0, .inl (Y.1, 3, .inl f_p0)), (a_p1, .inl (Y.1, 20, .inl f_p1)), (a_p2, .inl (Y.1, 3, .inl f_p2)), (a_p3, .inl (Y.1, 16, .inl f_p3)), (a_p5, .inl (Y.2.2.2, 64, .inr (.inl f_p5)))]) (wn := [(a_p0, .inl (Y.1, 3, .inl f_p0)), (a_p1, .inl (Y.1, 20, .inl f_p1)), (a_p2, .inl (Y.1, 3, .inl f_p2)), (a_p3, .inl (Y.1, 16, .inl f_p3)), (a_p4, .inl (Y.1, 7, .inl q12)), (a_p5, .inl (Y.2.2.2, 64, .inr (.inl f_p5)))]) (run_S (As := [.int (f_p0 (0 : Int32).toNatClampNeg), .int q10, .ref a_p4]) (rest := []) E (c_L_ring l D Y a_p4 f_p4 (f_p0 (0 : Int32).toNatClampNeg) q10 H.size q12 h13) qw370 qw371 qw18 qw372 rfl rfl hd_L_ring ⟨Nat.le_of_ble_eq_true rfl, Nat.le_of_ble_eq_true rfl⟩ (pre_rwS hP hD hE [4] rfl (by decide) rfl) rfl hl.1 rfl (Nat.le_of_ble_eq_true rfl) dL_all_71 ⟨Nat.le_of_ble_eq_true rfl, Nat.le_of_ble_eq_true rfl⟩) hP hD hS hA [4] [0, 1, 2, 3, 5] [0, 1, 2, 3, 5, 4] rfl rfl (by decide) (by decide) rfl rfl (by decide) (fun H locs hP hD hS => ?_)
      refine lv_aload hx hb dL_all_74 (lv_at hl 5 rfl) ?_
      refine lv_iload hx hb dL_all_76 (lv_at hl 6 rfl) ?_
      refine lv_iconst (v := 1) hx hb dL_all_78 (by decide) ?_
      refine lv_iadd hx hb dL_all_79 ?_
      refine lv_iconst (v := 3) hx hb dL_all_80 (by decide) ?_
      refine lv_idiv hx hb dL_all_81 (by decide) ?_
      refine lv_dup2_11 hx hb dL_all_82 rfl rfl ?_
      obtain ⟨g14, hf⟩ := gd_s hf
      refine va_lald hx hb hE.1 hP 5 3 rfl rfl (inb_in g14) dL_all_83 ?_
      refine lv_aload_n hx hb dL_all_84 rfl (lv_at hl 0 rfl) ?_
      refine lv_iconst (v := 0) hx hb dL_all_85 (by decide) ?_
      refine va_iald hx hb hE.1 hP 0 0 rfl rfl (inb_in (by decide)) dL_all_86 ?_
      refine lv_aload hx hb dL_all_87 (lv_at hl 4 rfl) ?_
      obtain ⟨q15, h16, hf⟩ := bd_s hf
      refine af_ol (run_S (As := [.int (f_p0 (0 : Int32).toNatClampNeg), .ref a_p4]) (rest := [.long (f_p5 ((s6 + 1) / 3).toNatClampNeg), .int ((s6 + 1) / 3), .ref a_p5]) E (c_L_code l D Y a_p4 q12 (f_p0 (0 : Int32).toNatClampNeg) q15 h16) qw363 qw364 qw18 qw365 rfl rfl hd_L_code ⟨Nat.le_of_ble_eq_true rfl, Nat.le_of_ble_eq_true rfl⟩ (pre_roS hP hE [4] rfl) rfl hl.1 rfl (Nat.le_of_ble_eq_true rfl) dL_all_89 ⟨Nat.le_of_ble_eq_true rfl, Nat.le_of_ble_eq_true rfl⟩) ?_
      refine lv_bipush (v := 21) hx hb dL_all_92 (by decide) ?_
      refine lv_iload hx hb dL_all_94 (lv_at hl 6 rfl) ?_
      refine lv_iconst (v := 1) hx hb dL_all_96 (by decide) ?_
      refine lv_iadd hx hb dL_all_97 ?_
      refine lv_iconst (v := 3) hx hb dL_all_98 (by decide) ?_
      refine lv_irem hx hb dL_all_99 (by decide) ?_
      refine lv_imul hx hb dL_all_100 ?_
      refine lv_lshl hx hb dL_all_101 rfl ?_
      refine lv_lor hx hb dL_all_102 ?_
      refine va_last hx hb hE.1 hP hD hS 5 3 rfl rfl (inb_in g14) dL_all_103 (fun H locs hP hD hS => ?_)
      have hP : va_P D vwCl [(a_p0, .inl (Y.1, 3, .inl f_p0)), (a_p1, .inl (Y.1, 20, .inl f_p1)), (a_p2, .inl (Y.1, 3, .inl f_p2)), (a_p3, .inl (Y.1, 16, .inl f_p3)), (a_p4, .inl (Y.1, 7, .inl q12)), (a_p5, .inl (Y.2.2.2, 64, .inr (.inl (vp_updL f_p5 ((s6 + 1) / 3).toNatClampNeg ((f_p5 ((s6 + 1) / 3).toNatClampNeg) ||| (q15 <<< (((21 : Int32) * ((s6 + 1) - (s6 + 1) / 3 * 3)).toInt64 &&& 63)))))))] H := hP
      have hD : va_D A [(a_p0, .inl (Y.1, 3, .inl f_p0)), (a_p1, .inl (Y.1, 20, .inl f_p1)), (a_p2, .inl (Y.1, 3, .inl f_p2)), (a_p3, .inl (Y.1, 16, .inl f_p3)), (a_p4, .inl (Y.1, 7, .inl q12)), (a_p5, .inl (Y.2.2.2, 64, .inr (.inl (vp_updL f_p5 ((s6 + 1) / 3).toNatClampNeg ((f_p5 ((s6 + 1) / 3).toNatClampNeg) ||| (q15 <<< (((21 : Int32) * ((s6 + 1) - (s6 + 1) / 3 * 3)).toInt64 &&& 63)))))))] := hD
      refine lv_iinc (v := (s6 + 1)) (lv' := [(6, .int (s6 + 1)), (0, .ref a_p0), (1, .ref a_p1), (2, .ref a_p2), (3, .ref a_p3), (4, .ref a_p4), (5, .ref a_p5)]) hx hb dL_all_104 hl (k := 6) rfl rfl (by decide) rfl (fun ls hl => ?_)
      refine lv_goto (tgt := 45) hx hb dL_all_107 (by decide) ?_
      exact ih _ _ _ _ _ _ hf hP hD hS (lv_sub hl [1, 2, 3, 4, 5, 6, 0] rfl)
  refine lv_iconst (v := 0) hx hb dL_all_0 (by decide) ?_
  refine lv_istore (lv' := [(6, .int 0), (0, .ref a_p0), (1, .ref a_p1), (2, .ref a_p2), (3, .ref a_p3), (4, .ref a_p4), (5, .ref a_p5)]) hx hb dL_all_1 hl (by decide) rfl (fun ls hl => ?_)
  refine L3 _ _ _ _ _ _ _ _ hf hP hD hS (lv_sub hl [1, 2, 3, 4, 5, 6, 0] rfl) ?_
  intro y3 y4 H locs ls hf hP hD hS hl
  refine lv_aload_n hx hb dL_all_22 rfl (lv_at hl 0 rfl) ?_
  refine lv_iconst (v := 0) hx hb dL_all_23 (by decide) ?_
  refine va_iald hx hb hE.1 hP 0 0 rfl rfl (inb_in (by decide)) dL_all_24 ?_
  refine lv_aload hx hb dL_all_25 (lv_at hl 4 rfl) ?_
  obtain ⟨q5, h6, hf⟩ := bd_s hf
  refine af_v0 (wc := [(a_p4, .inl (Y.1, 7, .inl f_p4))]) (wr := [(a_p0, .inl (Y.1, 3, .inl f_p0)), (a_p1, .inl (Y.1, 20, .inl f_p1)), (a_p2, .inl (Y.1, 3, .inl f_p2)), (a_p3, .inl (Y.1, 16, .inl f_p3)), (a_p5, .inl (Y.2.2.2, 64, .inr (.inl y4)))]) (wn := [(a_p0, .inl (Y.1, 3, .inl f_p0)), (a_p1, .inl (Y.1, 20, .inl f_p1)), (a_p2, .inl (Y.1, 3, .inl f_p2)), (a_p3, .inl (Y.1, 16, .inl f_p3)), (a_p4, .inl (Y.1, 7, .inl q5)), (a_p5, .inl (Y.2.2.2, 64, .inr (.inl y4)))]) (run_S (As := [.int (f_p0 (0 : Int32).toNatClampNeg), .ref a_p4]) (rest := []) E (c_L_rounds l D Y a_p4 f_p4 (f_p0 (0 : Int32).toNatClampNeg) H.size q5 h6) qw360 qw361 qw18 qw362 rfl rfl hd_L_rounds ⟨Nat.le_of_ble_eq_true rfl, Nat.le_of_ble_eq_true rfl⟩ (pre_rwS hP hD hE [4] rfl (by decide) rfl) rfl hl.1 rfl (Nat.le_of_ble_eq_true rfl) dL_all_27 ⟨Nat.le_of_ble_eq_true rfl, Nat.le_of_ble_eq_true rfl⟩) hP hD hS hA [4] [0, 1, 2, 3, 5] [0, 1, 2, 3, 5, 4] rfl rfl (by decide) (by decide) rfl rfl (by decide) (fun H locs hP hD hS => ?_)
  refine lv_aload hx hb dL_all_30 (lv_at hl 5 rfl) ?_
  refine lv_iconst (v := 0) hx hb dL_all_32 (by decide) ?_
  refine lv_aload_n hx hb dL_all_33 rfl (lv_at hl 0 rfl) ?_
  refine lv_iconst (v := 0) hx hb dL_all_34 (by decide) ?_
  refine va_iald hx hb hE.1 hP 0 0 rfl rfl (inb_in (by decide)) dL_all_35 ?_
  refine lv_aload hx hb dL_all_36 (lv_at hl 4 rfl) ?_
  obtain ⟨q7, h8, hf⟩ := bd_s hf
  refine af_ol (run_S (As := [.int (f_p0 (0 : Int32).toNatClampNeg), .ref a_p4]) (rest := [.int 0, .ref a_p5]) E (c_L_code l D Y a_p4 q5 (f_p0 (0 : Int32).toNatClampNeg) q7 h8) qw363 qw364 qw18 qw365 rfl rfl hd_L_code ⟨Nat.le_of_ble_eq_true rfl, Nat.le_of_ble_eq_true rfl⟩ (pre_roS hP hE [4] rfl) rfl hl.1 rfl (Nat.le_of_ble_eq_true rfl) dL_all_38 ⟨Nat.le_of_ble_eq_true rfl, Nat.le_of_ble_eq_true rfl⟩) ?_
  refine va_last hx hb hE.1 hP hD hS 5 3 rfl rfl (inb_in (by decide)) dL_all_41 (fun H locs hP hD hS => ?_)
  have hP : va_P D vwCl [(a_p0, .inl (Y.1, 3, .inl f_p0)), (a_p1, .inl (Y.1, 20, .inl f_p1)), (a_p2, .inl (Y.1, 3, .inl f_p2)), (a_p3, .inl (Y.1, 16, .inl f_p3)), (a_p4, .inl (Y.1, 7, .inl q5)), (a_p5, .inl (Y.2.2.2, 64, .inr (.inl (vp_updL y4 (0 : Int32).toNatClampNeg q7))))] H := hP
  have hD : va_D A [(a_p0, .inl (Y.1, 3, .inl f_p0)), (a_p1, .inl (Y.1, 20, .inl f_p1)), (a_p2, .inl (Y.1, 3, .inl f_p2)), (a_p3, .inl (Y.1, 16, .inl f_p3)), (a_p4, .inl (Y.1, 7, .inl q5)), (a_p5, .inl (Y.2.2.2, 64, .inr (.inl (vp_updL y4 (0 : Int32).toNatClampNeg q7))))] := hD
  refine lv_iconst (v := 0) hx hb dL_all_42 (by decide) ?_
  refine lv_istore (lv' := [(6, .int 0), (0, .ref a_p0), (1, .ref a_p1), (2, .ref a_p2), (3, .ref a_p3), (4, .ref a_p4), (5, .ref a_p5)]) hx hb dL_all_43 hl (by decide) rfl (fun ls hl => ?_)
  exact L45 _ _ _ _ _ _ _ hf hP hD hS (lv_sub hl [1, 2, 3, 4, 5, 6, 0] rfl)
