def f_L_areLeads_L241 (k : Int32 → Int32 → Option (Int32)) (s6 : Int32) (s7 : Int32) (s8 : Int32) (s9 : Int32) (s10 : Int32) (s12 : Int32) (f_p1 : Nat → Int32) (f_p2 : Nat → Int32) (f_p3 : Nat → Int32) (f_p4 : Nat → Int32) (f_p5 : Nat → Int64) (v_o_a : AT) (v_o_p : List Nat) : Nat → Int32 → Int32 → Option (Int32)
  | 0, _, _ => none
  | n + 1, s11, s13 => (if (f_p1 (1 : Int32).toNatClampNeg) < s13 then (k s11 s13) else (if s11 = 0 then bd (f_L_rowAt ((s9 * (f_p1 (1 : Int32).toNatClampNeg)) + s12) f_p5) (fun q16 => bd (f_L_rowAt ((s10 * (f_p1 (1 : Int32).toNatClampNeg)) + s13) f_p5) (fun q18 => nm (if (lg_cmp q16 q18) = 0 then (1 : Int32) else (0 : Int32)) (fun (w20 : Int32) => (f_L_areLeads_L241 k s6 s7 s8 s9 s10 s12 f_p1 f_p2 f_p3 f_p4 f_p5 v_o_a v_o_p n w20 (s13 + 1))))) else (k s11 s13)))
def f_L_areLeads_L225 (k : Int32 → Int32 → Option (Int32)) (s6 : Int32) (s7 : Int32) (s8 : Int32) (s9 : Int32) (s10 : Int32) (f_p1 : Nat → Int32) (f_p2 : Nat → Int32) (f_p3 : Nat → Int32) (f_p4 : Nat → Int32) (f_p5 : Nat → Int64) (v_o_a : AT) (v_o_p : List Nat) : Nat → Int32 → Int32 → Option (Int32)
  | 0, _, _ => none
  | n + 1, s11, s12 => (if (f_p1 (1 : Int32).toNatClampNeg) < s12 then (k s11 s12) else (if s11 = 0 then (f_L_areLeads_L241 (fun (y22 : Int32) (y23 : Int32) => (f_L_areLeads_L225 k s6 s7 s8 s9 s10 f_p1 f_p2 f_p3 f_p4 f_p5 v_o_a v_o_p n y22 (s12 + 1))) s6 s7 s8 s9 s10 s12 f_p1 f_p2 f_p3 f_p4 f_p5 v_o_a v_o_p fu s11 1) else (k s11 s12)))
def f_L_areLeads_L212 (k : Int32 → Int32 → Option (Int32)) (s7 : Int32) (s8 : Int32) (s9 : Int32) (f_p1 : Nat → Int32) (f_p2 : Nat → Int32) (f_p3 : Nat → Int32) (f_p4 : Nat → Int32) (f_p5 : Nat → Int64) (v_o_a : AT) (v_o_p : List Nat) : Nat → Int32 → Int32 → Option (Int32)
  | 0, _, _ => none
  | n + 1, s6, s10 => (if s9 ≤ s10 then (k s6 s10) else (f_L_areLeads_L225 (fun (y24 : Int32) (y25 : Int32) => nm (if y24 = 0 then (0 : Int32) else (1 : Int32)) (fun (w26 : Int32) => nm (s6 + w26) (fun (x27 : Int32) => (f_L_areLeads_L212 k s7 s8 s9 f_p1 f_p2 f_p3 f_p4 f_p5 v_o_a v_o_p n x27 (s10 + 1))))) s6 s7 s8 s9 s10 f_p1 f_p2 f_p3 f_p4 f_p5 v_o_a v_o_p fu 0 1))
def f_L_areLeads_L119 (k : Int32 → Int32 → Int32 → Int32 → Option (Int32)) (f_p1 : Nat → Int32) (f_p2 : Nat → Int32) (f_p3 : Nat → Int32) (f_p4 : Nat → Int32) (f_p5 : Nat → Int64) (v_o_a : AT) (v_o_p : List Nat) : Nat → Int32 → Int32 → Int32 → Int32 → Option (Int32)
  | 0, _, _, _, _ => none
  | n + 1, s6, s7, s8, s9 => (if (f_p1 (2 : Int32).toNatClampNeg) ≤ s9 then (k s6 s7 s8 s9) else gd (inb s9 16) (nm (if (f_p4 s9.toNatClampNeg) ≤ 0 then (0 : Int32) else (1 : Int32)) (fun (w7 : Int32) => nm (s7 + w7) (fun (x8 : Int32) => jj (fun (kk10 : (Int32) → Option (Int32)) => (if s8 = 0 then kk10 0 else bd (A_change v_o_a s9 ((f_p1 (1 : Int32).toNatClampNeg) - 1)) (fun q32 => bd (f_L_change (((s9 + 1) * (f_p1 (1 : Int32).toNatClampNeg)) - 1) f_p1 f_p2 f_p3 f_p4) (fun q34 => (if q32 = q34 then (if (f_p1 (1 : Int32).toNatClampNeg) = 1 then kk10 1 else bd (A_change v_o_a s9 0) (fun q38 => (if q38 = (f_p2 (0 : Int32).toNatClampNeg) then kk10 1 else kk10 0))) else kk10 0))))) (fun (w9 : Int32) => (f_L_areLeads_L212 (fun (y29 : Int32) (y30 : Int32) => (f_L_areLeads_L119 k f_p1 f_p2 f_p3 f_p4 f_p5 v_o_a v_o_p n y29 x8 w9 (s9 + 1))) x8 w9 s9 f_p1 f_p2 f_p3 f_p4 f_p5 v_o_a v_o_p fu s6 0))))))
def f_L_areLeads_L335 (k : Int32 → Int32 → Option (Int32)) (s6 : Int32) (s7 : Int32) (f_p1 : Nat → Int32) (f_p2 : Nat → Int32) (f_p3 : Nat → Int32) (f_p4 : Nat → Int32) (f_p5 : Nat → Int64) (v_o_a : AT) (v_o_p : List Nat) : Nat → Int32 → Int32 → Option (Int32)
  | 0, _, _ => none
  | n + 1, s8, s9 => (if (f_p1 (1 : Int32).toNatClampNeg) ≤ s9 then (k s8 s9) else jj (fun (kk48 : (Int32) → Option (Int32)) => (if s8 = 0 then kk48 0 else bd (A_change v_o_a (-1) s9) (fun q50 => gd (inb s9 20) ((if q50 = (f_p2 s9.toNatClampNeg) then kk48 1 else kk48 0))))) (fun (w47 : Int32) => (f_L_areLeads_L335 k s6 s7 f_p1 f_p2 f_p3 f_p4 f_p5 v_o_a v_o_p n w47 (s9 + 1))))
def f_L_areLeads (f_p1 : Nat → Int32) (f_p2 : Nat → Int32) (f_p3 : Nat → Int32) (f_p4 : Nat → Int32) (f_p5 : Nat → Int64) (v_o_a : AT) (v_o_p : List Nat) : Option (Int32) :=
  bd (A_count v_o_a v_o_p 0) (fun q1 => jj (fun (kk4 : (Int32) → Option (Int32)) => (if q1 = (f_p1 (0 : Int32).toNatClampNeg) then bd (A_count v_o_a v_o_p 1) (fun q64 => (if q64 = (f_p1 (1 : Int32).toNatClampNeg) then bd (A_count v_o_a v_o_p 2) (fun q67 => (if q67 = (f_p1 (2 : Int32).toNatClampNeg) then bd (A_count v_o_a v_o_p 12) (fun q70 => (if q70 = (f_p3 (1 : Int32).toNatClampNeg) then bd (A_count v_o_a v_o_p 13) (fun q73 => (if q73 = (f_p3 (2 : Int32).toNatClampNeg) then bd (A_change v_o_a (f_p1 (2 : Int32).toNatClampNeg) 0) (fun q76 => (if q76 = (-1) then bd (A_change v_o_a (-2) 0) (fun q79 => (if q79 = (-1) then bd (A_change v_o_a (-1) (f_p1 (1 : Int32).toNatClampNeg)) (fun q82 => (if q82 = (-4) then bd (A_change v_o_a (-1) (-1)) (fun q85 => (if q85 = (-1) then kk4 1 else kk4 0)) else kk4 0)) else kk4 0)) else kk4 0)) else kk4 0)) else kk4 0)) else kk4 0)) else kk4 0)) else kk4 0)) (fun (w3 : Int32) => (f_L_areLeads_L119 (fun (y42 : Int32) (y43 : Int32) (y44 : Int32) (y45 : Int32) => (f_L_areLeads_L335 (fun (y54 : Int32) (y55 : Int32) => (if y54 = 0 then some 0 else bd (A_count v_o_a v_o_p 8) (fun q57 => (if q57 = y42 then bd (A_count v_o_a v_o_p 10) (fun q60 => (if q60 = y43 then some 1 else some 0)) else some 0)))) y42 y43 f_p1 f_p2 f_p3 f_p4 f_p5 v_o_a v_o_p fu y44 0)) f_p1 f_p2 f_p3 f_p4 f_p5 v_o_a v_o_p fu 0 0 w3 0)))
abbrev rm_L_areLeads : Room := { frames := 7, cells := 0, slots := 0, locals := 161 }
set_option maxHeartbeats 4000000 in
set_option maxRecDepth 100000 in
theorem c_L_areLeads (l : Launch) (D : va_G) (Y : ClassId × ClassId × ClassId × ClassId) (a_p1 a_p2 a_p3 a_p4 a_p5 a_o : Nat) (f_p1 : Nat → Int32) (f_p2 : Nat → Int32) (f_p3 : Nat → Int32) (f_p4 : Nat → Int32) (f_p5 : Nat → Int64) (v_o_a : AT) (v_o_p : List Nat) (ws : va_W) (hX : OX Y a_o v_o_a v_o_p ws) (sz : Nat) (R : Int32) (hf : f_L_areLeads f_p1 f_p2 f_p3 f_p4 f_p5 v_o_a v_o_p = some R) : Met l yL_areLeads (ws_ yL_areLeads cL_areLeads 14 (some .boolean)) rm_L_areLeads (va_Pc [.ref a_o, .ref a_p1, .ref a_p2, .ref a_p3, .ref a_p4, .ref a_p5] (RW D Y sz ([(a_p1, .inl (Y.1, 3, .inl f_p1)), (a_p2, .inl (Y.1, 20, .inl f_p2)), (a_p3, .inl (Y.1, 3, .inl f_p3)), (a_p4, .inl (Y.1, 16, .inl f_p4)), (a_p5, .inl (Y.2.2.2, 64, .inr (.inl f_p5)))] ++ ws))) (QXz D R (fun ws => OX Y a_o v_o_a v_o_p ws) (fun ws => ([(a_p1, .inl (Y.1, 3, .inl f_p1)), (a_p2, .inl (Y.1, 20, .inl f_p2)), (a_p3, .inl (Y.1, 3, .inl f_p3)), (a_p4, .inl (Y.1, 16, .inl f_p4)), (a_p5, .inl (Y.2.2.2, 64, .inr (.inl f_p5)))] ++ ws)) (va_A ([(a_p1, .inl (Y.1, 3, .inl f_p1)), (a_p2, .inl (Y.1, 20, .inl f_p2)), (a_p3, .inl (Y.1, 3, .inl f_p3)), (a_p4, .inl (Y.1, 16, .inl f_p4)), (a_p5, .inl (Y.2.2.2, 64, .inr (.inl f_p5)))] ++ ws) sz)) 0 0 (va_A ([(a_p1, .inl (Y.1, 3, .inl f_p1)), (a_p2, .inl (Y.1, 20, .inl f_p2)), (a_p3, .inl (Y.1, 3, .inl f_p3)), (a_p4, .inl (Y.1, 16, .inl f_p4)), (a_p5, .inl (Y.2.2.2, 64, .inr (.inl f_p5)))] ++ ws) sz) := by
  refine rw_start (l := l) (y := yL_areLeads) (cc := cL_areLeads) (maxL := 14) (ret := (some .boolean)) (rm := rm_L_areLeads) (args := [.ref a_o, .ref a_p1, .ref a_p2, .ref a_p3, .ref a_p4, .ref a_p5]) (D := D) (Y := Y) (sz := sz) (ws := ([(a_p1, .inl (Y.1, 3, .inl f_p1)), (a_p2, .inl (Y.1, 20, .inl f_p2)), (a_p3, .inl (Y.1, 3, .inl f_p3)), (a_p4, .inl (Y.1, 16, .inl f_p4)), (a_p5, .inl (Y.2.2.2, 64, .inr (.inl f_p5)))] ++ ws)) (mc := 0) (ms := 0) (Qc := (fun A => QXz D R (fun ws => OX Y a_o v_o_a v_o_p ws) (fun ws => ([(a_p1, .inl (Y.1, 3, .inl f_p1)), (a_p2, .inl (Y.1, 20, .inl f_p2)), (a_p3, .inl (Y.1, 3, .inl f_p3)), (a_p4, .inl (Y.1, 16, .inl f_p4)), (a_p5, .inl (Y.2.2.2, 64, .inr (.inl f_p5)))] ++ ws)) A)) (by decide) (Nat.le_of_ble_eq_true rfl) ?_
  intro p e s m below meth c ls A hx hb hml hr hlocks hown hts hnm hA hP hD hS hE hl
  generalize hargs : List.toArray _ = args at hts ⊢
  have hown : s.vm.findClass RL = some m.cls := hown
  have E : EN p m c cL_areLeads 14 s args RL := ⟨hx, hb, hml, hown, hts⟩
  have hl : lv_has ls 14 [(0, .ref a_o), (1, .ref a_p1), (2, .ref a_p2), (3, .ref a_p3), (4, .ref a_p4), (5, .ref a_p5)] := hl
  generalize hQ : MQ below _ args s 0 0 _ = Q
  unfold f_L_areLeads at hf
  have L241 : ∀ (n : Nat) (k : Int32 → Int32 → Option (Int32)) (s6 : Int32) (s7 : Int32) (s8 : Int32) (s9 : Int32) (s10 : Int32) (s12 : Int32) (s11 : Int32) (s13 : Int32) (H : Heap) (locs : List Loc) (ws : va_W) (ls : Array Slot), f_L_areLeads_L241 k s6 s7 s8 s9 s10 s12 f_p1 f_p2 f_p3 f_p4 f_p5 v_o_a v_o_p n s11 s13 = some R → OX Y a_o v_o_a v_o_p ws → va_P D vwCl ([(a_p1, .inl (Y.1, 3, .inl f_p1)), (a_p2, .inl (Y.1, 20, .inl f_p2)), (a_p3, .inl (Y.1, 3, .inl f_p3)), (a_p4, .inl (Y.1, 16, .inl f_p4)), (a_p5, .inl (Y.2.2.2, 64, .inr (.inl f_p5)))] ++ ws) H → va_D A ([(a_p1, .inl (Y.1, 3, .inl f_p1)), (a_p2, .inl (Y.1, 20, .inl f_p2)), (a_p3, .inl (Y.1, 3, .inl f_p3)), (a_p4, .inl (Y.1, 16, .inl f_p4)), (a_p5, .inl (Y.2.2.2, 64, .inr (.inl f_p5)))] ++ ws) → va_S A s.heap H locs → lv_has ls 14 [(0, .ref a_o), (1, .ref a_p1), (2, .ref a_p2), (3, .ref a_p3), (4, .ref a_p4), (5, .ref a_p5), (6, .int s6), (7, .int s7), (8, .int s8), (9, .int s9), (10, .int s10), (11, .int s11), (12, .int s12), (13, .int s13)] → (∀ (y_s11 : Int32) (y_s13 : Int32) (H : Heap) (locs : List Loc) (ws : va_W) (ls : Array Slot), k y_s11 y_s13 = some R → OX Y a_o v_o_a v_o_p ws → va_P D vwCl ([(a_p1, .inl (Y.1, 3, .inl f_p1)), (a_p2, .inl (Y.1, 20, .inl f_p2)), (a_p3, .inl (Y.1, 3, .inl f_p3)), (a_p4, .inl (Y.1, 16, .inl f_p4)), (a_p5, .inl (Y.2.2.2, 64, .inr (.inl f_p5)))] ++ ws) H → va_D A ([(a_p1, .inl (Y.1, 3, .inl f_p1)), (a_p2, .inl (Y.1, 20, .inl f_p2)), (a_p3, .inl (Y.1, 3, .inl f_p3)), (a_p4, .inl (Y.1, 16, .inl f_p4)), (a_p5, .inl (Y.2.2.2, 64, .inr (.inl f_p5)))] ++ ws) → va_S A s.heap H locs → lv_has ls 14 [(0, .ref a_o), (1, .ref a_p1), (2, .ref a_p2), (3, .ref a_p3), (4, .ref a_p4), (5, .ref a_p5), (6, .int s6), (7, .int s7), (8, .int s8), (9, .int s9), (10, .int s10), (11, .int y_s11), (12, .int s12)] → W p l e rm_L_areLeads s m args below meth c H locs 0 0 Q (F0 m 299 ls [])) → W p l e rm_L_areLeads s m args below meth c H locs 0 0 Q (F0 m 241 ls []) := by
    intro n
    induction n with
    | zero =>
      intro k s6 s7 s8 s9 s10 s12 s11 s13 H locs ws ls hf
      cases hf
    | succ n ih =>
      intro k s6 s7 s8 s9 s10 s12 s11 s13 H locs ws ls hf hX hP hD hS hl hk
      unfold f_L_areLeads_L241 at hf
      refine lv_iload hx hb dL_areLeads_241 (lv_at hl 13 rfl) ?_
      refine lv_aload_n hx hb dL_areLeads_243 rfl (lv_at hl 1 rfl) ?_
      refine lv_iconst (v := 1) hx hb dL_areLeads_244 (by decide) ?_
      refine va_iald hx hb hE.1 hP 0 0 rfl rfl (inb_in (by decide)) dL_areLeads_245 ?_
      refine lv_icmp_gt (tgt := 299) hx hb dL_areLeads_246 (by decide) (fun c14 => ?_) (fun c14 => ?_)
      · have hf := ite_t c14 hf
        exact hk _ _ _ _ _ _ hf hX hP hD hS (lv_sub hl [0, 1, 2, 3, 4, 5, 6, 7, 8, 9, 10, 11, 12] rfl)
      have hf := ite_f c14 hf
      refine lv_iload hx hb dL_areLeads_249 (lv_at hl 11 rfl) ?_
      refine lv_if_ne (tgt := 299) hx hb dL_areLeads_251 (by decide) (fun c15 => ?_) (fun c15 => ?_)
      · have hf := ite_f c15 hf
        exact hk _ _ _ _ _ _ hf hX hP hD hS (lv_sub hl [0, 1, 2, 3, 4, 5, 6, 7, 8, 9, 10, 11, 12] rfl)
      have hf := ite_t c15 hf
      refine lv_aload hx hb dL_areLeads_254 (lv_at hl 5 rfl) ?_
      refine lv_iload hx hb dL_areLeads_256 (lv_at hl 9 rfl) ?_
      refine lv_aload_n hx hb dL_areLeads_258 rfl (lv_at hl 1 rfl) ?_
      refine lv_iconst (v := 1) hx hb dL_areLeads_259 (by decide) ?_
      refine va_iald hx hb hE.1 hP 0 0 rfl rfl (inb_in (by decide)) dL_areLeads_260 ?_
      refine lv_imul hx hb dL_areLeads_261 ?_
      refine lv_iload hx hb dL_areLeads_262 (lv_at hl 12 rfl) ?_
      refine lv_iadd hx hb dL_areLeads_264 ?_
      obtain ⟨q16, h17, hf⟩ := bd_s hf
      refine af_ol (run_S (As := [.ref a_p5, .int ((s9 * (f_p1 (1 : Int32).toNatClampNeg)) + s12)]) (rest := []) E (c_L_rowAt l D Y a_p5 f_p5 ((s9 * (f_p1 (1 : Int32).toNatClampNeg)) + s12) q16 h17) qw506 qw507 qw18 qw508 rfl rfl hd_L_rowAt ⟨Nat.le_of_ble_eq_true rfl, Nat.le_of_ble_eq_true rfl⟩ (pre_roS hP hE [4] rfl) rfl hl.1 rfl (Nat.le_of_ble_eq_true rfl) dL_areLeads_265 ⟨Nat.le_of_ble_eq_true rfl, Nat.le_of_ble_eq_true rfl⟩) ?_
      refine lv_aload hx hb dL_areLeads_268 (lv_at hl 5 rfl) ?_
      refine lv_iload hx hb dL_areLeads_270 (lv_at hl 10 rfl) ?_
      refine lv_aload_n hx hb dL_areLeads_272 rfl (lv_at hl 1 rfl) ?_
      refine lv_iconst (v := 1) hx hb dL_areLeads_273 (by decide) ?_
      refine va_iald hx hb hE.1 hP 0 0 rfl rfl (inb_in (by decide)) dL_areLeads_274 ?_
      refine lv_imul hx hb dL_areLeads_275 ?_
      refine lv_iload hx hb dL_areLeads_276 (lv_at hl 13 rfl) ?_
      refine lv_iadd hx hb dL_areLeads_278 ?_
      obtain ⟨q18, h19, hf⟩ := bd_s hf
      refine af_ol (run_S (As := [.ref a_p5, .int ((s10 * (f_p1 (1 : Int32).toNatClampNeg)) + s13)]) (rest := [.long q16]) E (c_L_rowAt l D Y a_p5 f_p5 ((s10 * (f_p1 (1 : Int32).toNatClampNeg)) + s13) q18 h19) qw506 qw507 qw18 qw508 rfl rfl hd_L_rowAt ⟨Nat.le_of_ble_eq_true rfl, Nat.le_of_ble_eq_true rfl⟩ (pre_roS hP hE [4] rfl) rfl hl.1 rfl (Nat.le_of_ble_eq_true rfl) dL_areLeads_279 ⟨Nat.le_of_ble_eq_true rfl, Nat.le_of_ble_eq_true rfl⟩) ?_
      refine W.lcmp hx hb dL_areLeads_282 ?_
      refine mg (P := fun (w20 : Int32) => ∀ (ls : Array Slot), lv_has ls 14 [(0, .ref a_o), (1, .ref a_p1), (2, .ref a_p2), (3, .ref a_p3), (4, .ref a_p4), (5, .ref a_p5), (6, .int s6), (7, .int s7), (8, .int s8), (9, .int s9), (10, .int s10), (12, .int s12), (13, .int s13)] → W p l e rm_L_areLeads s m args below meth c H locs 0 0 Q (F0 m 291 ls [.int w20])) hf (fun w20 hf ls hl => ?_) (fun hJ => ?_)
      · refine lv_istore (lv' := [(11, .int w20), (0, .ref a_o), (1, .ref a_p1), (2, .ref a_p2), (3, .ref a_p3), (4, .ref a_p4), (5, .ref a_p5), (6, .int s6), (7, .int s7), (8, .int s8), (9, .int s9), (10, .int s10), (12, .int s12), (13, .int s13)]) hx hb dL_areLeads_291 hl (by decide) rfl (fun ls hl => ?_)
        refine lv_iinc (v := (s13 + 1)) (lv' := [(13, .int (s13 + 1)), (11, .int w20), (0, .ref a_o), (1, .ref a_p1), (2, .ref a_p2), (3, .ref a_p3), (4, .ref a_p4), (5, .ref a_p5), (6, .int s6), (7, .int s7), (8, .int s8), (9, .int s9), (10, .int s10), (12, .int s12)]) hx hb dL_areLeads_293 hl (k := 13) rfl rfl (by decide) rfl (fun ls hl => ?_)
        refine lv_goto (tgt := 241) hx hb dL_areLeads_296 (by decide) ?_
        exact ih _ _ _ _ _ _ _ _ _ _ _ _ _ hf hX hP hD hS (lv_sub hl [2, 3, 4, 5, 6, 7, 8, 9, 10, 11, 12, 1, 13, 0] rfl) hk
      refine lv_if_ne (tgt := 290) hx hb dL_areLeads_283 (by decide) (fun c21 => ?_) (fun c21 => ?_)
      · have hf := nmi_f c21 hf
        refine lv_iconst (v := 0) hx hb dL_areLeads_290 (by decide) ?_
        exact hJ _ (nm_b hf) _ (lv_sub hl [0, 1, 2, 3, 4, 5, 6, 7, 8, 9, 10, 12, 13] rfl)
      have hf := nmi_t c21 hf
      refine lv_iconst (v := 1) hx hb dL_areLeads_286 (by decide) ?_
      refine lv_goto (tgt := 291) hx hb dL_areLeads_287 (by decide) ?_
      exact hJ _ (nm_b hf) _ (lv_sub hl [0, 1, 2, 3, 4, 5, 6, 7, 8, 9, 10, 12, 13] rfl)
  have L225 : ∀ (n : Nat) (k : Int32 → Int32 → Option (Int32)) (s6 : Int32) (s7 : Int32) (s8 : Int32) (s9 : Int32) (s10 : Int32) (s11 : Int32) (s12 : Int32) (H : Heap) (locs : List Loc) (ws : va_W) (ls : Array Slot), f_L_areLeads_L225 k s6 s7 s8 s9 s10 f_p1 f_p2 f_p3 f_p4 f_p5 v_o_a v_o_p n s11 s12 = some R → OX Y a_o v_o_a v_o_p ws → va_P D vwCl ([(a_p1, .inl (Y.1, 3, .inl f_p1)), (a_p2, .inl (Y.1, 20, .inl f_p2)), (a_p3, .inl (Y.1, 3, .inl f_p3)), (a_p4, .inl (Y.1, 16, .inl f_p4)), (a_p5, .inl (Y.2.2.2, 64, .inr (.inl f_p5)))] ++ ws) H → va_D A ([(a_p1, .inl (Y.1, 3, .inl f_p1)), (a_p2, .inl (Y.1, 20, .inl f_p2)), (a_p3, .inl (Y.1, 3, .inl f_p3)), (a_p4, .inl (Y.1, 16, .inl f_p4)), (a_p5, .inl (Y.2.2.2, 64, .inr (.inl f_p5)))] ++ ws) → va_S A s.heap H locs → lv_has ls 14 [(0, .ref a_o), (1, .ref a_p1), (2, .ref a_p2), (3, .ref a_p3), (4, .ref a_p4), (5, .ref a_p5), (6, .int s6), (7, .int s7), (8, .int s8), (9, .int s9), (10, .int s10), (11, .int s11), (12, .int s12)] → (∀ (y_s11 : Int32) (y_s12 : Int32) (H : Heap) (locs : List Loc) (ws : va_W) (ls : Array Slot), k y_s11 y_s12 = some R → OX Y a_o v_o_a v_o_p ws → va_P D vwCl ([(a_p1, .inl (Y.1, 3, .inl f_p1)), (a_p2, .inl (Y.1, 20, .inl f_p2)), (a_p3, .inl (Y.1, 3, .inl f_p3)), (a_p4, .inl (Y.1, 16, .inl f_p4)), (a_p5, .inl (Y.2.2.2, 64, .inr (.inl f_p5)))] ++ ws) H → va_D A ([(a_p1, .inl (Y.1, 3, .inl f_p1)), (a_p2, .inl (Y.1, 20, .inl f_p2)), (a_p3, .inl (Y.1, 3, .inl f_p3)), (a_p4, .inl (Y.1, 16, .inl f_p4)), (a_p5, .inl (Y.2.2.2, 64, .inr (.inl f_p5)))] ++ ws) → va_S A s.heap H locs → lv_has ls 14 [(0, .ref a_o), (1, .ref a_p1), (2, .ref a_p2), (3, .ref a_p3), (4, .ref a_p4), (5, .ref a_p5), (6, .int s6), (7, .int s7), (8, .int s8), (9, .int s9), (10, .int s10), (11, .int y_s11)] → W p l e rm_L_areLeads s m args below meth c H locs 0 0 Q (F0 m 305 ls [])) → W p l e rm_L_areLeads s m args below meth c H locs 0 0 Q (F0 m 225 ls []) := by
    intro n
    induction n with
    | zero =>
      intro k s6 s7 s8 s9 s10 s11 s12 H locs ws ls hf
      cases hf
    | succ n ih =>
      intro k s6 s7 s8 s9 s10 s11 s12 H locs ws ls hf hX hP hD hS hl hk
      unfold f_L_areLeads_L225 at hf
      refine lv_iload hx hb dL_areLeads_225 (lv_at hl 12 rfl) ?_
      refine lv_aload_n hx hb dL_areLeads_227 rfl (lv_at hl 1 rfl) ?_
      refine lv_iconst (v := 1) hx hb dL_areLeads_228 (by decide) ?_
      refine va_iald hx hb hE.1 hP 0 0 rfl rfl (inb_in (by decide)) dL_areLeads_229 ?_
      refine lv_icmp_gt (tgt := 305) hx hb dL_areLeads_230 (by decide) (fun c12 => ?_) (fun c12 => ?_)
      · have hf := ite_t c12 hf
        exact hk _ _ _ _ _ _ hf hX hP hD hS (lv_sub hl [0, 1, 2, 3, 4, 5, 6, 7, 8, 9, 10, 11] rfl)
      have hf := ite_f c12 hf
      refine lv_iload hx hb dL_areLeads_233 (lv_at hl 11 rfl) ?_
      refine lv_if_ne (tgt := 305) hx hb dL_areLeads_235 (by decide) (fun c13 => ?_) (fun c13 => ?_)
      · have hf := ite_f c13 hf
        exact hk _ _ _ _ _ _ hf hX hP hD hS (lv_sub hl [0, 1, 2, 3, 4, 5, 6, 7, 8, 9, 10, 11] rfl)
      have hf := ite_t c13 hf
      refine lv_iconst (v := 1) hx hb dL_areLeads_238 (by decide) ?_
      refine lv_istore (lv' := [(13, .int 1), (0, .ref a_o), (1, .ref a_p1), (2, .ref a_p2), (3, .ref a_p3), (4, .ref a_p4), (5, .ref a_p5), (6, .int s6), (7, .int s7), (8, .int s8), (9, .int s9), (10, .int s10), (11, .int s11), (12, .int s12)]) hx hb dL_areLeads_239 hl (by decide) rfl (fun ls hl => ?_)
      refine L241 _ _ _ _ _ _ _ _ _ _ _ _ _ _ hf hX hP hD hS (lv_sub hl [1, 2, 3, 4, 5, 6, 7, 8, 9, 10, 11, 12, 13, 0] rfl) ?_
      intro y22 y23 H locs ws ls hf hX hP hD hS hl
      refine lv_iinc (v := (s12 + 1)) (lv' := [(12, .int (s12 + 1)), (0, .ref a_o), (1, .ref a_p1), (2, .ref a_p2), (3, .ref a_p3), (4, .ref a_p4), (5, .ref a_p5), (6, .int s6), (7, .int s7), (8, .int s8), (9, .int s9), (10, .int s10), (11, .int y22)]) hx hb dL_areLeads_299 hl (k := 12) rfl rfl (by decide) rfl (fun ls hl => ?_)
      refine lv_goto (tgt := 225) hx hb dL_areLeads_302 (by decide) ?_
      exact ih _ _ _ _ _ _ _ _ _ _ _ _ hf hX hP hD hS (lv_sub hl [1, 2, 3, 4, 5, 6, 7, 8, 9, 10, 11, 12, 0] rfl) hk
  have L212 : ∀ (n : Nat) (k : Int32 → Int32 → Option (Int32)) (s7 : Int32) (s8 : Int32) (s9 : Int32) (s6 : Int32) (s10 : Int32) (H : Heap) (locs : List Loc) (ws : va_W) (ls : Array Slot), f_L_areLeads_L212 k s7 s8 s9 f_p1 f_p2 f_p3 f_p4 f_p5 v_o_a v_o_p n s6 s10 = some R → OX Y a_o v_o_a v_o_p ws → va_P D vwCl ([(a_p1, .inl (Y.1, 3, .inl f_p1)), (a_p2, .inl (Y.1, 20, .inl f_p2)), (a_p3, .inl (Y.1, 3, .inl f_p3)), (a_p4, .inl (Y.1, 16, .inl f_p4)), (a_p5, .inl (Y.2.2.2, 64, .inr (.inl f_p5)))] ++ ws) H → va_D A ([(a_p1, .inl (Y.1, 3, .inl f_p1)), (a_p2, .inl (Y.1, 20, .inl f_p2)), (a_p3, .inl (Y.1, 3, .inl f_p3)), (a_p4, .inl (Y.1, 16, .inl f_p4)), (a_p5, .inl (Y.2.2.2, 64, .inr (.inl f_p5)))] ++ ws) → va_S A s.heap H locs → lv_has ls 14 [(0, .ref a_o), (1, .ref a_p1), (2, .ref a_p2), (3, .ref a_p3), (4, .ref a_p4), (5, .ref a_p5), (6, .int s6), (7, .int s7), (8, .int s8), (9, .int s9), (10, .int s10)] → (∀ (y_s6 : Int32) (y_s10 : Int32) (H : Heap) (locs : List Loc) (ws : va_W) (ls : Array Slot), k y_s6 y_s10 = some R → OX Y a_o v_o_a v_o_p ws → va_P D vwCl ([(a_p1, .inl (Y.1, 3, .inl f_p1)), (a_p2, .inl (Y.1, 20, .inl f_p2)), (a_p3, .inl (Y.1, 3, .inl f_p3)), (a_p4, .inl (Y.1, 16, .inl f_p4)), (a_p5, .inl (Y.2.2.2, 64, .inr (.inl f_p5)))] ++ ws) H → va_D A ([(a_p1, .inl (Y.1, 3, .inl f_p1)), (a_p2, .inl (Y.1, 20, .inl f_p2)), (a_p3, .inl (Y.1, 3, .inl f_p3)), (a_p4, .inl (Y.1, 16, .inl f_p4)), (a_p5, .inl (Y.2.2.2, 64, .inr (.inl f_p5)))] ++ ws) → va_S A s.heap H locs → lv_has ls 14 [(0, .ref a_o), (1, .ref a_p1), (2, .ref a_p2), (3, .ref a_p3), (4, .ref a_p4), (5, .ref a_p5), (6, .int y_s6), (7, .int s7), (8, .int s8), (9, .int s9)] → W p l e rm_L_areLeads s m args below meth c H locs 0 0 Q (F0 m 326 ls [])) → W p l e rm_L_areLeads s m args below meth c H locs 0 0 Q (F0 m 212 ls []) := by
    intro n
    induction n with
    | zero =>
      intro k s7 s8 s9 s6 s10 H locs ws ls hf
      cases hf
    | succ n ih =>
      intro k s7 s8 s9 s6 s10 H locs ws ls hf hX hP hD hS hl hk
      unfold f_L_areLeads_L212 at hf
      refine lv_iload hx hb dL_areLeads_212 (lv_at hl 10 rfl) ?_
      refine lv_iload hx hb dL_areLeads_214 (lv_at hl 9 rfl) ?_
      refine lv_icmp_ge (tgt := 326) hx hb dL_areLeads_216 (by decide) (fun c11 => ?_) (fun c11 => ?_)
      · have hf := ite_t c11 hf
        exact hk _ _ _ _ _ _ hf hX hP hD hS (lv_sub hl [0, 1, 2, 3, 4, 5, 6, 7, 8, 9] rfl)
      have hf := ite_f c11 hf
      refine lv_iconst (v := 0) hx hb dL_areLeads_219 (by decide) ?_
      refine lv_istore (lv' := [(11, .int 0), (0, .ref a_o), (1, .ref a_p1), (2, .ref a_p2), (3, .ref a_p3), (4, .ref a_p4), (5, .ref a_p5), (6, .int s6), (7, .int s7), (8, .int s8), (9, .int s9), (10, .int s10)]) hx hb dL_areLeads_220 hl (by decide) rfl (fun ls hl => ?_)
      refine lv_iconst (v := 1) hx hb dL_areLeads_222 (by decide) ?_
      refine lv_istore (lv' := [(12, .int 1), (11, .int 0), (0, .ref a_o), (1, .ref a_p1), (2, .ref a_p2), (3, .ref a_p3), (4, .ref a_p4), (5, .ref a_p5), (6, .int s6), (7, .int s7), (8, .int s8), (9, .int s9), (10, .int s10)]) hx hb dL_areLeads_223 hl (by decide) rfl (fun ls hl => ?_)
      refine L225 _ _ _ _ _ _ _ _ _ _ _ _ _ hf hX hP hD hS (lv_sub hl [2, 3, 4, 5, 6, 7, 8, 9, 10, 11, 12, 1, 0] rfl) ?_
      intro y24 y25 H locs ws ls hf hX hP hD hS hl
      refine lv_iload hx hb dL_areLeads_305 (lv_at hl 6 rfl) ?_
      refine lv_iload hx hb dL_areLeads_307 (lv_at hl 11 rfl) ?_
      refine mg (P := fun (w26 : Int32) => ∀ (ls : Array Slot), lv_has ls 14 [(0, .ref a_o), (1, .ref a_p1), (2, .ref a_p2), (3, .ref a_p3), (4, .ref a_p4), (5, .ref a_p5), (7, .int s7), (8, .int s8), (9, .int s9), (10, .int s10)] → W p l e rm_L_areLeads s m args below meth c H locs 0 0 Q (F0 m 317 ls [.int w26, .int s6])) hf (fun w26 hf ls hl => ?_) (fun hJ => ?_)
      · refine lv_iadd hx hb dL_areLeads_317 ?_
        refine nm_W hf (fun x27 hf => ?_)
        refine lv_istore (lv' := [(6, .int x27), (0, .ref a_o), (1, .ref a_p1), (2, .ref a_p2), (3, .ref a_p3), (4, .ref a_p4), (5, .ref a_p5), (7, .int s7), (8, .int s8), (9, .int s9), (10, .int s10)]) hx hb dL_areLeads_318 hl (by decide) rfl (fun ls hl => ?_)
        refine lv_iinc (v := (s10 + 1)) (lv' := [(10, .int (s10 + 1)), (6, .int x27), (0, .ref a_o), (1, .ref a_p1), (2, .ref a_p2), (3, .ref a_p3), (4, .ref a_p4), (5, .ref a_p5), (7, .int s7), (8, .int s8), (9, .int s9)]) hx hb dL_areLeads_320 hl (k := 10) rfl rfl (by decide) rfl (fun ls hl => ?_)
        refine lv_goto (tgt := 212) hx hb dL_areLeads_323 (by decide) ?_
        exact ih _ _ _ _ _ _ _ _ _ _ hf hX hP hD hS (lv_sub hl [2, 3, 4, 5, 6, 7, 1, 8, 9, 10, 0] rfl) hk
      refine lv_if_eq (tgt := 316) hx hb dL_areLeads_309 (by decide) (fun c28 => ?_) (fun c28 => ?_)
      · have hf := nmi_t c28 hf
        refine lv_iconst (v := 0) hx hb dL_areLeads_316 (by decide) ?_
        exact hJ _ (nm_b hf) _ (lv_sub hl [0, 1, 2, 3, 4, 5, 7, 8, 9, 10] rfl)
      have hf := nmi_f c28 hf
      refine lv_iconst (v := 1) hx hb dL_areLeads_312 (by decide) ?_
      refine lv_goto (tgt := 317) hx hb dL_areLeads_313 (by decide) ?_
      exact hJ _ (nm_b hf) _ (lv_sub hl [0, 1, 2, 3, 4, 5, 7, 8, 9, 10] rfl)
  have L119 : ∀ (n : Nat) (k : Int32 → Int32 → Int32 → Int32 → Option (Int32)) (s6 : Int32) (s7 : Int32) (s8 : Int32) (s9 : Int32) (H : Heap) (locs : List Loc) (ws : va_W) (ls : Array Slot), f_L_areLeads_L119 k f_p1 f_p2 f_p3 f_p4 f_p5 v_o_a v_o_p n s6 s7 s8 s9 = some R → OX Y a_o v_o_a v_o_p ws → va_P D vwCl ([(a_p1, .inl (Y.1, 3, .inl f_p1)), (a_p2, .inl (Y.1, 20, .inl f_p2)), (a_p3, .inl (Y.1, 3, .inl f_p3)), (a_p4, .inl (Y.1, 16, .inl f_p4)), (a_p5, .inl (Y.2.2.2, 64, .inr (.inl f_p5)))] ++ ws) H → va_D A ([(a_p1, .inl (Y.1, 3, .inl f_p1)), (a_p2, .inl (Y.1, 20, .inl f_p2)), (a_p3, .inl (Y.1, 3, .inl f_p3)), (a_p4, .inl (Y.1, 16, .inl f_p4)), (a_p5, .inl (Y.2.2.2, 64, .inr (.inl f_p5)))] ++ ws) → va_S A s.heap H locs → lv_has ls 14 [(0, .ref a_o), (1, .ref a_p1), (2, .ref a_p2), (3, .ref a_p3), (4, .ref a_p4), (5, .ref a_p5), (6, .int s6), (7, .int s7), (8, .int s8), (9, .int s9)] → (∀ (y_s6 : Int32) (y_s7 : Int32) (y_s8 : Int32) (y_s9 : Int32) (H : Heap) (locs : List Loc) (ws : va_W) (ls : Array Slot), k y_s6 y_s7 y_s8 y_s9 = some R → OX Y a_o v_o_a v_o_p ws → va_P D vwCl ([(a_p1, .inl (Y.1, 3, .inl f_p1)), (a_p2, .inl (Y.1, 20, .inl f_p2)), (a_p3, .inl (Y.1, 3, .inl f_p3)), (a_p4, .inl (Y.1, 16, .inl f_p4)), (a_p5, .inl (Y.2.2.2, 64, .inr (.inl f_p5)))] ++ ws) H → va_D A ([(a_p1, .inl (Y.1, 3, .inl f_p1)), (a_p2, .inl (Y.1, 20, .inl f_p2)), (a_p3, .inl (Y.1, 3, .inl f_p3)), (a_p4, .inl (Y.1, 16, .inl f_p4)), (a_p5, .inl (Y.2.2.2, 64, .inr (.inl f_p5)))] ++ ws) → va_S A s.heap H locs → lv_has ls 14 [(0, .ref a_o), (1, .ref a_p1), (2, .ref a_p2), (6, .int y_s6), (7, .int y_s7), (8, .int y_s8)] → W p l e rm_L_areLeads s m args below meth c H locs 0 0 Q (F0 m 332 ls [])) → W p l e rm_L_areLeads s m args below meth c H locs 0 0 Q (F0 m 119 ls []) := by
    intro n
    induction n with
    | zero =>
      intro k s6 s7 s8 s9 H locs ws ls hf
      cases hf
    | succ n ih =>
      intro k s6 s7 s8 s9 H locs ws ls hf hX hP hD hS hl hk
      unfold f_L_areLeads_L119 at hf
      refine lv_iload hx hb dL_areLeads_119 (lv_at hl 9 rfl) ?_
      refine lv_aload_n hx hb dL_areLeads_121 rfl (lv_at hl 1 rfl) ?_
      refine lv_iconst (v := 2) hx hb dL_areLeads_122 (by decide) ?_
      refine va_iald hx hb hE.1 hP 0 0 rfl rfl (inb_in (by decide)) dL_areLeads_123 ?_
      refine lv_icmp_ge (tgt := 332) hx hb dL_areLeads_124 (by decide) (fun c5 => ?_) (fun c5 => ?_)
      · have hf := ite_t c5 hf
        exact hk _ _ _ _ _ _ _ _ hf hX hP hD hS (lv_sub hl [0, 1, 2, 6, 7, 8] rfl)
      have hf := ite_f c5 hf
      refine lv_iload hx hb dL_areLeads_127 (lv_at hl 7 rfl) ?_
      refine lv_aload hx hb dL_areLeads_129 (lv_at hl 4 rfl) ?_
      refine lv_iload hx hb dL_areLeads_131 (lv_at hl 9 rfl) ?_
      obtain ⟨g6, hf⟩ := gd_s hf
      refine va_iald hx hb hE.1 hP 3 0 rfl rfl (inb_in g6) dL_areLeads_133 ?_
      refine mg (P := fun (w7 : Int32) => ∀ (ls : Array Slot), lv_has ls 14 [(0, .ref a_o), (1, .ref a_p1), (2, .ref a_p2), (3, .ref a_p3), (4, .ref a_p4), (5, .ref a_p5), (6, .int s6), (8, .int s8), (9, .int s9)] → W p l e rm_L_areLeads s m args below meth c H locs 0 0 Q (F0 m 142 ls [.int w7, .int s7])) hf (fun w7 hf ls hl => ?_) (fun hJ => ?_)
      · refine lv_iadd hx hb dL_areLeads_142 ?_
        refine nm_W hf (fun x8 hf => ?_)
        refine lv_istore (lv' := [(7, .int x8), (0, .ref a_o), (1, .ref a_p1), (2, .ref a_p2), (3, .ref a_p3), (4, .ref a_p4), (5, .ref a_p5), (6, .int s6), (8, .int s8), (9, .int s9)]) hx hb dL_areLeads_143 hl (by decide) rfl (fun ls hl => ?_)
        refine lv_iload hx hb dL_areLeads_145 (lv_at hl 8 rfl) ?_
        refine jj_W (P := fun (w9 : Int32) => ∀ (H : Heap) (locs : List Loc) (ws : va_W) (ls : Array Slot), OX Y a_o v_o_a v_o_p ws → va_P D vwCl ([(a_p1, .inl (Y.1, 3, .inl f_p1)), (a_p2, .inl (Y.1, 20, .inl f_p2)), (a_p3, .inl (Y.1, 3, .inl f_p3)), (a_p4, .inl (Y.1, 16, .inl f_p4)), (a_p5, .inl (Y.2.2.2, 64, .inr (.inl f_p5)))] ++ ws) H → va_D A ([(a_p1, .inl (Y.1, 3, .inl f_p1)), (a_p2, .inl (Y.1, 20, .inl f_p2)), (a_p3, .inl (Y.1, 3, .inl f_p3)), (a_p4, .inl (Y.1, 16, .inl f_p4)), (a_p5, .inl (Y.2.2.2, 64, .inr (.inl f_p5)))] ++ ws) → va_S A s.heap H locs → lv_has ls 14 [(0, .ref a_o), (1, .ref a_p1), (2, .ref a_p2), (3, .ref a_p3), (4, .ref a_p4), (5, .ref a_p5), (6, .int s6), (7, .int x8), (9, .int s9)] → W p l e rm_L_areLeads s m args below meth c H locs 0 0 Q (F0 m 207 ls [.int w9])) hf (fun w9 hf H locs ws ls hX hP hD hS hl => ?_) (fun kk10 hkk10 hf => ?_)
        · refine lv_istore (lv' := [(8, .int w9), (0, .ref a_o), (1, .ref a_p1), (2, .ref a_p2), (3, .ref a_p3), (4, .ref a_p4), (5, .ref a_p5), (6, .int s6), (7, .int x8), (9, .int s9)]) hx hb dL_areLeads_207 hl (by decide) rfl (fun ls hl => ?_)
          refine lv_iconst (v := 0) hx hb dL_areLeads_209 (by decide) ?_
          refine lv_istore (lv' := [(10, .int 0), (8, .int w9), (0, .ref a_o), (1, .ref a_p1), (2, .ref a_p2), (3, .ref a_p3), (4, .ref a_p4), (5, .ref a_p5), (6, .int s6), (7, .int x8), (9, .int s9)]) hx hb dL_areLeads_210 hl (by decide) rfl (fun ls hl => ?_)
          refine L212 _ _ _ _ _ _ _ _ _ _ _ hf hX hP hD hS (lv_sub hl [2, 3, 4, 5, 6, 7, 8, 9, 1, 10, 0] rfl) ?_
          intro y29 y30 H locs ws ls hf hX hP hD hS hl
          refine lv_iinc (v := (s9 + 1)) (lv' := [(9, .int (s9 + 1)), (0, .ref a_o), (1, .ref a_p1), (2, .ref a_p2), (3, .ref a_p3), (4, .ref a_p4), (5, .ref a_p5), (6, .int y29), (7, .int x8), (8, .int w9)]) hx hb dL_areLeads_326 hl (k := 9) rfl rfl (by decide) rfl (fun ls hl => ?_)
          refine lv_goto (tgt := 119) hx hb dL_areLeads_329 (by decide) ?_
          exact ih _ _ _ _ _ _ _ _ _ hf hX hP hD hS (lv_sub hl [1, 2, 3, 4, 5, 6, 7, 8, 9, 0] rfl) hk
        refine lv_if_eq (tgt := 206) hx hb dL_areLeads_147 (by decide) (fun c31 => ?_) (fun c31 => ?_)
        · have hf := ite_t c31 hf
          refine lv_iconst (v := 0) hx hb dL_areLeads_206 (by decide) ?_
          exact hkk10 _ hf _ _ _ _ hX hP hD hS (lv_sub hl [1, 2, 3, 4, 5, 6, 7, 0, 9] rfl)
        have hf := ite_f c31 hf
        refine lv_aload_n hx hb dL_areLeads_150 rfl (lv_at hl 1 rfl) ?_
        refine lv_iload hx hb dL_areLeads_151 (lv_at hl 9 rfl) ?_
        refine lv_aload_n hx hb dL_areLeads_153 rfl (lv_at hl 2 rfl) ?_
        refine lv_iconst (v := 1) hx hb dL_areLeads_154 (by decide) ?_
        refine va_iald hx hb hE.1 hP 0 0 rfl rfl (inb_in (by decide)) dL_areLeads_155 ?_
        refine lv_iconst (v := 1) hx hb dL_areLeads_156 (by decide) ?_
        refine lv_isub hx hb dL_areLeads_157 ?_
        obtain ⟨q32, h33, hf⟩ := bd_s hf
        refine ak_i (run_V (As := [.int s9, .int ((f_p1 (1 : Int32).toNatClampNeg) - 1)]) (rest := []) E (k_change l D Y hX s9 ((f_p1 (1 : Int32).toNatClampNeg) - 1) H.size q32 h33) qw580 qw581 qw582 qw19 qw583 rfl rfl hd_X10_change ⟨Nat.le_of_ble_eq_true rfl, Nat.le_of_ble_eq_true rfl⟩ (pre_xV hP hD hE (ci := 7) rfl hX.head) rfl hl.1 rfl (Nat.le_of_ble_eq_true rfl) dL_areLeads_158 ⟨Nat.le_of_ble_eq_true rfl, Nat.le_of_ble_eq_true rfl⟩) hP hD hS hA (fun ws H locs hX hP hD hS => ?_)
        refine lv_aload_n hx hb dL_areLeads_161 rfl (lv_at hl 2 rfl) ?_
        refine lv_aload_n hx hb dL_areLeads_162 rfl (lv_at hl 3 rfl) ?_
        refine lv_aload_n hx hb dL_areLeads_163 rfl (lv_at hl 4 rfl) ?_
        refine lv_aload hx hb dL_areLeads_164 (lv_at hl 5 rfl) ?_
        refine lv_iload hx hb dL_areLeads_166 (lv_at hl 9 rfl) ?_
        refine lv_iconst (v := 1) hx hb dL_areLeads_168 (by decide) ?_
        refine lv_iadd hx hb dL_areLeads_169 ?_
        refine lv_aload_n hx hb dL_areLeads_170 rfl (lv_at hl 2 rfl) ?_
        refine lv_iconst (v := 1) hx hb dL_areLeads_171 (by decide) ?_
        refine va_iald hx hb hE.1 hP 0 0 rfl rfl (inb_in (by decide)) dL_areLeads_172 ?_
        refine lv_imul hx hb dL_areLeads_173 ?_
        refine lv_iconst (v := 1) hx hb dL_areLeads_174 (by decide) ?_
        refine lv_isub hx hb dL_areLeads_175 ?_
        obtain ⟨q34, h35, hf⟩ := bd_s hf
        refine af_oi (run_S (As := [.ref a_p1, .ref a_p2, .ref a_p3, .ref a_p4, .int (((s9 + 1) * (f_p1 (1 : Int32).toNatClampNeg)) - 1)]) (rest := [.int q32]) E (c_L_change l D Y a_p1 a_p2 a_p3 a_p4 f_p1 f_p2 f_p3 f_p4 (((s9 + 1) * (f_p1 (1 : Int32).toNatClampNeg)) - 1) q34 h35) qw367 qw368 qw18 qw369 rfl rfl hd_L_change ⟨Nat.le_of_ble_eq_true rfl, Nat.le_of_ble_eq_true rfl⟩ (pre_roS hP hE [0, 1, 2, 3] rfl) rfl hl.1 rfl (Nat.le_of_ble_eq_true rfl) dL_areLeads_176 ⟨Nat.le_of_ble_eq_true rfl, Nat.le_of_ble_eq_true rfl⟩) ?_
        refine lv_icmp_ne (tgt := 206) hx hb dL_areLeads_179 (by decide) (fun c36 => ?_) (fun c36 => ?_)
        · have hf := ite_f c36 hf
          refine lv_iconst (v := 0) hx hb dL_areLeads_206 (by decide) ?_
          exact hkk10 _ hf _ _ _ _ hX hP hD hS (lv_sub hl [1, 2, 3, 4, 5, 6, 7, 0, 9] rfl)
        have hf := ite_t c36 hf
        refine lv_aload_n hx hb dL_areLeads_182 rfl (lv_at hl 2 rfl) ?_
        refine lv_iconst (v := 1) hx hb dL_areLeads_183 (by decide) ?_
        refine va_iald hx hb hE.1 hP 0 0 rfl rfl (inb_in (by decide)) dL_areLeads_184 ?_
        refine lv_iconst (v := 1) hx hb dL_areLeads_185 (by decide) ?_
        refine lv_icmp_eq (tgt := 202) hx hb dL_areLeads_186 (by decide) (fun c37 => ?_) (fun c37 => ?_)
        · have hf := ite_t c37 hf
          refine lv_iconst (v := 1) hx hb dL_areLeads_202 (by decide) ?_
          refine lv_goto (tgt := 207) hx hb dL_areLeads_203 (by decide) ?_
          exact hkk10 _ hf _ _ _ _ hX hP hD hS (lv_sub hl [1, 2, 3, 4, 5, 6, 7, 0, 9] rfl)
        have hf := ite_f c37 hf
        refine lv_aload_n hx hb dL_areLeads_189 rfl (lv_at hl 1 rfl) ?_
        refine lv_iload hx hb dL_areLeads_190 (lv_at hl 9 rfl) ?_
        refine lv_iconst (v := 0) hx hb dL_areLeads_192 (by decide) ?_
        obtain ⟨q38, h39, hf⟩ := bd_s hf
        refine ak_i (run_V (As := [.int s9, .int 0]) (rest := []) E (k_change l D Y hX s9 0 H.size q38 h39) qw580 qw581 qw582 qw19 qw583 rfl rfl hd_X10_change ⟨Nat.le_of_ble_eq_true rfl, Nat.le_of_ble_eq_true rfl⟩ (pre_xV hP hD hE (ci := 7) rfl hX.head) rfl hl.1 rfl (Nat.le_of_ble_eq_true rfl) dL_areLeads_193 ⟨Nat.le_of_ble_eq_true rfl, Nat.le_of_ble_eq_true rfl⟩) hP hD hS hA (fun ws H locs hX hP hD hS => ?_)
        refine lv_aload_n hx hb dL_areLeads_196 rfl (lv_at hl 3 rfl) ?_
        refine lv_iconst (v := 0) hx hb dL_areLeads_197 (by decide) ?_
        refine va_iald hx hb hE.1 hP 1 0 rfl rfl (inb_in (by decide)) dL_areLeads_198 ?_
        refine lv_icmp_ne (tgt := 206) hx hb dL_areLeads_199 (by decide) (fun c40 => ?_) (fun c40 => ?_)
        · have hf := ite_f c40 hf
          refine lv_iconst (v := 0) hx hb dL_areLeads_206 (by decide) ?_
          exact hkk10 _ hf _ _ _ _ hX hP hD hS (lv_sub hl [1, 2, 3, 4, 5, 6, 7, 0, 9] rfl)
        have hf := ite_t c40 hf
        refine lv_iconst (v := 1) hx hb dL_areLeads_202 (by decide) ?_
        refine lv_goto (tgt := 207) hx hb dL_areLeads_203 (by decide) ?_
        exact hkk10 _ hf _ _ _ _ hX hP hD hS (lv_sub hl [1, 2, 3, 4, 5, 6, 7, 0, 9] rfl)
      refine lv_if_le (tgt := 141) hx hb dL_areLeads_134 (by decide) (fun c41 => ?_) (fun c41 => ?_)
      · have hf := nmi_t c41 hf
        refine lv_iconst (v := 0) hx hb dL_areLeads_141 (by decide) ?_
        exact hJ _ (nm_b hf) _ (lv_sub hl [0, 1, 2, 3, 4, 5, 6, 8, 9] rfl)
      have hf := nmi_f c41 hf
      refine lv_iconst (v := 1) hx hb dL_areLeads_137 (by decide) ?_
      refine lv_goto (tgt := 142) hx hb dL_areLeads_138 (by decide) ?_
      exact hJ _ (nm_b hf) _ (lv_sub hl [0, 1, 2, 3, 4, 5, 6, 8, 9] rfl)
  have L335 : ∀ (n : Nat) (k : Int32 → Int32 → Option (Int32)) (s6 : Int32) (s7 : Int32) (s8 : Int32) (s9 : Int32) (H : Heap) (locs : List Loc) (ws : va_W) (ls : Array Slot), f_L_areLeads_L335 k s6 s7 f_p1 f_p2 f_p3 f_p4 f_p5 v_o_a v_o_p n s8 s9 = some R → OX Y a_o v_o_a v_o_p ws → va_P D vwCl ([(a_p1, .inl (Y.1, 3, .inl f_p1)), (a_p2, .inl (Y.1, 20, .inl f_p2)), (a_p3, .inl (Y.1, 3, .inl f_p3)), (a_p4, .inl (Y.1, 16, .inl f_p4)), (a_p5, .inl (Y.2.2.2, 64, .inr (.inl f_p5)))] ++ ws) H → va_D A ([(a_p1, .inl (Y.1, 3, .inl f_p1)), (a_p2, .inl (Y.1, 20, .inl f_p2)), (a_p3, .inl (Y.1, 3, .inl f_p3)), (a_p4, .inl (Y.1, 16, .inl f_p4)), (a_p5, .inl (Y.2.2.2, 64, .inr (.inl f_p5)))] ++ ws) → va_S A s.heap H locs → lv_has ls 14 [(0, .ref a_o), (1, .ref a_p1), (2, .ref a_p2), (6, .int s6), (7, .int s7), (8, .int s8), (9, .int s9)] → (∀ (y_s8 : Int32) (y_s9 : Int32) (H : Heap) (locs : List Loc) (ws : va_W) (ls : Array Slot), k y_s8 y_s9 = some R → OX Y a_o v_o_a v_o_p ws → va_P D vwCl ([(a_p1, .inl (Y.1, 3, .inl f_p1)), (a_p2, .inl (Y.1, 20, .inl f_p2)), (a_p3, .inl (Y.1, 3, .inl f_p3)), (a_p4, .inl (Y.1, 16, .inl f_p4)), (a_p5, .inl (Y.2.2.2, 64, .inr (.inl f_p5)))] ++ ws) H → va_D A ([(a_p1, .inl (Y.1, 3, .inl f_p1)), (a_p2, .inl (Y.1, 20, .inl f_p2)), (a_p3, .inl (Y.1, 3, .inl f_p3)), (a_p4, .inl (Y.1, 16, .inl f_p4)), (a_p5, .inl (Y.2.2.2, 64, .inr (.inl f_p5)))] ++ ws) → va_S A s.heap H locs → lv_has ls 14 [(0, .ref a_o), (6, .int s6), (7, .int s7), (8, .int y_s8)] → W p l e rm_L_areLeads s m args below meth c H locs 0 0 Q (F0 m 375 ls [])) → W p l e rm_L_areLeads s m args below meth c H locs 0 0 Q (F0 m 335 ls []) := by
    intro n
    induction n with
    | zero =>
      intro k s6 s7 s8 s9 H locs ws ls hf
      cases hf
    | succ n ih =>
      intro k s6 s7 s8 s9 H locs ws ls hf hX hP hD hS hl hk
      unfold f_L_areLeads_L335 at hf
      refine lv_iload hx hb dL_areLeads_335 (lv_at hl 6 rfl) ?_
      refine lv_aload_n hx hb dL_areLeads_337 rfl (lv_at hl 1 rfl) ?_
      refine lv_iconst (v := 1) hx hb dL_areLeads_338 (by decide) ?_
      refine va_iald hx hb hE.1 hP 0 0 rfl rfl (inb_in (by decide)) dL_areLeads_339 ?_
      refine lv_icmp_ge (tgt := 375) hx hb dL_areLeads_340 (by decide) (fun c46 => ?_) (fun c46 => ?_)
      · have hf := ite_t c46 hf
        exact hk _ _ _ _ _ _ hf hX hP hD hS (lv_sub hl [0, 3, 4, 5] rfl)
      have hf := ite_f c46 hf
      refine lv_iload hx hb dL_areLeads_343 (lv_at hl 5 rfl) ?_
      refine jj_W (P := fun (w47 : Int32) => ∀ (H : Heap) (locs : List Loc) (ws : va_W) (ls : Array Slot), OX Y a_o v_o_a v_o_p ws → va_P D vwCl ([(a_p1, .inl (Y.1, 3, .inl f_p1)), (a_p2, .inl (Y.1, 20, .inl f_p2)), (a_p3, .inl (Y.1, 3, .inl f_p3)), (a_p4, .inl (Y.1, 16, .inl f_p4)), (a_p5, .inl (Y.2.2.2, 64, .inr (.inl f_p5)))] ++ ws) H → va_D A ([(a_p1, .inl (Y.1, 3, .inl f_p1)), (a_p2, .inl (Y.1, 20, .inl f_p2)), (a_p3, .inl (Y.1, 3, .inl f_p3)), (a_p4, .inl (Y.1, 16, .inl f_p4)), (a_p5, .inl (Y.2.2.2, 64, .inr (.inl f_p5)))] ++ ws) → va_S A s.heap H locs → lv_has ls 14 [(0, .ref a_o), (1, .ref a_p1), (2, .ref a_p2), (6, .int s6), (7, .int s7), (9, .int s9)] → W p l e rm_L_areLeads s m args below meth c H locs 0 0 Q (F0 m 367 ls [.int w47])) hf (fun w47 hf H locs ws ls hX hP hD hS hl => ?_) (fun kk48 hkk48 hf => ?_)
      · refine lv_istore (lv' := [(8, .int w47), (0, .ref a_o), (1, .ref a_p1), (2, .ref a_p2), (6, .int s6), (7, .int s7), (9, .int s9)]) hx hb dL_areLeads_367 hl (by decide) rfl (fun ls hl => ?_)
        refine lv_iinc (v := (s9 + 1)) (lv' := [(9, .int (s9 + 1)), (8, .int w47), (0, .ref a_o), (1, .ref a_p1), (2, .ref a_p2), (6, .int s6), (7, .int s7)]) hx hb dL_areLeads_369 hl (k := 6) rfl rfl (by decide) rfl (fun ls hl => ?_)
        refine lv_goto (tgt := 335) hx hb dL_areLeads_372 (by decide) ?_
        exact ih _ _ _ _ _ _ _ _ _ hf hX hP hD hS (lv_sub hl [2, 3, 4, 5, 6, 1, 0] rfl) hk
      refine lv_if_eq (tgt := 366) hx hb dL_areLeads_345 (by decide) (fun c49 => ?_) (fun c49 => ?_)
      · have hf := ite_t c49 hf
        refine lv_iconst (v := 0) hx hb dL_areLeads_366 (by decide) ?_
        exact hkk48 _ hf _ _ _ _ hX hP hD hS (lv_sub hl [0, 1, 2, 3, 4, 6] rfl)
      have hf := ite_f c49 hf
      refine lv_aload_n hx hb dL_areLeads_348 rfl (lv_at hl 0 rfl) ?_
      refine lv_iconst (v := (-1)) hx hb dL_areLeads_349 (by decide) ?_
      refine lv_iload hx hb dL_areLeads_350 (lv_at hl 6 rfl) ?_
      obtain ⟨q50, h51, hf⟩ := bd_s hf
      refine ak_i (run_V (As := [.int (-1), .int s9]) (rest := []) E (k_change l D Y hX (-1) s9 H.size q50 h51) qw580 qw581 qw582 qw19 qw583 rfl rfl hd_X10_change ⟨Nat.le_of_ble_eq_true rfl, Nat.le_of_ble_eq_true rfl⟩ (pre_xV hP hD hE (ci := 7) rfl hX.head) rfl hl.1 rfl (Nat.le_of_ble_eq_true rfl) dL_areLeads_352 ⟨Nat.le_of_ble_eq_true rfl, Nat.le_of_ble_eq_true rfl⟩) hP hD hS hA (fun ws H locs hX hP hD hS => ?_)
      refine lv_aload_n hx hb dL_areLeads_355 rfl (lv_at hl 2 rfl) ?_
      refine lv_iload hx hb dL_areLeads_356 (lv_at hl 6 rfl) ?_
      obtain ⟨g52, hf⟩ := gd_s hf
      refine va_iald hx hb hE.1 hP 1 0 rfl rfl (inb_in g52) dL_areLeads_358 ?_
      refine lv_icmp_ne (tgt := 366) hx hb dL_areLeads_359 (by decide) (fun c53 => ?_) (fun c53 => ?_)
      · have hf := ite_f c53 hf
        refine lv_iconst (v := 0) hx hb dL_areLeads_366 (by decide) ?_
        exact hkk48 _ hf _ _ _ _ hX hP hD hS (lv_sub hl [0, 1, 2, 3, 4, 6] rfl)
      have hf := ite_t c53 hf
      refine lv_iconst (v := 1) hx hb dL_areLeads_362 (by decide) ?_
      refine lv_goto (tgt := 367) hx hb dL_areLeads_363 (by decide) ?_
      exact hkk48 _ hf _ _ _ _ hX hP hD hS (lv_sub hl [0, 1, 2, 3, 4, 6] rfl)
  refine lv_iconst (v := 0) hx hb dL_areLeads_0 (by decide) ?_
  refine lv_istore (lv' := [(6, .int 0), (0, .ref a_o), (1, .ref a_p1), (2, .ref a_p2), (3, .ref a_p3), (4, .ref a_p4), (5, .ref a_p5)]) hx hb dL_areLeads_1 hl (by decide) rfl (fun ls hl => ?_)
  refine lv_iconst (v := 0) hx hb dL_areLeads_3 (by decide) ?_
  refine lv_istore (lv' := [(7, .int 0), (6, .int 0), (0, .ref a_o), (1, .ref a_p1), (2, .ref a_p2), (3, .ref a_p3), (4, .ref a_p4), (5, .ref a_p5)]) hx hb dL_areLeads_4 hl (by decide) rfl (fun ls hl => ?_)
  refine lv_aload_n hx hb dL_areLeads_6 rfl (lv_at hl 2 rfl) ?_
  refine lv_iconst (v := 0) hx hb dL_areLeads_7 (by decide) ?_
  obtain ⟨q1, h2, hf⟩ := bd_s hf
  refine ak_i (run_V (As := [.int 0]) (rest := []) E (k_count l D Y hX 0 s.heap.size q1 h2) qw520 qw521 qw522 qw19 qw523 rfl rfl hd_X10_count ⟨Nat.le_of_ble_eq_true rfl, Nat.le_of_ble_eq_true rfl⟩ (pre_xV hP hD hE (ci := 7) rfl hX.head) rfl hl.1 rfl (Nat.le_of_ble_eq_true rfl) dL_areLeads_8 ⟨Nat.le_of_ble_eq_true rfl, Nat.le_of_ble_eq_true rfl⟩) hP hD hS hA (fun ws H locs hX hP hD hS => ?_)
  refine lv_aload_n hx hb dL_areLeads_11 rfl (lv_at hl 3 rfl) ?_
  refine lv_iconst (v := 0) hx hb dL_areLeads_12 (by decide) ?_
  refine va_iald hx hb hE.1 hP 0 0 rfl rfl (inb_in (by decide)) dL_areLeads_13 ?_
  refine jj_W (P := fun (w3 : Int32) => ∀ (H : Heap) (locs : List Loc) (ws : va_W) (ls : Array Slot), OX Y a_o v_o_a v_o_p ws → va_P D vwCl ([(a_p1, .inl (Y.1, 3, .inl f_p1)), (a_p2, .inl (Y.1, 20, .inl f_p2)), (a_p3, .inl (Y.1, 3, .inl f_p3)), (a_p4, .inl (Y.1, 16, .inl f_p4)), (a_p5, .inl (Y.2.2.2, 64, .inr (.inl f_p5)))] ++ ws) H → va_D A ([(a_p1, .inl (Y.1, 3, .inl f_p1)), (a_p2, .inl (Y.1, 20, .inl f_p2)), (a_p3, .inl (Y.1, 3, .inl f_p3)), (a_p4, .inl (Y.1, 16, .inl f_p4)), (a_p5, .inl (Y.2.2.2, 64, .inr (.inl f_p5)))] ++ ws) → va_S A s.heap H locs → lv_has ls 14 [(0, .ref a_o), (1, .ref a_p1), (2, .ref a_p2), (3, .ref a_p3), (4, .ref a_p4), (5, .ref a_p5), (6, .int 0), (7, .int 0)] → W p l e rm_L_areLeads s m args below meth c H locs 0 0 Q (F0 m 114 ls [.int w3])) hf (fun w3 hf H locs ws ls hX hP hD hS hl => ?_) (fun kk4 hkk4 hf => ?_)
  · refine lv_istore (lv' := [(8, .int w3), (0, .ref a_o), (1, .ref a_p1), (2, .ref a_p2), (3, .ref a_p3), (4, .ref a_p4), (5, .ref a_p5), (6, .int 0), (7, .int 0)]) hx hb dL_areLeads_114 hl (by decide) rfl (fun ls hl => ?_)
    refine lv_iconst (v := 0) hx hb dL_areLeads_116 (by decide) ?_
    refine lv_istore (lv' := [(9, .int 0), (8, .int w3), (0, .ref a_o), (1, .ref a_p1), (2, .ref a_p2), (3, .ref a_p3), (4, .ref a_p4), (5, .ref a_p5), (6, .int 0), (7, .int 0)]) hx hb dL_areLeads_117 hl (by decide) rfl (fun ls hl => ?_)
    refine L119 _ _ _ _ _ _ _ _ _ _ hf hX hP hD hS (lv_sub hl [2, 3, 4, 5, 6, 7, 8, 9, 1, 0] rfl) ?_
    intro y42 y43 y44 y45 H locs ws ls hf hX hP hD hS hl
    refine lv_iconst (v := 0) hx hb dL_areLeads_332 (by decide) ?_
    refine lv_istore (lv' := [(9, .int 0), (0, .ref a_o), (1, .ref a_p1), (2, .ref a_p2), (6, .int y42), (7, .int y43), (8, .int y44)]) hx hb dL_areLeads_333 hl (by decide) rfl (fun ls hl => ?_)
    refine L335 _ _ _ _ _ _ _ _ _ _ hf hX hP hD hS (lv_sub hl [1, 2, 3, 4, 5, 6, 0] rfl) ?_
    intro y54 y55 H locs ws ls hf hX hP hD hS hl
    refine lv_iload hx hb dL_areLeads_375 (lv_at hl 3 rfl) ?_
    refine lv_if_eq (tgt := 406) hx hb dL_areLeads_377 (by decide) (fun c56 => ?_) (fun c56 => ?_)
    · have hf := ite_t c56 hf
      refine lv_iconst (v := 0) hx hb dL_areLeads_406 (by decide) ?_
      rw [← hQ, ← Option.some.inj hf]
      exact en_xz (wu := fun ws => ([(a_p1, .inl (Y.1, 3, .inl f_p1)), (a_p2, .inl (Y.1, 20, .inl f_p2)), (a_p3, .inl (Y.1, 3, .inl f_p3)), (a_p4, .inl (Y.1, 16, .inl f_p4)), (a_p5, .inl (Y.2.2.2, 64, .inr (.inl f_p5)))] ++ ws)) (u := ws) hx hb hr hlocks hX hP hD hS rfl (Or.inl rfl) dL_areLeads_407
    have hf := ite_f c56 hf
    refine lv_aload_n hx hb dL_areLeads_380 rfl (lv_at hl 0 rfl) ?_
    refine lv_bipush (v := 8) hx hb dL_areLeads_381 (by decide) ?_
    obtain ⟨q57, h58, hf⟩ := bd_s hf
    refine ak_i (run_V (As := [.int 8]) (rest := []) E (k_count l D Y hX 8 H.size q57 h58) qw520 qw521 qw522 qw19 qw523 rfl rfl hd_X10_count ⟨Nat.le_of_ble_eq_true rfl, Nat.le_of_ble_eq_true rfl⟩ (pre_xV hP hD hE (ci := 7) rfl hX.head) rfl hl.1 rfl (Nat.le_of_ble_eq_true rfl) dL_areLeads_383 ⟨Nat.le_of_ble_eq_true rfl, Nat.le_of_ble_eq_true rfl⟩) hP hD hS hA (fun ws H locs hX hP hD hS => ?_)
    refine lv_iload hx hb dL_areLeads_386 (lv_at hl 1 rfl) ?_
    refine lv_icmp_ne (tgt := 406) hx hb dL_areLeads_388 (by decide) (fun c59 => ?_) (fun c59 => ?_)
    · have hf := ite_f c59 hf
      refine lv_iconst (v := 0) hx hb dL_areLeads_406 (by decide) ?_
      rw [← hQ, ← Option.some.inj hf]
      exact en_xz (wu := fun ws => ([(a_p1, .inl (Y.1, 3, .inl f_p1)), (a_p2, .inl (Y.1, 20, .inl f_p2)), (a_p3, .inl (Y.1, 3, .inl f_p3)), (a_p4, .inl (Y.1, 16, .inl f_p4)), (a_p5, .inl (Y.2.2.2, 64, .inr (.inl f_p5)))] ++ ws)) (u := ws) hx hb hr hlocks hX hP hD hS rfl (Or.inl rfl) dL_areLeads_407
    have hf := ite_t c59 hf
    refine lv_aload_n hx hb dL_areLeads_391 rfl (lv_at hl 0 rfl) ?_
    refine lv_bipush (v := 10) hx hb dL_areLeads_392 (by decide) ?_
    obtain ⟨q60, h61, hf⟩ := bd_s hf
    refine ak_i (run_V (As := [.int 10]) (rest := []) E (k_count l D Y hX 10 H.size q60 h61) qw520 qw521 qw522 qw19 qw523 rfl rfl hd_X10_count ⟨Nat.le_of_ble_eq_true rfl, Nat.le_of_ble_eq_true rfl⟩ (pre_xV hP hD hE (ci := 7) rfl hX.head) rfl hl.1 rfl (Nat.le_of_ble_eq_true rfl) dL_areLeads_394 ⟨Nat.le_of_ble_eq_true rfl, Nat.le_of_ble_eq_true rfl⟩) hP hD hS hA (fun ws H locs hX hP hD hS => ?_)
    refine lv_iload hx hb dL_areLeads_397 (lv_at hl 2 rfl) ?_
    refine lv_icmp_ne (tgt := 406) hx hb dL_areLeads_399 (by decide) (fun c62 => ?_) (fun c62 => ?_)
    · have hf := ite_f c62 hf
      refine lv_iconst (v := 0) hx hb dL_areLeads_406 (by decide) ?_
      rw [← hQ, ← Option.some.inj hf]
      exact en_xz (wu := fun ws => ([(a_p1, .inl (Y.1, 3, .inl f_p1)), (a_p2, .inl (Y.1, 20, .inl f_p2)), (a_p3, .inl (Y.1, 3, .inl f_p3)), (a_p4, .inl (Y.1, 16, .inl f_p4)), (a_p5, .inl (Y.2.2.2, 64, .inr (.inl f_p5)))] ++ ws)) (u := ws) hx hb hr hlocks hX hP hD hS rfl (Or.inl rfl) dL_areLeads_407
    have hf := ite_t c62 hf
    refine lv_iconst (v := 1) hx hb dL_areLeads_402 (by decide) ?_
    refine lv_goto (tgt := 407) hx hb dL_areLeads_403 (by decide) ?_
    rw [← hQ, ← Option.some.inj hf]
    exact en_xz (wu := fun ws => ([(a_p1, .inl (Y.1, 3, .inl f_p1)), (a_p2, .inl (Y.1, 20, .inl f_p2)), (a_p3, .inl (Y.1, 3, .inl f_p3)), (a_p4, .inl (Y.1, 16, .inl f_p4)), (a_p5, .inl (Y.2.2.2, 64, .inr (.inl f_p5)))] ++ ws)) (u := ws) hx hb hr hlocks hX hP hD hS rfl (Or.inr rfl) dL_areLeads_407
  refine lv_icmp_ne (tgt := 113) hx hb dL_areLeads_14 (by decide) (fun c63 => ?_) (fun c63 => ?_)
  · have hf := ite_f c63 hf
    refine lv_iconst (v := 0) hx hb dL_areLeads_113 (by decide) ?_
    exact hkk4 _ hf _ _ _ _ hX hP hD hS (lv_sub hl [2, 3, 4, 5, 6, 7, 1, 0] rfl)
  have hf := ite_t c63 hf
  refine lv_aload_n hx hb dL_areLeads_17 rfl (lv_at hl 2 rfl) ?_
  refine lv_iconst (v := 1) hx hb dL_areLeads_18 (by decide) ?_
  obtain ⟨q64, h65, hf⟩ := bd_s hf
  refine ak_i (run_V (As := [.int 1]) (rest := []) E (k_count l D Y hX 1 H.size q64 h65) qw520 qw521 qw522 qw19 qw523 rfl rfl hd_X10_count ⟨Nat.le_of_ble_eq_true rfl, Nat.le_of_ble_eq_true rfl⟩ (pre_xV hP hD hE (ci := 7) rfl hX.head) rfl hl.1 rfl (Nat.le_of_ble_eq_true rfl) dL_areLeads_19 ⟨Nat.le_of_ble_eq_true rfl, Nat.le_of_ble_eq_true rfl⟩) hP hD hS hA (fun ws H locs hX hP hD hS => ?_)
  refine lv_aload_n hx hb dL_areLeads_22 rfl (lv_at hl 3 rfl) ?_
  refine lv_iconst (v := 1) hx hb dL_areLeads_23 (by decide) ?_
  refine va_iald hx hb hE.1 hP 0 0 rfl rfl (inb_in (by decide)) dL_areLeads_24 ?_
  refine lv_icmp_ne (tgt := 113) hx hb dL_areLeads_25 (by decide) (fun c66 => ?_) (fun c66 => ?_)
  · have hf := ite_f c66 hf
    refine lv_iconst (v := 0) hx hb dL_areLeads_113 (by decide) ?_
    exact hkk4 _ hf _ _ _ _ hX hP hD hS (lv_sub hl [2, 3, 4, 5, 6, 7, 1, 0] rfl)
  have hf := ite_t c66 hf
  refine lv_aload_n hx hb dL_areLeads_28 rfl (lv_at hl 2 rfl) ?_
  refine lv_iconst (v := 2) hx hb dL_areLeads_29 (by decide) ?_
  obtain ⟨q67, h68, hf⟩ := bd_s hf
  refine ak_i (run_V (As := [.int 2]) (rest := []) E (k_count l D Y hX 2 H.size q67 h68) qw520 qw521 qw522 qw19 qw523 rfl rfl hd_X10_count ⟨Nat.le_of_ble_eq_true rfl, Nat.le_of_ble_eq_true rfl⟩ (pre_xV hP hD hE (ci := 7) rfl hX.head) rfl hl.1 rfl (Nat.le_of_ble_eq_true rfl) dL_areLeads_30 ⟨Nat.le_of_ble_eq_true rfl, Nat.le_of_ble_eq_true rfl⟩) hP hD hS hA (fun ws H locs hX hP hD hS => ?_)
  refine lv_aload_n hx hb dL_areLeads_33 rfl (lv_at hl 3 rfl) ?_
  refine lv_iconst (v := 2) hx hb dL_areLeads_34 (by decide) ?_
  refine va_iald hx hb hE.1 hP 0 0 rfl rfl (inb_in (by decide)) dL_areLeads_35 ?_
  refine lv_icmp_ne (tgt := 113) hx hb dL_areLeads_36 (by decide) (fun c69 => ?_) (fun c69 => ?_)
  · have hf := ite_f c69 hf
    refine lv_iconst (v := 0) hx hb dL_areLeads_113 (by decide) ?_
    exact hkk4 _ hf _ _ _ _ hX hP hD hS (lv_sub hl [2, 3, 4, 5, 6, 7, 1, 0] rfl)
  have hf := ite_t c69 hf
  refine lv_aload_n hx hb dL_areLeads_39 rfl (lv_at hl 2 rfl) ?_
  refine lv_bipush (v := 12) hx hb dL_areLeads_40 (by decide) ?_
  obtain ⟨q70, h71, hf⟩ := bd_s hf
  refine ak_i (run_V (As := [.int 12]) (rest := []) E (k_count l D Y hX 12 H.size q70 h71) qw520 qw521 qw522 qw19 qw523 rfl rfl hd_X10_count ⟨Nat.le_of_ble_eq_true rfl, Nat.le_of_ble_eq_true rfl⟩ (pre_xV hP hD hE (ci := 7) rfl hX.head) rfl hl.1 rfl (Nat.le_of_ble_eq_true rfl) dL_areLeads_42 ⟨Nat.le_of_ble_eq_true rfl, Nat.le_of_ble_eq_true rfl⟩) hP hD hS hA (fun ws H locs hX hP hD hS => ?_)
  refine lv_aload_n hx hb dL_areLeads_45 rfl (lv_at hl 5 rfl) ?_
  refine lv_iconst (v := 1) hx hb dL_areLeads_46 (by decide) ?_
  refine va_iald hx hb hE.1 hP 2 0 rfl rfl (inb_in (by decide)) dL_areLeads_47 ?_
  refine lv_icmp_ne (tgt := 113) hx hb dL_areLeads_48 (by decide) (fun c72 => ?_) (fun c72 => ?_)
  · have hf := ite_f c72 hf
    refine lv_iconst (v := 0) hx hb dL_areLeads_113 (by decide) ?_
    exact hkk4 _ hf _ _ _ _ hX hP hD hS (lv_sub hl [2, 3, 4, 5, 6, 7, 1, 0] rfl)
  have hf := ite_t c72 hf
  refine lv_aload_n hx hb dL_areLeads_51 rfl (lv_at hl 2 rfl) ?_
  refine lv_bipush (v := 13) hx hb dL_areLeads_52 (by decide) ?_
  obtain ⟨q73, h74, hf⟩ := bd_s hf
  refine ak_i (run_V (As := [.int 13]) (rest := []) E (k_count l D Y hX 13 H.size q73 h74) qw520 qw521 qw522 qw19 qw523 rfl rfl hd_X10_count ⟨Nat.le_of_ble_eq_true rfl, Nat.le_of_ble_eq_true rfl⟩ (pre_xV hP hD hE (ci := 7) rfl hX.head) rfl hl.1 rfl (Nat.le_of_ble_eq_true rfl) dL_areLeads_54 ⟨Nat.le_of_ble_eq_true rfl, Nat.le_of_ble_eq_true rfl⟩) hP hD hS hA (fun ws H locs hX hP hD hS => ?_)
  refine lv_aload_n hx hb dL_areLeads_57 rfl (lv_at hl 5 rfl) ?_
  refine lv_iconst (v := 2) hx hb dL_areLeads_58 (by decide) ?_
  refine va_iald hx hb hE.1 hP 2 0 rfl rfl (inb_in (by decide)) dL_areLeads_59 ?_
  refine lv_icmp_ne (tgt := 113) hx hb dL_areLeads_60 (by decide) (fun c75 => ?_) (fun c75 => ?_)
  · have hf := ite_f c75 hf
    refine lv_iconst (v := 0) hx hb dL_areLeads_113 (by decide) ?_
    exact hkk4 _ hf _ _ _ _ hX hP hD hS (lv_sub hl [2, 3, 4, 5, 6, 7, 1, 0] rfl)
  have hf := ite_t c75 hf
  refine lv_aload_n hx hb dL_areLeads_63 rfl (lv_at hl 2 rfl) ?_
  refine lv_aload_n hx hb dL_areLeads_64 rfl (lv_at hl 3 rfl) ?_
  refine lv_iconst (v := 2) hx hb dL_areLeads_65 (by decide) ?_
  refine va_iald hx hb hE.1 hP 0 0 rfl rfl (inb_in (by decide)) dL_areLeads_66 ?_
  refine lv_iconst (v := 0) hx hb dL_areLeads_67 (by decide) ?_
  obtain ⟨q76, h77, hf⟩ := bd_s hf
  refine ak_i (run_V (As := [.int (f_p1 (2 : Int32).toNatClampNeg), .int 0]) (rest := []) E (k_change l D Y hX (f_p1 (2 : Int32).toNatClampNeg) 0 H.size q76 h77) qw580 qw581 qw582 qw19 qw583 rfl rfl hd_X10_change ⟨Nat.le_of_ble_eq_true rfl, Nat.le_of_ble_eq_true rfl⟩ (pre_xV hP hD hE (ci := 7) rfl hX.head) rfl hl.1 rfl (Nat.le_of_ble_eq_true rfl) dL_areLeads_68 ⟨Nat.le_of_ble_eq_true rfl, Nat.le_of_ble_eq_true rfl⟩) hP hD hS hA (fun ws H locs hX hP hD hS => ?_)
  refine lv_iconst (v := (-1)) hx hb dL_areLeads_71 (by decide) ?_
  refine lv_icmp_ne (tgt := 113) hx hb dL_areLeads_72 (by decide) (fun c78 => ?_) (fun c78 => ?_)
  · have hf := ite_f c78 hf
    refine lv_iconst (v := 0) hx hb dL_areLeads_113 (by decide) ?_
    exact hkk4 _ hf _ _ _ _ hX hP hD hS (lv_sub hl [2, 3, 4, 5, 6, 7, 1, 0] rfl)
  have hf := ite_t c78 hf
  refine lv_aload_n hx hb dL_areLeads_75 rfl (lv_at hl 2 rfl) ?_
  refine lv_bipush (v := (-2)) hx hb dL_areLeads_76 (by decide) ?_
  refine lv_iconst (v := 0) hx hb dL_areLeads_78 (by decide) ?_
  obtain ⟨q79, h80, hf⟩ := bd_s hf
  refine ak_i (run_V (As := [.int (-2), .int 0]) (rest := []) E (k_change l D Y hX (-2) 0 H.size q79 h80) qw580 qw581 qw582 qw19 qw583 rfl rfl hd_X10_change ⟨Nat.le_of_ble_eq_true rfl, Nat.le_of_ble_eq_true rfl⟩ (pre_xV hP hD hE (ci := 7) rfl hX.head) rfl hl.1 rfl (Nat.le_of_ble_eq_true rfl) dL_areLeads_79 ⟨Nat.le_of_ble_eq_true rfl, Nat.le_of_ble_eq_true rfl⟩) hP hD hS hA (fun ws H locs hX hP hD hS => ?_)
  refine lv_iconst (v := (-1)) hx hb dL_areLeads_82 (by decide) ?_
  refine lv_icmp_ne (tgt := 113) hx hb dL_areLeads_83 (by decide) (fun c81 => ?_) (fun c81 => ?_)
  · have hf := ite_f c81 hf
    refine lv_iconst (v := 0) hx hb dL_areLeads_113 (by decide) ?_
    exact hkk4 _ hf _ _ _ _ hX hP hD hS (lv_sub hl [2, 3, 4, 5, 6, 7, 1, 0] rfl)
  have hf := ite_t c81 hf
  refine lv_aload_n hx hb dL_areLeads_86 rfl (lv_at hl 2 rfl) ?_
  refine lv_iconst (v := (-1)) hx hb dL_areLeads_87 (by decide) ?_
  refine lv_aload_n hx hb dL_areLeads_88 rfl (lv_at hl 3 rfl) ?_
  refine lv_iconst (v := 1) hx hb dL_areLeads_89 (by decide) ?_
  refine va_iald hx hb hE.1 hP 0 0 rfl rfl (inb_in (by decide)) dL_areLeads_90 ?_
  obtain ⟨q82, h83, hf⟩ := bd_s hf
  refine ak_i (run_V (As := [.int (-1), .int (f_p1 (1 : Int32).toNatClampNeg)]) (rest := []) E (k_change l D Y hX (-1) (f_p1 (1 : Int32).toNatClampNeg) H.size q82 h83) qw580 qw581 qw582 qw19 qw583 rfl rfl hd_X10_change ⟨Nat.le_of_ble_eq_true rfl, Nat.le_of_ble_eq_true rfl⟩ (pre_xV hP hD hE (ci := 7) rfl hX.head) rfl hl.1 rfl (Nat.le_of_ble_eq_true rfl) dL_areLeads_91 ⟨Nat.le_of_ble_eq_true rfl, Nat.le_of_ble_eq_true rfl⟩) hP hD hS hA (fun ws H locs hX hP hD hS => ?_)
  refine lv_bipush (v := (-4)) hx hb dL_areLeads_94 (by decide) ?_
  refine lv_icmp_ne (tgt := 113) hx hb dL_areLeads_96 (by decide) (fun c84 => ?_) (fun c84 => ?_)
  · have hf := ite_f c84 hf
    refine lv_iconst (v := 0) hx hb dL_areLeads_113 (by decide) ?_
    exact hkk4 _ hf _ _ _ _ hX hP hD hS (lv_sub hl [2, 3, 4, 5, 6, 7, 1, 0] rfl)
  have hf := ite_t c84 hf
  refine lv_aload_n hx hb dL_areLeads_99 rfl (lv_at hl 2 rfl) ?_
  refine lv_iconst (v := (-1)) hx hb dL_areLeads_100 (by decide) ?_
  refine lv_iconst (v := (-1)) hx hb dL_areLeads_101 (by decide) ?_
  obtain ⟨q85, h86, hf⟩ := bd_s hf
  refine ak_i (run_V (As := [.int (-1), .int (-1)]) (rest := []) E (k_change l D Y hX (-1) (-1) H.size q85 h86) qw580 qw581 qw582 qw19 qw583 rfl rfl hd_X10_change ⟨Nat.le_of_ble_eq_true rfl, Nat.le_of_ble_eq_true rfl⟩ (pre_xV hP hD hE (ci := 7) rfl hX.head) rfl hl.1 rfl (Nat.le_of_ble_eq_true rfl) dL_areLeads_102 ⟨Nat.le_of_ble_eq_true rfl, Nat.le_of_ble_eq_true rfl⟩) hP hD hS hA (fun ws H locs hX hP hD hS => ?_)
  refine lv_iconst (v := (-1)) hx hb dL_areLeads_105 (by decide) ?_
  refine lv_icmp_ne (tgt := 113) hx hb dL_areLeads_106 (by decide) (fun c87 => ?_) (fun c87 => ?_)
  · have hf := ite_f c87 hf
    refine lv_iconst (v := 0) hx hb dL_areLeads_113 (by decide) ?_
    exact hkk4 _ hf _ _ _ _ hX hP hD hS (lv_sub hl [2, 3, 4, 5, 6, 7, 1, 0] rfl)
  have hf := ite_t c87 hf
  refine lv_iconst (v := 1) hx hb dL_areLeads_109 (by decide) ?_
  refine lv_goto (tgt := 114) hx hb dL_areLeads_110 (by decide) ?_
  exact hkk4 _ hf _ _ _ _ hX hP hD hS (lv_sub hl [2, 3, 4, 5, 6, 7, 1, 0] rfl)
