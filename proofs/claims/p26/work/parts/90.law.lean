/-! THE CLAIM OUT OF ONE WALK OF THE LAW'S BODY. Your part is whole_start (and what it stands on); all else here is the same for every law, but numbers. -/
def R_law : String := "CalledTouchesLaw"
def lw_P (b : Addr) (xs : List Int32) (args : Array Value) (s : State) : Prop := args = #[.ref b] ∧ s.IntsAt b xs ∧ xs.length ≤ 260 ∧ (Jvm.Cond.and given_1 narrow_1).before args s = true
/-- what a walk over the start with the record d0 says of its end, said of the start itself -/
theorem lw_closed {s t : State} {o : Outcome} {d0 : Drawn} {L : List Loc} {k n : Nat} (hd0 : s.drawn.sameBut d0 lw_cs) (hv : ∃ v, o = .returned v) (hW : (s.setDrawn d0).WarmedH t.vm) (hs : (s.setDrawn d0).sameButNew ({ t with vm := s.vm } : State) L k n) : State.butDraws s t lw_cs (fun t1 => Framed s o t1 L k n) := by
  have h2 : t.drawn = d0 := congrArg State.drawn hs.1
  refine ⟨⟨hv, hW, State.sameButNew.setDrawn hs s.drawn⟩, ?_, by decide⟩
  rw [h2]
  exact hd0
def lw_Q (_ : Array Value) (s : State) (o : Outcome) (t : State) : Prop := o = .returned (some (.int 1)) ∧ State.butDraws s t lw_cs (fun t1 => Framed s o t1 [] 600000 7302250)
def lw_Z (below : List Frame) (a : Array Value) (s : State) : State → Prop := fun t => ∃ o, t.status = .running ∧ Ended t below o ∧ lw_Q a s o t
/-- the law's own end, with 1 on the stack, nothing written that was there before, its room as the claim has it; d0: the record of draws at this point (at the entry s.drawn: begin with 'refine W.base ?_' and 'have hd0 := Drawn.sameBut.refl s.drawn lw_cs') -/
theorem lw_ret {p : Program} {l : Launch} {e : Env} {s : State} {m : MethodId} {below : List Frame} {meth : Method} {c : Code} {b : Nat} {d0 : Drawn} (hd0 : s.drawn.sameBut d0 lw_cs) (hx : p.tables.exec = Jvm.exec) (hb : c.code = code) (hr : meth.sig.returnType = ret) (hlocks : meth.locks = false) {pc : Nat} {H : Heap} {ls : Array Slot} (hdg : decode code pc = .ok (.ireturn, 1)) : W p l e room_1 (s.setDrawn d0) m #[Value.ref b] below meth c H [] 600000 7302250 (lw_Z below #[Value.ref b] s) (F0 m pc ls [.int 1]) := by
  intro T hT X
  obtain ⟨fs, hret, hrun, hended, hW, hframe⟩ := X.leave (v := some (.int 1)) (hlocks := hlocks) (fun h => by rw [hr] at h; cases h)
  have hmeth' : T.vm.method? m = some meth := X.method'
  refine ⟨T.setFrames fs, ?_, .returned (some (.int 1)), hrun, hended, rfl, lw_closed hd0 ⟨_, rfl⟩ hW hframe⟩
  jvm_step X.here [X.here.top, hx, hb, hdg, hmeth', hr, ret, narrow_b1]
  (try refine ⟨rfl, ?_⟩); (try refine ⟨rfl, ?_⟩)
  first | (intro acts; rw [hret _ acts rfl rfl rfl]) | rw [hret _ _ rfl rfl rfl]
  exact Steps.refl _
/-- what holds at the law's entry: the machine, the code, the tables' words (any of lw_tbl by 'hts w (by decide +kernel)'), the script of L ints xs at the cell b, what the Statement gives of the start (any of its parts by flat_of_before) -/
def lw_At (p : Program) (s : State) (m : MethodId) (meth : Method) (c : Code) (b L : Nat) (xs : Nat → Int32) : Prop :=
  p.tables.exec = Jvm.exec ∧ c.code = code ∧ meth.sig.returnType = ret ∧ c.maxLocals = 10 ∧ s.vm.findClass R_law = some m.cls ∧ (∀ w ∈ lw_tbl, w.before #[Value.ref b] s = true) ∧ va_X b L xs s s.heap ∧ b < s.heap.size ∧ meth.locks = false ∧ (Jvm.Cond.and given_1 narrow_1).before #[Value.ref b] s = true
-- ===== YOUR PART BEGINS =====
/-! ===== the law from its entry ===== -/
def z0 : Nat → Int32 := fun _ => 0
def T0 : TV := (0, 0, 0, 0, 0, z0, z0)
def hh0 : Nat → TV := fun _ => T0
theorem i_start : ∃ R, f_X10_init = some R ∧ ∀ (kinds : Nat → Int32) (hh : Nat → TV), SX (6, mS 6, bS 6, gS 6, []) (R.1, R.2.1, R.2.2.1, R.2.2.2.1, R.2.2.2.2.1, R.2.2.2.2.2.1, kinds) 0 hh := by
  obtain ⟨p', q1, q2, q3, q4, q5, e5, e6⟩ := p_begin (n := 6) (by omega) (by omega) 0 0 0 0 0 0 0 0 0 (fun _ => 0) (fun _ => 0)
  unfold f_X10_init
  rw [bd_t (show f_X10_begin 6 0 0 0 0 0 _ 0 0 0 0 _ = _ from e5)]
  exact ⟨_, rfl, fun kinds hh => ⟨[], okS (by omega) (by omega), ⟨rfl, rfl, rfl, rfl, rfl, e6, fun j hj => absurd hj (by simp)⟩, by simp, rfl, fun i a e => absurd e (by simp)⟩⟩
set_option maxHeartbeats 8000000 in
set_option maxRecDepth 100000 in
theorem whole_start {p : Program} {e : Env} {s : State} {m : MethodId} {below : List Frame} {meth : Method} {c : Code} (l : Launch) (hflags : l.flags = flags0) {b L : Nat} {xs : Nat → Int32} (hL : L ≤ 260) (C0 : lw_At p s m meth c b L xs) : W p l e room_1 s m #[Value.ref b] below meth c s.heap [] 0 0 (lw_Z below #[Value.ref b] s) (entryFrame m ([Value.ref b] : List Value).toArray 10) := by
  obtain ⟨hx, hb, hr, hml, hown, hts0, hX, hbl, hlocks, hgv⟩ := id C0
  have hts : ∀ w ∈ lw_all, w.before #[Value.ref b] s = true := fun w h => hts0 w (List.mem_filter.mp h).1
  obtain ⟨D, Y, hE⟩ := ev_of hts0
  obtain ⟨adK, adV, hK9⟩ := sk_start hgv hts0
  obtain ⟨R, e1, hSX⟩ := i_start
  have hd0 := Drawn.sameBut.refl s.drawn lw_cs
  obtain ⟨A0, hA0⟩ : ∃ A0 : Nat → Prop, A0 = fun q : Nat => s.heap.size ≤ q := ⟨_, rfl⟩
  rw [← hA0] at hK9
  have hA : ∀ q : Nat, s.heap.size ≤ q → A0 q := fun q h => by rw [hA0]; exact h
  have hbA : ¬ A0 b := by rw [hA0]; exact Nat.not_le.mpr hbl
  have hS : va_S A0 s.heap s.heap [] := va_S.rf
  have E : EN p m c cL_law 10 s #[Value.ref b] RL := ⟨hx, hb, hml, hown, hts⟩
  have G : LW p m c s b L xs D Y A0 adK adV := ⟨E, hE, hA, hbA, hX, hbl, hK9⟩
  refine W.base ?_
  have hl := lv_entry ([.ref b]) (n := 10) (Nat.le_of_ble_eq_true rfl)
  rw [lg_entry_eq]
  generalize (lg_sl ([.ref b]) ++ List.replicate (10 - (lg_sl ([.ref b])).length) Slot.unset).toArray = ls at hl ⊢
  have hl : lv_has ls 10 [(0, .ref b)] := hl
  generalize hQ : lw_Z below #[Value.ref b] s = Q
  have hend : ∀ (H : Heap) (locs : List Loc) (ls : Array Slot), va_S A0 s.heap H locs → W p l e room_1 s m #[Value.ref b] below meth c H locs 600000 7302250 Q (F0 m 169 ls []) := by
    intro H locs ls hS
    subst hQ
    refine lv_iconst (v := 1) hx hb dL_law_169 (by decide) ?_
    refine va_forget (fun q hq => by have h9 := hS.2.2 q hq; rw [hA0] at h9; exact h9) ?_
    exact lw_ret hd0 hx hb hr hlocks dL_law_170
  show W p l e room_1 s m #[Value.ref b] below meth c s.heap [] 0 0 Q (F0 m 0 ls [])
  have hP : va_P D vwCl [] s.heap := fun k q h => absurd h (by simp)
  have hD : va_D A0 [] := ⟨fun i j p q h => absurd h (by simp), fun k q h => absurd h (by simp)⟩
  refine va_new (ci := 7) (fs := [.null, .null, .null, .int 0, .null, .null, .null, .null, .null]) (C := RX10) (T := TX10) (N := 9) hx hb hts inX10 tyX10 tyX10_ok hown (hts _ qw37) (hts _ qw38) (hts _ qw19) hE.1 hP hD hS hA rfl nf_X10 (Nat.le_of_ble_eq_true rfl) (Nat.le_of_ble_eq_true rfl) dL_law_0 (fun ax H hP hD hS => ?_)
  refine lv_dup hx hb dL_law_3 rfl ?_
  refine af_vu (wc := [(ax, .inr (7, [.null, .null, .null, .int 0, .null, .null, .null, .null, .null]))]) (wr := []) (wn := fun u => XW Y ax u (fun j => u (j + 11)) 0 (R.1, R.2.1, R.2.2.1, R.2.2.2.1, R.2.2.2.2.1, R.2.2.2.2.2.1, z0) T0 T0 0 hh0 0 z0 R.2.2.2.2.2.2.1 R.2.2.2.2.2.2.2.1 R.2.2.2.2.2.2.2.2.1 R.2.2.2.2.2.2.2.2.2.1 R.2.2.2.2.2.2.2.2.2.2 0 0 0 0 z0 z0 z0 0 0 0 z0 z0 0 0 z0 z0 z0 z0) (run_I (As := []) (rest := [.ref ax]) E (c_X10_init l D Y adK adV ax H.size R e1) qw39 qw40 qw19 qw41 rfl rfl rfl hd_X10_init ⟨Nat.le_of_ble_eq_true rfl, Nat.le_of_ble_eq_true rfl⟩ (pre_swS hP hD hE hK9 hS hA [0] rfl (by decide) rfl) rfl hl.1 rfl (Nat.le_of_ble_eq_true rfl) dL_law_4 ⟨Nat.le_of_ble_eq_true rfl, Nat.le_of_ble_eq_true rfl⟩) hP hD hS hA [0] [] [0, 1, 2, 3, 4, 5, 6, 7, 8, 9, 10, 11, 12, 13, 14, 15, 16, 17, 18, 19, 20, 21, 22, 23, 24, 25, 26, 27, 28, 29, 30, 31, 32, 33, 34, 35, 36, 37, 38, 39, 40] rfl rfl (by decide) (by decide) (fun _ => rfl) (fun _ => rfl) (by decide) (fun u H locs hP hD hS => ?_)
  obtain ⟨ws, hws⟩ : ∃ ws : va_W, ws = XW Y ax u (fun j => u (j + 11)) 0 (R.1, R.2.1, R.2.2.1, R.2.2.2.1, R.2.2.2.2.1, R.2.2.2.2.2.1, z0) T0 T0 0 hh0 0 z0 R.2.2.2.2.2.2.1 R.2.2.2.2.2.2.2.1 R.2.2.2.2.2.2.2.2.1 R.2.2.2.2.2.2.2.2.2.1 R.2.2.2.2.2.2.2.2.2.2 0 0 0 0 z0 z0 z0 0 0 0 z0 z0 0 0 z0 z0 z0 z0 := ⟨_, rfl⟩
  have hP : va_P D vwCl ws H := by rw [hws]; exact hP
  have hD : va_D A0 ws := by rw [hws]; exact hD
  have hO : OX Y ax (6, mS 6, bS 6, gS 6, []) [] ws := ⟨u, (fun j => u (j + 11)), 0, (R.1, R.2.1, R.2.2.1, R.2.2.2.1, R.2.2.2.2.1, R.2.2.2.2.2.1, z0), T0, T0, 0, hh0, 0, z0, R.2.2.2.2.2.2.1, R.2.2.2.2.2.2.2.1, R.2.2.2.2.2.2.2.2.1, R.2.2.2.2.2.2.2.2.2.1, R.2.2.2.2.2.2.2.2.2.2, 0, 0, 0, 0, z0, z0, z0, 0, 0, 0, z0, z0, 0, 0, z0, z0, z0, z0, hws, hSX z0 hh0, by simp, rfl, fun i hi => absurd hi (by simp)⟩
  refine lv_astore_n (lv' := [(1, .ref ax), (0, .ref b)]) hx hb dL_law_7 rfl hl (by decide) rfl (fun ls hl => ?_)
  refine lv_iconst (v := 3) hx hb dL_law_8 (by decide) ?_
  refine n_newi_x (N := 3) hx hb (hts _ qw82) hE hP hD hS hA (by decide) (by decide) (Nat.le_of_ble_eq_true rfl) (Nat.le_of_ble_eq_true rfl) (Nat.le_of_ble_eq_true rfl) dL_law_9 (fun at0 H hP hD hS => ?_)
  refine lv_astore_n (lv' := [(2, .ref at0), (1, .ref ax), (0, .ref b)]) hx hb dL_law_11 rfl hl (by decide) rfl (fun ls hl => ?_)
  refine lv_bipush (v := 20) hx hb dL_law_12 (by decide) ?_
  refine n_newi_x (N := 20) hx hb (hts _ qw82) hE hP hD hS hA (by decide) (by decide) (Nat.le_of_ble_eq_true rfl) (Nat.le_of_ble_eq_true rfl) (Nat.le_of_ble_eq_true rfl) dL_law_14 (fun am H hP hD hS => ?_)
  refine lv_astore_n (lv' := [(3, .ref am), (2, .ref at0), (1, .ref ax), (0, .ref b)]) hx hb dL_law_16 rfl hl (by decide) rfl (fun ls hl => ?_)
  refine lv_iconst (v := 3) hx hb dL_law_17 (by decide) ?_
  refine n_newi_x (N := 3) hx hb (hts _ qw82) hE hP hD hS hA (by decide) (by decide) (Nat.le_of_ble_eq_true rfl) (Nat.le_of_ble_eq_true rfl) (Nat.le_of_ble_eq_true rfl) dL_law_18 (fun ac H hP hD hS => ?_)
  refine lv_astore (lv' := [(4, .ref ac), (3, .ref am), (2, .ref at0), (1, .ref ax), (0, .ref b)]) hx hb dL_law_20 hl (by decide) rfl (fun ls hl => ?_)
  refine lv_bipush (v := 16) hx hb dL_law_22 (by decide) ?_
  refine n_newi_x (N := 16) hx hb (hts _ qw82) hE hP hD hS hA (by decide) (by decide) (Nat.le_of_ble_eq_true rfl) (Nat.le_of_ble_eq_true rfl) (Nat.le_of_ble_eq_true rfl) dL_law_24 (fun al H hP hD hS => ?_)
  refine lv_astore (lv' := [(5, .ref al), (4, .ref ac), (3, .ref am), (2, .ref at0), (1, .ref ax), (0, .ref b)]) hx hb dL_law_26 hl (by decide) rfl (fun ls hl => ?_)
  refine lv_bipush (v := 7) hx hb dL_law_28 (by decide) ?_
  refine n_newi_x (N := 7) hx hb (hts _ qw82) hE hP hD hS hA (by decide) (by decide) (Nat.le_of_ble_eq_true rfl) (Nat.le_of_ble_eq_true rfl) (Nat.le_of_ble_eq_true rfl) dL_law_30 (fun ar H hP hD hS => ?_)
  refine lv_astore (lv' := [(6, .ref ar), (5, .ref al), (4, .ref ac), (3, .ref am), (2, .ref at0), (1, .ref ax), (0, .ref b)]) hx hb dL_law_32 hl (by decide) rfl (fun ls hl => ?_)
  refine lv_bipush (v := 64) hx hb dL_law_34 (by decide) ?_
  refine n_newl_x (N := 64) hx hb (hts _ qw699) hE hP hD hS hA (by decide) (by decide) (Nat.le_of_ble_eq_true rfl) (Nat.le_of_ble_eq_true rfl) (Nat.le_of_ble_eq_true rfl) dL_law_36 (fun aw H hP hD hS => ?_)
  refine lv_astore (lv' := [(7, .ref aw), (6, .ref ar), (5, .ref al), (4, .ref ac), (3, .ref am), (2, .ref at0), (1, .ref ax), (0, .ref b)]) hx hb dL_law_38 hl (by decide) rfl (fun ls hl => ?_)
  have hP : va_P D vwCl ([(aw, .inl (Y.2.2.2, 64, .inr (.inl (fun _ => 0)))), (ar, .inl (Y.1, 7, .inl (fun _ => 0))), (al, .inl (Y.1, 16, .inl (fun _ => 0))), (ac, .inl (Y.1, 3, .inl (fun _ => 0))), (am, .inl (Y.1, 20, .inl (fun _ => 0))), (at0, .inl (Y.1, 3, .inl (fun _ => 0)))] ++ ws) H := hP
  have hD : va_D A0 ([(aw, .inl (Y.2.2.2, 64, .inr (.inl (fun _ => 0)))), (ar, .inl (Y.1, 7, .inl (fun _ => 0))), (al, .inl (Y.1, 16, .inl (fun _ => 0))), (ac, .inl (Y.1, 3, .inl (fun _ => 0))), (am, .inl (Y.1, 20, .inl (fun _ => 0))), (at0, .inl (Y.1, 3, .inl (fun _ => 0)))] ++ ws) := hD
  obtain ⟨t', m', c', eb, s0, s1, s2, s3, s4, s5⟩ := L_beginning (n := 6) (by omega) (by omega) (fun _ => 0) (fun _ => 0) (fun _ => 0)
  refine lv_aload_n hx hb dL_law_40 rfl (lv_at hl 5 rfl) ?_
  refine lv_aload_n hx hb dL_law_41 rfl (lv_at hl 4 rfl) ?_
  refine lv_aload hx hb dL_law_42 (lv_at hl 3 rfl) ?_
  refine lv_bipush (v := nI 6) hx hb dL_law_44 (by decide) ?_
  refine at_v (L := [(aw, .inl (Y.2.2.2, 64, .inr (.inl (fun _ => 0)))), (ar, .inl (Y.1, 7, .inl (fun _ => 0))), (al, .inl (Y.1, 16, .inl (fun _ => 0))), (ac, .inl (Y.1, 3, .inl (fun _ => 0))), (am, .inl (Y.1, 20, .inl (fun _ => 0))), (at0, .inl (Y.1, 3, .inl (fun _ => 0)))]) (Lc := [(at0, .inl (Y.1, 3, .inl (fun _ => 0))), (am, .inl (Y.1, 20, .inl (fun _ => 0))), (ac, .inl (Y.1, 3, .inl (fun _ => 0)))]) (Lr := [(aw, .inl (Y.2.2.2, 64, .inr (.inl (fun _ => 0)))), (ar, .inl (Y.1, 7, .inl (fun _ => 0))), (al, .inl (Y.1, 16, .inl (fun _ => 0)))]) (L1 := [(at0, .inl (Y.1, 3, .inl t')), (am, .inl (Y.1, 20, .inl m')), (ac, .inl (Y.1, 3, .inl c'))]) (Ln := [(aw, .inl (Y.2.2.2, 64, .inr (.inl (fun _ => 0)))), (ar, .inl (Y.1, 7, .inl (fun _ => 0))), (al, .inl (Y.1, 16, .inl (fun _ => 0))), (ac, .inl (Y.1, 3, .inl c')), (am, .inl (Y.1, 20, .inl m')), (at0, .inl (Y.1, 3, .inl t'))]) (run_S (As := [.ref at0, .ref am, .ref ac, .int (nI 6)]) (rest := []) E (c_L_beginning l D Y at0 am ac (fun _ => 0) (fun _ => 0) (fun _ => 0) (nI 6) H.size (t', m', c') eb) qw354 qw355 qw18 qw356 rfl rfl hd_L_beginning ⟨Nat.le_of_ble_eq_true rfl, Nat.le_of_ble_eq_true rfl⟩ (pre_rt (Lc := [(at0, .inl (Y.1, 3, .inl (fun _ => 0))), (am, .inl (Y.1, 20, .inl (fun _ => 0))), (ac, .inl (Y.1, 3, .inl (fun _ => 0)))]) hP hD hE [5, 4, 3] rfl rfl) rfl hl.1 rfl (Nat.le_of_ble_eq_true rfl) dL_law_46 ⟨Nat.le_of_ble_eq_true rfl, Nat.le_of_ble_eq_true rfl⟩) hP hD hS hA [5, 4, 3] [0, 1, 2] [0, 1, 2, 5, 4, 3] rfl rfl rfl (by decide) rfl rfl (fun H locs hP hD hS => ?_)
  refine lv_iconst (v := nI 0) hx hb dL_law_49 (by decide) ?_
  refine lv_istore (lv' := [(8, .int (nI 0)), (7, .ref aw), (6, .ref ar), (5, .ref al), (4, .ref ac), (3, .ref am), (2, .ref at0), (1, .ref ax), (0, .ref b)]) hx hb dL_law_50 hl (by decide) rfl (fun ls hl => ?_)
  refine W.widen (k := 64) (n := 40000) (Nat.le_of_ble_eq_true rfl) (Nat.le_of_ble_eq_true rfl) ?_
  exact law_loop G hL hend 40 0 64 40000 (6, mS 6, bS 6, gS 6, []) [] t' m' c' (fun _ => 0) (fun _ => 0) (fun _ => 0) ws H locs ls (by omega) (by omega) (by omega) hO ⟨s0, s1, s2, s3, s4, s5, fun j hj => absurd hj (by simp)⟩ (by show ([] : List Nat).length * _ ≤ 180; simp) hP hD hS hl
-- ===== YOUR PART ENDS =====
set_option maxHeartbeats 4000000 in
theorem lw_walk (l : Launch) (hflags : l.flags = flags0) (b : Addr) (xs : List Int32) : MetFree l x (headSpec (Jvm.Cond.code x code maxLocals ret :: tables_1) room_1) (lw_P b xs) (fun _ _ _ _ _ => True) lw_Q := by
  refine MetFree.of_bodyS (code := code) (maxLocals := maxLocals) (ret := ret) (by decide) ?_ ?_
  · intro args s m h hn
    obtain ⟨meth, c, h1, h2, h3, h4, h5, h6, -, -⟩ := Cond.code_spec hn (atoms_spec (ws := Jvm.Cond.code x code maxLocals ret :: tables_1) h _ List.mem_cons_self)
    exact ⟨meth, c, h1, h2, h3, h4, h5, h6⟩
  · intro p e s m args below meth c s₁ B hml0 hP _
    obtain ⟨rfl, hx, hbd, hgv⟩ := hP
    obtain ⟨scr, harrAt, hlist, hof, hsmall⟩ := hx
    obtain ⟨hcb, hkn, -, -⟩ := State.arrayAt?_spec harrAt
    have hown : s.vm.findClass R_law = some m.cls := findClass_of_methodNamed B.named
    have hts0 : ∀ c ∈ (Jvm.Cond.code x code maxLocals ret :: tables_1), c.before #[Value.ref b] s = true := atoms_spec (ws := Jvm.Cond.code x code maxLocals ret :: tables_1) B.pre
    have hts : ∀ w ∈ lw_tbl, w.before #[Value.ref b] s = true := k2_hts_sels lw_privs (fun w hw => hts0 w (List.mem_cons_of_mem _ hw)) lw_privs_ok
    have hml : c.maxLocals = 10 := B.maxLocals_eq (hts0 _ List.mem_cons_self)
    have X₀ : Stand p l e room_1 s m #[Value.ref b] below meth c s₁ [] 0 0 := Stand.of_body B
    have hh0 : s₁.heap = s.heap := by rw [B.state]; rfl
    have hsz : scr.slots.size = xs.length := by rw [← Array.length_toList, hlist, List.length_map]
    have hval : ∀ j : Nat, j < xs.length → scr.slots[j]? = some (.int (xs.getD j 0)) := fun j hj => by
      rw [← Array.getElem?_toList, hlist]
      simp [hj]
    have hbl : b < s.heap.size := (Array.getElem?_eq_some_iff.mp hcb).1
    have hX : va_X b xs.length (fun j => xs.getD j 0) s s.heap := ⟨scr, hcb, hof, hkn, hsz, hval⟩
    have K : W p l e room_1 s m #[Value.ref b] below meth c s₁.heap [] 0 0 (lw_Z below #[Value.ref b] s) (entryFrame m ([Value.ref b] : List Value).toArray 10) := by
      rw [hh0]
      exact whole_start l hflags hbd ⟨B.exec, B.bytes, B.returns, hml, hown, hts, hX, hbl, B.notSynchronized, hgv⟩
    obtain ⟨t, a1, o, b1, b2, b3⟩ := K s₁ rfl X₀
    exact ⟨t, o, a1, b1, b2, b3⟩
theorem lw_pre_spec {args : Array Value} {s : State} (h : (Jvm.Cond.and given_1 narrow_1).before args s = true) (hr : rest_1_c.before args s = true) : ∃ (b : Addr) (xs : List Int32), lw_P b xs args s := by
  have hs := flat_of_before _ h
  have hq := flat_of_before _ hr
  have hc : (Cond.count 1).before args s = true := hs _ (by decide +kernel)
  have harr : (Cond.arrayOf (.arg 0) .int).before args s = true := hs _ (by decide +kernel)
  have hle : (Cond.le (.length (.arg 0)) (.int 260)).before args s = true := hs _ (by decide +kernel)
  have hlen : (Cond.isInt (.length (.arg 0))).before args s = true := hq _ (by decide +kernel)
  have hall : (Cond.all (.arg 0) (.isInt (.elem (.arg 0) (.index 0)))).before args s = true := hq _ (by decide +kernel)
  obtain ⟨b, xs, hb, hx⟩ := State.ints_of_pre rfl harr hlen hall
  have hsm : xs.length < 2 ^ 31 := hx.choose_spec.2.2.2
  have hev : (Term.length (.arg 0)).eval args s none [] s = some (.int xs.length.toInt32) := hx.length_eval hb
  have hv := Cond.le_ints hev (show (Term.int 260).eval args s none [] s = some (.int 260) from rfl)
  have hd : xs.length.toInt32 ≤ 260 := by
    simpa [Cond.before, Cond.holds, hv] using hle
  have hN : xs.length ≤ 260 := (Int32.ofNat_le_ofNat hsm (by decide)).mp (show Int32.ofNat xs.length ≤ Int32.ofNat 260 from hd)
  exact ⟨b, xs, Cond.one_arg hc (show args[0]? = some (.ref b) from hb), hx, hN, h⟩
theorem lw_comes (l : Launch) (hflags : l.flags = flags0) : Comes l x (Jvm.Cond.code x code maxLocals ret :: tables_1) room_1 (fun tb e args s => Calls_1 tb e args s ∧ rest_1 tb e args s ∧ Pre_1 tb e args s)
    (fun _ _ args s o t => lw_Q args s o t) := by
  intro p e ha hc hk s m args below hf hfit hheap happ hpre
  obtain ⟨b, xs, hP⟩ := lw_pre_spec hpre.2.2 hpre.2.1
  obtain ⟨k, o, h1, h2, h3, hQ⟩ := lw_walk l hflags b xs p e ha hc hk s m args below hf ((Spec.applies_iff_loose hf).mp happ).1 hP trivial
  exact ⟨k, o, h1, h2, h3, hQ⟩
theorem lw_frame {s t : State} {o : Outcome} {args : Array Value} (h : State.butDraws s t lw_cs (fun t1 => Framed s o t1 [] 600000 7302250)) :
    State.butDraws s t [Jvm.Choice.named "NaN.bits"] (fun t1 => Framed s o t1 (fieldLocs frame_1_writes args s ++ arrayLocs frame_1_arrays args s ++ staticLocs frame_1_statics s) 600000 7302250) := h
theorem lw_limb (L : Cond) (hL : ∀ (args : Array Value) (s t : State), L.after args s (.returned (some (.int 1))) t = true) :
    ArmFor flags0 classFile x code maxLocals ret World_1 tables_1 room_1 Calls_1 rest_1 Pre_1
      (fun tb e a s o t => postC L tb e a s o t ∧ State.butDraws s t [Jvm.Choice.named "NaN.bits"] (fun t1 => Framed s o t1 (fieldLocs frame_1_writes a s ++ arrayLocs frame_1_arrays a s ++ staticLocs frame_1_statics s) 600000 7302250)) := by
  intro l hflags _ _ p e ha hc hk s m args below hf hfit hheap happ hpre
  obtain ⟨k, o, h1, h2, h3, rfl, hF⟩ := lw_comes l hflags p e ha hc hk s m args below hf hfit hheap happ hpre
  exact ⟨k, _, h1, h2, h3, hL args s _, lw_frame hF⟩
theorem i_vc : Claimed_1_1 ∧ Claimed_1_2 := ⟨lw_limb limb_1_1 (fun args s t => by simp [limb_1_1, Cond.after, Cond.holds, Cond.value]), lw_limb limb_1_2 (fun args s t => Cond.after_iff.mpr (by
  first | (rw [show limb_1_2 = Cond.eq .result (.int 1) from rfl, Cond.eq_ints (x := 1) (y := 1) rfl rfl]; simp; done) | (simp [limb_1_2, Cond.value, Term.eval]; done)))⟩
