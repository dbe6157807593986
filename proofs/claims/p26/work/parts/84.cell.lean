/-! ===== the script's cell ===== -/
theorem qk7 : Cond.constant RL 7 (40503) ∈ lw_all := qw353
set_option maxHeartbeats 4000000 in
set_option maxRecDepth 100000 in
theorem c_L_cell (l : Launch) (b L : Nat) (xs : Nat → Int32) (hL : L < 2 ^ 31) (k : Nat) (hk : k < 2 ^ 31) : Met l yL_cell (ws_ yL_cell cL_cell 2 (some .int)) { frames := 1, cells := 0, slots := 0, locals := 24 } (va_Pc [.ref b, .int (nI k)] (fun U => va_X b L xs U U.heap ∧ b < U.heap.size)) (vp_Si (fun _ => True)) 0 0 (fun _ => False) := by
  refine ct_start (by decide) (Nat.le_of_ble_eq_true rfl) ?_
  intro p e s m below meth c ls hx hb hml hr hlocks hown hts hnm hB hl
  obtain ⟨hX, hbl⟩ := hB
  have hown : s.vm.findClass RL = some m.cls := hown
  have hl : lv_has ls 2 [(0, .ref b), (1, .int (nI k))] := hl
  have hS : va_S (fun _ => False) s.heap s.heap [] := va_S.rf
  have hend : ∀ v : Int32, W p l e { frames := 1, cells := 0, slots := 0, locals := 24 } s m [Value.ref b, Value.int (nI k)].toArray below meth c s.heap [] 0 0 (MQ below (vp_Si (fun _ => True)) [Value.ref b, Value.int (nI k)].toArray s 0 0 (fun _ => False)) (F0 m 18 ls [.int v]) := fun v =>
    W.iret (v := v) hx hb hr (fun t ht _ => ⟨v, rfl, trivial, ht⟩) (fun q hq => absurd hq List.not_mem_nil) dL_cell_18 hlocks
  refine lv_iload_n hx hb dL_cell_0 rfl (lv_at hl 1 rfl) ?_
  refine lv_aload_n hx hb dL_cell_1 rfl (lv_at hl 0 rfl) ?_
  refine va_slen hx hb hX hbl (fun h => h) hS dL_cell_2 ?_
  refine lv_icmp_ge (tgt := 12) hx hb dL_cell_3 (by decide) (fun c1 => ?_) (fun c1 => ?_)
  · refine lv_ldc hx hb hown (hts _ qw353) dL_cell_12 ?_
    refine lv_iload_n hx hb dL_cell_14 rfl (lv_at hl 1 rfl) ?_
    refine lv_iconst (v := 3) hx hb dL_cell_15 (by decide) ?_
    refine lv_iadd hx hb dL_cell_16 ?_
    refine lv_imul hx hb dL_cell_17 ?_
    exact hend _
  refine lv_aload_n hx hb dL_cell_6 rfl (lv_at hl 0 rfl) ?_
  refine lv_iload_n hx hb dL_cell_7 rfl (lv_at hl 1 rfl) ?_
  refine va_sld hx hb hX hbl (fun h => h) hS (nI_in (by
    rcases Nat.lt_or_ge k L with q | q
    · exact q
    · exact absurd (show Int32.ofNat L ≤ nI k from nI_le q hk) c1) hL) dL_cell_8 ?_
  refine lv_goto (tgt := 18) hx hb dL_cell_9 (by decide) ?_
  exact hend _
theorem pre_cell {s : State} {H : Heap} {locs : List Loc} {A : Nat → Prop} {b L : Nat} {xs : Nat → Int32} {As : List Value} (hX : va_X b L xs s s.heap) (hbl : b < s.heap.size) (hbA : ¬ A b) (hS : va_S A s.heap H locs) : PreS s H (va_Pc As (fun U => va_X b L xs U U.heap ∧ b < U.heap.size)) As := by
  refine ⟨fun a U g mk q => ⟨q.1, ?_, q.2.2⟩, fun U hU hW => ⟨rfl, ?_, ?_⟩⟩
  · exact va_X.moved (u := U) (U := U.calling g mk a) (Vm.Alike.refl U.vm) q.2.1
  · rw [hU]
    exact va_X.moved hW.alike (hX.kept (hS.2.1 b hbl hbA))
  · rw [hU]
    exact Nat.lt_of_lt_of_le hbl hS.1
