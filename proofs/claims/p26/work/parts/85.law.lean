/-! ===== the law's loop ===== -/
def LW (p : Program) (m : MethodId) (c : Code) (s : State) (b L : Nat) (xs : Nat → Int32) (D : va_G) (Y : ClassId × ClassId × ClassId × ClassId) (A0 : Nat → Prop) (adK adV : Nat → Nat) : Prop := EN p m c cL_law 10 s #[Value.ref b] RL ∧ EV D Y s ∧ (∀ q : Nat, s.heap.size ≤ q → A0 q) ∧ ¬ A0 b ∧ va_X b L xs s s.heap ∧ b < s.heap.size ∧ SK adK adV A0 s s.heap
set_option maxHeartbeats 8000000 in
set_option maxRecDepth 100000 in
theorem law_loop {p : Program} {l : Launch} {e : Env} {s : State} {m : MethodId} {below : List Frame} {meth : Method} {c : Code} {b L : Nat} {xs : Nat → Int32} {D : va_G} {Y : ClassId × ClassId × ClassId × ClassId} {A0 : Nat → Prop} {adK adV : Nat → Nat} {Q : State → Prop} {ax aw ar al ac am at0 : Nat} (G : LW p m c s b L xs D Y A0 adK adV) (hL : L ≤ 260)
    (hend : ∀ (H : Heap) (locs : List Loc) (ls : Array Slot), va_S A0 s.heap H locs → W p l e room_1 s m #[Value.ref b] below meth c H locs 600000 7302250 Q (F0 m 169 ls [])) : ∀ (d i cells slots : Nat) (a : AT) (pt : List Nat) (ft fm fc fl fr : Nat → Int32) (fw : Nat → Int64) (ws : va_W) (H : Heap) (locs : List Loc) (ls : Array Slot), i + d = 40 → cells + 4 * d ≤ 600000 → slots + 97 * d ≤ 7302250 → OX Y ax a pt ws → LR a ft fm fc fl → lastA a ≤ 180 → va_P D vwCl ([(aw, .inl (Y.2.2.2, 64, .inr (.inl fw))), (ar, .inl (Y.1, 7, .inl fr)), (al, .inl (Y.1, 16, .inl fl)), (ac, .inl (Y.1, 3, .inl fc)), (am, .inl (Y.1, 20, .inl fm)), (at0, .inl (Y.1, 3, .inl ft))] ++ ws) H → va_D A0 ([(aw, .inl (Y.2.2.2, 64, .inr (.inl fw))), (ar, .inl (Y.1, 7, .inl fr)), (al, .inl (Y.1, 16, .inl fl)), (ac, .inl (Y.1, 3, .inl fc)), (am, .inl (Y.1, 20, .inl fm)), (at0, .inl (Y.1, 3, .inl ft))] ++ ws) → va_S A0 s.heap H locs → lv_has ls 10 [(8, .int (nI i)), (7, .ref aw), (6, .ref ar), (5, .ref al), (4, .ref ac), (3, .ref am), (2, .ref at0), (1, .ref ax), (0, .ref b)] →
      W p l e room_1 s m #[Value.ref b] below meth c H locs cells slots Q (F0 m 52 ls []) := by
  obtain ⟨E, hE, hA, hbA, hXs, hbl, hK9⟩ := G
  obtain ⟨hx, hb, hml, hown, hts⟩ := id E
  intro d
  induction d with
  | zero =>
    intro i cells slots a pt ft fm fc fl fr fw ws H locs ls hi hcl hsl hX hR hT hP hD hS hl
    obtain rfl : i = 40 := by omega
    refine lv_iload hx hb dL_law_52 (lv_at hl 0 rfl) ?_
    refine lv_bipush (v := 40) hx hb dL_law_54 (by decide) ?_
    refine lv_icmp_ge (tgt := 169) hx hb dL_law_56 (by decide) (fun _ => ?_) (fun c1 => absurd (show (40 : Int32) ≤ nI 40 by decide) c1)
    refine W.widen (k := 600000) (n := 7302250) (by omega) (by omega) ?_
    exact hend _ _ _ hS
  | succ d ih =>
    intro i cells slots a pt ft fm fc fl fr fw ws H locs ls hi hcl hsl hX hR hT hP hD hS hl
    have hO := hX.ok
    refine lv_iload hx hb dL_law_52 (lv_at hl 0 rfl) ?_
    refine lv_bipush (v := 40) hx hb dL_law_54 (by decide) ?_
    refine lv_icmp_ge (tgt := 169) hx hb dL_law_56 (by decide) (fun c1 => absurd c1 (show ¬ (40 : Int32) ≤ nI i from @nI_ge i 40 (by omega) (by decide))) (fun _ => ?_)
    refine lv_aload_n hx hb dL_law_59 rfl (lv_at hl 8 rfl) ?_
    refine lv_iload hx hb dL_law_60 (lv_at hl 0 rfl) ?_
    refine af_o (run_S (As := [.ref b, .int (nI i)]) (rest := []) E (c_L_cell l b L xs (by omega) i (by omega)) qw350 qw351 qw18 qw352 rfl rfl hd_L_cell ⟨Nat.le_of_ble_eq_true rfl, Nat.le_of_ble_eq_true rfl⟩ (pre_cell hXs hbl hbA hS) rfl hl.1 rfl (Nat.le_of_ble_eq_true rfl) dL_law_62 ⟨by show cells + 0 ≤ 600000; omega, by show slots + 0 ≤ 7302250; omega⟩) (fun v _ => ?_)
    refine lv_ldc hx hb hown (hts _ qw698) dL_law_65 ?_
    refine lv_iand hx hb dL_law_67 ?_
    obtain ⟨z, hz, ez⟩ := pk_andE v (m := 2147483647) 31 (by decide)
    rw [ez]
    refine lv_istore (lv' := [(9, .int (nI z)), (8, .int (nI i)), (7, .ref aw), (6, .ref ar), (5, .ref al), (4, .ref ac), (3, .ref am), (2, .ref at0), (1, .ref ax), (0, .ref b)]) hx hb dL_law_68 hl (by decide) rfl (fun ls hl => ?_)
    obtain ⟨t', m', c', l', a', pt', ea, hR', hT'⟩ := P_isActed (pt := pt) hO.1 hR hT hO.2 (way := z % 15) (y := z / 15) (Nat.mod_lt _ (by decide)) (by omega)
    have er : nI z - nI z / 15 * 15 = nI (z % 15) := pk_rem (d := 15) hz (by decide) (by decide)
    have ed : nI z / 15 = nI (z / 15) := pk_div (d := 15) hz (by decide) (by decide)
    refine lv_aload_n hx hb dL_law_70 rfl (lv_at hl 8 rfl) ?_
    refine lv_aload_n hx hb dL_law_71 rfl (lv_at hl 7 rfl) ?_
    refine lv_aload_n hx hb dL_law_72 rfl (lv_at hl 6 rfl) ?_
    refine lv_aload hx hb dL_law_73 (lv_at hl 5 rfl) ?_
    refine lv_aload hx hb dL_law_75 (lv_at hl 4 rfl) ?_
    refine lv_iload hx hb dL_law_77 (lv_at hl 0 rfl) ?_
    refine lv_bipush (v := 15) hx hb dL_law_79 (by decide) ?_
    refine lv_irem hx hb dL_law_81 (by decide) ?_
    rw [er]
    refine lv_iload hx hb dL_law_82 (lv_at hl 0 rfl) ?_
    refine lv_bipush (v := 15) hx hb dL_law_84 (by decide) ?_
    refine lv_idiv hx hb dL_law_86 (by decide) ?_
    rw [ed]
    refine ax_z (r0 := 1) (P := fun u => OX Y ax a' pt' u) (L := [(aw, .inl (Y.2.2.2, 64, .inr (.inl fw))), (ar, .inl (Y.1, 7, .inl fr)), (al, .inl (Y.1, 16, .inl fl)), (ac, .inl (Y.1, 3, .inl fc)), (am, .inl (Y.1, 20, .inl fm)), (at0, .inl (Y.1, 3, .inl ft))]) (Lc := [(at0, .inl (Y.1, 3, .inl ft)), (am, .inl (Y.1, 20, .inl fm)), (ac, .inl (Y.1, 3, .inl fc)), (al, .inl (Y.1, 16, .inl fl))]) (Lr := [(aw, .inl (Y.2.2.2, 64, .inr (.inl fw))), (ar, .inl (Y.1, 7, .inl fr))]) (L1 := [(at0, .inl (Y.1, 3, .inl t')), (am, .inl (Y.1, 20, .inl m')), (ac, .inl (Y.1, 3, .inl c')), (al, .inl (Y.1, 16, .inl l'))]) (Ln := [(aw, .inl (Y.2.2.2, 64, .inr (.inl fw))), (ar, .inl (Y.1, 7, .inl fr)), (al, .inl (Y.1, 16, .inl l')), (ac, .inl (Y.1, 3, .inl c')), (am, .inl (Y.1, 20, .inl m')), (at0, .inl (Y.1, 3, .inl t'))]) (run_S (As := [.ref ax, .ref at0, .ref am, .ref ac, .ref al, .int (nI (z % 15)), .int (nI (z / 15))]) (rest := []) E (c_L_isActed l D Y adK adV at0 am ac al ax ft fm fc fl a pt (nI (z % 15)) (nI (z / 15)) _ hX H.size (1, t', m', c', l', a', pt') ea) qw626 qw627 qw18 qw628 rfl rfl hd_L_isActed ⟨Nat.le_of_ble_eq_true rfl, Nat.le_of_ble_eq_true rfl⟩ (pre_sx (Lc := [(at0, .inl (Y.1, 3, .inl ft)), (am, .inl (Y.1, 20, .inl fm)), (ac, .inl (Y.1, 3, .inl fc)), (al, .inl (Y.1, 16, .inl fl))]) hP hD hE hK9 hS hA [5, 4, 3, 2] rfl rfl) rfl hl.1 rfl (Nat.le_of_ble_eq_true rfl) dL_law_87 ⟨by show cells + 3 ≤ 600000; omega, by show slots + 90 ≤ 7302250; omega⟩) hP hD hS hA [5, 4, 3, 2] [0, 1] [0, 1, 5, 4, 3, 2] rfl rfl rfl (by decide) rfl rfl (fun ws H locs _ hX hP hD hS => ?_)
    refine lv_if_ne (tgt := 95) hx hb dL_law_90 (by decide) (fun _ => ?_) (fun c2 => absurd c2 one0)
    have hO' := hX.ok
    obtain ⟨r2, w2, eall, hW⟩ := L_all (r := fr) (w := fw) hO'.1 hR' hT'
    refine lv_aload_n hx hb dL_law_95 rfl (lv_at hl 7 rfl) ?_
    refine lv_aload_n hx hb dL_law_96 rfl (lv_at hl 6 rfl) ?_
    refine lv_aload hx hb dL_law_97 (lv_at hl 5 rfl) ?_
    refine lv_aload hx hb dL_law_99 (lv_at hl 4 rfl) ?_
    refine lv_aload hx hb dL_law_101 (lv_at hl 3 rfl) ?_
    refine lv_aload hx hb dL_law_103 (lv_at hl 2 rfl) ?_
    refine at_v (L := [(aw, .inl (Y.2.2.2, 64, .inr (.inl fw))), (ar, .inl (Y.1, 7, .inl fr)), (al, .inl (Y.1, 16, .inl l')), (ac, .inl (Y.1, 3, .inl c')), (am, .inl (Y.1, 20, .inl m')), (at0, .inl (Y.1, 3, .inl t'))]) (Lc := [(at0, .inl (Y.1, 3, .inl t')), (am, .inl (Y.1, 20, .inl m')), (ac, .inl (Y.1, 3, .inl c')), (al, .inl (Y.1, 16, .inl l')), (ar, .inl (Y.1, 7, .inl fr)), (aw, .inl (Y.2.2.2, 64, .inr (.inl fw)))]) (Lr := []) (L1 := [(at0, .inl (Y.1, 3, .inl t')), (am, .inl (Y.1, 20, .inl m')), (ac, .inl (Y.1, 3, .inl c')), (al, .inl (Y.1, 16, .inl l')), (ar, .inl (Y.1, 7, .inl r2)), (aw, .inl (Y.2.2.2, 64, .inr (.inl w2)))]) (Ln := [(aw, .inl (Y.2.2.2, 64, .inr (.inl w2))), (ar, .inl (Y.1, 7, .inl r2)), (al, .inl (Y.1, 16, .inl l')), (ac, .inl (Y.1, 3, .inl c')), (am, .inl (Y.1, 20, .inl m')), (at0, .inl (Y.1, 3, .inl t'))]) (run_S (As := [.ref at0, .ref am, .ref ac, .ref al, .ref ar, .ref aw]) (rest := []) E (c_L_all l D Y at0 am ac al ar aw t' m' c' l' fr fw H.size (r2, w2) eall) qw357 qw358 qw18 qw359 rfl rfl hd_L_all ⟨Nat.le_of_ble_eq_true rfl, Nat.le_of_ble_eq_true rfl⟩ (pre_rt (Lc := [(at0, .inl (Y.1, 3, .inl t')), (am, .inl (Y.1, 20, .inl m')), (ac, .inl (Y.1, 3, .inl c')), (al, .inl (Y.1, 16, .inl l')), (ar, .inl (Y.1, 7, .inl fr)), (aw, .inl (Y.2.2.2, 64, .inr (.inl fw)))]) hP hD hE [5, 4, 3, 2, 1, 0] rfl rfl) rfl hl.1 rfl (Nat.le_of_ble_eq_true rfl) dL_law_105 ⟨by show cells + 3 + 0 ≤ 600000; omega, by show slots + 90 + 0 ≤ 7302250; omega⟩) hP hD hS hA [5, 4, 3, 2, 1, 0] [] [5, 4, 3, 2, 1, 0] rfl rfl rfl (by decide) rfl rfl (fun H locs hP hD hS => ?_)
    have e_areLeads := P_areLeads (pt := pt') hO'.1 hR' hW hT'
    refine lv_aload_n hx hb dL_law_108 rfl (lv_at hl 8 rfl) ?_
    refine lv_aload_n hx hb dL_law_109 rfl (lv_at hl 7 rfl) ?_
    refine lv_aload_n hx hb dL_law_110 rfl (lv_at hl 6 rfl) ?_
    refine lv_aload hx hb dL_law_111 (lv_at hl 5 rfl) ?_
    refine lv_aload hx hb dL_law_113 (lv_at hl 4 rfl) ?_
    refine lv_aload hx hb dL_law_115 (lv_at hl 2 rfl) ?_
    refine ax_z (r0 := 1) (P := fun u => OX Y ax a' pt' u) (L := [(aw, .inl (Y.2.2.2, 64, .inr (.inl w2))), (ar, .inl (Y.1, 7, .inl r2)), (al, .inl (Y.1, 16, .inl l')), (ac, .inl (Y.1, 3, .inl c')), (am, .inl (Y.1, 20, .inl m')), (at0, .inl (Y.1, 3, .inl t'))]) (Lc := [(at0, .inl (Y.1, 3, .inl t')), (am, .inl (Y.1, 20, .inl m')), (ac, .inl (Y.1, 3, .inl c')), (al, .inl (Y.1, 16, .inl l')), (aw, .inl (Y.2.2.2, 64, .inr (.inl w2)))]) (Lr := [(ar, .inl (Y.1, 7, .inl r2))]) (L1 := [(at0, .inl (Y.1, 3, .inl t')), (am, .inl (Y.1, 20, .inl m')), (ac, .inl (Y.1, 3, .inl c')), (al, .inl (Y.1, 16, .inl l')), (aw, .inl (Y.2.2.2, 64, .inr (.inl w2)))]) (Ln := [(aw, .inl (Y.2.2.2, 64, .inr (.inl w2))), (ar, .inl (Y.1, 7, .inl r2)), (al, .inl (Y.1, 16, .inl l')), (ac, .inl (Y.1, 3, .inl c')), (am, .inl (Y.1, 20, .inl m')), (at0, .inl (Y.1, 3, .inl t'))]) (run_S (As := [.ref ax, .ref at0, .ref am, .ref ac, .ref al, .ref aw]) (rest := []) E (c_L_areLeads l D Y at0 am ac al aw ax t' m' c' l' w2 a' pt' _ hX H.size 1 e_areLeads) qw577 qw578 qw18 qw579 rfl rfl hd_L_areLeads ⟨Nat.le_of_ble_eq_true rfl, Nat.le_of_ble_eq_true rfl⟩ (pre_rx (Lc := [(at0, .inl (Y.1, 3, .inl t')), (am, .inl (Y.1, 20, .inl m')), (ac, .inl (Y.1, 3, .inl c')), (al, .inl (Y.1, 16, .inl l')), (aw, .inl (Y.2.2.2, 64, .inr (.inl w2)))]) hP hD hE [5, 4, 3, 2, 0] rfl rfl) rfl hl.1 rfl (Nat.le_of_ble_eq_true rfl) dL_law_117 ⟨by show cells + 3 + 0 + 0 ≤ 600000; omega, by show slots + 90 + 0 + 0 ≤ 7302250; omega⟩) hP hD hS hA [5, 4, 3, 2, 0] [1] [5, 0, 4, 3, 2, 1] rfl rfl rfl (by decide) rfl rfl (fun ws H locs _ hX hP hD hS => ?_)
    refine lv_if_eq (tgt := 161) hx hb dL_law_120 (by decide) (fun c3 => absurd c3 one0) (fun _ => ?_)
    refine lv_aload_n hx hb dL_law_123 rfl (lv_at hl 8 rfl) ?_
    refine lv_aload_n hx hb dL_law_124 rfl (lv_at hl 7 rfl) ?_
    refine lv_aload hx hb dL_law_125 (lv_at hl 2 rfl) ?_
    refine lv_iload hx hb dL_law_127 (lv_at hl 0 rfl) ?_
    refine lv_bipush (v := 7) hx hb dL_law_129 (by decide) ?_
    refine lv_idiv hx hb dL_law_131 (by decide) ?_
    refine lv_bipush (v := 9) hx hb dL_law_132 (by decide) ?_
    refine lv_irem hx hb dL_law_134 (by decide) ?_
    have e_areRows := P_areRows (pt := pt') hO'.1 hR'.1 hR'.2.1 hR'.2.2.1 hW hT' (nI z / 7 - nI z / 7 / 9 * 9)
    refine ax_z (r0 := 1) (P := fun u => OX Y ax a' pt' u) (L := [(aw, .inl (Y.2.2.2, 64, .inr (.inl w2))), (ar, .inl (Y.1, 7, .inl r2)), (al, .inl (Y.1, 16, .inl l')), (ac, .inl (Y.1, 3, .inl c')), (am, .inl (Y.1, 20, .inl m')), (at0, .inl (Y.1, 3, .inl t'))]) (Lc := [(at0, .inl (Y.1, 3, .inl t')), (aw, .inl (Y.2.2.2, 64, .inr (.inl w2)))]) (Lr := [(ar, .inl (Y.1, 7, .inl r2)), (al, .inl (Y.1, 16, .inl l')), (ac, .inl (Y.1, 3, .inl c')), (am, .inl (Y.1, 20, .inl m'))]) (L1 := [(at0, .inl (Y.1, 3, .inl t')), (aw, .inl (Y.2.2.2, 64, .inr (.inl w2)))]) (Ln := [(aw, .inl (Y.2.2.2, 64, .inr (.inl w2))), (ar, .inl (Y.1, 7, .inl r2)), (al, .inl (Y.1, 16, .inl l')), (ac, .inl (Y.1, 3, .inl c')), (am, .inl (Y.1, 20, .inl m')), (at0, .inl (Y.1, 3, .inl t'))]) (run_S (As := [.ref ax, .ref at0, .ref aw, .int (nI z / 7 - nI z / 7 / 9 * 9)]) (rest := []) E (c_L_areRows l D Y at0 aw ax t' w2 a' pt' (nI z / 7 - nI z / 7 / 9 * 9) _ hX H.size 1 e_areRows) qw373 qw374 qw18 qw375 rfl rfl hd_L_areRows ⟨Nat.le_of_ble_eq_true rfl, Nat.le_of_ble_eq_true rfl⟩ (pre_rx (Lc := [(at0, .inl (Y.1, 3, .inl t')), (aw, .inl (Y.2.2.2, 64, .inr (.inl w2)))]) hP hD hE [5, 0] rfl rfl) rfl hl.1 rfl (Nat.le_of_ble_eq_true rfl) dL_law_135 ⟨by show cells + 3 + 0 + 0 + 0 ≤ 600000; omega, by show slots + 90 + 0 + 0 + 0 ≤ 7302250; omega⟩) hP hD hS hA [5, 0] [1, 2, 3, 4] [5, 0, 1, 2, 3, 4] rfl rfl rfl (by decide) rfl rfl (fun ws H locs _ hX hP hD hS => ?_)
    refine lv_if_eq (tgt := 161) hx hb dL_law_138 (by decide) (fun c4 => absurd c4 one0) (fun _ => ?_)
    refine lv_aload_n hx hb dL_law_141 rfl (lv_at hl 8 rfl) ?_
    refine lv_aload_n hx hb dL_law_142 rfl (lv_at hl 7 rfl) ?_
    refine lv_aload hx hb dL_law_143 (lv_at hl 2 rfl) ?_
    refine lv_iconst (v := 1) hx hb dL_law_145 (by decide) ?_
    refine lv_iload hx hb dL_law_146 (lv_at hl 0 rfl) ?_
    refine lv_iconst (v := 3) hx hb dL_law_148 (by decide) ?_
    refine lv_idiv hx hb dL_law_149 (by decide) ?_
    refine lv_aload_n hx hb dL_law_150 rfl (lv_at hl 7 rfl) ?_
    refine lv_iconst (v := 0) hx hb dL_law_151 (by decide) ?_
    refine va_iald hx hb hE.1 hP 5 0 rfl rfl (inb_in (by decide)) dL_law_152 ?_
    have hn' : 4 ≤ a'.1 ∧ a'.1 ≤ 7 := hO'.1.1
    have ht0 : t' (0 : Int32).toNatClampNeg = nI a'.1 := hR'.1
    rw [ht0]
    refine lv_irem hx hb dL_law_153 (nI_ne0 (by omega) (by omega)) ?_
    refine lv_iadd hx hb dL_law_154 ?_
    have eb : (1 : Int32) + (nI z / 3 - nI z / 3 / nI a'.1 * nI a'.1) = nI (z / 3 % a'.1 + 1) := by rw [show nI z / 3 = nI (z / 3) from pk_div (d := 3) hz (by decide) (by decide), pk_rem (by omega) (by omega) (by omega), show (1 : Int32) = nI 1 from rfl, nI_add, Nat.add_comm]
    rw [eb]
    have e_isPath := P_isPath (pt := pt') (b := z / 3 % a'.1) hO'.1 hR'.1 hR'.2.1 hR'.2.2.1 hW hT' (Nat.mod_lt _ (by omega))
    refine ax_z (r0 := 1) (P := fun u => OX Y ax a' pt' u) (L := [(aw, .inl (Y.2.2.2, 64, .inr (.inl w2))), (ar, .inl (Y.1, 7, .inl r2)), (al, .inl (Y.1, 16, .inl l')), (ac, .inl (Y.1, 3, .inl c')), (am, .inl (Y.1, 20, .inl m')), (at0, .inl (Y.1, 3, .inl t'))]) (Lc := [(at0, .inl (Y.1, 3, .inl t')), (aw, .inl (Y.2.2.2, 64, .inr (.inl w2)))]) (Lr := [(ar, .inl (Y.1, 7, .inl r2)), (al, .inl (Y.1, 16, .inl l')), (ac, .inl (Y.1, 3, .inl c')), (am, .inl (Y.1, 20, .inl m'))]) (L1 := [(at0, .inl (Y.1, 3, .inl t')), (aw, .inl (Y.2.2.2, 64, .inr (.inl w2)))]) (Ln := [(aw, .inl (Y.2.2.2, 64, .inr (.inl w2))), (ar, .inl (Y.1, 7, .inl r2)), (al, .inl (Y.1, 16, .inl l')), (ac, .inl (Y.1, 3, .inl c')), (am, .inl (Y.1, 20, .inl m')), (at0, .inl (Y.1, 3, .inl t'))]) (run_S (As := [.ref ax, .ref at0, .ref aw, .int (nI (z / 3 % a'.1 + 1))]) (rest := []) E (c_L_isPath l D Y at0 aw ax t' w2 a' pt' (fun _ => 0) (nI (z / 3 % a'.1 + 1)) _ hX H.size 1 e_isPath) qw586 qw587 qw18 qw588 rfl rfl hd_L_isPath ⟨Nat.le_of_ble_eq_true rfl, Nat.le_of_ble_eq_true rfl⟩ (pre_rx (Lc := [(at0, .inl (Y.1, 3, .inl t')), (aw, .inl (Y.2.2.2, 64, .inr (.inl w2)))]) hP hD hE [5, 0] rfl rfl) rfl hl.1 rfl (Nat.le_of_ble_eq_true rfl) dL_law_155 ⟨by show cells + 3 + 0 + 0 + 0 + 1 ≤ 600000; omega, by show slots + 90 + 0 + 0 + 0 + 7 ≤ 7302250; omega⟩) hP hD hS hA [5, 0] [1, 2, 3, 4] [5, 0, 1, 2, 3, 4] rfl rfl rfl (by decide) rfl rfl (fun ws H locs _ hX hP hD hS => ?_)
    refine lv_if_ne (tgt := 163) hx hb dL_law_158 (by decide) (fun _ => ?_) (fun c5 => absurd c5 one0)
    refine lv_iinc (v := nI i + 1) (lv' := [(8, .int (nI i + 1)), (9, .int (nI z)), (7, .ref aw), (6, .ref ar), (5, .ref al), (4, .ref ac), (3, .ref am), (2, .ref at0), (1, .ref ax), (0, .ref b)]) hx hb dL_law_163 hl (k := 1) rfl rfl (by decide) rfl (fun ls hl => ?_)
    refine lv_goto (tgt := 52) hx hb dL_law_166 (by decide) ?_
    rw [nI_1] at hl
    exact ih (i + 1) _ _ a' pt' t' m' c' l' r2 w2 ws H locs ls (by omega) (by omega) (by omega) hX hR' hT' hP hD hS (lv_sub hl [0, 2, 3, 4, 5, 6, 7, 8, 9] rfl)
