/-! ===== the loop of the law ===== -/
theorem switch_in {x : Int32} {j : Nat} (h : x = nI j) (hj : j < 23) : ¬ x.toInt < 0 ∧ ¬ (22 : Int) < x.toInt ∧ (x.toInt - 0).toNat = j := by
  subst h
  rw [nI_toInt (by omega)]
  omega
set_option maxHeartbeats 4000000 in
set_option maxRecDepth 100000 in
theorem law_loop {p : Program} {l : Launch} {e : Env} {s : State} {m : MethodId} {below : List Frame} {meth : Method} {c : Code} {Q : State → Prop} {b L : Nat} {xs : Nat → Int32} {D : va_G} {Y : ClassId × ClassId × ClassId} {A0 : Nat → Prop} {adK adV : Nat → Nat} {ax am : Nat} {u w : Nat → Nat} (G : LC p m c s b L xs D Y A0 adK adV) (hL : L ≤ 2048) (hend : ∀ (H : Heap) (locs : List Loc) (ls : Array Slot), va_S A0 s.heap H locs → W p l e room_1 s m #[Value.ref b] below meth c H locs 600000 7302250 Q (F0 m 703 ls [])) : ∀ (d k C Z : Nat) (v : Nat → Nat) (hsn : Int32) (t tr sn : TV) (hsz : Int32) (hh : Nat → TV) (pl : Int32) (ps : Nat → Int32) (rc rm rl rx : Int32) (rp : Nat → Int32) (gb gc gl ga : Int32) (gr gf go : Nat → Int32) (wb fb vs : Int32) (few rch : Nat → Int32) (ub us : Int32) (ufew urch lv lb : Nat → Int32) (vk vp ty ve vm vq : Int32) (s9 past kept pad cell other rows read track lead distance line : Nat → Int32) (H : Heap) (locs : List Loc) (ls : Array Slot), L < k + 4 * d + 4 → k ≤ 4096 → C + 3 * d ≤ 600000 → Z + 90 * d ≤ 7302250 → va_P D vwCl (XW Y ax u v hsn t tr sn hsz hh pl ps rc rm rl rx rp gb gc gl ga gr gf go wb fb vs few rch ub us ufew urch lv lb ++ MW Y am w vk vp ty ve vm vq s9 past kept pad cell other rows read track lead distance line) H → va_D A0 (XW Y ax u v hsn t tr sn hsz hh pl ps rc rm rl rx rp gb gc gl ga gr gf go wb fb vs few rch ub us ufew urch lv lb ++ MW Y am w vk vp ty ve vm vq s9 past kept pad cell other rows read track lead distance line) → va_S A0 s.heap H locs → LI hsn t sn hsz hh pl ps wb fb few lv vk vp ty s9 past kept pad → lv_has ls 8 [(3, .int (nI k)), (2, .ref am), (1, .ref ax), (0, .ref b)] → W p l e room_1 s m #[Value.ref b] below meth c H locs C Z Q (F0 m 18 ls []) := by
  intro d
  induction d with
  | zero =>
    intro k C Z v hsn t tr sn hsz hh pl ps rc rm rl rx rp gb gc gl ga gr gf go wb fb vs few rch ub us ufew urch lv lb vk vp ty ve vm vq s9 past kept pad cell other rows read track lead distance line H locs ls hLk hk9 hC hZ hP hD hS hI hl
    obtain ⟨E, hE, hA, hbA, hX, hbl, hK9⟩ := id G
    have hx := E.1
    have hb := E.2.1
    refine lv_iload_n hx hb dL_law_18 rfl (lv_at hl 0 rfl) ?_
    refine lv_aload_n hx hb dL_law_19 rfl (lv_at hl 3 rfl) ?_
    refine va_slen hx hb hX hbl hbA hS dL_law_20 ?_
    refine lv_iconst (v := 4) hx hb dL_law_21 (by decide) ?_
    refine lv_isub hx hb dL_law_22 ?_
    have hT := turn_lt (i := k) (L := L) (by omega) hL
    exact lv_icmp_gt (tgt := 703) hx hb dL_law_23 (by decide) (fun _ => W.widen (k := 600000) (n := 7302250) (by omega) (by omega) (hend H locs ls hS)) (fun h => absurd (hT.mpr (by omega)) h)
  | succ d ih =>
    intro k C Z v hsn t tr sn hsz hh pl ps rc rm rl rx rp gb gc gl ga gr gf go wb fb vs few rch ub us ufew urch lv lb vk vp ty ve vm vq s9 past kept pad cell other rows read track lead distance line H locs ls hLk hk9 hC hZ hP hD hS hI hl
    obtain ⟨E, hE, hA, hbA, hX, hbl, hK9⟩ := id G
    have hx := E.1
    have hb := E.2.1
    refine lv_iload_n hx hb dL_law_18 rfl (lv_at hl 0 rfl) ?_
    refine lv_aload_n hx hb dL_law_19 rfl (lv_at hl 3 rfl) ?_
    refine va_slen hx hb hX hbl hbA hS dL_law_20 ?_
    refine lv_iconst (v := 4) hx hb dL_law_21 (by decide) ?_
    refine lv_isub hx hb dL_law_22 ?_
    have hT := turn_lt (i := k) (L := L) (by omega) hL
    refine lv_icmp_gt (tgt := 703) hx hb dL_law_23 (by decide) (fun _ => W.widen (k := 600000) (n := 7302250) (by omega) (by omega) (hend H locs ls hS)) (fun h => ?_)
    have hk : k + 4 ≤ L := Nat.le_of_not_lt (fun q => h (hT.mpr q))
    have hC3 : C + 3 ≤ 600000 := by omega
    have hZ3 : Z + 90 ≤ 7302250 := by omega
    have K : Nx p l e s m below meth c Q D Y A0 b ax am u w (nI k) (C + 3) (Z + 90) := by
      intro v hsn t tr sn hsz hh pl ps rc rm rl rx rp gb gc gl ga gr gf go wb fb vs few rch ub us ufew urch lv lb vk vp ty ve vm vq s9 past kept pad cell other rows read track lead distance line H locs ls hP hD hS hI hl
      refine lv_iinc (v := nI (k + 4)) (lv' := [(3, .int (nI (k + 4))), (2, .ref am), (1, .ref ax), (0, .ref b)]) hx hb dL_law_697 hl (k := 0) rfl (nI_add k 4) (by decide) rfl (fun ls hl => ?_)
      refine lv_goto (tgt := 18) hx hb dL_law_700 (by decide) ?_
      exact ih (k + 4) (C + 3) (Z + 90) v hsn t tr sn hsz hh pl ps rc rm rl rx rp gb gc gl ga gr gf go wb fb vs few rch ub us ufew urch lv lb vk vp ty ve vm vq s9 past kept pad cell other rows read track lead distance line H locs ls (by omega) (by omega) (by omega) (by omega) hP hD hS hI hl
    refine lv_aload_n hx hb dL_law_26 rfl (lv_at hl 3 rfl) ?_
    refine lv_iload_n hx hb dL_law_27 rfl (lv_at hl 0 rfl) ?_
    refine va_sld hx hb hX hbl hbA hS (nI_in (by omega) (by omega)) dL_law_28 ?_
    refine lv_bipush (v := 31) hx hb dL_law_29 (by decide) ?_
    refine lv_iand hx hb dL_law_31 ?_
    obtain ⟨j, hj, ej⟩ := and31 (xs (nI k).toNatClampNeg)
    rw [ej]
    by_cases hj2 : j < 23
    · obtain ⟨y1, y2, y3⟩ := switch_in (x := nI j) rfl hj2
      rcases (show j = 0 ∨ j = 1 ∨ j = 2 ∨ j = 3 ∨ j = 4 ∨ j = 5 ∨ j = 6 ∨ j = 7 ∨ j = 8 ∨ j = 9 ∨ j = 10 ∨ j = 11 ∨ j = 12 ∨ j = 13 ∨ j = 14 ∨ j = 15 ∨ j = 16 ∨ j = 17 ∨ j = 18 ∨ j = 19 ∨ j = 20 ∨ j = 21 ∨ j = 22 by omega) with rfl | rfl | rfl | rfl | rfl | rfl | rfl | rfl | rfl | rfl | rfl | rfl | rfl | rfl | rfl | rfl | rfl | rfl | rfl | rfl | rfl | rfl | rfl
      · exact lv_tableIn (off := 108) (tgt := 140) hx hb dL_law_32 y1 y2 (by rw [y3]; rfl) (by decide) (t_bells G hk hL hC3 hZ3 hP hD hS hI hl K)
      · exact lv_tableIn (off := 131) (tgt := 163) hx hb dL_law_32 y1 y2 (by rw [y3]; rfl) (by decide) (t_method G hk hL hC3 hZ3 hP hD hS hI hl K)
      · exact lv_tableIn (off := 144) (tgt := 176) hx hb dL_law_32 y1 y2 (by rw [y3]; rfl) (by decide) (t_call G hk hL hC3 hZ3 hP hD hS hI hl K)
      · exact lv_tableIn (off := 177) (tgt := 209) hx hb dL_law_32 y1 y2 (by rw [y3]; rfl) (by decide) (t_touch G hk hL hC3 hZ3 hP hD hS hI hl K)
      · exact lv_tableIn (off := 190) (tgt := 222) hx hb dL_law_32 y1 y2 (by rw [y3]; rfl) (by decide) (t_add G hk hL hC3 hZ3 hP hD hS hI hl K)
      · exact lv_tableIn (off := 213) (tgt := 245) hx hb dL_law_32 y1 y2 (by rw [y3]; rfl) (by decide) (t_cut G hk hL hC3 hZ3 hP hD hS hI hl K)
      · exact lv_tableIn (off := 236) (tgt := 268) hx hb dL_law_32 y1 y2 (by rw [y3]; rfl) (by decide) (t_append G hk hL hC3 hZ3 hP hD hS hI hl K)
      · exact lv_tableIn (off := 259) (tgt := 291) hx hb dL_law_32 y1 y2 (by rw [y3]; rfl) (by decide) (t_clear G hk hL hC3 hZ3 hP hD hS hI hl K)
      · exact lv_tableIn (off := 272) (tgt := 304) hx hb dL_law_32 y1 y2 (by rw [y3]; rfl) (by decide) (t_fault G hk hL hC3 hZ3 hP hD hS hI hl K)
      · exact lv_tableIn (off := 295) (tgt := 327) hx hb dL_law_32 y1 y2 (by rw [y3]; rfl) (by decide) (t_bell G hk hL hC3 hZ3 hP hD hS hI hl K)
      · exact lv_tableIn (off := 328) (tgt := 360) hx hb dL_law_32 y1 y2 (by rw [y3]; rfl) (by decide) (t_change G hk hL hC3 hZ3 hP hD hS hI hl K)
      · exact lv_tableIn (off := 361) (tgt := 393) hx hb dL_law_32 y1 y2 (by rw [y3]; rfl) (by decide) (t_row G hk hL hC3 hZ3 hP hD hS hI hl K)
      · exact lv_tableIn (off := 394) (tgt := 426) hx hb dL_law_32 y1 y2 (by rw [y3]; rfl) (by decide) (t_path G hk hL hC3 hZ3 hP hD hS hI hl K)
      · exact lv_tableIn (off := 427) (tgt := 459) hx hb dL_law_32 y1 y2 (by rw [y3]; rfl) (by decide) (t_blows G hk hL hC3 hZ3 hP hD hS hI hl K)
      · exact lv_tableIn (off := 460) (tgt := 492) hx hb dL_law_32 y1 y2 (by rw [y3]; rfl) (by decide) (t_count G hk hL hC3 hZ3 hP hD hS hI hl K)
      · exact lv_tableIn (off := 483) (tgt := 515) hx hb dL_law_32 y1 y2 (by rw [y3]; rfl) (by decide) (t_music G hk hL hC3 hZ3 hP hD hS hI hl K)
      · exact lv_tableIn (off := 524) (tgt := 556) hx hb dL_law_32 y1 y2 (by rw [y3]; rfl) (by decide) (t_home G hk hL hC3 hZ3 hP hD hS hI hl K)
      · exact lv_tableIn (off := 547) (tgt := 579) hx hb dL_law_32 y1 y2 (by rw [y3]; rfl) (by decide) (t_homeCall G hk hL hC3 hZ3 hP hD hS hI hl K)
      · exact lv_tableIn (off := 570) (tgt := 602) hx hb dL_law_32 y1 y2 (by rw [y3]; rfl) (by decide) (t_ifCalled G hk hL hC3 hZ3 hP hD hS hI hl K)
      · exact lv_tableIn (off := 613) (tgt := 645) hx hb dL_law_32 y1 y2 (by rw [y3]; rfl) (by decide) (t_best G hk hL hC3 hZ3 hP hD hS hI hl K)
      · exact lv_tableIn (off := 626) (tgt := 658) hx hb dL_law_32 y1 y2 (by rw [y3]; rfl) (by decide) (t_undo G hk hL hC3 hZ3 hP hD hS hI hl K)
      · exact lv_tableIn (off := 639) (tgt := 671) hx hb dL_law_32 y1 y2 (by rw [y3]; rfl) (by decide) (t_save G hk hL hC3 hZ3 hP hD hS hI hl K)
      · exact lv_tableIn (off := 652) (tgt := 684) hx hb dL_law_32 y1 y2 (by rw [y3]; rfl) (by decide) (t_restore G hk hL hC3 hZ3 hP hD hS hI hl K)
    · refine lv_tableOut (tgt := 697) hx hb dL_law_32 (Or.inr (by rw [nI_toInt (by omega)]; omega)) (by decide) ?_
      exact W.widen (k := C + 3) (n := Z + 90) (by omega) (by omega) (K hP hD hS hI hl)
