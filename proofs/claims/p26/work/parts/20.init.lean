theorem qwobj : Cond.code objectInit ⟨#[0xb1]⟩ 1 none ∈ lw_all := lw_in (List.mem_of_getElem? (i := 44) (by decide +kernel)) rfl

/-- the row of the history's states: every third of the addresses u -/
def hst (u : Nat → Nat) : Nat → Option Nat := fun j => if j = 0 then some (u 0) else if j = 1 then some (u 3) else if j = 2 then some (u 6) else some (u 9)
theorem rg_cell {D : va_G} {cl : List vw_C} {a : Nat} {cA : ClassId} {n : Nat} {g1 g2 : Nat → Option Nat} {H : Heap} (h : ∀ j, j < n → g1 j = g2 j) (hc : va_at D cl (a, .inl (cA, n, .inr (.inr (.inr (.inr g1))))) H) : va_at D cl (a, .inl (cA, n, .inr (.inr (.inr (.inr g2))))) H := by
  have e : vp_cell cA (n, .inr (.inr (.inr (.inr g1)))) = vp_cell cA (n, .inr (.inr (.inr (.inr g2)))) := by
    simp only [vp_cell, arrV]
    congr 1
    apply Array.ext
    · simp
    · intro i h1 h2
      simp only [Array.size_ofFn] at h1
      simp [h i h1]
  show H[a]? = some (vp_cell cA _)
  rw [← e]
  exact hc
theorem rg_P {D : va_G} {cl : List vw_C} {ws : va_W} {a : Nat} {cA : ClassId} {n : Nat} {g1 g2 : Nat → Option Nat} {H : Heap} (hP : va_P D cl ws H) (k : Nat) (he : ws[k]? = some (a, .inl (cA, n, .inr (.inr (.inr (.inr g1)))))) (h : ∀ j, j < n → g1 j = g2 j) : va_P D cl (ws.set k (a, .inl (cA, n, .inr (.inr (.inr (.inr g2)))))) H := by
  intro i q hq
  by_cases hi : k = i
  · subst hi
    have hl : k < ws.length := (List.getElem?_eq_some_iff.mp he).1
    rw [List.getElem?_set_self hl] at hq
    cases hq
    exact rg_cell h (hP k _ he)
  · rw [List.getElem?_set_ne hi] at hq
    exact hP i q hq
theorem rg_D {A : Nat → Prop} {ws : va_W} {a : Nat} {cA : ClassId} {n : Nat} {g1 g2 : Nat → Option Nat} (hD : va_D A ws) (k : Nat) (he : ws[k]? = some (a, .inl (cA, n, .inr (.inr (.inr (.inr g1)))))) : va_D A (ws.set k (a, .inl (cA, n, .inr (.inr (.inr (.inr g2)))))) := by
  have key : ∀ (i : Nat) (q : Nat × va_E), (ws.set k (a, .inl (cA, n, .inr (.inr (.inr (.inr g2))))))[i]? = some q → ∃ q' : Nat × va_E, ws[i]? = some q' ∧ q'.1 = q.1 := by
    intro i q hq
    by_cases hi : k = i
    · subst hi
      have hl : k < ws.length := (List.getElem?_eq_some_iff.mp he).1
      rw [List.getElem?_set_self hl] at hq
      cases hq
      exact ⟨_, he, rfl⟩
    · rw [List.getElem?_set_ne hi] at hq
      exact ⟨q, hq, rfl⟩
  refine ⟨fun i j x y hx hy hxy => ?_, fun i q hq => ?_⟩
  · obtain ⟨x', h1, e1⟩ := key i x hx
    obtain ⟨y', h2, e2⟩ := key j y hy
    exact hD.1 i j x' y' h1 h2 (by rw [e1, e2, hxy])
  · obtain ⟨q', h1, e1⟩ := key i q hq
    rw [← e1]
    exact hD.2 i q' h1
section B3
variable {p : Program} {l : Launch} {e : Env} {R : Room} {s : State} {m : MethodId} {args : Array Value} {below : List Frame} {meth : Method} {c : Code} {H : Heap} {locs : List Loc} {cells slots : Nat} {Q : State → Prop} {pc : Nat} {ls : Array Slot} {rest : List Value}
theorem W_top {v1 v2 : Value} (h : v1 = v2) (k : W p l e R s m args below meth c H locs cells slots Q (F0 m pc ls (v2 :: rest))) : W p l e R s m args below meth c H locs cells slots Q (F0 m pc ls (v1 :: rest)) := by rw [h]; exact k
variable {cc : ByteArray} {D : va_G} {Y : ClassId × ClassId × ClassId × ClassId} {A : Nat → Prop} {ws : va_W} {H0 : Heap} {n : Int32} {N : Nat}
theorem n_newi (hx : p.tables.exec = Jvm.exec) (hb : c.code = cc) (harr : (Cond.arrayClass .int).before args s = true) (hE : EV D Y s) (hP : va_P D vwCl ws H) (hD : va_D A ws) (hS : va_S A H0 H locs) (hA : ∀ q, H0.size ≤ q → A q) (hn : ¬ n < 0) (hN : n.toNatClampNeg = N) (hbytes : N * componentBytes .int ≤ 536870912) (hcells : cells + 1 ≤ R.cells) (hslots : slots + N ≤ R.slots) (hdg : decode cc pc = .ok (.newarray .int, 2))
    (kk : ∀ (q : Nat) (H1 : Heap), va_P D vwCl (ws ++ [(q, .inl (Y.1, N, .inl (fun _ => 0)))]) H1 → va_D A (ws ++ [(q, .inl (Y.1, N, .inl (fun _ => 0)))]) → va_S A H0 H1 locs → W p l e R s m args below meth c H1 locs (cells + 1) (slots + N) Q (F0 m (pc + 2) ls (.ref q :: rest))) : W p l e R s m args below meth c H locs cells slots Q (F0 m pc ls (.int n :: rest)) := by
  refine va_newa (atype := .int) (ty := .int) (a0 := (N, .inl (fun _ => 0))) hx hb harr rfl hE.1 hP hD hS hA (fun cA => rfl) hn hN hbytes hcells hslots hdg (fun q cA H1 hK1 hP1 hD1 hS1 => ?_)
  have e1 := (hK1.2 4 (cA, .int) rfl).2
  have e2 := (hE.1.2 0 (Y.1, .int) rfl).2
  have e : cA = Y.1 := Option.some.inj (e1.symm.trans e2)
  subst e
  exact kk q H1 hP1 hD1 hS1
theorem n_newc (hx : p.tables.exec = Jvm.exec) (hb : c.code = cc) (harr : (Cond.arrayClass .char).before args s = true) (hE : EV D Y s) (hP : va_P D vwCl ws H) (hD : va_D A ws) (hS : va_S A H0 H locs) (hA : ∀ q, H0.size ≤ q → A q) (hn : ¬ n < 0) (hN : n.toNatClampNeg = N) (hbytes : N * componentBytes .char ≤ 536870912) (hcells : cells + 1 ≤ R.cells) (hslots : slots + N ≤ R.slots) (hdg : decode cc pc = .ok (.newarray .char, 2))
    (kk : ∀ (q : Nat) (H1 : Heap), va_P D vwCl (ws ++ [(q, .inl (Y.2.1, N, .inl (fun _ => 0)))]) H1 → va_D A (ws ++ [(q, .inl (Y.2.1, N, .inl (fun _ => 0)))]) → va_S A H0 H1 locs → W p l e R s m args below meth c H1 locs (cells + 1) (slots + N) Q (F0 m (pc + 2) ls (.ref q :: rest))) : W p l e R s m args below meth c H locs cells slots Q (F0 m pc ls (.int n :: rest)) := by
  refine va_newa (atype := .char) (ty := .char) (a0 := (N, .inl (fun _ => 0))) hx hb harr rfl hE.1 hP hD hS hA (fun cA => rfl) hn hN hbytes hcells hslots hdg (fun q cA H1 hK1 hP1 hD1 hS1 => ?_)
  have e1 := (hK1.2 4 (cA, .char) rfl).2
  have e2 := (hE.1.2 1 (Y.2.1, .char) rfl).2
  have e : cA = Y.2.1 := Option.some.inj (e1.symm.trans e2)
  subst e
  exact kk q H1 hP1 hD1 hS1
theorem n_newq {own : String} {index : Nat} (hx : p.tables.exec = Jvm.exec) (hb : c.code = cc) (hown : s.vm.findClass own = some m.cls) (hlink : (Cond.classLink own index RX9).before args s = true) (hE : EV D Y s) (hP : va_P D vwCl ws H) (hD : va_D A ws) (hS : va_S A H0 H locs) (hA : ∀ q, H0.size ≤ q → A q) (hn : ¬ n < 0) (hN : n.toNatClampNeg = N) (hbytes : N * 4 ≤ 536870912) (hcells : cells + 1 ≤ R.cells) (hslots : slots + N ≤ R.slots) (hdg : decode cc pc = .ok (.anewarray index, 3))
    (kk : ∀ (q : Nat) (H1 : Heap), va_P D vwCl (ws ++ [(q, .inl (Y.2.2.1, N, .inr (.inr (.inr (.inr (fun _ => none))))))]) H1 → va_D A (ws ++ [(q, .inl (Y.2.2.1, N, .inr (.inr (.inr (.inr (fun _ => none))))))]) → va_S A H0 H1 locs → W p l e R s m args below meth c H1 locs (cells + 1) (slots + N) Q (F0 m (pc + 3) ls (.ref q :: rest))) : W p l e R s m args below meth c H locs cells slots Q (F0 m pc ls (.int n :: rest)) := by
  refine va_newq hx hb hown hlink hE.2.2 hE.1 hP hD hS hA hn hN hbytes hcells hslots hdg (fun q cA H1 hK1 hP1 hD1 hS1 => ?_)
  obtain ⟨kA1, comp1, -, -, -, e1⟩ := (hK1.2 4 (cA, .object RX9) rfl).2
  obtain ⟨kA2, comp2, -, -, -, e2⟩ := (hE.1.2 2 (Y.2.2.1, .object RX9) rfl).2
  have e : cA = Y.2.2.1 := Option.some.inj (e1.symm.trans e2)
  subst e
  exact kk q H1 hP1 hD1 hS1
end B3

theorem nf_X9 : ∀ j, j < 7 → defaultValue (tyX9 j) = vp_V [.int 0, .int 0, .int 0, .int 0, .int 0, .null, .null] j := by
  intro j hj
  rcases (show j = 0 ∨ j = 1 ∨ j = 2 ∨ j = 3 ∨ j = 4 ∨ j = 5 ∨ j = 6 by omega) with rfl | rfl | rfl | rfl | rfl | rfl | rfl <;> rfl
abbrev rm_X9_init : Room := { frames := 1, cells := 2, slots := 37, locals := 24 }
set_option maxHeartbeats 4000000 in
set_option maxRecDepth 100000 in
theorem c_X9_init (l : Launch) (D : va_G) (Y : ClassId × ClassId × ClassId × ClassId) (a_t : Nat) (sz : Nat) : Met l yX9_init (ws_ yX9_init cX9_init 1 none) rm_X9_init (va_Pc [.ref a_t] (RW D Y sz [(a_t, .inr (6, [.int 0, .int 0, .int 0, .int 0, .int 0, .null, .null]))])) (QVu D (fun u => [(a_t, .inr (6, [.int 0, .int 0, .int 0, .int 0, .int 0, .ref (u 0), .ref (u 1)])), ((u 0), .inl (Y.1, 20, .inl (fun _ => 0))), ((u 1), .inl (Y.1, 17, .inl (fun _ => 0)))]) (va_A [(a_t, .inr (6, [.int 0, .int 0, .int 0, .int 0, .int 0, .null, .null]))] sz)) 2 37 (va_A [(a_t, .inr (6, [.int 0, .int 0, .int 0, .int 0, .int 0, .null, .null]))] sz) := by
  refine rw_start (Qc := fun A => QVu D (fun u => [(a_t, .inr (6, [.int 0, .int 0, .int 0, .int 0, .int 0, .ref (u 0), .ref (u 1)])), ((u 0), .inl (Y.1, 20, .inl (fun _ => 0))), ((u 1), .inl (Y.1, 17, .inl (fun _ => 0)))]) A) (by decide) (Nat.le_of_ble_eq_true rfl) ?_
  intro p e s m below meth c ls A hx hb hml hr hlocks hown hts hnm hA hP hD hS hE hl
  have hin : meth.name = "<init>" := hnm
  generalize hargs : List.toArray _ = args at hts ⊢
  have hown : s.vm.findClass RX9 = some m.cls := hown
  have E : EN p m c cX9_init 1 s args RX9 := ⟨hx, hb, hml, hown, hts⟩
  have hl : lv_has ls 1 [(0, .ref a_t)] := hl
  generalize hQ : MQ below _ args s 2 37 _ = Q
  refine lv_aload_n hx hb dX9_init_0 rfl (lv_at hl 0 rfl) ?_
  refine W.objInit hx hb hown (hts _ qw50) (hts _ qw43) (hts _ qwobj) rfl (by rw [hml]; exact hl.1) rfl dX9_init_1 (Nat.le_of_ble_eq_true rfl) (Nat.le_of_ble_eq_true rfl) ?_
  refine W.eq (g2 := F0 m 4 ls []) rfl ?_
  refine lv_aload_n hx hb dX9_init_4 rfl (lv_at hl 0 rfl) ?_
  refine lv_bipush (v := 20) hx hb dX9_init_5 (by decide) ?_
  refine n_newi (N := 20) hx hb (hts _ qw82) hE hP hD hS hA (by decide) (by decide) (Nat.le_of_ble_eq_true rfl) (Nat.le_of_ble_eq_true rfl) (Nat.le_of_ble_eq_true rfl) dX9_init_7 (fun q1 H hP hD hS => ?_)
  have hP : va_P D vwCl [(a_t, .inr (6, [.int 0, .int 0, .int 0, .int 0, .int 0, .null, .null])), (q1, .inl (Y.1, 20, .inl (fun _ => 0)))] H := hP
  have hD : va_D A [(a_t, .inr (6, [.int 0, .int 0, .int 0, .int 0, .int 0, .null, .null])), (q1, .inl (Y.1, 20, .inl (fun _ => 0)))] := hD
  refine va_putF (D := D) (ci := 6) (v := .ref q1) (ty := (.array .int)) (C := RX9) (T := TX9) (N := 7) hx hb hts inX9 tyX9 tyX9_ok nmX9 hown hE.1 hP hD hS 0 rfl rfl 5 (by decide) (hts _ qw65) (fun _ h9 => h9) rfl hin rfl (tyX9_ok 5 (by decide)) rfl rfl (Nat.le_of_ble_eq_true rfl) dX9_init_9 (fun H locs hP hD hS => ?_)
  have hP : va_P D vwCl [(a_t, .inr (6, [.int 0, .int 0, .int 0, .int 0, .int 0, .ref q1, .null])), (q1, .inl (Y.1, 20, .inl (fun _ => 0)))] H := hP
  have hD : va_D A [(a_t, .inr (6, [.int 0, .int 0, .int 0, .int 0, .int 0, .ref q1, .null])), (q1, .inl (Y.1, 20, .inl (fun _ => 0)))] := hD
  refine lv_aload_n hx hb dX9_init_12 rfl (lv_at hl 0 rfl) ?_
  refine lv_bipush (v := 17) hx hb dX9_init_13 (by decide) ?_
  refine n_newi (N := 17) hx hb (hts _ qw82) hE hP hD hS hA (by decide) (by decide) (Nat.le_of_ble_eq_true rfl) (Nat.le_of_ble_eq_true rfl) (Nat.le_of_ble_eq_true rfl) dX9_init_15 (fun q2 H hP hD hS => ?_)
  have hP : va_P D vwCl [(a_t, .inr (6, [.int 0, .int 0, .int 0, .int 0, .int 0, .ref q1, .null])), (q1, .inl (Y.1, 20, .inl (fun _ => 0))), (q2, .inl (Y.1, 17, .inl (fun _ => 0)))] H := hP
  have hD : va_D A [(a_t, .inr (6, [.int 0, .int 0, .int 0, .int 0, .int 0, .ref q1, .null])), (q1, .inl (Y.1, 20, .inl (fun _ => 0))), (q2, .inl (Y.1, 17, .inl (fun _ => 0)))] := hD
  refine va_putF (D := D) (ci := 6) (v := .ref q2) (ty := (.array .int)) (C := RX9) (T := TX9) (N := 7) hx hb hts inX9 tyX9 tyX9_ok nmX9 hown hE.1 hP hD hS 0 rfl rfl 6 (by decide) (hts _ qw66) (fun _ h9 => h9) rfl hin rfl (tyX9_ok 6 (by decide)) rfl rfl (Nat.le_of_ble_eq_true rfl) dX9_init_17 (fun H locs hP hD hS => ?_)
  have hP : va_P D vwCl [(a_t, .inr (6, [.int 0, .int 0, .int 0, .int 0, .int 0, .ref q1, .ref q2])), (q1, .inl (Y.1, 20, .inl (fun _ => 0))), (q2, .inl (Y.1, 17, .inl (fun _ => 0)))] H := hP
  have hD : va_D A [(a_t, .inr (6, [.int 0, .int 0, .int 0, .int 0, .int 0, .ref q1, .ref q2])), (q1, .inl (Y.1, 20, .inl (fun _ => 0))), (q2, .inl (Y.1, 17, .inl (fun _ => 0)))] := hD
  have hP : va_P D vwCl [(a_t, .inr (6, [.int 0, .int 0, .int 0, .int 0, .int 0, .ref q1, .ref q2])), (q1, .inl (Y.1, 20, .inl (fun _ => 0))), (q2, .inl (Y.1, 17, .inl (fun _ => 0)))] H := hP.sub [0, 1, 2] rfl
  have hD : va_D A [(a_t, .inr (6, [.int 0, .int 0, .int 0, .int 0, .int 0, .ref q1, .ref q2])), (q1, .inl (Y.1, 20, .inl (fun _ => 0))), (q2, .inl (Y.1, 17, .inl (fun _ => 0)))] := hD.sub [0, 1, 2] (by decide) rfl
  subst hQ
  exact en_vu (wu := (fun u => [(a_t, .inr (6, [.int 0, .int 0, .int 0, .int 0, .int 0, .ref (u 0), .ref (u 1)])), ((u 0), .inl (Y.1, 20, .inl (fun _ => 0))), ((u 1), .inl (Y.1, 17, .inl (fun _ => 0)))])) (fun j => [q1, q2].getD j 0) hx hb hr hlocks hP hD hS dX9_init_20

theorem nf_X0 : ∀ j, j < 2 → defaultValue (tyX0 j) = vp_V [.null, .int 0] j := by
  intro j hj
  rcases (show j = 0 ∨ j = 1 by omega) with rfl | rfl <;> rfl
abbrev rm_X0_init : Room := { frames := 2, cells := 13, slots := 180, locals := 44 }
set_option maxHeartbeats 4000000 in
set_option maxRecDepth 100000 in
theorem c_X0_init (l : Launch) (D : va_G) (Y : ClassId × ClassId × ClassId × ClassId) (a_t : Nat) (sz : Nat) : Met l yX0_init (ws_ yX0_init cX0_init 2 none) rm_X0_init (va_Pc [.ref a_t] (RW D Y sz [(a_t, .inr (0, [.null, .int 0]))])) (QVu D (fun u => [(a_t, .inr (0, [.ref (u 0), .int 0])), ((u 0), .inl (Y.2.2.1, 4, .inr (.inr (.inr (.inr (hst (fun j => u (j + 1)))))))), ((u 1), .inr (6, [.int 0, .int 0, .int 0, .int 0, .int 0, .ref (u 2), .ref (u 3)])), ((u 2), .inl (Y.1, 20, .inl (fun _ => 0))), ((u 3), .inl (Y.1, 17, .inl (fun _ => 0))), ((u 4), .inr (6, [.int 0, .int 0, .int 0, .int 0, .int 0, .ref (u 5), .ref (u 6)])), ((u 5), .inl (Y.1, 20, .inl (fun _ => 0))), ((u 6), .inl (Y.1, 17, .inl (fun _ => 0))), ((u 7), .inr (6, [.int 0, .int 0, .int 0, .int 0, .int 0, .ref (u 8), .ref (u 9)])), ((u 8), .inl (Y.1, 20, .inl (fun _ => 0))), ((u 9), .inl (Y.1, 17, .inl (fun _ => 0))), ((u 10), .inr (6, [.int 0, .int 0, .int 0, .int 0, .int 0, .ref (u 11), .ref (u 12)])), ((u 11), .inl (Y.1, 20, .inl (fun _ => 0))), ((u 12), .inl (Y.1, 17, .inl (fun _ => 0)))]) (va_A [(a_t, .inr (0, [.null, .int 0]))] sz)) 13 180 (va_A [(a_t, .inr (0, [.null, .int 0]))] sz) := by
  refine rw_start (Qc := fun A => QVu D (fun u => [(a_t, .inr (0, [.ref (u 0), .int 0])), ((u 0), .inl (Y.2.2.1, 4, .inr (.inr (.inr (.inr (hst (fun j => u (j + 1)))))))), ((u 1), .inr (6, [.int 0, .int 0, .int 0, .int 0, .int 0, .ref (u 2), .ref (u 3)])), ((u 2), .inl (Y.1, 20, .inl (fun _ => 0))), ((u 3), .inl (Y.1, 17, .inl (fun _ => 0))), ((u 4), .inr (6, [.int 0, .int 0, .int 0, .int 0, .int 0, .ref (u 5), .ref (u 6)])), ((u 5), .inl (Y.1, 20, .inl (fun _ => 0))), ((u 6), .inl (Y.1, 17, .inl (fun _ => 0))), ((u 7), .inr (6, [.int 0, .int 0, .int 0, .int 0, .int 0, .ref (u 8), .ref (u 9)])), ((u 8), .inl (Y.1, 20, .inl (fun _ => 0))), ((u 9), .inl (Y.1, 17, .inl (fun _ => 0))), ((u 10), .inr (6, [.int 0, .int 0, .int 0, .int 0, .int 0, .ref (u 11), .ref (u 12)])), ((u 11), .inl (Y.1, 20, .inl (fun _ => 0))), ((u 12), .inl (Y.1, 17, .inl (fun _ => 0)))]) A) (by decide) (Nat.le_of_ble_eq_true rfl) ?_
  intro p e s m below meth c ls A hx hb hml hr hlocks hown hts hnm hA hP hD hS hE hl
  have hin : meth.name = "<init>" := hnm
  generalize hargs : List.toArray _ = args at hts ⊢
  have hown : s.vm.findClass RX0 = some m.cls := hown
  have E : EN p m c cX0_init 2 s args RX0 := ⟨hx, hb, hml, hown, hts⟩
  have hl : lv_has ls 2 [(0, .ref a_t)] := hl
  generalize hQ : MQ below _ args s 13 180 _ = Q
  refine lv_aload_n hx hb dX0_init_0 rfl (lv_at hl 0 rfl) ?_
  refine W.objInit hx hb hown (hts _ qw88) (hts _ qw43) (hts _ qwobj) rfl (by rw [hml]; exact hl.1) rfl dX0_init_1 (Nat.le_of_ble_eq_true rfl) (Nat.le_of_ble_eq_true rfl) ?_
  refine W.eq (g2 := F0 m 4 ls []) rfl ?_
  refine lv_aload_n hx hb dX0_init_4 rfl (lv_at hl 0 rfl) ?_
  refine lv_iconst (v := 4) hx hb dX0_init_5 (by decide) ?_
  refine n_newq (N := 4) hx hb hown (hts _ qw89) hE hP hD hS hA (by decide) (by decide) (Nat.le_of_ble_eq_true rfl) (Nat.le_of_ble_eq_true rfl) (Nat.le_of_ble_eq_true rfl) dX0_init_6 (fun q1 H hP hD hS => ?_)
  have hP : va_P D vwCl [(a_t, .inr (0, [.null, .int 0])), (q1, .inl (Y.2.2.1, 4, .inr (.inr (.inr (.inr (fun _ => none))))))] H := hP
  have hD : va_D A [(a_t, .inr (0, [.null, .int 0])), (q1, .inl (Y.2.2.1, 4, .inr (.inr (.inr (.inr (fun _ => none))))))] := hD
  refine va_putF (D := D) (ci := 0) (v := .ref q1) (ty := (.array (.object RX9))) (C := RX0) (T := TX0) (N := 2) hx hb hts inX0 tyX0 tyX0_ok nmX0 hown hE.1 hP hD hS 0 rfl rfl 0 (by decide) (hts _ qw92) (fun _ h9 => h9) rfl hin rfl (tyX0_ok 0 (by decide)) rfl rfl (Nat.le_of_ble_eq_true rfl) dX0_init_9 (fun H locs hP hD hS => ?_)
  have hP : va_P D vwCl [(a_t, .inr (0, [.ref q1, .int 0])), (q1, .inl (Y.2.2.1, 4, .inr (.inr (.inr (.inr (fun _ => none))))))] H := hP
  have hD : va_D A [(a_t, .inr (0, [.ref q1, .int 0])), (q1, .inl (Y.2.2.1, 4, .inr (.inr (.inr (.inr (fun _ => none))))))] := hD
  refine lv_iconst (v := 0) hx hb dX0_init_12 (by decide) ?_
  refine lv_istore_n (lv' := [(1, .int 0), (0, .ref a_t)]) hx hb dX0_init_13 rfl hl (by decide) rfl (fun ls hl => ?_)
  refine lv_iload_n hx hb dX0_init_14 rfl (lv_at hl 0 rfl) ?_
  refine lv_aload_n hx hb dX0_init_15 rfl (lv_at hl 1 rfl) ?_
  refine va_get (D := D) (ci := 0) (v := .ref q1) (C := RX0) (T := TX0) (N := 2) hx hb hts inX0 hown hE.1 hP 0 rfl rfl 0 (by decide) (hts _ qw92) (fun _ h9 => h9) rfl dX0_init_16 ?_
  refine va_alen (v := 4) hx hb hE.1 hP 1 2 rfl rfl rfl dX0_init_19 ?_
  refine lv_icmp_ge (tgt := 42) hx hb dX0_init_20 (by decide) (fun c2 => absurd c2 (by decide)) (fun _ => ?_)
  refine lv_aload_n hx hb dX0_init_23 rfl (lv_at hl 1 rfl) ?_
  refine va_get (D := D) (ci := 0) (v := .ref q1) (C := RX0) (T := TX0) (N := 2) hx hb hts inX0 hown hE.1 hP 0 rfl rfl 0 (by decide) (hts _ qw92) (fun _ h9 => h9) rfl dX0_init_24 ?_
  refine lv_iload_n hx hb dX0_init_27 rfl (lv_at hl 0 rfl) ?_
  refine va_new (ci := 6) (fs := [.int 0, .int 0, .int 0, .int 0, .int 0, .null, .null]) (C := RX9) (T := TX9) (N := 7) hx hb hts inX9 tyX9 tyX9_ok hown (hts _ qw89) (hts _ qw46) (hts _ qw20) hE.1 hP hD hS hA rfl nf_X9 (Nat.le_of_ble_eq_true rfl) (Nat.le_of_ble_eq_true rfl) dX0_init_28 (fun q3 H hP hD hS => ?_)
  have hP : va_P D vwCl [(a_t, .inr (0, [.ref q1, .int 0])), (q1, .inl (Y.2.2.1, 4, .inr (.inr (.inr (.inr (fun _ => none)))))), (q3, .inr (6, [.int 0, .int 0, .int 0, .int 0, .int 0, .null, .null]))] H := hP
  have hD : va_D A [(a_t, .inr (0, [.ref q1, .int 0])), (q1, .inl (Y.2.2.1, 4, .inr (.inr (.inr (.inr (fun _ => none)))))), (q3, .inr (6, [.int 0, .int 0, .int 0, .int 0, .int 0, .null, .null]))] := hD
  refine lv_dup hx hb dX0_init_31 rfl ?_
  refine af_vu (wc := [(q3, .inr (6, [.int 0, .int 0, .int 0, .int 0, .int 0, .null, .null]))]) (wr := [(a_t, .inr (0, [.ref q1, .int 0])), (q1, .inl (Y.2.2.1, 4, .inr (.inr (.inr (.inr (fun _ => none))))))]) (wn := fun u4 => [(a_t, .inr (0, [.ref q1, .int 0])), (q1, .inl (Y.2.2.1, 4, .inr (.inr (.inr (.inr (fun _ => none)))))), (q3, .inr (6, [.int 0, .int 0, .int 0, .int 0, .int 0, .ref (u4 0), .ref (u4 1)])), ((u4 0), .inl (Y.1, 20, .inl (fun _ => 0))), ((u4 1), .inl (Y.1, 17, .inl (fun _ => 0)))]) (run_IN (As := []) (rest := [.ref q3, .int 0, .ref q1]) E hE (c_X9_init l D Y q3 H.size) qw91 qw48 qw20 qw49 rfl rfl rfl hd_X9_init ⟨Nat.le_of_ble_eq_true rfl, Nat.le_of_ble_eq_true rfl⟩ (pre_rwS hP hD hE [2] rfl (by decide) rfl) rfl hl.1 rfl (Nat.le_of_ble_eq_true rfl) dX0_init_32 ⟨Nat.le_of_ble_eq_true rfl, Nat.le_of_ble_eq_true rfl⟩) hP hD hS hA [2] [0, 1] [0, 1, 2, 3, 4] rfl rfl (by decide) (by decide) (fun _ => rfl) (fun _ => rfl) (by decide) (fun u4 H locs hP hD hS => ?_)
  have hP : va_P D vwCl [(a_t, .inr (0, [.ref q1, .int 0])), (q1, .inl (Y.2.2.1, 4, .inr (.inr (.inr (.inr (fun _ => none)))))), (q3, .inr (6, [.int 0, .int 0, .int 0, .int 0, .int 0, .ref (u4 0), .ref (u4 1)])), ((u4 0), .inl (Y.1, 20, .inl (fun _ => 0))), ((u4 1), .inl (Y.1, 17, .inl (fun _ => 0)))] H := hP
  have hD : va_D A [(a_t, .inr (0, [.ref q1, .int 0])), (q1, .inl (Y.2.2.1, 4, .inr (.inr (.inr (.inr (fun _ => none)))))), (q3, .inr (6, [.int 0, .int 0, .int 0, .int 0, .int 0, .ref (u4 0), .ref (u4 1)])), ((u4 0), .inl (Y.1, 20, .inl (fun _ => 0))), ((u4 1), .inl (Y.1, 17, .inl (fun _ => 0)))] := hD
  refine va_astq hx hb hE.1 hP hD hS 1 2 2 6 (r := (RX9, TX9, 7)) rfl rfl rfl rfl (inb_in (by decide)) dX0_init_35 (fun H locs hP hD hS => ?_)
  have hP : va_P D vwCl [(a_t, .inr (0, [.ref q1, .int 0])), (q1, .inl (Y.2.2.1, 4, .inr (.inr (.inr (.inr (va_up (fun _ => none) (0 : Int32).toNatClampNeg (some q3))))))), (q3, .inr (6, [.int 0, .int 0, .int 0, .int 0, .int 0, .ref (u4 0), .ref (u4 1)])), ((u4 0), .inl (Y.1, 20, .inl (fun _ => 0))), ((u4 1), .inl (Y.1, 17, .inl (fun _ => 0)))] H := hP
  have hD : va_D A [(a_t, .inr (0, [.ref q1, .int 0])), (q1, .inl (Y.2.2.1, 4, .inr (.inr (.inr (.inr (va_up (fun _ => none) (0 : Int32).toNatClampNeg (some q3))))))), (q3, .inr (6, [.int 0, .int 0, .int 0, .int 0, .int 0, .ref (u4 0), .ref (u4 1)])), ((u4 0), .inl (Y.1, 20, .inl (fun _ => 0))), ((u4 1), .inl (Y.1, 17, .inl (fun _ => 0)))] := hD
  refine lv_iinc (v := 1) (lv' := [(1, .int 1), (0, .ref a_t)]) hx hb dX0_init_36 hl (k := 0) rfl (by decide) (by decide) rfl (fun ls hl => ?_)
  refine lv_goto (tgt := 14) hx hb dX0_init_39 (by decide) ?_
  refine lv_iload_n hx hb dX0_init_14 rfl (lv_at hl 0 rfl) ?_
  refine lv_aload_n hx hb dX0_init_15 rfl (lv_at hl 1 rfl) ?_
  refine va_get (D := D) (ci := 0) (v := .ref q1) (C := RX0) (T := TX0) (N := 2) hx hb hts inX0 hown hE.1 hP 0 rfl rfl 0 (by decide) (hts _ qw92) (fun _ h9 => h9) rfl dX0_init_16 ?_
  refine va_alen (v := 4) hx hb hE.1 hP 1 2 rfl rfl rfl dX0_init_19 ?_
  refine lv_icmp_ge (tgt := 42) hx hb dX0_init_20 (by decide) (fun c5 => absurd c5 (by decide)) (fun _ => ?_)
  refine lv_aload_n hx hb dX0_init_23 rfl (lv_at hl 1 rfl) ?_
  refine va_get (D := D) (ci := 0) (v := .ref q1) (C := RX0) (T := TX0) (N := 2) hx hb hts inX0 hown hE.1 hP 0 rfl rfl 0 (by decide) (hts _ qw92) (fun _ h9 => h9) rfl dX0_init_24 ?_
  refine lv_iload_n hx hb dX0_init_27 rfl (lv_at hl 0 rfl) ?_
  refine va_new (ci := 6) (fs := [.int 0, .int 0, .int 0, .int 0, .int 0, .null, .null]) (C := RX9) (T := TX9) (N := 7) hx hb hts inX9 tyX9 tyX9_ok hown (hts _ qw89) (hts _ qw46) (hts _ qw20) hE.1 hP hD hS hA rfl nf_X9 (Nat.le_of_ble_eq_true rfl) (Nat.le_of_ble_eq_true rfl) dX0_init_28 (fun q6 H hP hD hS => ?_)
  have hP : va_P D vwCl [(a_t, .inr (0, [.ref q1, .int 0])), (q1, .inl (Y.2.2.1, 4, .inr (.inr (.inr (.inr (va_up (fun _ => none) (0 : Int32).toNatClampNeg (some q3))))))), (q3, .inr (6, [.int 0, .int 0, .int 0, .int 0, .int 0, .ref (u4 0), .ref (u4 1)])), ((u4 0), .inl (Y.1, 20, .inl (fun _ => 0))), ((u4 1), .inl (Y.1, 17, .inl (fun _ => 0))), (q6, .inr (6, [.int 0, .int 0, .int 0, .int 0, .int 0, .null, .null]))] H := hP
  have hD : va_D A [(a_t, .inr (0, [.ref q1, .int 0])), (q1, .inl (Y.2.2.1, 4, .inr (.inr (.inr (.inr (va_up (fun _ => none) (0 : Int32).toNatClampNeg (some q3))))))), (q3, .inr (6, [.int 0, .int 0, .int 0, .int 0, .int 0, .ref (u4 0), .ref (u4 1)])), ((u4 0), .inl (Y.1, 20, .inl (fun _ => 0))), ((u4 1), .inl (Y.1, 17, .inl (fun _ => 0))), (q6, .inr (6, [.int 0, .int 0, .int 0, .int 0, .int 0, .null, .null]))] := hD
  refine lv_dup hx hb dX0_init_31 rfl ?_
  refine af_vu (wc := [(q6, .inr (6, [.int 0, .int 0, .int 0, .int 0, .int 0, .null, .null]))]) (wr := [(a_t, .inr (0, [.ref q1, .int 0])), (q1, .inl (Y.2.2.1, 4, .inr (.inr (.inr (.inr (va_up (fun _ => none) (0 : Int32).toNatClampNeg (some q3))))))), (q3, .inr (6, [.int 0, .int 0, .int 0, .int 0, .int 0, .ref (u4 0), .ref (u4 1)])), ((u4 0), .inl (Y.1, 20, .inl (fun _ => 0))), ((u4 1), .inl (Y.1, 17, .inl (fun _ => 0)))]) (wn := fun u7 => [(a_t, .inr (0, [.ref q1, .int 0])), (q1, .inl (Y.2.2.1, 4, .inr (.inr (.inr (.inr (va_up (fun _ => none) (0 : Int32).toNatClampNeg (some q3))))))), (q3, .inr (6, [.int 0, .int 0, .int 0, .int 0, .int 0, .ref (u4 0), .ref (u4 1)])), ((u4 0), .inl (Y.1, 20, .inl (fun _ => 0))), ((u4 1), .inl (Y.1, 17, .inl (fun _ => 0))), (q6, .inr (6, [.int 0, .int 0, .int 0, .int 0, .int 0, .ref (u7 0), .ref (u7 1)])), ((u7 0), .inl (Y.1, 20, .inl (fun _ => 0))), ((u7 1), .inl (Y.1, 17, .inl (fun _ => 0)))]) (run_IN (As := []) (rest := [.ref q6, .int 1, .ref q1]) E hE (c_X9_init l D Y q6 H.size) qw91 qw48 qw20 qw49 rfl rfl rfl hd_X9_init ⟨Nat.le_of_ble_eq_true rfl, Nat.le_of_ble_eq_true rfl⟩ (pre_rwS hP hD hE [5] rfl (by decide) rfl) rfl hl.1 rfl (Nat.le_of_ble_eq_true rfl) dX0_init_32 ⟨Nat.le_of_ble_eq_true rfl, Nat.le_of_ble_eq_true rfl⟩) hP hD hS hA [5] [0, 1, 2, 3, 4] [0, 1, 2, 3, 4, 5, 6, 7] rfl rfl (by decide) (by decide) (fun _ => rfl) (fun _ => rfl) (by decide) (fun u7 H locs hP hD hS => ?_)
  have hP : va_P D vwCl [(a_t, .inr (0, [.ref q1, .int 0])), (q1, .inl (Y.2.2.1, 4, .inr (.inr (.inr (.inr (va_up (fun _ => none) (0 : Int32).toNatClampNeg (some q3))))))), (q3, .inr (6, [.int 0, .int 0, .int 0, .int 0, .int 0, .ref (u4 0), .ref (u4 1)])), ((u4 0), .inl (Y.1, 20, .inl (fun _ => 0))), ((u4 1), .inl (Y.1, 17, .inl (fun _ => 0))), (q6, .inr (6, [.int 0, .int 0, .int 0, .int 0, .int 0, .ref (u7 0), .ref (u7 1)])), ((u7 0), .inl (Y.1, 20, .inl (fun _ => 0))), ((u7 1), .inl (Y.1, 17, .inl (fun _ => 0)))] H := hP
  have hD : va_D A [(a_t, .inr (0, [.ref q1, .int 0])), (q1, .inl (Y.2.2.1, 4, .inr (.inr (.inr (.inr (va_up (fun _ => none) (0 : Int32).toNatClampNeg (some q3))))))), (q3, .inr (6, [.int 0, .int 0, .int 0, .int 0, .int 0, .ref (u4 0), .ref (u4 1)])), ((u4 0), .inl (Y.1, 20, .inl (fun _ => 0))), ((u4 1), .inl (Y.1, 17, .inl (fun _ => 0))), (q6, .inr (6, [.int 0, .int 0, .int 0, .int 0, .int 0, .ref (u7 0), .ref (u7 1)])), ((u7 0), .inl (Y.1, 20, .inl (fun _ => 0))), ((u7 1), .inl (Y.1, 17, .inl (fun _ => 0)))] := hD
  refine va_astq hx hb hE.1 hP hD hS 1 2 5 6 (r := (RX9, TX9, 7)) rfl rfl rfl rfl (inb_in (by decide)) dX0_init_35 (fun H locs hP hD hS => ?_)
  have hP : va_P D vwCl [(a_t, .inr (0, [.ref q1, .int 0])), (q1, .inl (Y.2.2.1, 4, .inr (.inr (.inr (.inr (va_up (va_up (fun _ => none) (0 : Int32).toNatClampNeg (some q3)) (1 : Int32).toNatClampNeg (some q6))))))), (q3, .inr (6, [.int 0, .int 0, .int 0, .int 0, .int 0, .ref (u4 0), .ref (u4 1)])), ((u4 0), .inl (Y.1, 20, .inl (fun _ => 0))), ((u4 1), .inl (Y.1, 17, .inl (fun _ => 0))), (q6, .inr (6, [.int 0, .int 0, .int 0, .int 0, .int 0, .ref (u7 0), .ref (u7 1)])), ((u7 0), .inl (Y.1, 20, .inl (fun _ => 0))), ((u7 1), .inl (Y.1, 17, .inl (fun _ => 0)))] H := hP
  have hD : va_D A [(a_t, .inr (0, [.ref q1, .int 0])), (q1, .inl (Y.2.2.1, 4, .inr (.inr (.inr (.inr (va_up (va_up (fun _ => none) (0 : Int32).toNatClampNeg (some q3)) (1 : Int32).toNatClampNeg (some q6))))))), (q3, .inr (6, [.int 0, .int 0, .int 0, .int 0, .int 0, .ref (u4 0), .ref (u4 1)])), ((u4 0), .inl (Y.1, 20, .inl (fun _ => 0))), ((u4 1), .inl (Y.1, 17, .inl (fun _ => 0))), (q6, .inr (6, [.int 0, .int 0, .int 0, .int 0, .int 0, .ref (u7 0), .ref (u7 1)])), ((u7 0), .inl (Y.1, 20, .inl (fun _ => 0))), ((u7 1), .inl (Y.1, 17, .inl (fun _ => 0)))] := hD
  refine lv_iinc (v := 2) (lv' := [(1, .int 2), (0, .ref a_t)]) hx hb dX0_init_36 hl (k := 0) rfl (by decide) (by decide) rfl (fun ls hl => ?_)
  refine lv_goto (tgt := 14) hx hb dX0_init_39 (by decide) ?_
  refine lv_iload_n hx hb dX0_init_14 rfl (lv_at hl 0 rfl) ?_
  refine lv_aload_n hx hb dX0_init_15 rfl (lv_at hl 1 rfl) ?_
  refine va_get (D := D) (ci := 0) (v := .ref q1) (C := RX0) (T := TX0) (N := 2) hx hb hts inX0 hown hE.1 hP 0 rfl rfl 0 (by decide) (hts _ qw92) (fun _ h9 => h9) rfl dX0_init_16 ?_
  refine va_alen (v := 4) hx hb hE.1 hP 1 2 rfl rfl rfl dX0_init_19 ?_
  refine lv_icmp_ge (tgt := 42) hx hb dX0_init_20 (by decide) (fun c8 => absurd c8 (by decide)) (fun _ => ?_)
  refine lv_aload_n hx hb dX0_init_23 rfl (lv_at hl 1 rfl) ?_
  refine va_get (D := D) (ci := 0) (v := .ref q1) (C := RX0) (T := TX0) (N := 2) hx hb hts inX0 hown hE.1 hP 0 rfl rfl 0 (by decide) (hts _ qw92) (fun _ h9 => h9) rfl dX0_init_24 ?_
  refine lv_iload_n hx hb dX0_init_27 rfl (lv_at hl 0 rfl) ?_
  refine va_new (ci := 6) (fs := [.int 0, .int 0, .int 0, .int 0, .int 0, .null, .null]) (C := RX9) (T := TX9) (N := 7) hx hb hts inX9 tyX9 tyX9_ok hown (hts _ qw89) (hts _ qw46) (hts _ qw20) hE.1 hP hD hS hA rfl nf_X9 (Nat.le_of_ble_eq_true rfl) (Nat.le_of_ble_eq_true rfl) dX0_init_28 (fun q9 H hP hD hS => ?_)
  have hP : va_P D vwCl [(a_t, .inr (0, [.ref q1, .int 0])), (q1, .inl (Y.2.2.1, 4, .inr (.inr (.inr (.inr (va_up (va_up (fun _ => none) (0 : Int32).toNatClampNeg (some q3)) (1 : Int32).toNatClampNeg (some q6))))))), (q3, .inr (6, [.int 0, .int 0, .int 0, .int 0, .int 0, .ref (u4 0), .ref (u4 1)])), ((u4 0), .inl (Y.1, 20, .inl (fun _ => 0))), ((u4 1), .inl (Y.1, 17, .inl (fun _ => 0))), (q6, .inr (6, [.int 0, .int 0, .int 0, .int 0, .int 0, .ref (u7 0), .ref (u7 1)])), ((u7 0), .inl (Y.1, 20, .inl (fun _ => 0))), ((u7 1), .inl (Y.1, 17, .inl (fun _ => 0))), (q9, .inr (6, [.int 0, .int 0, .int 0, .int 0, .int 0, .null, .null]))] H := hP
  have hD : va_D A [(a_t, .inr (0, [.ref q1, .int 0])), (q1, .inl (Y.2.2.1, 4, .inr (.inr (.inr (.inr (va_up (va_up (fun _ => none) (0 : Int32).toNatClampNeg (some q3)) (1 : Int32).toNatClampNeg (some q6))))))), (q3, .inr (6, [.int 0, .int 0, .int 0, .int 0, .int 0, .ref (u4 0), .ref (u4 1)])), ((u4 0), .inl (Y.1, 20, .inl (fun _ => 0))), ((u4 1), .inl (Y.1, 17, .inl (fun _ => 0))), (q6, .inr (6, [.int 0, .int 0, .int 0, .int 0, .int 0, .ref (u7 0), .ref (u7 1)])), ((u7 0), .inl (Y.1, 20, .inl (fun _ => 0))), ((u7 1), .inl (Y.1, 17, .inl (fun _ => 0))), (q9, .inr (6, [.int 0, .int 0, .int 0, .int 0, .int 0, .null, .null]))] := hD
  refine lv_dup hx hb dX0_init_31 rfl ?_
  refine af_vu (wc := [(q9, .inr (6, [.int 0, .int 0, .int 0, .int 0, .int 0, .null, .null]))]) (wr := [(a_t, .inr (0, [.ref q1, .int 0])), (q1, .inl (Y.2.2.1, 4, .inr (.inr (.inr (.inr (va_up (va_up (fun _ => none) (0 : Int32).toNatClampNeg (some q3)) (1 : Int32).toNatClampNeg (some q6))))))), (q3, .inr (6, [.int 0, .int 0, .int 0, .int 0, .int 0, .ref (u4 0), .ref (u4 1)])), ((u4 0), .inl (Y.1, 20, .inl (fun _ => 0))), ((u4 1), .inl (Y.1, 17, .inl (fun _ => 0))), (q6, .inr (6, [.int 0, .int 0, .int 0, .int 0, .int 0, .ref (u7 0), .ref (u7 1)])), ((u7 0), .inl (Y.1, 20, .inl (fun _ => 0))), ((u7 1), .inl (Y.1, 17, .inl (fun _ => 0)))]) (wn := fun u10 => [(a_t, .inr (0, [.ref q1, .int 0])), (q1, .inl (Y.2.2.1, 4, .inr (.inr (.inr (.inr (va_up (va_up (fun _ => none) (0 : Int32).toNatClampNeg (some q3)) (1 : Int32).toNatClampNeg (some q6))))))), (q3, .inr (6, [.int 0, .int 0, .int 0, .int 0, .int 0, .ref (u4 0), .ref (u4 1)])), ((u4 0), .inl (Y.1, 20, .inl (fun _ => 0))), ((u4 1), .inl (Y.1, 17, .inl (fun _ => 0))), (q6, .inr (6, [.int 0, .int 0, .int 0, .int 0, .int 0, .ref (u7 0), .ref (u7 1)])), ((u7 0), .inl (Y.1, 20, .inl (fun _ => 0))), ((u7 1), .inl (Y.1, 17, .inl (fun _ => 0))), (q9, .inr (6, [.int 0, .int 0, .int 0, .int 0, .int 0, .ref (u10 0), .ref (u10 1)])), ((u10 0), .inl (Y.1, 20, .inl (fun _ => 0))), ((u10 1), .inl (Y.1, 17, .inl (fun _ => 0)))]) (run_IN (As := []) (rest := [.ref q9, .int 2, .ref q1]) E hE (c_X9_init l D Y q9 H.size) qw91 qw48 qw20 qw49 rfl rfl rfl hd_X9_init ⟨Nat.le_of_ble_eq_true rfl, Nat.le_of_ble_eq_true rfl⟩ (pre_rwS hP hD hE [8] rfl (by decide) rfl) rfl hl.1 rfl (Nat.le_of_ble_eq_true rfl) dX0_init_32 ⟨Nat.le_of_ble_eq_true rfl, Nat.le_of_ble_eq_true rfl⟩) hP hD hS hA [8] [0, 1, 2, 3, 4, 5, 6, 7] [0, 1, 2, 3, 4, 5, 6, 7, 8, 9, 10] rfl rfl (by decide) (by decide) (fun _ => rfl) (fun _ => rfl) (by decide) (fun u10 H locs hP hD hS => ?_)
  have hP : va_P D vwCl [(a_t, .inr (0, [.ref q1, .int 0])), (q1, .inl (Y.2.2.1, 4, .inr (.inr (.inr (.inr (va_up (va_up (fun _ => none) (0 : Int32).toNatClampNeg (some q3)) (1 : Int32).toNatClampNeg (some q6))))))), (q3, .inr (6, [.int 0, .int 0, .int 0, .int 0, .int 0, .ref (u4 0), .ref (u4 1)])), ((u4 0), .inl (Y.1, 20, .inl (fun _ => 0))), ((u4 1), .inl (Y.1, 17, .inl (fun _ => 0))), (q6, .inr (6, [.int 0, .int 0, .int 0, .int 0, .int 0, .ref (u7 0), .ref (u7 1)])), ((u7 0), .inl (Y.1, 20, .inl (fun _ => 0))), ((u7 1), .inl (Y.1, 17, .inl (fun _ => 0))), (q9, .inr (6, [.int 0, .int 0, .int 0, .int 0, .int 0, .ref (u10 0), .ref (u10 1)])), ((u10 0), .inl (Y.1, 20, .inl (fun _ => 0))), ((u10 1), .inl (Y.1, 17, .inl (fun _ => 0)))] H := hP
  have hD : va_D A [(a_t, .inr (0, [.ref q1, .int 0])), (q1, .inl (Y.2.2.1, 4, .inr (.inr (.inr (.inr (va_up (va_up (fun _ => none) (0 : Int32).toNatClampNeg (some q3)) (1 : Int32).toNatClampNeg (some q6))))))), (q3, .inr (6, [.int 0, .int 0, .int 0, .int 0, .int 0, .ref (u4 0), .ref (u4 1)])), ((u4 0), .inl (Y.1, 20, .inl (fun _ => 0))), ((u4 1), .inl (Y.1, 17, .inl (fun _ => 0))), (q6, .inr (6, [.int 0, .int 0, .int 0, .int 0, .int 0, .ref (u7 0), .ref (u7 1)])), ((u7 0), .inl (Y.1, 20, .inl (fun _ => 0))), ((u7 1), .inl (Y.1, 17, .inl (fun _ => 0))), (q9, .inr (6, [.int 0, .int 0, .int 0, .int 0, .int 0, .ref (u10 0), .ref (u10 1)])), ((u10 0), .inl (Y.1, 20, .inl (fun _ => 0))), ((u10 1), .inl (Y.1, 17, .inl (fun _ => 0)))] := hD
  refine va_astq hx hb hE.1 hP hD hS 1 2 8 6 (r := (RX9, TX9, 7)) rfl rfl rfl rfl (inb_in (by decide)) dX0_init_35 (fun H locs hP hD hS => ?_)
  have hP : va_P D vwCl [(a_t, .inr (0, [.ref q1, .int 0])), (q1, .inl (Y.2.2.1, 4, .inr (.inr (.inr (.inr (va_up (va_up (va_up (fun _ => none) (0 : Int32).toNatClampNeg (some q3)) (1 : Int32).toNatClampNeg (some q6)) (2 : Int32).toNatClampNeg (some q9))))))), (q3, .inr (6, [.int 0, .int 0, .int 0, .int 0, .int 0, .ref (u4 0), .ref (u4 1)])), ((u4 0), .inl (Y.1, 20, .inl (fun _ => 0))), ((u4 1), .inl (Y.1, 17, .inl (fun _ => 0))), (q6, .inr (6, [.int 0, .int 0, .int 0, .int 0, .int 0, .ref (u7 0), .ref (u7 1)])), ((u7 0), .inl (Y.1, 20, .inl (fun _ => 0))), ((u7 1), .inl (Y.1, 17, .inl (fun _ => 0))), (q9, .inr (6, [.int 0, .int 0, .int 0, .int 0, .int 0, .ref (u10 0), .ref (u10 1)])), ((u10 0), .inl (Y.1, 20, .inl (fun _ => 0))), ((u10 1), .inl (Y.1, 17, .inl (fun _ => 0)))] H := hP
  have hD : va_D A [(a_t, .inr (0, [.ref q1, .int 0])), (q1, .inl (Y.2.2.1, 4, .inr (.inr (.inr (.inr (va_up (va_up (va_up (fun _ => none) (0 : Int32).toNatClampNeg (some q3)) (1 : Int32).toNatClampNeg (some q6)) (2 : Int32).toNatClampNeg (some q9))))))), (q3, .inr (6, [.int 0, .int 0, .int 0, .int 0, .int 0, .ref (u4 0), .ref (u4 1)])), ((u4 0), .inl (Y.1, 20, .inl (fun _ => 0))), ((u4 1), .inl (Y.1, 17, .inl (fun _ => 0))), (q6, .inr (6, [.int 0, .int 0, .int 0, .int 0, .int 0, .ref (u7 0), .ref (u7 1)])), ((u7 0), .inl (Y.1, 20, .inl (fun _ => 0))), ((u7 1), .inl (Y.1, 17, .inl (fun _ => 0))), (q9, .inr (6, [.int 0, .int 0, .int 0, .int 0, .int 0, .ref (u10 0), .ref (u10 1)])), ((u10 0), .inl (Y.1, 20, .inl (fun _ => 0))), ((u10 1), .inl (Y.1, 17, .inl (fun _ => 0)))] := hD
  refine lv_iinc (v := 3) (lv' := [(1, .int 3), (0, .ref a_t)]) hx hb dX0_init_36 hl (k := 0) rfl (by decide) (by decide) rfl (fun ls hl => ?_)
  refine lv_goto (tgt := 14) hx hb dX0_init_39 (by decide) ?_
  refine lv_iload_n hx hb dX0_init_14 rfl (lv_at hl 0 rfl) ?_
  refine lv_aload_n hx hb dX0_init_15 rfl (lv_at hl 1 rfl) ?_
  refine va_get (D := D) (ci := 0) (v := .ref q1) (C := RX0) (T := TX0) (N := 2) hx hb hts inX0 hown hE.1 hP 0 rfl rfl 0 (by decide) (hts _ qw92) (fun _ h9 => h9) rfl dX0_init_16 ?_
  refine va_alen (v := 4) hx hb hE.1 hP 1 2 rfl rfl rfl dX0_init_19 ?_
  refine lv_icmp_ge (tgt := 42) hx hb dX0_init_20 (by decide) (fun c11 => absurd c11 (by decide)) (fun _ => ?_)
  refine lv_aload_n hx hb dX0_init_23 rfl (lv_at hl 1 rfl) ?_
  refine va_get (D := D) (ci := 0) (v := .ref q1) (C := RX0) (T := TX0) (N := 2) hx hb hts inX0 hown hE.1 hP 0 rfl rfl 0 (by decide) (hts _ qw92) (fun _ h9 => h9) rfl dX0_init_24 ?_
  refine lv_iload_n hx hb dX0_init_27 rfl (lv_at hl 0 rfl) ?_
  refine va_new (ci := 6) (fs := [.int 0, .int 0, .int 0, .int 0, .int 0, .null, .null]) (C := RX9) (T := TX9) (N := 7) hx hb hts inX9 tyX9 tyX9_ok hown (hts _ qw89) (hts _ qw46) (hts _ qw20) hE.1 hP hD hS hA rfl nf_X9 (Nat.le_of_ble_eq_true rfl) (Nat.le_of_ble_eq_true rfl) dX0_init_28 (fun q12 H hP hD hS => ?_)
  have hP : va_P D vwCl [(a_t, .inr (0, [.ref q1, .int 0])), (q1, .inl (Y.2.2.1, 4, .inr (.inr (.inr (.inr (va_up (va_up (va_up (fun _ => none) (0 : Int32).toNatClampNeg (some q3)) (1 : Int32).toNatClampNeg (some q6)) (2 : Int32).toNatClampNeg (some q9))))))), (q3, .inr (6, [.int 0, .int 0, .int 0, .int 0, .int 0, .ref (u4 0), .ref (u4 1)])), ((u4 0), .inl (Y.1, 20, .inl (fun _ => 0))), ((u4 1), .inl (Y.1, 17, .inl (fun _ => 0))), (q6, .inr (6, [.int 0, .int 0, .int 0, .int 0, .int 0, .ref (u7 0), .ref (u7 1)])), ((u7 0), .inl (Y.1, 20, .inl (fun _ => 0))), ((u7 1), .inl (Y.1, 17, .inl (fun _ => 0))), (q9, .inr (6, [.int 0, .int 0, .int 0, .int 0, .int 0, .ref (u10 0), .ref (u10 1)])), ((u10 0), .inl (Y.1, 20, .inl (fun _ => 0))), ((u10 1), .inl (Y.1, 17, .inl (fun _ => 0))), (q12, .inr (6, [.int 0, .int 0, .int 0, .int 0, .int 0, .null, .null]))] H := hP
  have hD : va_D A [(a_t, .inr (0, [.ref q1, .int 0])), (q1, .inl (Y.2.2.1, 4, .inr (.inr (.inr (.inr (va_up (va_up (va_up (fun _ => none) (0 : Int32).toNatClampNeg (some q3)) (1 : Int32).toNatClampNeg (some q6)) (2 : Int32).toNatClampNeg (some q9))))))), (q3, .inr (6, [.int 0, .int 0, .int 0, .int 0, .int 0, .ref (u4 0), .ref (u4 1)])), ((u4 0), .inl (Y.1, 20, .inl (fun _ => 0))), ((u4 1), .inl (Y.1, 17, .inl (fun _ => 0))), (q6, .inr (6, [.int 0, .int 0, .int 0, .int 0, .int 0, .ref (u7 0), .ref (u7 1)])), ((u7 0), .inl (Y.1, 20, .inl (fun _ => 0))), ((u7 1), .inl (Y.1, 17, .inl (fun _ => 0))), (q9, .inr (6, [.int 0, .int 0, .int 0, .int 0, .int 0, .ref (u10 0), .ref (u10 1)])), ((u10 0), .inl (Y.1, 20, .inl (fun _ => 0))), ((u10 1), .inl (Y.1, 17, .inl (fun _ => 0))), (q12, .inr (6, [.int 0, .int 0, .int 0, .int 0, .int 0, .null, .null]))] := hD
  refine lv_dup hx hb dX0_init_31 rfl ?_
  refine af_vu (wc := [(q12, .inr (6, [.int 0, .int 0, .int 0, .int 0, .int 0, .null, .null]))]) (wr := [(a_t, .inr (0, [.ref q1, .int 0])), (q1, .inl (Y.2.2.1, 4, .inr (.inr (.inr (.inr (va_up (va_up (va_up (fun _ => none) (0 : Int32).toNatClampNeg (some q3)) (1 : Int32).toNatClampNeg (some q6)) (2 : Int32).toNatClampNeg (some q9))))))), (q3, .inr (6, [.int 0, .int 0, .int 0, .int 0, .int 0, .ref (u4 0), .ref (u4 1)])), ((u4 0), .inl (Y.1, 20, .inl (fun _ => 0))), ((u4 1), .inl (Y.1, 17, .inl (fun _ => 0))), (q6, .inr (6, [.int 0, .int 0, .int 0, .int 0, .int 0, .ref (u7 0), .ref (u7 1)])), ((u7 0), .inl (Y.1, 20, .inl (fun _ => 0))), ((u7 1), .inl (Y.1, 17, .inl (fun _ => 0))), (q9, .inr (6, [.int 0, .int 0, .int 0, .int 0, .int 0, .ref (u10 0), .ref (u10 1)])), ((u10 0), .inl (Y.1, 20, .inl (fun _ => 0))), ((u10 1), .inl (Y.1, 17, .inl (fun _ => 0)))]) (wn := fun u13 => [(a_t, .inr (0, [.ref q1, .int 0])), (q1, .inl (Y.2.2.1, 4, .inr (.inr (.inr (.inr (va_up (va_up (va_up (fun _ => none) (0 : Int32).toNatClampNeg (some q3)) (1 : Int32).toNatClampNeg (some q6)) (2 : Int32).toNatClampNeg (some q9))))))), (q3, .inr (6, [.int 0, .int 0, .int 0, .int 0, .int 0, .ref (u4 0), .ref (u4 1)])), ((u4 0), .inl (Y.1, 20, .inl (fun _ => 0))), ((u4 1), .inl (Y.1, 17, .inl (fun _ => 0))), (q6, .inr (6, [.int 0, .int 0, .int 0, .int 0, .int 0, .ref (u7 0), .ref (u7 1)])), ((u7 0), .inl (Y.1, 20, .inl (fun _ => 0))), ((u7 1), .inl (Y.1, 17, .inl (fun _ => 0))), (q9, .inr (6, [.int 0, .int 0, .int 0, .int 0, .int 0, .ref (u10 0), .ref (u10 1)])), ((u10 0), .inl (Y.1, 20, .inl (fun _ => 0))), ((u10 1), .inl (Y.1, 17, .inl (fun _ => 0))), (q12, .inr (6, [.int 0, .int 0, .int 0, .int 0, .int 0, .ref (u13 0), .ref (u13 1)])), ((u13 0), .inl (Y.1, 20, .inl (fun _ => 0))), ((u13 1), .inl (Y.1, 17, .inl (fun _ => 0)))]) (run_IN (As := []) (rest := [.ref q12, .int 3, .ref q1]) E hE (c_X9_init l D Y q12 H.size) qw91 qw48 qw20 qw49 rfl rfl rfl hd_X9_init ⟨Nat.le_of_ble_eq_true rfl, Nat.le_of_ble_eq_true rfl⟩ (pre_rwS hP hD hE [11] rfl (by decide) rfl) rfl hl.1 rfl (Nat.le_of_ble_eq_true rfl) dX0_init_32 ⟨Nat.le_of_ble_eq_true rfl, Nat.le_of_ble_eq_true rfl⟩) hP hD hS hA [11] [0, 1, 2, 3, 4, 5, 6, 7, 8, 9, 10] [0, 1, 2, 3, 4, 5, 6, 7, 8, 9, 10, 11, 12, 13] rfl rfl (by decide) (by decide) (fun _ => rfl) (fun _ => rfl) (by decide) (fun u13 H locs hP hD hS => ?_)
  have hP : va_P D vwCl [(a_t, .inr (0, [.ref q1, .int 0])), (q1, .inl (Y.2.2.1, 4, .inr (.inr (.inr (.inr (va_up (va_up (va_up (fun _ => none) (0 : Int32).toNatClampNeg (some q3)) (1 : Int32).toNatClampNeg (some q6)) (2 : Int32).toNatClampNeg (some q9))))))), (q3, .inr (6, [.int 0, .int 0, .int 0, .int 0, .int 0, .ref (u4 0), .ref (u4 1)])), ((u4 0), .inl (Y.1, 20, .inl (fun _ => 0))), ((u4 1), .inl (Y.1, 17, .inl (fun _ => 0))), (q6, .inr (6, [.int 0, .int 0, .int 0, .int 0, .int 0, .ref (u7 0), .ref (u7 1)])), ((u7 0), .inl (Y.1, 20, .inl (fun _ => 0))), ((u7 1), .inl (Y.1, 17, .inl (fun _ => 0))), (q9, .inr (6, [.int 0, .int 0, .int 0, .int 0, .int 0, .ref (u10 0), .ref (u10 1)])), ((u10 0), .inl (Y.1, 20, .inl (fun _ => 0))), ((u10 1), .inl (Y.1, 17, .inl (fun _ => 0))), (q12, .inr (6, [.int 0, .int 0, .int 0, .int 0, .int 0, .ref (u13 0), .ref (u13 1)])), ((u13 0), .inl (Y.1, 20, .inl (fun _ => 0))), ((u13 1), .inl (Y.1, 17, .inl (fun _ => 0)))] H := hP
  have hD : va_D A [(a_t, .inr (0, [.ref q1, .int 0])), (q1, .inl (Y.2.2.1, 4, .inr (.inr (.inr (.inr (va_up (va_up (va_up (fun _ => none) (0 : Int32).toNatClampNeg (some q3)) (1 : Int32).toNatClampNeg (some q6)) (2 : Int32).toNatClampNeg (some q9))))))), (q3, .inr (6, [.int 0, .int 0, .int 0, .int 0, .int 0, .ref (u4 0), .ref (u4 1)])), ((u4 0), .inl (Y.1, 20, .inl (fun _ => 0))), ((u4 1), .inl (Y.1, 17, .inl (fun _ => 0))), (q6, .inr (6, [.int 0, .int 0, .int 0, .int 0, .int 0, .ref (u7 0), .ref (u7 1)])), ((u7 0), .inl (Y.1, 20, .inl (fun _ => 0))), ((u7 1), .inl (Y.1, 17, .inl (fun _ => 0))), (q9, .inr (6, [.int 0, .int 0, .int 0, .int 0, .int 0, .ref (u10 0), .ref (u10 1)])), ((u10 0), .inl (Y.1, 20, .inl (fun _ => 0))), ((u10 1), .inl (Y.1, 17, .inl (fun _ => 0))), (q12, .inr (6, [.int 0, .int 0, .int 0, .int 0, .int 0, .ref (u13 0), .ref (u13 1)])), ((u13 0), .inl (Y.1, 20, .inl (fun _ => 0))), ((u13 1), .inl (Y.1, 17, .inl (fun _ => 0)))] := hD
  refine va_astq hx hb hE.1 hP hD hS 1 2 11 6 (r := (RX9, TX9, 7)) rfl rfl rfl rfl (inb_in (by decide)) dX0_init_35 (fun H locs hP hD hS => ?_)
  have hP : va_P D vwCl [(a_t, .inr (0, [.ref q1, .int 0])), (q1, .inl (Y.2.2.1, 4, .inr (.inr (.inr (.inr (va_up (va_up (va_up (va_up (fun _ => none) (0 : Int32).toNatClampNeg (some q3)) (1 : Int32).toNatClampNeg (some q6)) (2 : Int32).toNatClampNeg (some q9)) (3 : Int32).toNatClampNeg (some q12))))))), (q3, .inr (6, [.int 0, .int 0, .int 0, .int 0, .int 0, .ref (u4 0), .ref (u4 1)])), ((u4 0), .inl (Y.1, 20, .inl (fun _ => 0))), ((u4 1), .inl (Y.1, 17, .inl (fun _ => 0))), (q6, .inr (6, [.int 0, .int 0, .int 0, .int 0, .int 0, .ref (u7 0), .ref (u7 1)])), ((u7 0), .inl (Y.1, 20, .inl (fun _ => 0))), ((u7 1), .inl (Y.1, 17, .inl (fun _ => 0))), (q9, .inr (6, [.int 0, .int 0, .int 0, .int 0, .int 0, .ref (u10 0), .ref (u10 1)])), ((u10 0), .inl (Y.1, 20, .inl (fun _ => 0))), ((u10 1), .inl (Y.1, 17, .inl (fun _ => 0))), (q12, .inr (6, [.int 0, .int 0, .int 0, .int 0, .int 0, .ref (u13 0), .ref (u13 1)])), ((u13 0), .inl (Y.1, 20, .inl (fun _ => 0))), ((u13 1), .inl (Y.1, 17, .inl (fun _ => 0)))] H := hP
  have hD : va_D A [(a_t, .inr (0, [.ref q1, .int 0])), (q1, .inl (Y.2.2.1, 4, .inr (.inr (.inr (.inr (va_up (va_up (va_up (va_up (fun _ => none) (0 : Int32).toNatClampNeg (some q3)) (1 : Int32).toNatClampNeg (some q6)) (2 : Int32).toNatClampNeg (some q9)) (3 : Int32).toNatClampNeg (some q12))))))), (q3, .inr (6, [.int 0, .int 0, .int 0, .int 0, .int 0, .ref (u4 0), .ref (u4 1)])), ((u4 0), .inl (Y.1, 20, .inl (fun _ => 0))), ((u4 1), .inl (Y.1, 17, .inl (fun _ => 0))), (q6, .inr (6, [.int 0, .int 0, .int 0, .int 0, .int 0, .ref (u7 0), .ref (u7 1)])), ((u7 0), .inl (Y.1, 20, .inl (fun _ => 0))), ((u7 1), .inl (Y.1, 17, .inl (fun _ => 0))), (q9, .inr (6, [.int 0, .int 0, .int 0, .int 0, .int 0, .ref (u10 0), .ref (u10 1)])), ((u10 0), .inl (Y.1, 20, .inl (fun _ => 0))), ((u10 1), .inl (Y.1, 17, .inl (fun _ => 0))), (q12, .inr (6, [.int 0, .int 0, .int 0, .int 0, .int 0, .ref (u13 0), .ref (u13 1)])), ((u13 0), .inl (Y.1, 20, .inl (fun _ => 0))), ((u13 1), .inl (Y.1, 17, .inl (fun _ => 0)))] := hD
  refine lv_iinc (v := 4) (lv' := [(1, .int 4), (0, .ref a_t)]) hx hb dX0_init_36 hl (k := 0) rfl (by decide) (by decide) rfl (fun ls hl => ?_)
  refine lv_goto (tgt := 14) hx hb dX0_init_39 (by decide) ?_
  refine lv_iload_n hx hb dX0_init_14 rfl (lv_at hl 0 rfl) ?_
  refine lv_aload_n hx hb dX0_init_15 rfl (lv_at hl 1 rfl) ?_
  refine va_get (D := D) (ci := 0) (v := .ref q1) (C := RX0) (T := TX0) (N := 2) hx hb hts inX0 hown hE.1 hP 0 rfl rfl 0 (by decide) (hts _ qw92) (fun _ h9 => h9) rfl dX0_init_16 ?_
  refine va_alen (v := 4) hx hb hE.1 hP 1 2 rfl rfl rfl dX0_init_19 ?_
  refine lv_icmp_ge (tgt := 42) hx hb dX0_init_20 (by decide) (fun _ => ?_) (fun c14 => absurd (by decide) c14)
  have hP : va_P D vwCl [(a_t, .inr (0, [.ref q1, .int 0])), (q1, .inl (Y.2.2.1, 4, .inr (.inr (.inr (.inr (va_up (va_up (va_up (va_up (fun _ => none) (0 : Int32).toNatClampNeg (some q3)) (1 : Int32).toNatClampNeg (some q6)) (2 : Int32).toNatClampNeg (some q9)) (3 : Int32).toNatClampNeg (some q12))))))), (q3, .inr (6, [.int 0, .int 0, .int 0, .int 0, .int 0, .ref (u4 0), .ref (u4 1)])), ((u4 0), .inl (Y.1, 20, .inl (fun _ => 0))), ((u4 1), .inl (Y.1, 17, .inl (fun _ => 0))), (q6, .inr (6, [.int 0, .int 0, .int 0, .int 0, .int 0, .ref (u7 0), .ref (u7 1)])), ((u7 0), .inl (Y.1, 20, .inl (fun _ => 0))), ((u7 1), .inl (Y.1, 17, .inl (fun _ => 0))), (q9, .inr (6, [.int 0, .int 0, .int 0, .int 0, .int 0, .ref (u10 0), .ref (u10 1)])), ((u10 0), .inl (Y.1, 20, .inl (fun _ => 0))), ((u10 1), .inl (Y.1, 17, .inl (fun _ => 0))), (q12, .inr (6, [.int 0, .int 0, .int 0, .int 0, .int 0, .ref (u13 0), .ref (u13 1)])), ((u13 0), .inl (Y.1, 20, .inl (fun _ => 0))), ((u13 1), .inl (Y.1, 17, .inl (fun _ => 0)))] H := hP.sub [0, 1, 2, 3, 4, 5, 6, 7, 8, 9, 10, 11, 12, 13] rfl
  have hD : va_D A [(a_t, .inr (0, [.ref q1, .int 0])), (q1, .inl (Y.2.2.1, 4, .inr (.inr (.inr (.inr (va_up (va_up (va_up (va_up (fun _ => none) (0 : Int32).toNatClampNeg (some q3)) (1 : Int32).toNatClampNeg (some q6)) (2 : Int32).toNatClampNeg (some q9)) (3 : Int32).toNatClampNeg (some q12))))))), (q3, .inr (6, [.int 0, .int 0, .int 0, .int 0, .int 0, .ref (u4 0), .ref (u4 1)])), ((u4 0), .inl (Y.1, 20, .inl (fun _ => 0))), ((u4 1), .inl (Y.1, 17, .inl (fun _ => 0))), (q6, .inr (6, [.int 0, .int 0, .int 0, .int 0, .int 0, .ref (u7 0), .ref (u7 1)])), ((u7 0), .inl (Y.1, 20, .inl (fun _ => 0))), ((u7 1), .inl (Y.1, 17, .inl (fun _ => 0))), (q9, .inr (6, [.int 0, .int 0, .int 0, .int 0, .int 0, .ref (u10 0), .ref (u10 1)])), ((u10 0), .inl (Y.1, 20, .inl (fun _ => 0))), ((u10 1), .inl (Y.1, 17, .inl (fun _ => 0))), (q12, .inr (6, [.int 0, .int 0, .int 0, .int 0, .int 0, .ref (u13 0), .ref (u13 1)])), ((u13 0), .inl (Y.1, 20, .inl (fun _ => 0))), ((u13 1), .inl (Y.1, 17, .inl (fun _ => 0)))] := hD.sub [0, 1, 2, 3, 4, 5, 6, 7, 8, 9, 10, 11, 12, 13] (by decide) rfl
  have hP := rg_P (g2 := (hst (fun j => (fun j => [q1, q3, (u4 0), (u4 1), q6, (u7 0), (u7 1), q9, (u10 0), (u10 1), q12, (u13 0), (u13 1)].getD j 0) (j + 1)))) hP 1 rfl (fun j hj => by rcases (show j = 0 ∨ j = 1 ∨ j = 2 ∨ j = 3 by omega) with rfl | rfl | rfl | rfl <;> rfl)
  have hD := rg_D (g2 := (hst (fun j => (fun j => [q1, q3, (u4 0), (u4 1), q6, (u7 0), (u7 1), q9, (u10 0), (u10 1), q12, (u13 0), (u13 1)].getD j 0) (j + 1)))) hD 1 rfl
  subst hQ
  exact en_vu (wu := (fun u => [(a_t, .inr (0, [.ref (u 0), .int 0])), ((u 0), .inl (Y.2.2.1, 4, .inr (.inr (.inr (.inr (hst (fun j => u (j + 1)))))))), ((u 1), .inr (6, [.int 0, .int 0, .int 0, .int 0, .int 0, .ref (u 2), .ref (u 3)])), ((u 2), .inl (Y.1, 20, .inl (fun _ => 0))), ((u 3), .inl (Y.1, 17, .inl (fun _ => 0))), ((u 4), .inr (6, [.int 0, .int 0, .int 0, .int 0, .int 0, .ref (u 5), .ref (u 6)])), ((u 5), .inl (Y.1, 20, .inl (fun _ => 0))), ((u 6), .inl (Y.1, 17, .inl (fun _ => 0))), ((u 7), .inr (6, [.int 0, .int 0, .int 0, .int 0, .int 0, .ref (u 8), .ref (u 9)])), ((u 8), .inl (Y.1, 20, .inl (fun _ => 0))), ((u 9), .inl (Y.1, 17, .inl (fun _ => 0))), ((u 10), .inr (6, [.int 0, .int 0, .int 0, .int 0, .int 0, .ref (u 11), .ref (u 12)])), ((u 11), .inl (Y.1, 20, .inl (fun _ => 0))), ((u 12), .inl (Y.1, 17, .inl (fun _ => 0)))])) (fun j => [q1, q3, (u4 0), (u4 1), q6, (u7 0), (u7 1), q9, (u10 0), (u10 1), q12, (u13 0), (u13 1)].getD j 0) hx hb hr hlocks hP hD hS dX0_init_42

theorem nf_X3 : ∀ j, j < 2 → defaultValue (tyX3 j) = vp_V [.null, .int 0] j := by
  intro j hj
  rcases (show j = 0 ∨ j = 1 by omega) with rfl | rfl <;> rfl
abbrev rm_X3_init : Room := { frames := 1, cells := 1, slots := 80, locals := 24 }
set_option maxHeartbeats 4000000 in
set_option maxRecDepth 100000 in
theorem c_X3_init (l : Launch) (D : va_G) (Y : ClassId × ClassId × ClassId × ClassId) (a_t : Nat) (sz : Nat) : Met l yX3_init (ws_ yX3_init cX3_init 1 none) rm_X3_init (va_Pc [.ref a_t] (RW D Y sz [(a_t, .inr (3, [.null, .int 0]))])) (QVu D (fun u => [(a_t, .inr (3, [.ref (u 0), .int 0])), ((u 0), .inl (Y.2.1, 80, .inl (fun _ => 0)))]) (va_A [(a_t, .inr (3, [.null, .int 0]))] sz)) 1 80 (va_A [(a_t, .inr (3, [.null, .int 0]))] sz) := by
  refine rw_start (Qc := fun A => QVu D (fun u => [(a_t, .inr (3, [.ref (u 0), .int 0])), ((u 0), .inl (Y.2.1, 80, .inl (fun _ => 0)))]) A) (by decide) (Nat.le_of_ble_eq_true rfl) ?_
  intro p e s m below meth c ls A hx hb hml hr hlocks hown hts hnm hA hP hD hS hE hl
  have hin : meth.name = "<init>" := hnm
  generalize hargs : List.toArray _ = args at hts ⊢
  have hown : s.vm.findClass RX3 = some m.cls := hown
  have E : EN p m c cX3_init 1 s args RX3 := ⟨hx, hb, hml, hown, hts⟩
  have hl : lv_has ls 1 [(0, .ref a_t)] := hl
  generalize hQ : MQ below _ args s 1 80 _ = Q
  refine lv_aload_n hx hb dX3_init_0 rfl (lv_at hl 0 rfl) ?_
  refine W.objInit hx hb hown (hts _ qw105) (hts _ qw43) (hts _ qwobj) rfl (by rw [hml]; exact hl.1) rfl dX3_init_1 (Nat.le_of_ble_eq_true rfl) (Nat.le_of_ble_eq_true rfl) ?_
  refine W.eq (g2 := F0 m 4 ls []) rfl ?_
  refine lv_aload_n hx hb dX3_init_4 rfl (lv_at hl 0 rfl) ?_
  refine lv_bipush (v := 80) hx hb dX3_init_5 (by decide) ?_
  refine n_newc (N := 80) hx hb (hts _ qw115) hE hP hD hS hA (by decide) (by decide) (Nat.le_of_ble_eq_true rfl) (Nat.le_of_ble_eq_true rfl) (Nat.le_of_ble_eq_true rfl) dX3_init_7 (fun q1 H hP hD hS => ?_)
  have hP : va_P D vwCl [(a_t, .inr (3, [.null, .int 0])), (q1, .inl (Y.2.1, 80, .inl (fun _ => 0)))] H := hP
  have hD : va_D A [(a_t, .inr (3, [.null, .int 0])), (q1, .inl (Y.2.1, 80, .inl (fun _ => 0)))] := hD
  refine va_putF (D := D) (ci := 3) (v := .ref q1) (ty := (.array .char)) (C := RX3) (T := TX3) (N := 2) hx hb hts inX3 tyX3 tyX3_ok nmX3 hown hE.1 hP hD hS 0 rfl rfl 0 (by decide) (hts _ qw106) (fun _ h9 => h9) rfl hin rfl (tyX3_ok 0 (by decide)) rfl rfl (Nat.le_of_ble_eq_true rfl) dX3_init_9 (fun H locs hP hD hS => ?_)
  have hP : va_P D vwCl [(a_t, .inr (3, [.ref q1, .int 0])), (q1, .inl (Y.2.1, 80, .inl (fun _ => 0)))] H := hP
  have hD : va_D A [(a_t, .inr (3, [.ref q1, .int 0])), (q1, .inl (Y.2.1, 80, .inl (fun _ => 0)))] := hD
  have hP : va_P D vwCl [(a_t, .inr (3, [.ref q1, .int 0])), (q1, .inl (Y.2.1, 80, .inl (fun _ => 0)))] H := hP.sub [0, 1] rfl
  have hD : va_D A [(a_t, .inr (3, [.ref q1, .int 0])), (q1, .inl (Y.2.1, 80, .inl (fun _ => 0)))] := hD.sub [0, 1] (by decide) rfl
  subst hQ
  exact en_vu (wu := (fun u => [(a_t, .inr (3, [.ref (u 0), .int 0])), ((u 0), .inl (Y.2.1, 80, .inl (fun _ => 0)))])) (fun j => [q1].getD j 0) hx hb hr hlocks hP hD hS dX3_init_12

theorem nf_X2 : ∀ j, j < 5 → defaultValue (tyX2 j) = vp_V [.null, .int 0, .int 0, .int 0, .int 0] j := by
  intro j hj
  rcases (show j = 0 ∨ j = 1 ∨ j = 2 ∨ j = 3 ∨ j = 4 by omega) with rfl | rfl | rfl | rfl | rfl <;> rfl
abbrev rm_X2_init : Room := { frames := 1, cells := 1, slots := 20, locals := 24 }
set_option maxHeartbeats 4000000 in
set_option maxRecDepth 100000 in
theorem c_X2_init (l : Launch) (D : va_G) (Y : ClassId × ClassId × ClassId × ClassId) (a_t : Nat) (sz : Nat) : Met l yX2_init (ws_ yX2_init cX2_init 1 none) rm_X2_init (va_Pc [.ref a_t] (RW D Y sz [(a_t, .inr (2, [.null, .int 0, .int 0, .int 0, .int 0]))])) (QVu D (fun u => [(a_t, .inr (2, [.ref (u 0), .int 0, .int 0, .int 0, .int 0])), ((u 0), .inl (Y.1, 20, .inl (fun _ => 0)))]) (va_A [(a_t, .inr (2, [.null, .int 0, .int 0, .int 0, .int 0]))] sz)) 1 20 (va_A [(a_t, .inr (2, [.null, .int 0, .int 0, .int 0, .int 0]))] sz) := by
  refine rw_start (Qc := fun A => QVu D (fun u => [(a_t, .inr (2, [.ref (u 0), .int 0, .int 0, .int 0, .int 0])), ((u 0), .inl (Y.1, 20, .inl (fun _ => 0)))]) A) (by decide) (Nat.le_of_ble_eq_true rfl) ?_
  intro p e s m below meth c ls A hx hb hml hr hlocks hown hts hnm hA hP hD hS hE hl
  have hin : meth.name = "<init>" := hnm
  generalize hargs : List.toArray _ = args at hts ⊢
  have hown : s.vm.findClass RX2 = some m.cls := hown
  have E : EN p m c cX2_init 1 s args RX2 := ⟨hx, hb, hml, hown, hts⟩
  have hl : lv_has ls 1 [(0, .ref a_t)] := hl
  generalize hQ : MQ below _ args s 1 20 _ = Q
  refine lv_aload_n hx hb dX2_init_0 rfl (lv_at hl 0 rfl) ?_
  refine W.objInit hx hb hown (hts _ qw121) (hts _ qw43) (hts _ qwobj) rfl (by rw [hml]; exact hl.1) rfl dX2_init_1 (Nat.le_of_ble_eq_true rfl) (Nat.le_of_ble_eq_true rfl) ?_
  refine W.eq (g2 := F0 m 4 ls []) rfl ?_
  refine lv_aload_n hx hb dX2_init_4 rfl (lv_at hl 0 rfl) ?_
  refine lv_bipush (v := 20) hx hb dX2_init_5 (by decide) ?_
  refine n_newi (N := 20) hx hb (hts _ qw82) hE hP hD hS hA (by decide) (by decide) (Nat.le_of_ble_eq_true rfl) (Nat.le_of_ble_eq_true rfl) (Nat.le_of_ble_eq_true rfl) dX2_init_7 (fun q1 H hP hD hS => ?_)
  have hP : va_P D vwCl [(a_t, .inr (2, [.null, .int 0, .int 0, .int 0, .int 0])), (q1, .inl (Y.1, 20, .inl (fun _ => 0)))] H := hP
  have hD : va_D A [(a_t, .inr (2, [.null, .int 0, .int 0, .int 0, .int 0])), (q1, .inl (Y.1, 20, .inl (fun _ => 0)))] := hD
  refine va_putF (D := D) (ci := 2) (v := .ref q1) (ty := (.array .int)) (C := RX2) (T := TX2) (N := 5) hx hb hts inX2 tyX2 tyX2_ok nmX2 hown hE.1 hP hD hS 0 rfl rfl 0 (by decide) (hts _ qw122) (fun _ h9 => h9) rfl hin rfl (tyX2_ok 0 (by decide)) rfl rfl (Nat.le_of_ble_eq_true rfl) dX2_init_9 (fun H locs hP hD hS => ?_)
  have hP : va_P D vwCl [(a_t, .inr (2, [.ref q1, .int 0, .int 0, .int 0, .int 0])), (q1, .inl (Y.1, 20, .inl (fun _ => 0)))] H := hP
  have hD : va_D A [(a_t, .inr (2, [.ref q1, .int 0, .int 0, .int 0, .int 0])), (q1, .inl (Y.1, 20, .inl (fun _ => 0)))] := hD
  have hP : va_P D vwCl [(a_t, .inr (2, [.ref q1, .int 0, .int 0, .int 0, .int 0])), (q1, .inl (Y.1, 20, .inl (fun _ => 0)))] H := hP.sub [0, 1] rfl
  have hD : va_D A [(a_t, .inr (2, [.ref q1, .int 0, .int 0, .int 0, .int 0])), (q1, .inl (Y.1, 20, .inl (fun _ => 0)))] := hD.sub [0, 1] (by decide) rfl
  subst hQ
  exact en_vu (wu := (fun u => [(a_t, .inr (2, [.ref (u 0), .int 0, .int 0, .int 0, .int 0])), ((u 0), .inl (Y.1, 20, .inl (fun _ => 0)))])) (fun j => [q1].getD j 0) hx hb hr hlocks hP hD hS dX2_init_12

theorem nf_X5 : ∀ j, j < 7 → defaultValue (tyX5 j) = vp_V [.null, .null, .null, .int 0, .int 0, .int 0, .int 0] j := by
  intro j hj
  rcases (show j = 0 ∨ j = 1 ∨ j = 2 ∨ j = 3 ∨ j = 4 ∨ j = 5 ∨ j = 6 by omega) with rfl | rfl | rfl | rfl | rfl | rfl | rfl <;> rfl
abbrev rm_X5_init : Room := { frames := 1, cells := 3, slots := 5722, locals := 24 }
set_option maxHeartbeats 4000000 in
set_option maxRecDepth 100000 in
theorem c_X5_init (l : Launch) (D : va_G) (Y : ClassId × ClassId × ClassId × ClassId) (a_t : Nat) (sz : Nat) : Met l yX5_init (ws_ yX5_init cX5_init 1 none) rm_X5_init (va_Pc [.ref a_t] (RW D Y sz [(a_t, .inr (4, [.null, .null, .null, .int 0, .int 0, .int 0, .int 0]))])) (QVu D (fun u => [(a_t, .inr (4, [.ref (u 0), .ref (u 1), .ref (u 2), .int 0, .int 0, .int 0, .int 0])), ((u 0), .inl (Y.1, 341, .inl (fun _ => 0))), ((u 1), .inl (Y.1, 341, .inl (fun _ => 0))), ((u 2), .inl (Y.1, 5040, .inl (fun _ => 0)))]) (va_A [(a_t, .inr (4, [.null, .null, .null, .int 0, .int 0, .int 0, .int 0]))] sz)) 3 5722 (va_A [(a_t, .inr (4, [.null, .null, .null, .int 0, .int 0, .int 0, .int 0]))] sz) := by
  refine rw_start (Qc := fun A => QVu D (fun u => [(a_t, .inr (4, [.ref (u 0), .ref (u 1), .ref (u 2), .int 0, .int 0, .int 0, .int 0])), ((u 0), .inl (Y.1, 341, .inl (fun _ => 0))), ((u 1), .inl (Y.1, 341, .inl (fun _ => 0))), ((u 2), .inl (Y.1, 5040, .inl (fun _ => 0)))]) A) (by decide) (Nat.le_of_ble_eq_true rfl) ?_
  intro p e s m below meth c ls A hx hb hml hr hlocks hown hts hnm hA hP hD hS hE hl
  have hin : meth.name = "<init>" := hnm
  generalize hargs : List.toArray _ = args at hts ⊢
  have hown : s.vm.findClass RX5 = some m.cls := hown
  have E : EN p m c cX5_init 1 s args RX5 := ⟨hx, hb, hml, hown, hts⟩
  have hl : lv_has ls 1 [(0, .ref a_t)] := hl
  generalize hQ : MQ below _ args s 3 5722 _ = Q
  refine lv_aload_n hx hb dX5_init_0 rfl (lv_at hl 0 rfl) ?_
  refine W.objInit hx hb hown (hts _ qw146) (hts _ qw43) (hts _ qwobj) rfl (by rw [hml]; exact hl.1) rfl dX5_init_1 (Nat.le_of_ble_eq_true rfl) (Nat.le_of_ble_eq_true rfl) ?_
  refine W.eq (g2 := F0 m 4 ls []) rfl ?_
  refine lv_aload_n hx hb dX5_init_4 rfl (lv_at hl 0 rfl) ?_
  refine lv_sipush (v := 341) hx hb dX5_init_5 (by decide) ?_
  refine n_newi (N := 341) hx hb (hts _ qw82) hE hP hD hS hA (by decide) (by decide) (Nat.le_of_ble_eq_true rfl) (Nat.le_of_ble_eq_true rfl) (Nat.le_of_ble_eq_true rfl) dX5_init_8 (fun q1 H hP hD hS => ?_)
  have hP : va_P D vwCl [(a_t, .inr (4, [.null, .null, .null, .int 0, .int 0, .int 0, .int 0])), (q1, .inl (Y.1, 341, .inl (fun _ => 0)))] H := hP
  have hD : va_D A [(a_t, .inr (4, [.null, .null, .null, .int 0, .int 0, .int 0, .int 0])), (q1, .inl (Y.1, 341, .inl (fun _ => 0)))] := hD
  refine va_putF (D := D) (ci := 4) (v := .ref q1) (ty := (.array .int)) (C := RX5) (T := TX5) (N := 7) hx hb hts inX5 tyX5 tyX5_ok nmX5 hown hE.1 hP hD hS 0 rfl rfl 0 (by decide) (hts _ qw147) (fun _ h9 => h9) rfl hin rfl (tyX5_ok 0 (by decide)) rfl rfl (Nat.le_of_ble_eq_true rfl) dX5_init_10 (fun H locs hP hD hS => ?_)
  have hP : va_P D vwCl [(a_t, .inr (4, [.ref q1, .null, .null, .int 0, .int 0, .int 0, .int 0])), (q1, .inl (Y.1, 341, .inl (fun _ => 0)))] H := hP
  have hD : va_D A [(a_t, .inr (4, [.ref q1, .null, .null, .int 0, .int 0, .int 0, .int 0])), (q1, .inl (Y.1, 341, .inl (fun _ => 0)))] := hD
  refine lv_aload_n hx hb dX5_init_13 rfl (lv_at hl 0 rfl) ?_
  refine lv_sipush (v := 341) hx hb dX5_init_14 (by decide) ?_
  refine n_newi (N := 341) hx hb (hts _ qw82) hE hP hD hS hA (by decide) (by decide) (Nat.le_of_ble_eq_true rfl) (Nat.le_of_ble_eq_true rfl) (Nat.le_of_ble_eq_true rfl) dX5_init_17 (fun q2 H hP hD hS => ?_)
  have hP : va_P D vwCl [(a_t, .inr (4, [.ref q1, .null, .null, .int 0, .int 0, .int 0, .int 0])), (q1, .inl (Y.1, 341, .inl (fun _ => 0))), (q2, .inl (Y.1, 341, .inl (fun _ => 0)))] H := hP
  have hD : va_D A [(a_t, .inr (4, [.ref q1, .null, .null, .int 0, .int 0, .int 0, .int 0])), (q1, .inl (Y.1, 341, .inl (fun _ => 0))), (q2, .inl (Y.1, 341, .inl (fun _ => 0)))] := hD
  refine va_putF (D := D) (ci := 4) (v := .ref q2) (ty := (.array .int)) (C := RX5) (T := TX5) (N := 7) hx hb hts inX5 tyX5 tyX5_ok nmX5 hown hE.1 hP hD hS 0 rfl rfl 1 (by decide) (hts _ qw148) (fun _ h9 => h9) rfl hin rfl (tyX5_ok 1 (by decide)) rfl rfl (Nat.le_of_ble_eq_true rfl) dX5_init_19 (fun H locs hP hD hS => ?_)
  have hP : va_P D vwCl [(a_t, .inr (4, [.ref q1, .ref q2, .null, .int 0, .int 0, .int 0, .int 0])), (q1, .inl (Y.1, 341, .inl (fun _ => 0))), (q2, .inl (Y.1, 341, .inl (fun _ => 0)))] H := hP
  have hD : va_D A [(a_t, .inr (4, [.ref q1, .ref q2, .null, .int 0, .int 0, .int 0, .int 0])), (q1, .inl (Y.1, 341, .inl (fun _ => 0))), (q2, .inl (Y.1, 341, .inl (fun _ => 0)))] := hD
  refine lv_aload_n hx hb dX5_init_22 rfl (lv_at hl 0 rfl) ?_
  refine lv_sipush (v := 5040) hx hb dX5_init_23 (by decide) ?_
  refine n_newi (N := 5040) hx hb (hts _ qw82) hE hP hD hS hA (by decide) (by decide) (Nat.le_of_ble_eq_true rfl) (Nat.le_of_ble_eq_true rfl) (Nat.le_of_ble_eq_true rfl) dX5_init_26 (fun q3 H hP hD hS => ?_)
  have hP : va_P D vwCl [(a_t, .inr (4, [.ref q1, .ref q2, .null, .int 0, .int 0, .int 0, .int 0])), (q1, .inl (Y.1, 341, .inl (fun _ => 0))), (q2, .inl (Y.1, 341, .inl (fun _ => 0))), (q3, .inl (Y.1, 5040, .inl (fun _ => 0)))] H := hP
  have hD : va_D A [(a_t, .inr (4, [.ref q1, .ref q2, .null, .int 0, .int 0, .int 0, .int 0])), (q1, .inl (Y.1, 341, .inl (fun _ => 0))), (q2, .inl (Y.1, 341, .inl (fun _ => 0))), (q3, .inl (Y.1, 5040, .inl (fun _ => 0)))] := hD
  refine va_putF (D := D) (ci := 4) (v := .ref q3) (ty := (.array .int)) (C := RX5) (T := TX5) (N := 7) hx hb hts inX5 tyX5 tyX5_ok nmX5 hown hE.1 hP hD hS 0 rfl rfl 2 (by decide) (hts _ qw149) (fun _ h9 => h9) rfl hin rfl (tyX5_ok 2 (by decide)) rfl rfl (Nat.le_of_ble_eq_true rfl) dX5_init_28 (fun H locs hP hD hS => ?_)
  have hP : va_P D vwCl [(a_t, .inr (4, [.ref q1, .ref q2, .ref q3, .int 0, .int 0, .int 0, .int 0])), (q1, .inl (Y.1, 341, .inl (fun _ => 0))), (q2, .inl (Y.1, 341, .inl (fun _ => 0))), (q3, .inl (Y.1, 5040, .inl (fun _ => 0)))] H := hP
  have hD : va_D A [(a_t, .inr (4, [.ref q1, .ref q2, .ref q3, .int 0, .int 0, .int 0, .int 0])), (q1, .inl (Y.1, 341, .inl (fun _ => 0))), (q2, .inl (Y.1, 341, .inl (fun _ => 0))), (q3, .inl (Y.1, 5040, .inl (fun _ => 0)))] := hD
  have hP : va_P D vwCl [(a_t, .inr (4, [.ref q1, .ref q2, .ref q3, .int 0, .int 0, .int 0, .int 0])), (q1, .inl (Y.1, 341, .inl (fun _ => 0))), (q2, .inl (Y.1, 341, .inl (fun _ => 0))), (q3, .inl (Y.1, 5040, .inl (fun _ => 0)))] H := hP.sub [0, 1, 2, 3] rfl
  have hD : va_D A [(a_t, .inr (4, [.ref q1, .ref q2, .ref q3, .int 0, .int 0, .int 0, .int 0])), (q1, .inl (Y.1, 341, .inl (fun _ => 0))), (q2, .inl (Y.1, 341, .inl (fun _ => 0))), (q3, .inl (Y.1, 5040, .inl (fun _ => 0)))] := hD.sub [0, 1, 2, 3] (by decide) rfl
  subst hQ
  exact en_vu (wu := (fun u => [(a_t, .inr (4, [.ref (u 0), .ref (u 1), .ref (u 2), .int 0, .int 0, .int 0, .int 0])), ((u 0), .inl (Y.1, 341, .inl (fun _ => 0))), ((u 1), .inl (Y.1, 341, .inl (fun _ => 0))), ((u 2), .inl (Y.1, 5040, .inl (fun _ => 0)))])) (fun j => [q1, q2, q3].getD j 0) hx hb hr hlocks hP hD hS dX5_init_31

theorem nf_X7 : ∀ j, j < 4 → defaultValue (tyX7 j) = vp_V [.null, .null, .int 0, .int 0] j := by
  intro j hj
  rcases (show j = 0 ∨ j = 1 ∨ j = 2 ∨ j = 3 by omega) with rfl | rfl | rfl | rfl <;> rfl
abbrev rm_X7_init : Room := { frames := 1, cells := 2, slots := 10080, locals := 24 }
set_option maxHeartbeats 4000000 in
set_option maxRecDepth 100000 in
theorem c_X7_init (l : Launch) (D : va_G) (Y : ClassId × ClassId × ClassId × ClassId) (a_t : Nat) (sz : Nat) : Met l yX7_init (ws_ yX7_init cX7_init 1 none) rm_X7_init (va_Pc [.ref a_t] (RW D Y sz [(a_t, .inr (5, [.null, .null, .int 0, .int 0]))])) (QVu D (fun u => [(a_t, .inr (5, [.ref (u 0), .ref (u 1), .int 0, .int 0])), ((u 0), .inl (Y.1, 5040, .inl (fun _ => 0))), ((u 1), .inl (Y.1, 5040, .inl (fun _ => 0)))]) (va_A [(a_t, .inr (5, [.null, .null, .int 0, .int 0]))] sz)) 2 10080 (va_A [(a_t, .inr (5, [.null, .null, .int 0, .int 0]))] sz) := by
  refine rw_start (Qc := fun A => QVu D (fun u => [(a_t, .inr (5, [.ref (u 0), .ref (u 1), .int 0, .int 0])), ((u 0), .inl (Y.1, 5040, .inl (fun _ => 0))), ((u 1), .inl (Y.1, 5040, .inl (fun _ => 0)))]) A) (by decide) (Nat.le_of_ble_eq_true rfl) ?_
  intro p e s m below meth c ls A hx hb hml hr hlocks hown hts hnm hA hP hD hS hE hl
  have hin : meth.name = "<init>" := hnm
  generalize hargs : List.toArray _ = args at hts ⊢
  have hown : s.vm.findClass RX7 = some m.cls := hown
  have E : EN p m c cX7_init 1 s args RX7 := ⟨hx, hb, hml, hown, hts⟩
  have hl : lv_has ls 1 [(0, .ref a_t)] := hl
  generalize hQ : MQ below _ args s 2 10080 _ = Q
  refine lv_aload_n hx hb dX7_init_0 rfl (lv_at hl 0 rfl) ?_
  refine W.objInit hx hb hown (hts _ qw181) (hts _ qw43) (hts _ qwobj) rfl (by rw [hml]; exact hl.1) rfl dX7_init_1 (Nat.le_of_ble_eq_true rfl) (Nat.le_of_ble_eq_true rfl) ?_
  refine W.eq (g2 := F0 m 4 ls []) rfl ?_
  refine lv_aload_n hx hb dX7_init_4 rfl (lv_at hl 0 rfl) ?_
  refine lv_sipush (v := 5040) hx hb dX7_init_5 (by decide) ?_
  refine n_newi (N := 5040) hx hb (hts _ qw82) hE hP hD hS hA (by decide) (by decide) (Nat.le_of_ble_eq_true rfl) (Nat.le_of_ble_eq_true rfl) (Nat.le_of_ble_eq_true rfl) dX7_init_8 (fun q1 H hP hD hS => ?_)
  have hP : va_P D vwCl [(a_t, .inr (5, [.null, .null, .int 0, .int 0])), (q1, .inl (Y.1, 5040, .inl (fun _ => 0)))] H := hP
  have hD : va_D A [(a_t, .inr (5, [.null, .null, .int 0, .int 0])), (q1, .inl (Y.1, 5040, .inl (fun _ => 0)))] := hD
  refine va_putF (D := D) (ci := 5) (v := .ref q1) (ty := (.array .int)) (C := RX7) (T := TX7) (N := 4) hx hb hts inX7 tyX7 tyX7_ok nmX7 hown hE.1 hP hD hS 0 rfl rfl 0 (by decide) (hts _ qw182) (fun _ h9 => h9) rfl hin rfl (tyX7_ok 0 (by decide)) rfl rfl (Nat.le_of_ble_eq_true rfl) dX7_init_10 (fun H locs hP hD hS => ?_)
  have hP : va_P D vwCl [(a_t, .inr (5, [.ref q1, .null, .int 0, .int 0])), (q1, .inl (Y.1, 5040, .inl (fun _ => 0)))] H := hP
  have hD : va_D A [(a_t, .inr (5, [.ref q1, .null, .int 0, .int 0])), (q1, .inl (Y.1, 5040, .inl (fun _ => 0)))] := hD
  refine lv_aload_n hx hb dX7_init_13 rfl (lv_at hl 0 rfl) ?_
  refine lv_sipush (v := 5040) hx hb dX7_init_14 (by decide) ?_
  refine n_newi (N := 5040) hx hb (hts _ qw82) hE hP hD hS hA (by decide) (by decide) (Nat.le_of_ble_eq_true rfl) (Nat.le_of_ble_eq_true rfl) (Nat.le_of_ble_eq_true rfl) dX7_init_17 (fun q2 H hP hD hS => ?_)
  have hP : va_P D vwCl [(a_t, .inr (5, [.ref q1, .null, .int 0, .int 0])), (q1, .inl (Y.1, 5040, .inl (fun _ => 0))), (q2, .inl (Y.1, 5040, .inl (fun _ => 0)))] H := hP
  have hD : va_D A [(a_t, .inr (5, [.ref q1, .null, .int 0, .int 0])), (q1, .inl (Y.1, 5040, .inl (fun _ => 0))), (q2, .inl (Y.1, 5040, .inl (fun _ => 0)))] := hD
  refine va_putF (D := D) (ci := 5) (v := .ref q2) (ty := (.array .int)) (C := RX7) (T := TX7) (N := 4) hx hb hts inX7 tyX7 tyX7_ok nmX7 hown hE.1 hP hD hS 0 rfl rfl 1 (by decide) (hts _ qw183) (fun _ h9 => h9) rfl hin rfl (tyX7_ok 1 (by decide)) rfl rfl (Nat.le_of_ble_eq_true rfl) dX7_init_19 (fun H locs hP hD hS => ?_)
  have hP : va_P D vwCl [(a_t, .inr (5, [.ref q1, .ref q2, .int 0, .int 0])), (q1, .inl (Y.1, 5040, .inl (fun _ => 0))), (q2, .inl (Y.1, 5040, .inl (fun _ => 0)))] H := hP
  have hD : va_D A [(a_t, .inr (5, [.ref q1, .ref q2, .int 0, .int 0])), (q1, .inl (Y.1, 5040, .inl (fun _ => 0))), (q2, .inl (Y.1, 5040, .inl (fun _ => 0)))] := hD
  have hP : va_P D vwCl [(a_t, .inr (5, [.ref q1, .ref q2, .int 0, .int 0])), (q1, .inl (Y.1, 5040, .inl (fun _ => 0))), (q2, .inl (Y.1, 5040, .inl (fun _ => 0)))] H := hP.sub [0, 1, 2] rfl
  have hD : va_D A [(a_t, .inr (5, [.ref q1, .ref q2, .int 0, .int 0])), (q1, .inl (Y.1, 5040, .inl (fun _ => 0))), (q2, .inl (Y.1, 5040, .inl (fun _ => 0)))] := hD.sub [0, 1, 2] (by decide) rfl
  subst hQ
  exact en_vu (wu := (fun u => [(a_t, .inr (5, [.ref (u 0), .ref (u 1), .int 0, .int 0])), ((u 0), .inl (Y.1, 5040, .inl (fun _ => 0))), ((u 1), .inl (Y.1, 5040, .inl (fun _ => 0)))])) (fun j => [q1, q2].getD j 0) hx hb hr hlocks hP hD hS dX7_init_22

theorem nf_X1 : ∀ j, j < 5 → defaultValue (tyX1 j) = vp_V [.null, .null, .null, .null, .int 0] j := by
  intro j hj
  rcases (show j = 0 ∨ j = 1 ∨ j = 2 ∨ j = 3 ∨ j = 4 by omega) with rfl | rfl | rfl | rfl | rfl <;> rfl
abbrev rm_X1_init : Room := { frames := 2, cells := 8, slots := 20174, locals := 44 }
set_option maxHeartbeats 4000000 in
set_option maxRecDepth 100000 in
theorem c_X1_init (l : Launch) (D : va_G) (Y : ClassId × ClassId × ClassId × ClassId) (a_t : Nat) (sz : Nat) : Met l yX1_init (ws_ yX1_init cX1_init 1 none) rm_X1_init (va_Pc [.ref a_t] (RW D Y sz [(a_t, .inr (1, [.null, .null, .null, .null, .int 0]))])) (QVu D (fun u => [(a_t, .inr (1, [.ref (u 0), .ref (u 3), .ref (u 6), .ref (u 7), .int 0])), ((u 0), .inr (5, [.ref (u 1), .ref (u 2), .int 0, .int 0])), ((u 1), .inl (Y.1, 5040, .inl (fun _ => 0))), ((u 2), .inl (Y.1, 5040, .inl (fun _ => 0))), ((u 3), .inr (5, [.ref (u 4), .ref (u 5), .int 0, .int 0])), ((u 4), .inl (Y.1, 5040, .inl (fun _ => 0))), ((u 5), .inl (Y.1, 5040, .inl (fun _ => 0))), ((u 6), .inl (Y.1, 3, .inl (fun _ => 0))), ((u 7), .inl (Y.1, 3, .inl (fun _ => 0)))]) (va_A [(a_t, .inr (1, [.null, .null, .null, .null, .int 0]))] sz)) 8 20174 (va_A [(a_t, .inr (1, [.null, .null, .null, .null, .int 0]))] sz) := by
  refine rw_start (Qc := fun A => QVu D (fun u => [(a_t, .inr (1, [.ref (u 0), .ref (u 3), .ref (u 6), .ref (u 7), .int 0])), ((u 0), .inr (5, [.ref (u 1), .ref (u 2), .int 0, .int 0])), ((u 1), .inl (Y.1, 5040, .inl (fun _ => 0))), ((u 2), .inl (Y.1, 5040, .inl (fun _ => 0))), ((u 3), .inr (5, [.ref (u 4), .ref (u 5), .int 0, .int 0])), ((u 4), .inl (Y.1, 5040, .inl (fun _ => 0))), ((u 5), .inl (Y.1, 5040, .inl (fun _ => 0))), ((u 6), .inl (Y.1, 3, .inl (fun _ => 0))), ((u 7), .inl (Y.1, 3, .inl (fun _ => 0)))]) A) (by decide) (Nat.le_of_ble_eq_true rfl) ?_
  intro p e s m below meth c ls A hx hb hml hr hlocks hown hts hnm hA hP hD hS hE hl
  have hin : meth.name = "<init>" := hnm
  generalize hargs : List.toArray _ = args at hts ⊢
  have hown : s.vm.findClass RX1 = some m.cls := hown
  have E : EN p m c cX1_init 1 s args RX1 := ⟨hx, hb, hml, hown, hts⟩
  have hl : lv_has ls 1 [(0, .ref a_t)] := hl
  generalize hQ : MQ below _ args s 8 20174 _ = Q
  refine lv_aload_n hx hb dX1_init_0 rfl (lv_at hl 0 rfl) ?_
  refine W.objInit hx hb hown (hts _ qw175) (hts _ qw43) (hts _ qwobj) rfl (by rw [hml]; exact hl.1) rfl dX1_init_1 (Nat.le_of_ble_eq_true rfl) (Nat.le_of_ble_eq_true rfl) ?_
  refine W.eq (g2 := F0 m 4 ls []) rfl ?_
  refine lv_aload_n hx hb dX1_init_4 rfl (lv_at hl 0 rfl) ?_
  refine va_new (ci := 5) (fs := [.null, .null, .int 0, .int 0]) (C := RX7) (T := TX7) (N := 4) hx hb hts inX7 tyX7 tyX7_ok hown (hts _ qw176) (hts _ qw177) (hts _ qw26) hE.1 hP hD hS hA rfl nf_X7 (Nat.le_of_ble_eq_true rfl) (Nat.le_of_ble_eq_true rfl) dX1_init_5 (fun q1 H hP hD hS => ?_)
  have hP : va_P D vwCl [(a_t, .inr (1, [.null, .null, .null, .null, .int 0])), (q1, .inr (5, [.null, .null, .int 0, .int 0]))] H := hP
  have hD : va_D A [(a_t, .inr (1, [.null, .null, .null, .null, .int 0])), (q1, .inr (5, [.null, .null, .int 0, .int 0]))] := hD
  refine lv_dup hx hb dX1_init_8 rfl ?_
  refine af_vu (wc := [(q1, .inr (5, [.null, .null, .int 0, .int 0]))]) (wr := [(a_t, .inr (1, [.null, .null, .null, .null, .int 0]))]) (wn := fun u2 => [(a_t, .inr (1, [.null, .null, .null, .null, .int 0])), (q1, .inr (5, [.ref (u2 0), .ref (u2 1), .int 0, .int 0])), ((u2 0), .inl (Y.1, 5040, .inl (fun _ => 0))), ((u2 1), .inl (Y.1, 5040, .inl (fun _ => 0)))]) (run_IN (As := []) (rest := [.ref q1, .ref a_t]) E hE (c_X7_init l D Y q1 H.size) qw178 qw179 qw26 qw180 rfl rfl rfl hd_X7_init ⟨Nat.le_of_ble_eq_true rfl, Nat.le_of_ble_eq_true rfl⟩ (pre_rwS hP hD hE [1] rfl (by decide) rfl) rfl hl.1 rfl (Nat.le_of_ble_eq_true rfl) dX1_init_9 ⟨Nat.le_of_ble_eq_true rfl, Nat.le_of_ble_eq_true rfl⟩) hP hD hS hA [1] [0] [0, 1, 2, 3] rfl rfl (by decide) (by decide) (fun _ => rfl) (fun _ => rfl) (by decide) (fun u2 H locs hP hD hS => ?_)
  have hP : va_P D vwCl [(a_t, .inr (1, [.null, .null, .null, .null, .int 0])), (q1, .inr (5, [.ref (u2 0), .ref (u2 1), .int 0, .int 0])), ((u2 0), .inl (Y.1, 5040, .inl (fun _ => 0))), ((u2 1), .inl (Y.1, 5040, .inl (fun _ => 0)))] H := hP
  have hD : va_D A [(a_t, .inr (1, [.null, .null, .null, .null, .int 0])), (q1, .inr (5, [.ref (u2 0), .ref (u2 1), .int 0, .int 0])), ((u2 0), .inl (Y.1, 5040, .inl (fun _ => 0))), ((u2 1), .inl (Y.1, 5040, .inl (fun _ => 0)))] := hD
  refine va_putF (D := D) (ci := 1) (v := .ref q1) (ty := (.object RX7)) (C := RX1) (T := TX1) (N := 5) hx hb hts inX1 tyX1 tyX1_ok nmX1 hown hE.1 hP hD hS 0 rfl rfl 0 (by decide) (hts _ qw195) (fun _ h9 => h9) rfl hin rfl (tyX1_ok 0 (by decide)) rfl rfl (Nat.le_of_ble_eq_true rfl) dX1_init_12 (fun H locs hP hD hS => ?_)
  have hP : va_P D vwCl [(a_t, .inr (1, [.ref q1, .null, .null, .null, .int 0])), (q1, .inr (5, [.ref (u2 0), .ref (u2 1), .int 0, .int 0])), ((u2 0), .inl (Y.1, 5040, .inl (fun _ => 0))), ((u2 1), .inl (Y.1, 5040, .inl (fun _ => 0)))] H := hP
  have hD : va_D A [(a_t, .inr (1, [.ref q1, .null, .null, .null, .int 0])), (q1, .inr (5, [.ref (u2 0), .ref (u2 1), .int 0, .int 0])), ((u2 0), .inl (Y.1, 5040, .inl (fun _ => 0))), ((u2 1), .inl (Y.1, 5040, .inl (fun _ => 0)))] := hD
  refine lv_aload_n hx hb dX1_init_15 rfl (lv_at hl 0 rfl) ?_
  refine va_new (ci := 5) (fs := [.null, .null, .int 0, .int 0]) (C := RX7) (T := TX7) (N := 4) hx hb hts inX7 tyX7 tyX7_ok hown (hts _ qw176) (hts _ qw177) (hts _ qw26) hE.1 hP hD hS hA rfl nf_X7 (Nat.le_of_ble_eq_true rfl) (Nat.le_of_ble_eq_true rfl) dX1_init_16 (fun q3 H hP hD hS => ?_)
  have hP : va_P D vwCl [(a_t, .inr (1, [.ref q1, .null, .null, .null, .int 0])), (q1, .inr (5, [.ref (u2 0), .ref (u2 1), .int 0, .int 0])), ((u2 0), .inl (Y.1, 5040, .inl (fun _ => 0))), ((u2 1), .inl (Y.1, 5040, .inl (fun _ => 0))), (q3, .inr (5, [.null, .null, .int 0, .int 0]))] H := hP
  have hD : va_D A [(a_t, .inr (1, [.ref q1, .null, .null, .null, .int 0])), (q1, .inr (5, [.ref (u2 0), .ref (u2 1), .int 0, .int 0])), ((u2 0), .inl (Y.1, 5040, .inl (fun _ => 0))), ((u2 1), .inl (Y.1, 5040, .inl (fun _ => 0))), (q3, .inr (5, [.null, .null, .int 0, .int 0]))] := hD
  refine lv_dup hx hb dX1_init_19 rfl ?_
  refine af_vu (wc := [(q3, .inr (5, [.null, .null, .int 0, .int 0]))]) (wr := [(a_t, .inr (1, [.ref q1, .null, .null, .null, .int 0])), (q1, .inr (5, [.ref (u2 0), .ref (u2 1), .int 0, .int 0])), ((u2 0), .inl (Y.1, 5040, .inl (fun _ => 0))), ((u2 1), .inl (Y.1, 5040, .inl (fun _ => 0)))]) (wn := fun u4 => [(a_t, .inr (1, [.ref q1, .null, .null, .null, .int 0])), (q1, .inr (5, [.ref (u2 0), .ref (u2 1), .int 0, .int 0])), ((u2 0), .inl (Y.1, 5040, .inl (fun _ => 0))), ((u2 1), .inl (Y.1, 5040, .inl (fun _ => 0))), (q3, .inr (5, [.ref (u4 0), .ref (u4 1), .int 0, .int 0])), ((u4 0), .inl (Y.1, 5040, .inl (fun _ => 0))), ((u4 1), .inl (Y.1, 5040, .inl (fun _ => 0)))]) (run_IN (As := []) (rest := [.ref q3, .ref a_t]) E hE (c_X7_init l D Y q3 H.size) qw178 qw179 qw26 qw180 rfl rfl rfl hd_X7_init ⟨Nat.le_of_ble_eq_true rfl, Nat.le_of_ble_eq_true rfl⟩ (pre_rwS hP hD hE [4] rfl (by decide) rfl) rfl hl.1 rfl (Nat.le_of_ble_eq_true rfl) dX1_init_20 ⟨Nat.le_of_ble_eq_true rfl, Nat.le_of_ble_eq_true rfl⟩) hP hD hS hA [4] [0, 1, 2, 3] [0, 1, 2, 3, 4, 5, 6] rfl rfl (by decide) (by decide) (fun _ => rfl) (fun _ => rfl) (by decide) (fun u4 H locs hP hD hS => ?_)
  have hP : va_P D vwCl [(a_t, .inr (1, [.ref q1, .null, .null, .null, .int 0])), (q1, .inr (5, [.ref (u2 0), .ref (u2 1), .int 0, .int 0])), ((u2 0), .inl (Y.1, 5040, .inl (fun _ => 0))), ((u2 1), .inl (Y.1, 5040, .inl (fun _ => 0))), (q3, .inr (5, [.ref (u4 0), .ref (u4 1), .int 0, .int 0])), ((u4 0), .inl (Y.1, 5040, .inl (fun _ => 0))), ((u4 1), .inl (Y.1, 5040, .inl (fun _ => 0)))] H := hP
  have hD : va_D A [(a_t, .inr (1, [.ref q1, .null, .null, .null, .int 0])), (q1, .inr (5, [.ref (u2 0), .ref (u2 1), .int 0, .int 0])), ((u2 0), .inl (Y.1, 5040, .inl (fun _ => 0))), ((u2 1), .inl (Y.1, 5040, .inl (fun _ => 0))), (q3, .inr (5, [.ref (u4 0), .ref (u4 1), .int 0, .int 0])), ((u4 0), .inl (Y.1, 5040, .inl (fun _ => 0))), ((u4 1), .inl (Y.1, 5040, .inl (fun _ => 0)))] := hD
  refine va_putF (D := D) (ci := 1) (v := .ref q3) (ty := (.object RX7)) (C := RX1) (T := TX1) (N := 5) hx hb hts inX1 tyX1 tyX1_ok nmX1 hown hE.1 hP hD hS 0 rfl rfl 1 (by decide) (hts _ qw196) (fun _ h9 => h9) rfl hin rfl (tyX1_ok 1 (by decide)) rfl rfl (Nat.le_of_ble_eq_true rfl) dX1_init_23 (fun H locs hP hD hS => ?_)
  have hP : va_P D vwCl [(a_t, .inr (1, [.ref q1, .ref q3, .null, .null, .int 0])), (q1, .inr (5, [.ref (u2 0), .ref (u2 1), .int 0, .int 0])), ((u2 0), .inl (Y.1, 5040, .inl (fun _ => 0))), ((u2 1), .inl (Y.1, 5040, .inl (fun _ => 0))), (q3, .inr (5, [.ref (u4 0), .ref (u4 1), .int 0, .int 0])), ((u4 0), .inl (Y.1, 5040, .inl (fun _ => 0))), ((u4 1), .inl (Y.1, 5040, .inl (fun _ => 0)))] H := hP
  have hD : va_D A [(a_t, .inr (1, [.ref q1, .ref q3, .null, .null, .int 0])), (q1, .inr (5, [.ref (u2 0), .ref (u2 1), .int 0, .int 0])), ((u2 0), .inl (Y.1, 5040, .inl (fun _ => 0))), ((u2 1), .inl (Y.1, 5040, .inl (fun _ => 0))), (q3, .inr (5, [.ref (u4 0), .ref (u4 1), .int 0, .int 0])), ((u4 0), .inl (Y.1, 5040, .inl (fun _ => 0))), ((u4 1), .inl (Y.1, 5040, .inl (fun _ => 0)))] := hD
  refine lv_aload_n hx hb dX1_init_26 rfl (lv_at hl 0 rfl) ?_
  refine lv_iconst (v := 3) hx hb dX1_init_27 (by decide) ?_
  refine n_newi (N := 3) hx hb (hts _ qw82) hE hP hD hS hA (by decide) (by decide) (Nat.le_of_ble_eq_true rfl) (Nat.le_of_ble_eq_true rfl) (Nat.le_of_ble_eq_true rfl) dX1_init_28 (fun q5 H hP hD hS => ?_)
  have hP : va_P D vwCl [(a_t, .inr (1, [.ref q1, .ref q3, .null, .null, .int 0])), (q1, .inr (5, [.ref (u2 0), .ref (u2 1), .int 0, .int 0])), ((u2 0), .inl (Y.1, 5040, .inl (fun _ => 0))), ((u2 1), .inl (Y.1, 5040, .inl (fun _ => 0))), (q3, .inr (5, [.ref (u4 0), .ref (u4 1), .int 0, .int 0])), ((u4 0), .inl (Y.1, 5040, .inl (fun _ => 0))), ((u4 1), .inl (Y.1, 5040, .inl (fun _ => 0))), (q5, .inl (Y.1, 3, .inl (fun _ => 0)))] H := hP
  have hD : va_D A [(a_t, .inr (1, [.ref q1, .ref q3, .null, .null, .int 0])), (q1, .inr (5, [.ref (u2 0), .ref (u2 1), .int 0, .int 0])), ((u2 0), .inl (Y.1, 5040, .inl (fun _ => 0))), ((u2 1), .inl (Y.1, 5040, .inl (fun _ => 0))), (q3, .inr (5, [.ref (u4 0), .ref (u4 1), .int 0, .int 0])), ((u4 0), .inl (Y.1, 5040, .inl (fun _ => 0))), ((u4 1), .inl (Y.1, 5040, .inl (fun _ => 0))), (q5, .inl (Y.1, 3, .inl (fun _ => 0)))] := hD
  refine va_putF (D := D) (ci := 1) (v := .ref q5) (ty := (.array .int)) (C := RX1) (T := TX1) (N := 5) hx hb hts inX1 tyX1 tyX1_ok nmX1 hown hE.1 hP hD hS 0 rfl rfl 2 (by decide) (hts _ qw197) (fun _ h9 => h9) rfl hin rfl (tyX1_ok 2 (by decide)) rfl rfl (Nat.le_of_ble_eq_true rfl) dX1_init_30 (fun H locs hP hD hS => ?_)
  have hP : va_P D vwCl [(a_t, .inr (1, [.ref q1, .ref q3, .ref q5, .null, .int 0])), (q1, .inr (5, [.ref (u2 0), .ref (u2 1), .int 0, .int 0])), ((u2 0), .inl (Y.1, 5040, .inl (fun _ => 0))), ((u2 1), .inl (Y.1, 5040, .inl (fun _ => 0))), (q3, .inr (5, [.ref (u4 0), .ref (u4 1), .int 0, .int 0])), ((u4 0), .inl (Y.1, 5040, .inl (fun _ => 0))), ((u4 1), .inl (Y.1, 5040, .inl (fun _ => 0))), (q5, .inl (Y.1, 3, .inl (fun _ => 0)))] H := hP
  have hD : va_D A [(a_t, .inr (1, [.ref q1, .ref q3, .ref q5, .null, .int 0])), (q1, .inr (5, [.ref (u2 0), .ref (u2 1), .int 0, .int 0])), ((u2 0), .inl (Y.1, 5040, .inl (fun _ => 0))), ((u2 1), .inl (Y.1, 5040, .inl (fun _ => 0))), (q3, .inr (5, [.ref (u4 0), .ref (u4 1), .int 0, .int 0])), ((u4 0), .inl (Y.1, 5040, .inl (fun _ => 0))), ((u4 1), .inl (Y.1, 5040, .inl (fun _ => 0))), (q5, .inl (Y.1, 3, .inl (fun _ => 0)))] := hD
  refine lv_aload_n hx hb dX1_init_33 rfl (lv_at hl 0 rfl) ?_
  refine lv_iconst (v := 3) hx hb dX1_init_34 (by decide) ?_
  refine n_newi (N := 3) hx hb (hts _ qw82) hE hP hD hS hA (by decide) (by decide) (Nat.le_of_ble_eq_true rfl) (Nat.le_of_ble_eq_true rfl) (Nat.le_of_ble_eq_true rfl) dX1_init_35 (fun q6 H hP hD hS => ?_)
  have hP : va_P D vwCl [(a_t, .inr (1, [.ref q1, .ref q3, .ref q5, .null, .int 0])), (q1, .inr (5, [.ref (u2 0), .ref (u2 1), .int 0, .int 0])), ((u2 0), .inl (Y.1, 5040, .inl (fun _ => 0))), ((u2 1), .inl (Y.1, 5040, .inl (fun _ => 0))), (q3, .inr (5, [.ref (u4 0), .ref (u4 1), .int 0, .int 0])), ((u4 0), .inl (Y.1, 5040, .inl (fun _ => 0))), ((u4 1), .inl (Y.1, 5040, .inl (fun _ => 0))), (q5, .inl (Y.1, 3, .inl (fun _ => 0))), (q6, .inl (Y.1, 3, .inl (fun _ => 0)))] H := hP
  have hD : va_D A [(a_t, .inr (1, [.ref q1, .ref q3, .ref q5, .null, .int 0])), (q1, .inr (5, [.ref (u2 0), .ref (u2 1), .int 0, .int 0])), ((u2 0), .inl (Y.1, 5040, .inl (fun _ => 0))), ((u2 1), .inl (Y.1, 5040, .inl (fun _ => 0))), (q3, .inr (5, [.ref (u4 0), .ref (u4 1), .int 0, .int 0])), ((u4 0), .inl (Y.1, 5040, .inl (fun _ => 0))), ((u4 1), .inl (Y.1, 5040, .inl (fun _ => 0))), (q5, .inl (Y.1, 3, .inl (fun _ => 0))), (q6, .inl (Y.1, 3, .inl (fun _ => 0)))] := hD
  refine va_putF (D := D) (ci := 1) (v := .ref q6) (ty := (.array .int)) (C := RX1) (T := TX1) (N := 5) hx hb hts inX1 tyX1 tyX1_ok nmX1 hown hE.1 hP hD hS 0 rfl rfl 3 (by decide) (hts _ qw198) (fun _ h9 => h9) rfl hin rfl (tyX1_ok 3 (by decide)) rfl rfl (Nat.le_of_ble_eq_true rfl) dX1_init_37 (fun H locs hP hD hS => ?_)
  have hP : va_P D vwCl [(a_t, .inr (1, [.ref q1, .ref q3, .ref q5, .ref q6, .int 0])), (q1, .inr (5, [.ref (u2 0), .ref (u2 1), .int 0, .int 0])), ((u2 0), .inl (Y.1, 5040, .inl (fun _ => 0))), ((u2 1), .inl (Y.1, 5040, .inl (fun _ => 0))), (q3, .inr (5, [.ref (u4 0), .ref (u4 1), .int 0, .int 0])), ((u4 0), .inl (Y.1, 5040, .inl (fun _ => 0))), ((u4 1), .inl (Y.1, 5040, .inl (fun _ => 0))), (q5, .inl (Y.1, 3, .inl (fun _ => 0))), (q6, .inl (Y.1, 3, .inl (fun _ => 0)))] H := hP
  have hD : va_D A [(a_t, .inr (1, [.ref q1, .ref q3, .ref q5, .ref q6, .int 0])), (q1, .inr (5, [.ref (u2 0), .ref (u2 1), .int 0, .int 0])), ((u2 0), .inl (Y.1, 5040, .inl (fun _ => 0))), ((u2 1), .inl (Y.1, 5040, .inl (fun _ => 0))), (q3, .inr (5, [.ref (u4 0), .ref (u4 1), .int 0, .int 0])), ((u4 0), .inl (Y.1, 5040, .inl (fun _ => 0))), ((u4 1), .inl (Y.1, 5040, .inl (fun _ => 0))), (q5, .inl (Y.1, 3, .inl (fun _ => 0))), (q6, .inl (Y.1, 3, .inl (fun _ => 0)))] := hD
  have hP : va_P D vwCl [(a_t, .inr (1, [.ref q1, .ref q3, .ref q5, .ref q6, .int 0])), (q1, .inr (5, [.ref (u2 0), .ref (u2 1), .int 0, .int 0])), ((u2 0), .inl (Y.1, 5040, .inl (fun _ => 0))), ((u2 1), .inl (Y.1, 5040, .inl (fun _ => 0))), (q3, .inr (5, [.ref (u4 0), .ref (u4 1), .int 0, .int 0])), ((u4 0), .inl (Y.1, 5040, .inl (fun _ => 0))), ((u4 1), .inl (Y.1, 5040, .inl (fun _ => 0))), (q5, .inl (Y.1, 3, .inl (fun _ => 0))), (q6, .inl (Y.1, 3, .inl (fun _ => 0)))] H := hP.sub [0, 1, 2, 3, 4, 5, 6, 7, 8] rfl
  have hD : va_D A [(a_t, .inr (1, [.ref q1, .ref q3, .ref q5, .ref q6, .int 0])), (q1, .inr (5, [.ref (u2 0), .ref (u2 1), .int 0, .int 0])), ((u2 0), .inl (Y.1, 5040, .inl (fun _ => 0))), ((u2 1), .inl (Y.1, 5040, .inl (fun _ => 0))), (q3, .inr (5, [.ref (u4 0), .ref (u4 1), .int 0, .int 0])), ((u4 0), .inl (Y.1, 5040, .inl (fun _ => 0))), ((u4 1), .inl (Y.1, 5040, .inl (fun _ => 0))), (q5, .inl (Y.1, 3, .inl (fun _ => 0))), (q6, .inl (Y.1, 3, .inl (fun _ => 0)))] := hD.sub [0, 1, 2, 3, 4, 5, 6, 7, 8] (by decide) rfl
  subst hQ
  exact en_vu (wu := (fun u => [(a_t, .inr (1, [.ref (u 0), .ref (u 3), .ref (u 6), .ref (u 7), .int 0])), ((u 0), .inr (5, [.ref (u 1), .ref (u 2), .int 0, .int 0])), ((u 1), .inl (Y.1, 5040, .inl (fun _ => 0))), ((u 2), .inl (Y.1, 5040, .inl (fun _ => 0))), ((u 3), .inr (5, [.ref (u 4), .ref (u 5), .int 0, .int 0])), ((u 4), .inl (Y.1, 5040, .inl (fun _ => 0))), ((u 5), .inl (Y.1, 5040, .inl (fun _ => 0))), ((u 6), .inl (Y.1, 3, .inl (fun _ => 0))), ((u 7), .inl (Y.1, 3, .inl (fun _ => 0)))])) (fun j => [q1, (u2 0), (u2 1), q3, (u4 0), (u4 1), q5, q6].getD j 0) hx hb hr hlocks hP hD hS dX1_init_40
