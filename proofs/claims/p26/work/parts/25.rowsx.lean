/-! ===== rows for the law's own methods: longs, joins, worlds with a tail ===== -/
def jj {α β : Type} (T : (α → Option β) → Option β) (K : α → Option β) : Option β := T K
theorem jj_W {α β : Type} {T : (α → Option β) → Option β} {K : α → Option β} {r : β} {G : Prop} (P : α → Prop) (h : jj T K = some r) (hJ : ∀ w, K w = some r → P w) (hB : ∀ kk : α → Option β, (∀ w, kk w = some r → P w) → T kk = some r → G) : G := hB K hJ h
def OL (r : Int64) : Array Value → State → Outcome → State → Prop := vp_Sl (fun x => x = r)
def QXi (D : va_G) (r : Int32) (P : va_W → Prop) (wu : va_W → va_W) (A : Nat → Prop) : Array Value → State → Outcome → State → Prop := va_Qi (S := va_W) (fun x u => x = r ∧ P u) (fun u t => EndAt D A (wu u) t) A
def QXz (D : va_G) (r : Int32) (P : va_W → Prop) (wu : va_W → va_W) (A : Nat → Prop) : Array Value → State → Outcome → State → Prop := va_Qi (S := va_W) (fun x u => (x = r ∧ (x = 0 ∨ x = 1)) ∧ P u) (fun u t => EndAt D A (wu u) t) A
def QXd (D : va_G) (r : UInt64) (P : va_W → Prop) (wu : va_W → va_W) (A : Nat → Prop) : Array Value → State → Outcome → State → Prop := va_Qd (S := va_W) (fun x u => x = r ∧ P u) (fun u t => EndAt D A (wu u) t) A
section RX
variable {p : Program} {l : Launch} {e : Env} {R : Room} {s : State} {m : MethodId} {args : Array Value} {below : List Frame} {meth : Method} {c : Code} {H : Heap} {locs : List Loc} {cells slots : Nat} {Q : State → Prop} {pc : Nat} {ls : Array Slot} {rest : List Value}
variable {cc : ByteArray} {D : va_G} {Y : ClassId × ClassId × ClassId × ClassId} {A A0 : Nat → Prop} {ws wc wr w1 wn L Lc L1 Lr Ln : va_W} {a : Array Value} {st0 : List Value} {mc ms : Nat}
theorem nm_Wl {β : Type} {x : Int64} {f : Int64 → β} {r : β} (h : nm x f = r) (k : ∀ v, f v = r → W p l e R s m args below meth c H locs cells slots Q (F0 m pc ls (.long v :: rest))) : W p l e R s m args below meth c H locs cells slots Q (F0 m pc ls (.long x :: rest)) := k x h
theorem en_ol {v r : Int64} (hx : p.tables.exec = Jvm.exec) (hb : c.code = cc) (hr : meth.sig.returnType = some .long) (hlocks : meth.locks = false) (hv : v = r) (hdg : decode cc pc = .ok (.lreturn, 1)) : W p l e R s m args below meth c s.heap [] 0 0 (MQ below (OL r) args s 0 0 (fun _ => False)) (F0 m pc ls [.long v]) :=
  W.lret (v := v) hx hb hr (fun t ht _ => ⟨v, rfl, hv, ht⟩) (fun q hq => absurd hq List.not_mem_nil) hdg hlocks
theorem af_ol {r0 : Int64} (hr : va_Run p l e R s m args below meth c H locs cells slots 0 0 (F0 m pc ls st0) rest (OL r0 a) (fun _ => False))
    (kk : W p l e R s m args below meth c H locs cells slots Q (F0 m (pc + 3) ls (.long r0 :: rest))) : W p l e R s m args below meth c H locs cells slots Q (F0 m pc ls st0) := by
  intro T hT X
  obtain ⟨v, st₀, t, T', L, h0, X', hL, e1, e2, ⟨r, hv, hp, hh⟩, st⟩ := hr T hT X
  cases hv
  subst hp
  obtain ⟨t2, a1, b1⟩ := kk T' (by rw [e1, hh, h0]) (Stand.forget X' (fun q h => (hL q h).elim))
  exact ⟨t2, st t2 a1, b1⟩
theorem en_xz {v r : Int32} {P : va_W → Prop} {wu : va_W → va_W} {u : va_W} (hx : p.tables.exec = Jvm.exec) (hb : c.code = cc) (hr : meth.sig.returnType = some .boolean) (hlocks : meth.locks = false) (hX : P u) (hP : va_P D vwCl (wu u) H) (hD : va_D A (wu u)) (hS : va_S A s.heap H locs) (hv : v = r) (hz : v = 0 ∨ v = 1) (hdg : decode cc pc = .ok (.ireturn, 1)) : W p l e R s m args below meth c H locs cells slots (MQ below (QXz D r P wu A) args s cells slots A) (F0 m pc ls [.int v]) :=
  W.zret (v := v) hx hb hr (z_nar hz) (fun t ht _ => ⟨⟨v, u, rfl, ⟨⟨hv, hz⟩, hX⟩, by rw [ht]; exact hP, hD⟩, hS.F ht⟩) hS.2.2 hdg hlocks
/-- calls of the class: its cells are the tail -/
theorem va_tail {D : va_G} {cl : List vw_C} {L ws : va_W} {H : Heap} (h : va_P D cl (L ++ ws) H) : va_P D cl ws H := va_P.part (X := L) (cx := []) h [] rfl
theorem va_tailD {L ws : va_W} (h : va_D A (L ++ ws)) : va_D A ws := va_D.part (X := L) (cx := []) h [] rfl rfl
theorem pre_xV {As : List Value} {b ci : Nat} {k : vw_C} (hP : va_P D vwCl (L ++ ws) H) (hD : va_D A (L ++ ws)) (hE : EV D Y s) (hc : vwCl[ci]? = some k) (he : ∃ fs, ws[0]? = some (b, .inr (ci, fs))) : PreV s H k.1 b (va_Pc (.ref b :: As) (RW D Y H.size ws)) As := by
  obtain ⟨fs, he⟩ := he
  exact ⟨RW.blind, va_recv hE.1 (va_tail hP) hc he, fun U hU hW => ⟨rfl, by rw [hU], by rw [hU]; exact va_tail hP, hE.warm hW, (va_tailD hD).weaken (fun _ _ _ _ => trivial)⟩⟩
theorem pre_xsV {adK adV : Nat → Nat} {As : List Value} {b ci : Nat} {k : vw_C} (hP : va_P D vwCl (L ++ ws) H) (hD : va_D A (L ++ ws)) (hE : EV D Y s) (hK9 : SK adK adV A s s.heap) (hS : va_S A s.heap H locs) (hA : ∀ q : Nat, s.heap.size ≤ q → A q) (hc : vwCl[ci]? = some k) (he : ∃ fs, ws[0]? = some (b, .inr (ci, fs))) : PreV s H k.1 b (va_Pc (.ref b :: As) (SW D Y adK adV H.size ws)) As := by
  obtain ⟨fs, he⟩ := he
  exact ⟨SW.blind, va_recv hE.1 (va_tail hP) hc he, fun U hU hW => ⟨rfl, ⟨by rw [hU], by rw [hU]; exact va_tail hP, hE.warm hW, (va_tailD hD).weaken (fun _ _ _ _ => trivial)⟩, hK9.to hS hU hW (va_freeP (cx := []) hD hS hA [] rfl)⟩⟩
theorem lr_all : ∀ (L : va_W), (List.range L.length).map (fun i => L[i]?) = L.map some := fun L => by
  apply List.ext_getElem?
  intro i
  rw [List.getElem?_map, List.getElem?_map]
  by_cases h : i < L.length
  · simp [h]
  · simp [h]
theorem nd_of : ∀ (l : List Nat), l.Nodup → va_nd l = true
  | [], _ => rfl
  | a :: l, h => by
    rw [List.nodup_cons] at h
    simp only [va_nd, Bool.and_eq_true, decide_eq_true_eq]
    exact ⟨h.1, nd_of l h.2⟩
theorem nd_range (n : Nat) : va_nd (List.range n) = true := nd_of _ List.nodup_range
theorem jk {u : va_W} {H1 : Heap} (hP : va_P D vwCl (L ++ ws) H) (hD : va_D A0 (L ++ ws)) (hF : ∀ q, va_A ws H.size q → A0 q) (hk : ∀ q : Nat, q < H.size → ¬ va_A ws H.size q → H1[q]? = H[q]?) (hP1 : va_P D vwCl u H1) (hD1 : va_D (va_A ws H.size) u) : va_P D vwCl (L ++ u) H1 ∧ va_D A0 (L ++ u) := by
  have h := va_joinP (X := L) (cx := []) (wr := L) (rx := []) (pl := ws) (pl1 := u) hP hD [] (List.range L.length) rfl (lr_all L) (nd_range _) (fun _ _ h => absurd h List.not_mem_nil) hk hF hP1 hD1
  rw [List.append_nil] at h
  exact h
theorem ak_i {r0 : Int32} {P : va_W → Prop} (hr : va_Run p l e R s m args below meth c H locs cells slots mc ms (F0 m pc ls st0) rest (QXi D r0 P (fun u => u) (va_A ws H.size) a) (va_A ws H.size)) (hP : va_P D vwCl (L ++ ws) H) (hD : va_D A0 (L ++ ws)) (hS : va_S A0 s.heap H locs) (hA : ∀ q : Nat, s.heap.size ≤ q → A0 q)
    (kk : ∀ (u : va_W) (H1 : Heap) (locs1 : List Loc), P u → va_P D vwCl (L ++ u) H1 → va_D A0 (L ++ u) → va_S A0 s.heap H1 locs1 → W p l e R s m args below meth c H1 locs1 (cells + mc) (slots + ms) Q (F0 m (pc + 3) ls (.int r0 :: rest))) : W p l e R s m args below meth c H locs cells slots Q (F0 m pc ls st0) := by
  have hF : ∀ q, va_A ws H.size q → A0 q := va_freeP (cx := []) hD hS hA [] rfl
  refine va_calli hr hS (fun q _ h => hF q h) hF (fun r u t H1 locs1 ht hvm hw hB hz1 hk1 hS1 => ?_)
  obtain ⟨hP1, hD1⟩ := hB
  rw [ht] at hP1
  obtain ⟨h1, h2⟩ := jk hP hD hF hk1 hP1 hD1
  obtain ⟨hw, hX⟩ := hw
  subst hw
  exact kk u H1 locs1 hX h1 h2 hS1
theorem ak_d {r0 : UInt64} {P : va_W → Prop} (hr : va_Run p l e R s m args below meth c H locs cells slots mc ms (F0 m pc ls st0) rest (QXd D r0 P (fun u => u) (va_A ws H.size) a) (va_A ws H.size)) (hP : va_P D vwCl (L ++ ws) H) (hD : va_D A0 (L ++ ws)) (hS : va_S A0 s.heap H locs) (hA : ∀ q : Nat, s.heap.size ≤ q → A0 q)
    (kk : ∀ (u : va_W) (H1 : Heap) (locs1 : List Loc), P u → va_P D vwCl (L ++ u) H1 → va_D A0 (L ++ u) → va_S A0 s.heap H1 locs1 → W p l e R s m args below meth c H1 locs1 (cells + mc) (slots + ms) Q (F0 m (pc + 3) ls (.double r0 :: rest))) : W p l e R s m args below meth c H locs cells slots Q (F0 m pc ls st0) := by
  have hF : ∀ q, va_A ws H.size q → A0 q := va_freeP (cx := []) hD hS hA [] rfl
  refine va_calld hr hS (fun q _ h => hF q h) hF (fun r u t H1 locs1 ht hvm hw hB hz1 hk1 hS1 => ?_)
  obtain ⟨hP1, hD1⟩ := hB
  rw [ht] at hP1
  obtain ⟨h1, h2⟩ := jk hP hD hF hk1 hP1 hD1
  obtain ⟨hw, hX⟩ := hw
  subst hw
  exact kk u H1 locs1 hX h1 h2 hS1
/-- calls of the law's own methods that have the class too -/
theorem ax_z {r0 : Int32} {P : va_W → Prop} (hr : va_Run p l e R s m args below meth c H locs cells slots mc ms (F0 m pc ls st0) rest (QXz D r0 P (fun u => L1 ++ u) (va_A (Lc ++ ws) H.size) a) (va_A (Lc ++ ws) H.size)) (hP : va_P D vwCl (L ++ ws) H) (hD : va_D A0 (L ++ ws)) (hS : va_S A0 s.heap H locs) (hA : ∀ q : Nat, s.heap.size ≤ q → A0 q)
    (isC isR isN : List Nat) (hC : isC.map (fun i => L[i]?) = Lc.map some) (hR : isR.map (fun i => L[i]?) = Lr.map some) (hn : va_nd isR = true) (hdis : ∀ i ∈ isR, i ∉ isC) (hN : isN.map (fun i => (Lr ++ L1)[i]?) = Ln.map some) (hnN : va_nd isN = true)
    (kk : ∀ (u : va_W) (H1 : Heap) (locs1 : List Loc), (r0 = 0 ∨ r0 = 1) → P u → va_P D vwCl (Ln ++ u) H1 → va_D A0 (Ln ++ u) → va_S A0 s.heap H1 locs1 → W p l e R s m args below meth c H1 locs1 (cells + mc) (slots + ms) Q (F0 m (pc + 3) ls (.int r0 :: rest))) : W p l e R s m args below meth c H locs cells slots Q (F0 m pc ls st0) := by
  have hF : ∀ q, va_A (Lc ++ ws) H.size q → A0 q := va_freeP (cx := Lc) hD hS hA isC hC
  refine va_calli hr hS (fun q _ h => hF q h) hF (fun r u t H1 locs1 ht hvm hw hB hz1 hk1 hS1 => ?_)
  obtain ⟨hP1, hD1⟩ := hB
  rw [ht] at hP1
  obtain ⟨h1, h2⟩ := va_joinP (X := L) (cx := Lc) (wr := Lr) (rx := L1) (pl := ws) (pl1 := u) hP hD isC isR hC hR hn hdis hk1 hF hP1 hD1
  obtain ⟨⟨hw, hz⟩, hX⟩ := hw
  subst hw
  exact kk u H1 locs1 hz hX (h1.part isN hN) (h2.part isN hnN hN) hS1
/-- calls of the law's own methods that have not the class -/
theorem at_v (hr : va_Run p l e R s m args below meth c H locs cells slots mc ms (F0 m pc ls st0) rest (QV D L1 (va_A Lc H.size) a) (va_A Lc H.size)) (hP : va_P D vwCl (L ++ ws) H) (hD : va_D A0 (L ++ ws)) (hS : va_S A0 s.heap H locs) (hA : ∀ q : Nat, s.heap.size ≤ q → A0 q)
    (isC isR isN : List Nat) (hC : isC.map (fun i => L[i]?) = Lc.map some) (hR : isR.map (fun i => L[i]?) = Lr.map some) (hn : va_nd isR = true) (hdis : ∀ i ∈ isR, i ∉ isC) (hN : isN.map (fun i => (Lr ++ L1)[i]?) = Ln.map some) (hnN : va_nd isN = true)
    (kk : ∀ (H1 : Heap) (locs1 : List Loc), va_P D vwCl (Ln ++ ws) H1 → va_D A0 (Ln ++ ws) → va_S A0 s.heap H1 locs1 → W p l e R s m args below meth c H1 locs1 (cells + mc) (slots + ms) Q (F0 m (pc + 3) ls rest)) : W p l e R s m args below meth c H locs cells slots Q (F0 m pc ls st0) := by
  have hF : ∀ q, va_A Lc H.size q → A0 q := by
    intro q h
    refine va_freeP (cx := Lc) hD hS hA isC hC q ?_
    rcases h with ⟨k, e, h⟩ | h
    · exact Or.inl ⟨k, e, by rw [List.getElem?_append_left (List.getElem?_eq_some_iff.mp h).1]; exact h⟩
    · exact Or.inr h
  refine va_callv hr hS (fun q _ h => hF q h) hF (fun u t H1 locs1 ht hvm hw hB hz1 hk1 hS1 => ?_)
  obtain ⟨hP1, hD1⟩ := hB
  rw [ht] at hP1
  obtain ⟨h1, h2⟩ := va_joinQ (X := L) (cx := Lc) (wr := Lr) (w1 := L1) (pl := ws) hP hD isC isR hC hR hn hdis hk1 hF hP1 hD1
  exact kk H1 locs1 (h1.part isN hN) (h2.part isN hnN hN) hS1
/-- a new row goes to the front -/
theorem va_front {D : va_G} {cl : List vw_C} {X : va_W} {x : Nat × va_E} {H : Heap} (hP : va_P D cl (X ++ [x]) H) : va_P D cl (x :: X) H := by
  intro k q hq
  cases k with
  | zero =>
    simp only [List.getElem?_cons_zero, Option.some.injEq] at hq
    subst hq
    exact hP X.length _ (by simp)
  | succ k =>
    simp only [List.getElem?_cons_succ] at hq
    exact hP k q (by rw [List.getElem?_append_left (List.getElem?_eq_some_iff.mp hq).1]; exact hq)
theorem va_frontD {X : va_W} {x : Nat × va_E} (hD : va_D A (X ++ [x])) : va_D A (x :: X) := by
  have g : ∀ k q, (x :: X)[k]? = some q → (X ++ [x])[if k = 0 then X.length else k - 1]? = some q := by
    intro k q hq
    cases k with
    | zero =>
      simp only [List.getElem?_cons_zero, Option.some.injEq] at hq
      subst hq
      simp
    | succ k =>
      simp only [List.getElem?_cons_succ] at hq
      simp only [Nat.add_one_ne_zero, if_false, Nat.add_sub_cancel]
      rw [List.getElem?_append_left (List.getElem?_eq_some_iff.mp hq).1]; exact hq
  have b : ∀ k q, (x :: X)[k]? = some q → k ≤ X.length := by
    intro k q hq
    have := (List.getElem?_eq_some_iff.mp hq).1
    simp only [List.length_cons] at this
    omega
  refine ⟨fun i j p q hp hq e => ?_, fun k q hq => hD.2 _ q (g k q hq)⟩
  have h1 := hD.1 _ _ p q (g i p hp) (g j q hq) e
  have := b i p hp
  have := b j q hq
  split at h1 <;> split at h1 <;> omega
variable {n : Int32} {N : Nat} {H0 : Heap}
theorem n_newi_x (hx : p.tables.exec = Jvm.exec) (hb : c.code = cc) (harr : (Cond.arrayClass .int).before args s = true) (hE : EV D Y s) (hP : va_P D vwCl ws H) (hD : va_D A ws) (hS : va_S A H0 H locs) (hA : ∀ q, H0.size ≤ q → A q) (hn : ¬ n < 0) (hN : n.toNatClampNeg = N) (hbytes : N * componentBytes .int ≤ 536870912) (hcells : cells + 1 ≤ R.cells) (hslots : slots + N ≤ R.slots) (hdg : decode cc pc = .ok (.newarray .int, 2))
    (kk : ∀ (q : Nat) (H1 : Heap), va_P D vwCl ((q, .inl (Y.1, N, .inl (fun _ => 0))) :: ws) H1 → va_D A ((q, .inl (Y.1, N, .inl (fun _ => 0))) :: ws) → va_S A H0 H1 locs → W p l e R s m args below meth c H1 locs (cells + 1) (slots + N) Q (F0 m (pc + 2) ls (.ref q :: rest))) : W p l e R s m args below meth c H locs cells slots Q (F0 m pc ls (.int n :: rest)) :=
  n_newi hx hb harr hE hP hD hS hA hn hN hbytes hcells hslots hdg (fun q H1 hP1 hD1 hS1 => kk q H1 (va_front hP1) (va_frontD hD1) hS1)
theorem n_newl_x (hx : p.tables.exec = Jvm.exec) (hb : c.code = cc) (harr : (Cond.arrayClass .long).before args s = true) (hE : EV D Y s) (hP : va_P D vwCl ws H) (hD : va_D A ws) (hS : va_S A H0 H locs) (hA : ∀ q, H0.size ≤ q → A q) (hn : ¬ n < 0) (hN : n.toNatClampNeg = N) (hbytes : N * componentBytes .long ≤ 536870912) (hcells : cells + 1 ≤ R.cells) (hslots : slots + N ≤ R.slots) (hdg : decode cc pc = .ok (.newarray .long, 2))
    (kk : ∀ (q : Nat) (H1 : Heap), va_P D vwCl ((q, .inl (Y.2.2.2, N, .inr (.inl (fun _ => 0)))) :: ws) H1 → va_D A ((q, .inl (Y.2.2.2, N, .inr (.inl (fun _ => 0)))) :: ws) → va_S A H0 H1 locs → W p l e R s m args below meth c H1 locs (cells + 1) (slots + N) Q (F0 m (pc + 2) ls (.ref q :: rest))) : W p l e R s m args below meth c H locs cells slots Q (F0 m pc ls (.int n :: rest)) := by
  refine va_newa (atype := .long) (ty := .long) (a0 := (N, .inr (.inl (fun _ => 0)))) hx hb harr rfl hE.1 hP hD hS hA (fun cA => rfl) hn hN hbytes hcells hslots hdg (fun q cA H1 hK1 hP1 hD1 hS1 => ?_)
  have e1 := (hK1.2 4 (cA, .long) rfl).2
  have e2 := (hE.1.2 3 (Y.2.2.2, .long) rfl).2
  have e : cA = Y.2.2.2 := Option.some.inj (e1.symm.trans e2)
  subst e
  exact kk q H1 (va_front hP1) (va_frontD hD1) hS1
end RX
