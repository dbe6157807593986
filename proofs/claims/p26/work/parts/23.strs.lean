/-! ===== the texts of the beginning ===== -/
def lenS : List Nat := [3, 3, 2, 2, 3, 4, 5, 19, 21, 29, 29]
def bytS : List (List Int32) := [[49, 52, 53], [49, 52, 55], [49, 52], [51, 52], [49, 50, 51], [49, 50, 51, 52], [49, 50, 51, 52, 55],
  [120, 46, 49, 52, 46, 120, 46, 49, 52, 46, 120, 46, 49, 52, 46, 120, 46, 49, 50],
  [53, 46, 49, 46, 53, 46, 49, 46, 53, 46, 49, 46, 53, 46, 49, 46, 53, 46, 49, 50, 53],
  [120, 46, 49, 54, 46, 120, 46, 49, 54, 46, 120, 46, 49, 54, 46, 120, 46, 49, 54, 46, 120, 46, 49, 54, 46, 120, 46, 49, 50],
  [55, 46, 49, 46, 55, 46, 49, 46, 55, 46, 49, 46, 55, 46, 49, 46, 55, 46, 49, 46, 55, 46, 49, 46, 55, 46, 49, 50, 55]]
theorem lenS_le (i : Nat) : lenS.getD i 0 ≤ 30 := by
  by_cases h : i < 11
  · exact (show ∀ i, i < 11 → lenS.getD i 0 ≤ 30 by decide) i h
  · have : lenS.length ≤ i := by show 11 ≤ i; omega
    rw [List.getD_eq_getElem?_getD, List.getElem?_eq_none this]
    exact Nat.zero_le _
/-- what inflate makes of k bytes -/
def infl (b : Nat → Int32) : Nat → Nat → Int32
  | 0 => fun _ => 0
  | k + 1 => upd (infl b k) k (vp_nar .char (((b k) &&& 255).toUInt32 % 65536).toInt32)
def bytF (i : Nat) : Nat → Int32 := fun j => (bytS.getD i []).getD j 0
def chS (i : Nat) : Nat → Int32 := infl (bytF i) (lenS.getD i 0)
def SK (adK adV : Nat → Nat) (A : Nat → Prop) (U : State) (H : Heap) : Prop := vk_S 11 lenS bytS adK adV A U H ∧ va_Z "java/lang/String" "COMPACT_STRINGS" "Z" (.int 1) A U H ∧
  (vk_R RX8 15 "145" (adK 0) U ∧ vk_R RX8 17 "147" (adK 1) U ∧ vk_R RX8 19 "14" (adK 2) U ∧ vk_R RX8 21 "34" (adK 3) U ∧ vk_R RX8 23 "123" (adK 4) U ∧ vk_R RX8 25 "1234" (adK 5) U ∧ vk_R RX8 27 "12347" (adK 6) U ∧ vk_R RX8 7 "x.14.x.14.x.14.x.12" (adK 7) U ∧ vk_R RX8 9 "5.1.5.1.5.1.5.1.5.125" (adK 8) U ∧ vk_R RX8 11 "x.16.x.16.x.16.x.16.x.16.x.12" (adK 9) U ∧ vk_R RX8 13 "7.1.7.1.7.1.7.1.7.1.7.1.7.127" (adK 10) U)
theorem SK.to {adK adV : Nat → Nat} {A B : Nat → Prop} {s U : State} {H : Heap} {locs : List Loc} (h : SK adK adV A s s.heap) (hS : va_S A s.heap H locs) (hU : U.heap = H) (hW : s.WarmedH U.vm) (hB : ∀ q, B q → A q) : SK adK adV B U U.heap := by
  obtain ⟨h1, h2, h3⟩ := h
  rw [hU]
  refine ⟨((h1.kept hS.2.1).moved hW.alike).narrow hB, ((h2.kept hS.2.1).moved hW.alike).narrow hB, ?_⟩
  obtain ⟨r0, r1, r2, r3, r4, r5, r6, r7, r8, r9, r10⟩ := h3
  exact ⟨r0.warm hW, r1.warm hW, r2.warm hW, r3.warm hW, r4.warm hW, r5.warm hW, r6.warm hW, r7.warm hW, r8.warm hW, r9.warm hW, r10.warm hW⟩
theorem SK.calling {adK adV : Nat → Nat} {A : Nat → Prop} {U : State} (g : JFrame) (mk : MethodId) (a : Array Value) (h : SK adK adV A U U.heap) : SK adK adV A (U.calling g mk a) (U.calling g mk a).heap := by
  obtain ⟨h1, h2, h3⟩ := h
  obtain ⟨r0, r1, r2, r3, r4, r5, r6, r7, r8, r9, r10⟩ := h3
  refine ⟨h1.moved (u := U) (U := U.calling g mk a) (Vm.Alike.refl U.vm), h2.moved (u := U) (U := U.calling g mk a) (Vm.Alike.refl U.vm), ?_⟩
  exact ⟨r0.same (u := U) (U := U.calling g mk a) rfl, r1.same (u := U) (U := U.calling g mk a) rfl, r2.same (u := U) (U := U.calling g mk a) rfl, r3.same (u := U) (U := U.calling g mk a) rfl, r4.same (u := U) (U := U.calling g mk a) rfl, r5.same (u := U) (U := U.calling g mk a) rfl, r6.same (u := U) (U := U.calling g mk a) rfl, r7.same (u := U) (U := U.calling g mk a) rfl, r8.same (u := U) (U := U.calling g mk a) rfl, r9.same (u := U) (U := U.calling g mk a) rfl, r10.same (u := U) (U := U.calling g mk a) rfl⟩
theorem sk_recv {adK adV : Nat → Nat} {A : Nat → Prop} {s : State} {H : Heap} {locs : List Loc} {i : Nat} (h : SK adK adV A s s.heap) (hi : i < 11) (hS : va_S A s.heap H locs) : ∃ cell : Cell, H[adK i]? = some cell ∧ cell.vm.isStatics = false ∧ s.vm.findClass "java/lang/String" = some cell.cls := vk_recv h.1 hi hS
/-- the start of a method that asks for the texts, and writes nothing -/
def ST (D : va_G) (Y : ClassId × ClassId × ClassId × ClassId) (adK adV : Nat → Nat) (U : State) : Prop := EV D Y U ∧ SK adK adV (fun _ => False) U U.heap
/-- one that writes -/
def SW (D : va_G) (Y : ClassId × ClassId × ClassId × ClassId) (adK adV : Nat → Nat) (sz : Nat) (ws : va_W) (U : State) : Prop := RW D Y sz ws U ∧ SK adK adV (va_A ws sz) U U.heap
theorem ST.blind {D : va_G} {Y : ClassId × ClassId × ClassId × ClassId} {adK adV : Nat → Nat} {av : List Value} : FrameBlind (va_Pc av (ST D Y adK adV)) := fun a _ g mk q => ⟨q.1, q.2.1.calling g mk a, q.2.2.calling g mk a⟩
theorem SW.blind {D : va_G} {Y : ClassId × ClassId × ClassId × ClassId} {adK adV : Nat → Nat} {sz : Nat} {ws : va_W} {av : List Value} : FrameBlind (va_Pc av (SW D Y adK adV sz ws)) := fun a _ g mk q => ⟨q.1, ⟨q.2.1.1, q.2.1.2.1, q.2.1.2.2.1.calling g mk a, q.2.1.2.2.2⟩, q.2.2.calling g mk a⟩
/-- the start of inflate, toChars: the bytes lie in a row that nobody writes -/
def BW (D : va_G) (Y : ClassId × ClassId × ClassId × ClassId) (av N : Nat) (b : Nat → Int32) (sz : Nat) (ws : va_W) (U : State) : Prop := RW D Y sz ws U ∧ va_T .byte av N (fun j => .int (b j)) (va_A ws sz) U U.heap
theorem BW.blind {D : va_G} {Y : ClassId × ClassId × ClassId × ClassId} {av N : Nat} {b : Nat → Int32} {sz : Nat} {ws : va_W} {as : List Value} : FrameBlind (va_Pc as (BW D Y av N b sz ws)) := fun a U g mk q => ⟨q.1, ⟨q.2.1.1, q.2.1.2.1, q.2.1.2.2.1.calling g mk a, q.2.1.2.2.2⟩, va_T.moved (u := U) (U := U.calling g mk a) (Vm.Alike.refl U.vm) q.2.2⟩
def OA (r : Nat) : Array Value → State → Outcome → State → Prop := fun _ st o t => o = .returned (some (.ref r)) ∧ t.heap = st.heap
def OB (r : Int32) : Array Value → State → Outcome → State → Prop := vp_Si (fun x => x = r)
/-- an answer that is a new row of N characters f -/
def QR (D : va_G) (Y : ClassId × ClassId × ClassId × ClassId) (N : Nat) (f : Nat → Int32) (A : Nat → Prop) : Array Value → State → Outcome → State → Prop := va_Qr (S := Unit) (fun _ => True) (fun _ a t => EndAt D A [(a, .inl (Y.2.1, N, .inl f))] t) A
section ST1
variable {p : Program} {l : Launch} {e : Env} {R : Room} {s : State} {m : MethodId} {args : Array Value} {below : List Frame} {meth : Method} {c : Code} {H : Heap} {locs : List Loc} {cells slots : Nat} {Q : State → Prop} {pc : Nat} {ls : Array Slot} {rest : List Value}
variable {D : va_G} {Y : ClassId × ClassId × ClassId × ClassId} {A0 : Nat → Prop} {ws wc wr wn : va_W} {a : Array Value} {st0 : List Value} {cc : ByteArray} {A : Nat → Prop} {adK adV : Nat → Nat} {b : Addr}
theorem pre_st {As : List Value} (hE : EV D Y s) (hK9 : SK adK adV A s s.heap) (hS : va_S A s.heap H locs) : PreS s H (va_Pc As (ST D Y adK adV)) As := ⟨ST.blind, fun U hU hW => ⟨rfl, hE.warm hW, hK9.to hS hU hW (fun _ h => h.elim)⟩⟩
theorem pre_stV {As : List Value} {i : Nat} (hE : EV D Y s) (hK9 : SK adK adV A s s.heap) (hS : va_S A s.heap H locs) (hi : i < 11) : PreV s H "java/lang/String" (adK i) (va_Pc (.ref (adK i) :: As) (ST D Y adK adV)) As := ⟨ST.blind, sk_recv hK9 hi hS, fun U hU hW => ⟨rfl, hE.warm hW, hK9.to hS hU hW (fun _ h => h.elim)⟩⟩
theorem pre_swV {As : List Value} {q0 ci : Nat} {fs : List Value} {k : vw_C} (hP : va_P D vwCl ws H) (hD : va_D A ws) (hE : EV D Y s) (hK9 : SK adK adV A s s.heap) (hS : va_S A s.heap H locs) (hA : ∀ q : Nat, s.heap.size ≤ q → A q) (is : List Nat) (hs : is.map (fun i => ws[i]?) = wc.map some) (hn : va_nd is = true) (hs' : is.filterMap (fun i => ws[i]?) = wc) (hc : vwCl[ci]? = some k) (he : ws[q0]? = some (b, .inr (ci, fs))) : PreV s H k.1 b (va_Pc (.ref b :: As) (SW D Y adK adV H.size wc)) As := ⟨SW.blind, va_recv hE.1 hP hc he, fun U hU hW => ⟨rfl, ⟨by rw [hU], by rw [hU]; exact hP.sub is hs', hE.warm hW, (hD.sub is hn hs).weaken (fun _ _ _ _ => trivial)⟩, hK9.to hS hU hW (va_free hD hS hA is hs)⟩⟩
theorem pre_swS {As : List Value} (hP : va_P D vwCl ws H) (hD : va_D A ws) (hE : EV D Y s) (hK9 : SK adK adV A s s.heap) (hS : va_S A s.heap H locs) (hA : ∀ q : Nat, s.heap.size ≤ q → A q) (is : List Nat) (hs : is.map (fun i => ws[i]?) = wc.map some) (hn : va_nd is = true) (hs' : is.filterMap (fun i => ws[i]?) = wc) : PreS s H (va_Pc As (SW D Y adK adV H.size wc)) As := ⟨SW.blind, fun U hU hW => ⟨rfl, ⟨by rw [hU], by rw [hU]; exact hP.sub is hs', hE.warm hW, (hD.sub is hn hs).weaken (fun _ _ _ _ => trivial)⟩, hK9.to hS hU hW (va_free hD hS hA is hs)⟩⟩
theorem pre_swK {As : List Value} {i : Nat} (hP : va_P D vwCl ws H) (hD : va_D A ws) (hE : EV D Y s) (hK9 : SK adK adV A s s.heap) (hS : va_S A s.heap H locs) (hA : ∀ q : Nat, s.heap.size ≤ q → A q) (hi : i < 11) : PreV s H "java/lang/String" (adK i) (va_Pc (.ref (adK i) :: As) (SW D Y adK adV H.size [])) As := ⟨SW.blind, sk_recv hK9 hi hS, fun U hU hW => ⟨rfl, ⟨by rw [hU], by rw [hU]; exact hP.sub [] rfl, hE.warm hW, (hD.sub [] rfl rfl).weaken (fun _ _ _ _ => trivial)⟩, hK9.to hS hU hW (va_free (wc := []) hD hS hA [] rfl)⟩⟩
theorem pre_bwS {As : List Value} {av N : Nat} {bf : Nat → Int32} (hP : va_P D vwCl ws H) (hD : va_D A ws) (hE : EV D Y s) (hT : va_T .byte av N (fun j => .int (bf j)) A s s.heap) (hS : va_S A s.heap H locs) (hA : ∀ q : Nat, s.heap.size ≤ q → A q) (is : List Nat) (hs : is.map (fun i => ws[i]?) = wc.map some) (hn : va_nd is = true) (hs' : is.filterMap (fun i => ws[i]?) = wc) : PreS s H (va_Pc As (BW D Y av N bf H.size wc)) As := ⟨BW.blind, fun U hU hW => ⟨rfl, ⟨by rw [hU], by rw [hU]; exact hP.sub is hs', hE.warm hW, (hD.sub is hn hs).weaken (fun _ _ _ _ => trivial)⟩, by rw [hU]; exact ((hT.kept hS.2.1).moved hW.alike).narrow (va_free hD hS hA is hs)⟩⟩
theorem af_oa {r : Nat} (hr : va_Run p l e R s m args below meth c H locs cells slots 0 0 (F0 m pc ls st0) rest (OA r a) (fun _ => False))
    (kk : W p l e R s m args below meth c H locs cells slots Q (F0 m (pc + 3) ls (.ref r :: rest))) : W p l e R s m args below meth c H locs cells slots Q (F0 m pc ls st0) := by
  intro T hT X
  obtain ⟨v, st₀, t, T', L, h0, X', hL, e1, e2, ⟨hv, hh⟩, st⟩ := hr T hT X
  cases hv
  obtain ⟨t2, a1, b1⟩ := kk T' (by rw [e1, hh, h0]) (Stand.forget X' (fun q h => (hL q h).elim))
  exact ⟨t2, st t2 a1, b1⟩
theorem af_r {mc ms N : Nat} {f : Nat → Int32} (hr : va_Run p l e R s m args below meth c H locs cells slots mc ms (F0 m pc ls st0) rest (QR D Y N f (va_A wc H.size) a) (va_A wc H.size)) (hP : va_P D vwCl ws H) (hD : va_D A0 ws) (hS : va_S A0 s.heap H locs) (hA : ∀ q : Nat, s.heap.size ≤ q → A0 q)
    (isC isR isN : List Nat) (hC : isC.map (fun i => ws[i]?) = wc.map some) (hR : isR.map (fun i => ws[i]?) = wr.map some) (hn : va_nd isR = true) (hdis : ∀ i ∈ isR, i ∉ isC)
    (kk : ∀ (q : Nat) (H1 : Heap) (locs1 : List Loc), va_P D vwCl (wr ++ [(q, .inl (Y.2.1, N, .inl f))]) H1 → va_D A0 (wr ++ [(q, .inl (Y.2.1, N, .inl f))]) → va_S A0 s.heap H1 locs1 → W p l e R s m args below meth c H1 locs1 (cells + mc) (slots + ms) Q (F0 m (pc + 3) ls (.ref q :: rest))) : W p l e R s m args below meth c H locs cells slots Q (F0 m pc ls st0) := by
  have hF := va_free (wc := wc) hD hS hA isC hC
  refine va_callr hr hS (fun q _ h => hF q h) hF (fun u ra t H1 locs1 ht hvm hw hB hz1 hk1 hS1 => ?_)
  obtain ⟨hP1, hD1⟩ := hB
  rw [ht] at hP1
  obtain ⟨h1, h2⟩ := va_join hP hD isC isR hC hR hn hdis hk1 hF hP1 hD1
  exact kk ra H1 locs1 h1 h2 hS1
theorem en_oa {v r : Nat} {rt : FieldType} (hx : p.tables.exec = Jvm.exec) (hb : c.code = cc) (hr : meth.sig.returnType = some rt) (hrt : (∃ n, rt = .object n) ∨ ∃ t, rt = .array t) (hlocks : meth.locks = false) (hv : v = r) (hdg : decode cc pc = .ok (.areturn, 1)) : W p l e R s m args below meth c s.heap [] 0 0 (MQ below (OA r) args s 0 0 (fun _ => False)) (F0 m pc ls [.ref v]) :=
  W.aret (v := .ref v) hx hb hr hrt (Or.inr ⟨v, rfl⟩) (fun t ht _ => ⟨by rw [hv], ht⟩) (fun q hq => absurd hq List.not_mem_nil) hdg hlocks
theorem en_ob {v r : Int32} (hx : p.tables.exec = Jvm.exec) (hb : c.code = cc) (hr : meth.sig.returnType = some .byte) (hlocks : meth.locks = false) (hn : narrow .byte (.int v) = .int v) (hv : v = r) (hdg : decode cc pc = .ok (.ireturn, 1)) : W p l e R s m args below meth c s.heap [] 0 0 (MQ below (OB r) args s 0 0 (fun _ => False)) (F0 m pc ls [.int v]) :=
  W.zret (v := v) hx hb hr hn (fun t ht _ => ⟨v, rfl, hv, ht⟩) (fun q hq => absurd hq List.not_mem_nil) hdg hlocks
theorem en_r {N q : Nat} {f : Nat → Int32} (hx : p.tables.exec = Jvm.exec) (hb : c.code = cc) (hr : meth.sig.returnType = some (.array .char)) (hlocks : meth.locks = false) (hP : va_P D vwCl [(q, .inl (Y.2.1, N, .inl f))] H) (hD : va_D A [(q, .inl (Y.2.1, N, .inl f))]) (hS : va_S A s.heap H locs) (hdg : decode cc pc = .ok (.areturn, 1)) : W p l e R s m args below meth c H locs cells slots (MQ below (QR D Y N f A) args s cells slots A) (F0 m pc ls [.ref q]) :=
  W.aret (v := .ref q) hx hb hr (Or.inr ⟨_, rfl⟩) (Or.inr ⟨q, rfl⟩) (fun t ht _ => ⟨⟨(), q, rfl, trivial, by rw [ht]; exact hP, hD⟩, hS.F ht⟩) hS.2.2 hdg hlocks
end ST1
theorem sw_start {l : Launch} {y : MethodName} {cc : ByteArray} {maxL : Nat} {ret : Option FieldType} {rm : Room} {args : List Value} {D : va_G} {Y : ClassId × ClassId × ClassId × ClassId} {adK adV : Nat → Nat} {sz : Nat} {ws : va_W} {Qc : (Nat → Prop) → Array Value → State → Outcome → State → Prop} {mc ms : Nat} (hy : plainName y.cls = true) (hlen : (lg_sl args).length ≤ maxL)
    (body : ∀ (p : Program) (e : Env) (s : State) (m : MethodId) (below : List Frame) (meth : Method) (c : Code) (ls : Array Slot) (A : Nat → Prop), p.tables.exec = Jvm.exec → c.code = cc → c.maxLocals = maxL → meth.sig.returnType = ret → meth.locks = false → s.vm.findClass y.cls = some m.cls → (∀ w ∈ lw_all, w.before args.toArray s = true) → meth.name = y.name → (∀ q : Nat, s.heap.size ≤ q → A q) → va_P D vwCl ws s.heap → va_D A ws → va_S A s.heap s.heap [] → EV D Y s → SK adK adV A s s.heap → lv_has ls maxL (lv_args 0 args) →
      W p l e rm s m args.toArray below meth c s.heap [] 0 0 (MQ below (Qc A) args.toArray s mc ms A) (F0 m 0 ls [])) : Met l y (ws_ y cc maxL ret) rm (va_Pc args (SW D Y adK adV sz ws)) (Qc (va_A ws sz)) mc ms (va_A ws sz) := by
  refine ct_start hy hlen fun p e s m below meth c ls h1 h2 h3 h4 h5 h6 h7 h8 hB hl => ?_
  obtain ⟨⟨rfl, hP, hE, hD0⟩, hK9⟩ := hB
  exact body p e s m below meth c ls (va_A ws s.heap.size) h1 h2 h3 h4 h5 h6 h7 h8 (fun q h => Or.inr h) hP hD0.self va_S.rf hE hK9 hl
set_option maxHeartbeats 4000000 in
set_option maxRecDepth 100000 in
theorem c_J0_isLatin1 (l : Launch) (D : va_G) (Y : ClassId × ClassId × ClassId × ClassId) (adK adV : Nat → Nat) (i : Nat) (hi : i < 11) : Met l yJ0_isLatin1_aae02 (ws_ yJ0_isLatin1_aae02 cJ0_isLatin1_aae02 1 (some .boolean)) { frames := 1, cells := 0, slots := 0, locals := 24 } (va_Pc [.ref (adK i)] (ST D Y adK adV)) (OZ 1) 0 0 (fun _ => False) := by
  refine ct_start (by decide) (Nat.le_of_ble_eq_true rfl) ?_
  intro p e s m below meth c ls hx hb hml hr hlocks hown hts hnm hB hl
  obtain ⟨hE, hK9⟩ := hB
  have hown : s.vm.findClass RJ0 = some m.cls := hown
  have hS : va_S (fun _ => False) s.heap s.heap [] := va_S.rf
  have hl : lv_has ls 1 [(0, .ref (adK i))] := hl
  refine va_gets hx hb hK9.2.1 hS hown (hts _ qw229) (fun _ h9 => h9) dJ0_isLatin1_aae02_0 ?_
  refine lv_if_eq (tgt := 17) hx hb dJ0_isLatin1_aae02_3 (by decide) (fun h => absurd h (by decide)) (fun _ => ?_)
  refine lv_aload_n hx hb dJ0_isLatin1_aae02_6 rfl (lv_at hl 0 rfl) ?_
  refine vk_getf hx hb (hK9.1.1 i hi).2.1 hS hown (hts _ qw700) (fun _ h9 => h9) dJ0_isLatin1_aae02_7 ?_
  refine lv_if_ne (tgt := 17) hx hb dJ0_isLatin1_aae02_10 (by decide) (fun h => absurd rfl h) (fun _ => ?_)
  refine lv_iconst (v := 1) hx hb dJ0_isLatin1_aae02_13 (by decide) ?_
  refine lv_goto (tgt := 18) hx hb dJ0_isLatin1_aae02_14 (by decide) ?_
  exact en_oz hx hb hr hlocks rfl (Or.inr rfl) dJ0_isLatin1_aae02_18
set_option maxHeartbeats 4000000 in
set_option maxRecDepth 100000 in
theorem c_J1_inflate (l : Launch) (D : va_G) (Y : ClassId × ClassId × ClassId × ClassId) (av a_q N : Nat) (hN : N < 2 ^ 31) (b : Nat → Int32) (sz : Nat) : Met l yJ1_inflate_03870 (ws_ yJ1_inflate_03870 cJ1_inflate_03870 6 none) { frames := 1, cells := 0, slots := 0, locals := 24 } (va_Pc [.ref av, .int 0, .ref a_q, .int 0, .int (nI N)] (BW D Y av N b sz [(a_q, .inl (Y.2.1, N, .inl (fun _ => 0)))])) (QV D [(a_q, .inl (Y.2.1, N, .inl (infl b N)))] (va_A [(a_q, .inl (Y.2.1, N, .inl (fun _ => 0)))] sz)) 0 0 (va_A [(a_q, .inl (Y.2.1, N, .inl (fun _ => 0)))] sz) := by
  refine ct_start (by decide) (Nat.le_of_ble_eq_true rfl) ?_
  intro p e s m below meth c ls hx hb hml hr hlocks hown hts hnm hB hl
  obtain ⟨⟨rfl, hP, hE, hD0⟩, hT⟩ := hB
  have hD := hD0.self (sz := s.heap.size)
  generalize va_A [(a_q, .inl (Y.2.1, N, .inl (fun _ => 0)))] s.heap.size = A at hT hD ⊢
  have hS : va_S A s.heap s.heap [] := va_S.rf
  generalize hargs : List.toArray _ = args at hts ⊢
  generalize hQ : MQ below _ args s 0 0 _ = Q
  have L3 : ∀ (n k : Nat) (H : Heap) (locs : List Loc) (ls : Array Slot), k + n = N → va_P D vwCl [(a_q, .inl (Y.2.1, N, .inl (infl b k)))] H → va_D A [(a_q, .inl (Y.2.1, N, .inl (infl b k)))] → va_S A s.heap H locs → lv_has ls 6 [(0, .ref av), (1, .int (nI k)), (2, .ref a_q), (3, .int (nI k)), (4, .int (nI N)), (5, .int (nI k))] → W p l e { frames := 1, cells := 0, slots := 0, locals := 24 } s m args below meth c H locs 0 0 Q (F0 m 3 ls []) := by
    intro n
    induction n with
    | zero =>
      intro k H locs ls hk hP hD hS hl
      have e : k = N := by omega
      subst e
      refine lv_iload hx hb dJ1_inflate_03870_3 (lv_at hl 5 rfl) ?_
      refine lv_iload hx hb dJ1_inflate_03870_5 (lv_at hl 4 rfl) ?_
      refine lv_icmp_ge (tgt := 33) hx hb dJ1_inflate_03870_7 (by decide) (fun _ => ?_) (fun h => absurd (nI_le (Nat.le_refl _) hN) h)
      subst hQ
      exact en_v hx hb hr hlocks hP hD hS dJ1_inflate_03870_33
    | succ n ih =>
      intro k H locs ls hk hP hD hS hl
      have hkN : k < N := by omega
      refine lv_iload hx hb dJ1_inflate_03870_3 (lv_at hl 5 rfl) ?_
      refine lv_iload hx hb dJ1_inflate_03870_5 (lv_at hl 4 rfl) ?_
      refine lv_icmp_ge (tgt := 33) hx hb dJ1_inflate_03870_7 (by decide) (fun h => absurd h (nI_ge hkN hN)) (fun _ => ?_)
      refine lv_aload_n hx hb dJ1_inflate_03870_10 rfl (lv_at hl 2 rfl) ?_
      refine lv_iload_n hx hb dJ1_inflate_03870_11 rfl (lv_at hl 3 rfl) ?_
      refine lv_iinc (v := nI (k + 1)) (lv' := [(3, .int (nI (k + 1))), (0, .ref av), (1, .int (nI k)), (2, .ref a_q), (4, .int (nI N)), (5, .int (nI k))]) hx hb dJ1_inflate_03870_12 hl (k := 3) rfl (nI_1 k) (by decide) rfl (fun ls hl => ?_)
      refine lv_aload_n hx hb dJ1_inflate_03870_15 rfl (lv_at hl 1 rfl) ?_
      refine lv_iload_n hx hb dJ1_inflate_03870_16 rfl (lv_at hl 2 rfl) ?_
      refine lv_iinc (v := nI (k + 1)) (lv' := [(1, .int (nI (k + 1))), (3, .int (nI (k + 1))), (0, .ref av), (2, .ref a_q), (4, .int (nI N)), (5, .int (nI k))]) hx hb dJ1_inflate_03870_17 hl (k := 2) rfl (nI_1 k) (by decide) rfl (fun ls hl => ?_)
      refine va_tb hx hb hT hS (vp_in_nI hkN hN) (v := .int (b k)) (by rw [nI_clamp (by omega)]) dJ1_inflate_03870_20 ?_
      refine lv_sipush (v := 255) hx hb dJ1_inflate_03870_21 (by decide) ?_
      refine lv_iand hx hb dJ1_inflate_03870_24 ?_
      refine lv_i2c hx hb dJ1_inflate_03870_25 rfl ?_
      refine va_cast hx hb hE.1 hP hD hS 0 1 rfl rfl (vp_in_nI hkN hN) dJ1_inflate_03870_26 (fun H locs hP hD hS => ?_)
      rw [nI_clamp (by omega)] at hP hD
      have hP : va_P D vwCl [(a_q, .inl (Y.2.1, N, .inl (infl b (k + 1))))] H := hP
      have hD : va_D A [(a_q, .inl (Y.2.1, N, .inl (infl b (k + 1))))] := hD
      refine lv_iinc (v := nI (k + 1)) (lv' := [(5, .int (nI (k + 1))), (1, .int (nI (k + 1))), (3, .int (nI (k + 1))), (0, .ref av), (2, .ref a_q), (4, .int (nI N))]) hx hb dJ1_inflate_03870_27 hl (k := 5) rfl (nI_1 k) (by decide) rfl (fun ls hl => ?_)
      refine lv_goto (tgt := 3) hx hb dJ1_inflate_03870_30 (by decide) ?_
      exact ih (k + 1) H locs ls (by omega) hP hD hS (lv_sub hl [3, 1, 4, 2, 5, 0] rfl)
  have hl : lv_has ls 6 [(0, .ref av), (1, .int 0), (2, .ref a_q), (3, .int 0), (4, .int (nI N))] := hl
  refine lv_iconst (v := 0) hx hb dJ1_inflate_03870_0 (by decide) ?_
  refine lv_istore (lv' := [(5, .int 0), (0, .ref av), (1, .int 0), (2, .ref a_q), (3, .int 0), (4, .int (nI N))]) hx hb dJ1_inflate_03870_1 hl (by decide) rfl (fun ls hl => ?_)
  exact L3 N 0 _ _ ls (by omega) hP hD hS (lv_sub hl [1, 2, 3, 4, 5, 0] rfl)
set_option maxHeartbeats 4000000 in
set_option maxRecDepth 100000 in
theorem c_J1_toChars (l : Launch) (D : va_G) (Y : ClassId × ClassId × ClassId × ClassId) (av N : Nat) (hN : N ≤ 30) (b : Nat → Int32) (sz : Nat) : Met l yJ1_toChars_9d188 (ws_ yJ1_toChars_9d188 cJ1_toChars_9d188 2 (some (.array .char))) { frames := 2, cells := 1, slots := 30, locals := 49 } (va_Pc [.ref av] (BW D Y av N b sz [])) (QR D Y N (infl b N) (va_A [] sz)) 1 30 (va_A [] sz) := by
  refine ct_start (by decide) (Nat.le_of_ble_eq_true rfl) ?_
  intro p e s m below meth c ls hx hb hml hr hlocks hown hts hnm hB hl
  obtain ⟨⟨rfl, hP, hE, hD0⟩, hT⟩ := hB
  have hA : ∀ q : Nat, s.heap.size ≤ q → va_A [] s.heap.size q := fun q h => Or.inr h
  have hD := hD0.self (sz := s.heap.size)
  generalize va_A [] s.heap.size = A at hT hD hA ⊢
  have hS : va_S A s.heap s.heap [] := va_S.rf
  generalize hargs : List.toArray _ = args at hts ⊢
  have hown : s.vm.findClass RJ1 = some m.cls := hown
  have E : EN p m c cJ1_toChars_9d188 2 s args RJ1 := ⟨hx, hb, hml, hown, hts⟩
  have hl : lv_has ls 2 [(0, .ref av)] := hl
  refine lv_aload_n hx hb dJ1_toChars_9d188_0 rfl (lv_at hl 0 rfl) ?_
  refine va_tlen hx hb hT hS (v := nI N) rfl dJ1_toChars_9d188_1 ?_
  refine n_newc (N := N) hx hb (hts _ qw115) hE hP hD hS hA (nI_pos (by omega)) (nI_clamp (by omega)) (by show N * 2 ≤ 536870912; omega) (Nat.le_of_ble_eq_true rfl) (by show 0 + N ≤ 30; omega) dJ1_toChars_9d188_2 (fun q H hP hD hS => ?_)
  have hP : va_P D vwCl [(q, .inl (Y.2.1, N, .inl (fun _ => 0)))] H := hP
  have hD : va_D A [(q, .inl (Y.2.1, N, .inl (fun _ => 0)))] := hD
  refine W.widen (k := 1) (n := 30) (Nat.le_refl _) (by omega) ?_
  refine lv_astore_n (lv' := [(1, .ref q), (0, .ref av)]) hx hb dJ1_toChars_9d188_4 rfl hl (by decide) rfl (fun ls hl => ?_)
  refine lv_aload_n hx hb dJ1_toChars_9d188_5 rfl (lv_at hl 1 rfl) ?_
  refine lv_iconst (v := 0) hx hb dJ1_toChars_9d188_6 (by decide) ?_
  refine lv_aload_n hx hb dJ1_toChars_9d188_7 rfl (lv_at hl 0 rfl) ?_
  refine lv_iconst (v := 0) hx hb dJ1_toChars_9d188_8 (by decide) ?_
  refine lv_aload_n hx hb dJ1_toChars_9d188_9 rfl (lv_at hl 1 rfl) ?_
  refine va_tlen hx hb hT hS (v := nI N) rfl dJ1_toChars_9d188_10 ?_
  refine af_v0 (wc := [(q, .inl (Y.2.1, N, .inl (fun _ => 0)))]) (wr := []) (wn := [(q, .inl (Y.2.1, N, .inl (infl b N)))]) (run_S (As := [.ref av, .int 0, .ref q, .int 0, .int (nI N)]) (rest := []) E (c_J1_inflate l D Y av q N (by omega) b H.size) qw234 qw235 qw29 qw236 rfl rfl hd_J1_inflate_03870 ⟨Nat.le_of_ble_eq_true rfl, Nat.le_of_ble_eq_true rfl⟩ (pre_bwS hP hD hE hT hS hA [0] rfl (by decide) rfl) rfl hl.1 rfl (Nat.le_of_ble_eq_true rfl) dJ1_toChars_9d188_11 ⟨Nat.le_of_ble_eq_true rfl, Nat.le_of_ble_eq_true rfl⟩) hP hD hS hA [0] [] [0] rfl rfl (by decide) (by decide) rfl rfl (by decide) (fun H locs hP hD hS => ?_)
  refine lv_aload_n hx hb dJ1_toChars_9d188_14 rfl (lv_at hl 0 rfl) ?_
  exact en_r hx hb hr hlocks hP hD hS dJ1_toChars_9d188_15
set_option maxHeartbeats 4000000 in
set_option maxRecDepth 100000 in
theorem c_J0_toCharArray (l : Launch) (D : va_G) (Y : ClassId × ClassId × ClassId × ClassId) (adK adV : Nat → Nat) (i : Nat) (hi : i < 11) (sz : Nat) : Met l yJ0_toCharArray_70df3 (ws_ yJ0_toCharArray_70df3 cJ0_toCharArray_70df3 1 (some (.array .char))) { frames := 3, cells := 1, slots := 30, locals := 72 } (va_Pc [.ref (adK i)] (SW D Y adK adV sz [])) (QR D Y (lenS.getD i 0) (chS i) (va_A [] sz)) 1 30 (va_A [] sz) := by
  refine ct_start (by decide) (Nat.le_of_ble_eq_true rfl) ?_
  intro p e s m below meth c ls hx hb hml hr hlocks hown hts hnm hB hl
  obtain ⟨⟨rfl, hP, hE, hD0⟩, hK9⟩ := hB
  have hA : ∀ q : Nat, s.heap.size ≤ q → va_A [] s.heap.size q := fun q h => Or.inr h
  have hD := hD0.self (sz := s.heap.size)
  generalize va_A [] s.heap.size = A at hK9 hD hA ⊢
  have hS : va_S A s.heap s.heap [] := va_S.rf
  generalize hargs : List.toArray _ = args at hts ⊢
  have hown : s.vm.findClass RJ0 = some m.cls := hown
  have E : EN p m c cJ0_toCharArray_70df3 1 s args RJ0 := ⟨hx, hb, hml, hown, hts⟩
  have hl : lv_has ls 1 [(0, .ref (adK i))] := hl
  refine lv_aload_n hx hb dJ0_toCharArray_70df3_0 rfl (lv_at hl 0 rfl) ?_
  refine af_oz (run_V (As := []) (rest := []) E (c_J0_isLatin1 l D Y adK adV i hi) qw225 qw226 qw227 qw28 qw228 rfl rfl hd_J0_isLatin1_aae02 ⟨Nat.le_of_ble_eq_true rfl, Nat.le_of_ble_eq_true rfl⟩ (pre_stV hE hK9 hS hi) rfl hl.1 rfl (Nat.le_of_ble_eq_true rfl) dJ0_toCharArray_70df3_1 ⟨Nat.zero_le _, Nat.zero_le _⟩) (fun _ => ?_)
  refine lv_if_eq (tgt := 17) hx hb dJ0_toCharArray_70df3_4 (by decide) (fun h => absurd h (by decide)) (fun _ => ?_)
  refine lv_aload_n hx hb dJ0_toCharArray_70df3_7 rfl (lv_at hl 0 rfl) ?_
  refine vk_getf hx hb (hK9.1.1 i hi).2.2.1 hS hown (hts _ qw701) (fun _ h9 => h9) dJ0_toCharArray_70df3_8 ?_
  refine af_r (wc := []) (wr := []) (run_S (As := [.ref (adV i)]) (rest := []) E (c_J1_toChars l D Y (adV i) (lenS.getD i 0) (lenS_le i) (bytF i) s.heap.size) qw231 qw232 qw29 qw233 rfl rfl hd_J1_toChars_9d188 ⟨Nat.le_of_ble_eq_true rfl, Nat.le_of_ble_eq_true rfl⟩ (pre_bwS hP hD hE (hK9.1.1 i hi).2.2.2 hS hA [] rfl (by decide) rfl) rfl hl.1 rfl (Nat.le_of_ble_eq_true rfl) dJ0_toCharArray_70df3_11 ⟨Nat.le_of_ble_eq_true rfl, Nat.le_of_ble_eq_true rfl⟩) hP hD hS hA [] [] [] rfl rfl (by decide) (by decide) (fun q H locs hP hD hS => ?_)
  refine lv_goto (tgt := 24) hx hb dJ0_toCharArray_70df3_14 (by decide) ?_
  exact en_r hx hb hr hlocks hP hD hS dJ0_toCharArray_70df3_24

def f_X8_lead (s0 : Int32) : Nat := if s0 = 4 then 7 else if s0 = 5 then 8 else if s0 = 6 then 9 else 10
theorem f_X8_lead_lt (s0 : Int32) : f_X8_lead s0 < 11 := by
  unfold f_X8_lead
  repeat (first | decide | split)
set_option maxHeartbeats 4000000 in
set_option maxRecDepth 100000 in
theorem c_X8_lead (l : Launch) (D : va_G) (Y : ClassId × ClassId × ClassId × ClassId) (adK adV : Nat → Nat) (s0 : Int32) : Met l yX8_lead (ws_ yX8_lead cX8_lead 1 (some (.object "java/lang/String"))) { frames := 1, cells := 0, slots := 0, locals := 24 } (va_Pc [.int s0] (ST D Y adK adV)) (OA (adK (f_X8_lead s0))) 0 0 (fun _ => False) := by
  refine ct_start (by decide) (Nat.le_of_ble_eq_true rfl) ?_
  intro p e s m below meth c ls hx hb hml hr hlocks hown hts hnm hB hl
  obtain ⟨hE, hK9⟩ := hB
  have hown : s.vm.findClass RX8 = some m.cls := hown
  have hl : lv_has ls 1 [(0, .int s0)] := hl
  obtain ⟨r0, r1, r2, r3, r4, r5, r6, r7, r8, r9, r10⟩ := hK9.2.2
  have hf : f_X8_lead s0 = f_X8_lead s0 := rfl
  generalize hR : f_X8_lead s0 = R at hf ⊢
  clear hf
  unfold f_X8_lead at hR
  refine lv_iload_n hx hb dX8_lead_0 rfl (lv_at hl 0 rfl) ?_
  by_cases c4 : s0 = 4
  · have hR := ite_t c4 hR
    refine lv_tableIn (tgt := 28) (off := 27) hx hb dX8_lead_1 (by rw [c4]; decide) (by rw [c4]; decide) (by rw [c4]; rfl) (by decide) ?_
    refine va_ldcS hx hb hown r7 dX8_lead_28 ?_
    subst hR
    exact en_oa hx hb hr (Or.inl ⟨_, rfl⟩) hlocks rfl dX8_lead_30
  have hR := ite_f c4 hR
  by_cases c5 : s0 = 5
  · have hR := ite_t c5 hR
    refine lv_tableIn (tgt := 31) (off := 30) hx hb dX8_lead_1 (by rw [c5]; decide) (by rw [c5]; decide) (by rw [c5]; rfl) (by decide) ?_
    refine va_ldcS hx hb hown r8 dX8_lead_31 ?_
    subst hR
    exact en_oa hx hb hr (Or.inl ⟨_, rfl⟩) hlocks rfl dX8_lead_33
  have hR := ite_f c5 hR
  by_cases c6 : s0 = 6
  · have hR := ite_t c6 hR
    refine lv_tableIn (tgt := 34) (off := 33) hx hb dX8_lead_1 (by rw [c6]; decide) (by rw [c6]; decide) (by rw [c6]; rfl) (by decide) ?_
    refine va_ldcS hx hb hown r9 dX8_lead_34 ?_
    subst hR
    exact en_oa hx hb hr (Or.inl ⟨_, rfl⟩) hlocks rfl dX8_lead_36
  have hR := ite_f c6 hR
  have nc4 := sw_ne (k := 4) (z := 4) rfl c4
  have nc5 := sw_ne (k := 5) (z := 5) rfl c5
  have nc6 := sw_ne (k := 6) (z := 6) rfl c6
  refine lv_tableOut (tgt := 37) hx hb dX8_lead_1 (by omega) (by decide) ?_
  refine va_ldcS hx hb hown r10 dX8_lead_37 ?_
  subst hR
  exact en_oa hx hb hr (Or.inl ⟨_, rfl⟩) hlocks rfl dX8_lead_39
def f_X8_bob (s0 : Int32) : Nat := if s0 = 5 then 0 else if s0 = 7 then 1 else 2
theorem f_X8_bob_lt (s0 : Int32) : f_X8_bob s0 < 11 := by
  unfold f_X8_bob
  repeat (first | decide | split)
set_option maxHeartbeats 4000000 in
set_option maxRecDepth 100000 in
theorem c_X8_bob (l : Launch) (D : va_G) (Y : ClassId × ClassId × ClassId × ClassId) (adK adV : Nat → Nat) (s0 : Int32) : Met l yX8_bob (ws_ yX8_bob cX8_bob 1 (some (.object "java/lang/String"))) { frames := 1, cells := 0, slots := 0, locals := 24 } (va_Pc [.int s0] (ST D Y adK adV)) (OA (adK (f_X8_bob s0))) 0 0 (fun _ => False) := by
  refine ct_start (by decide) (Nat.le_of_ble_eq_true rfl) ?_
  intro p e s m below meth c ls hx hb hml hr hlocks hown hts hnm hB hl
  obtain ⟨hE, hK9⟩ := hB
  have hown : s.vm.findClass RX8 = some m.cls := hown
  have hl : lv_has ls 1 [(0, .int s0)] := hl
  obtain ⟨r0, r1, r2, r3, r4, r5, r6, r7, r8, r9, r10⟩ := hK9.2.2
  have hf : f_X8_bob s0 = f_X8_bob s0 := rfl
  generalize hR : f_X8_bob s0 = R at hf ⊢
  clear hf
  unfold f_X8_bob at hR
  refine lv_iload_n hx hb dX8_bob_0 rfl (lv_at hl 0 rfl) ?_
  by_cases c5 : s0 = 5
  · have hR := ite_t c5 hR
    refine lv_lookup (tgt := 28) (off := 27) hx hb dX8_bob_1 (by decide) (by rw [c5]; rfl) (by decide) ?_
    refine va_ldcS hx hb hown r0 dX8_bob_28 ?_
    subst hR
    exact en_oa hx hb hr (Or.inl ⟨_, rfl⟩) hlocks rfl dX8_bob_30
  have hR := ite_f c5 hR
  by_cases c7 : s0 = 7
  · have hR := ite_t c7 hR
    refine lv_lookup (tgt := 31) (off := 30) hx hb dX8_bob_1 (by decide) (by rw [c7]; rfl) (by decide) ?_
    refine va_ldcS hx hb hown r1 dX8_bob_31 ?_
    subst hR
    exact en_oa hx hb hr (Or.inl ⟨_, rfl⟩) hlocks rfl dX8_bob_33
  have hR := ite_f c7 hR
  have nc5 := sw_ne (k := 5) (z := 5) rfl c5
  have nc7 := sw_ne (k := 7) (z := 7) rfl c7
  refine lv_lookup (tgt := 34) (off := 33) hx hb dX8_bob_1 (by decide) (by simp only [Op.lookupswitch.offset_cons, Op.lookupswitch.offset_nil]; rw [if_neg (Ne.symm nc5)]; rw [if_neg (Ne.symm nc7)]) (by decide) ?_
  refine va_ldcS hx hb hown r2 dX8_bob_34 ?_
  subst hR
  exact en_oa hx hb hr (Or.inl ⟨_, rfl⟩) hlocks rfl dX8_bob_36
def f_X8_single (s0 : Int32) : Nat := if s0 = 4 then 3 else if s0 = 5 then 4 else if s0 = 6 then 5 else 6
theorem f_X8_single_lt (s0 : Int32) : f_X8_single s0 < 11 := by
  unfold f_X8_single
  repeat (first | decide | split)
set_option maxHeartbeats 4000000 in
set_option maxRecDepth 100000 in
theorem c_X8_single (l : Launch) (D : va_G) (Y : ClassId × ClassId × ClassId × ClassId) (adK adV : Nat → Nat) (s0 : Int32) : Met l yX8_single (ws_ yX8_single cX8_single 1 (some (.object "java/lang/String"))) { frames := 1, cells := 0, slots := 0, locals := 24 } (va_Pc [.int s0] (ST D Y adK adV)) (OA (adK (f_X8_single s0))) 0 0 (fun _ => False) := by
  refine ct_start (by decide) (Nat.le_of_ble_eq_true rfl) ?_
  intro p e s m below meth c ls hx hb hml hr hlocks hown hts hnm hB hl
  obtain ⟨hE, hK9⟩ := hB
  have hown : s.vm.findClass RX8 = some m.cls := hown
  have hl : lv_has ls 1 [(0, .int s0)] := hl
  obtain ⟨r0, r1, r2, r3, r4, r5, r6, r7, r8, r9, r10⟩ := hK9.2.2
  have hf : f_X8_single s0 = f_X8_single s0 := rfl
  generalize hR : f_X8_single s0 = R at hf ⊢
  clear hf
  unfold f_X8_single at hR
  refine lv_iload_n hx hb dX8_single_0 rfl (lv_at hl 0 rfl) ?_
  by_cases c4 : s0 = 4
  · have hR := ite_t c4 hR
    refine lv_tableIn (tgt := 28) (off := 27) hx hb dX8_single_1 (by rw [c4]; decide) (by rw [c4]; decide) (by rw [c4]; rfl) (by decide) ?_
    refine va_ldcS hx hb hown r3 dX8_single_28 ?_
    subst hR
    exact en_oa hx hb hr (Or.inl ⟨_, rfl⟩) hlocks rfl dX8_single_30
  have hR := ite_f c4 hR
  by_cases c5 : s0 = 5
  · have hR := ite_t c5 hR
    refine lv_tableIn (tgt := 31) (off := 30) hx hb dX8_single_1 (by rw [c5]; decide) (by rw [c5]; decide) (by rw [c5]; rfl) (by decide) ?_
    refine va_ldcS hx hb hown r4 dX8_single_31 ?_
    subst hR
    exact en_oa hx hb hr (Or.inl ⟨_, rfl⟩) hlocks rfl dX8_single_33
  have hR := ite_f c5 hR
  by_cases c6 : s0 = 6
  · have hR := ite_t c6 hR
    refine lv_tableIn (tgt := 34) (off := 33) hx hb dX8_single_1 (by rw [c6]; decide) (by rw [c6]; decide) (by rw [c6]; rfl) (by decide) ?_
    refine va_ldcS hx hb hown r5 dX8_single_34 ?_
    subst hR
    exact en_oa hx hb hr (Or.inl ⟨_, rfl⟩) hlocks rfl dX8_single_36
  have hR := ite_f c6 hR
  have nc4 := sw_ne (k := 4) (z := 4) rfl c4
  have nc5 := sw_ne (k := 5) (z := 5) rfl c5
  have nc6 := sw_ne (k := 6) (z := 6) rfl c6
  refine lv_tableOut (tgt := 37) hx hb dX8_single_1 (by omega) (by decide) ?_
  refine va_ldcS hx hb hown r6 dX8_single_37 ?_
  subst hR
  exact en_oa hx hb hr (Or.inl ⟨_, rfl⟩) hlocks rfl dX8_single_39
