/-! ===== the tables' part of the start ===== -/
theorem arr_of {ty : FieldType} {A : Array Value} {s : State} (h : (Cond.arrayClass ty).before A s = true) : ∃ cA, ArrOfT s cA ty ∧ s.vm.findClass ("[" ++ ty.toString) = some cA := by
  obtain ⟨c, k, comp, h1, h2, h3⟩ := Cond.arrayClass_spec h
  exact ⟨c, fun n z => ⟨fun k h => (by cases h), k, h2, comp, h3⟩, h1⟩
theorem arrq_of {C : String} {A : Array Value} {s : State} (h : (Cond.arrayOver (.object C)).before A s = true) : ∃ cA, ArrOfT s cA (.object C) ∧ va_RA s cA (.object C) := by
  obtain ⟨comp, c, k, h1, h2, h3, h4, h5⟩ := Cond.arrayOver_spec h
  exact ⟨c, fun n z => ⟨fun k h => (by cases h), k, h3, comp, h4⟩, k, comp, h3, h4, h1, h5⟩
theorem ev_start {s : State} {A : Array Value} (hts0 : ∀ w ∈ lw_tbl, w.before A s = true) (hao : (Cond.arrayOver (.object RX9)).before A s = true) (hnest : ∀ w ∈ lw_nest, w.onTables = true) : ∃ D Y, EV D Y s := by
  have hts : ∀ w ∈ lw_all, w.before A s = true := fun w h => hts0 w (List.mem_filter.mp h).1
  obtain ⟨c0, i0, k0⟩ := u_known hts inX0 (hts _ qw84)
  obtain ⟨c1, i1, k1⟩ := u_known hts inX1 (hts _ qw171)
  obtain ⟨c2, i2, k2⟩ := u_known hts inX2 (hts _ qw117)
  obtain ⟨c3, i3, k3⟩ := u_known hts inX3 (hts _ qw101)
  obtain ⟨c5, i5, k5⟩ := u_known hts inX5 (hts _ qw142)
  obtain ⟨c7, i7, k7⟩ := u_known hts inX7 (hts _ qw177)
  obtain ⟨c9, i9, k9⟩ := u_known hts inX9 (hts _ qw46)
  obtain ⟨c10, i10, k10⟩ := u_known hts inX10 (hts _ qw38)
  obtain ⟨y1, a1, b1'⟩ := arr_of (hts _ qw82)
  obtain ⟨y2, a2, b2⟩ := arr_of (hts _ qw115)
  obtain ⟨y3, a3, b3⟩ := arrq_of hao
  obtain ⟨y4, a4, b4⟩ := arr_of (hts _ qw699)
  refine ⟨(fun c => [c0, c1, c2, c3, c5, c7, c9, c10].getD c c0, fun c => [i0, i1, i2, i3, i5, i7, i9, i10].getD c i0), (y1, y2, y3, y4), ⟨fun c q h => ?_, fun k q h => ?_⟩, fun w hw => va_Nw.of (hnest w hw) (hts0 w (List.mem_filter.mp hw).1), va_AO.of hao⟩
  · match c, h with
    | 0, h => obtain rfl := Option.some.inj h; exact k0
    | 1, h => obtain rfl := Option.some.inj h; exact k1
    | 2, h => obtain rfl := Option.some.inj h; exact k2
    | 3, h => obtain rfl := Option.some.inj h; exact k3
    | 4, h => obtain rfl := Option.some.inj h; exact k5
    | 5, h => obtain rfl := Option.some.inj h; exact k7
    | 6, h => obtain rfl := Option.some.inj h; exact k9
    | 7, h => obtain rfl := Option.some.inj h; exact k10
    | c + 8, h => exact absurd h (by simp [vwCl])
  · match k, h with
    | 0, h => obtain rfl := Option.some.inj h; exact ⟨a1, b1'⟩
    | 1, h => obtain rfl := Option.some.inj h; exact ⟨a2, b2⟩
    | 2, h => obtain rfl := Option.some.inj h; exact ⟨a3, b3⟩
    | 3, h => obtain rfl := Option.some.inj h; exact ⟨a4, b4⟩
    | k + 4, h => exact absurd h (by simp)
theorem nest_tab {w : Cond} (h : nestish w = true) : w.onTables = true := by
  cases w <;> first | rfl | exact Bool.noConfusion (show false = true from h)
theorem qao : Cond.arrayOver (.object RX9) ∈ lw_tbl := List.mem_of_getElem? (i := 90) (by decide +kernel)
theorem ev_of {s : State} {A : Array Value} (hts0 : ∀ w ∈ lw_tbl, w.before A s = true) : ∃ D Y, EV D Y s := ev_start hts0 (hts0 _ qao) (fun _ hw => nest_tab (List.mem_filter.mp hw).2)
/-! ===== the strings at the start ===== -/
def kS : List Nat := [15, 17, 19, 21, 23, 25, 27, 7, 9, 11, 13]
def tmS (i : Nat) : Term := .string "CalledTouches$Start" (kS.getD i 0)
def litS : List String := ["145", "147", "14", "34", "123", "1234", "12347", "x.14.x.14.x.14.x.12", "5.1.5.1.5.1.5.1.5.125", "x.16.x.16.x.16.x.16.x.16.x.12", "7.1.7.1.7.1.7.1.7.1.7.1.7.127"]
theorem qlay : Cond.laysStatic "java/lang/String" "COMPACT_STRINGS" "Z" ∈ lw_tbl := by decide +kernel
theorem qini : Cond.initialized "java/lang/String" ∈ lw_tbl := by decide +kernel
theorem qref : ∀ i, i < 11 → Cond.stringRef "CalledTouches$Start" (kS.getD i 0) (litS.getD i "") ∈ lw_tbl := by decide +kernel
abbrev lw_flat : List Cond := flatC (given_1.and narrow_1)
theorem m_ex : ∀ i, i < 11 → Cond.exactly (tmS i) "java/lang/String" ∈ lw_flat := by decide +kernel
theorem m_co : ∀ i, i < 11 → Cond.eq (.field (tmS i) "java/lang/String" "coder" "B") (.int 0) ∈ lw_flat := by decide +kernel
theorem m_ar : ∀ i, i < 11 → Cond.arrayOf (.field (tmS i) "java/lang/String" "value" "[B") .byte ∈ lw_flat := by decide +kernel
theorem m_le : ∀ i, i < 11 → Cond.eq (.length (.field (tmS i) "java/lang/String" "value" "[B")) (.int (Int32.ofNat (lenS.getD i 0))) ∈ lw_flat := by decide +kernel
theorem m_el : ∀ i, i < 11 → ∀ j, j < lenS.getD i 0 → Cond.eq (.elem (.field (tmS i) "java/lang/String" "value" "[B") (.int (Int32.ofNat j))) (.int ((bytS.getD i []).getD j 0)) ∈ lw_flat := by decide +kernel
theorem m_ne : ∀ i, i < 11 → ∀ j, j < 11 → i = j ∨ (Cond.not (Cond.eq (tmS i) (tmS j)) ∈ lw_flat ∨ Cond.not (Cond.eq (tmS j) (tmS i)) ∈ lw_flat) := by decide +kernel
theorem m_cs : Cond.eq (.static "java/lang/String" "COMPACT_STRINGS" "Z") (.int 1) ∈ lw_flat := by decide +kernel
theorem sk_start {s : State} {A : Array Value} (h : (Jvm.Cond.and given_1 narrow_1).before A s = true) (hts0 : ∀ w ∈ lw_tbl, w.before A s = true) : ∃ adK adV, SK adK adV (fun q => s.heap.size ≤ q) s s.heap := by
  have hs := flat_of_before _ h
  have hA : ∀ a : Nat, a < s.heap.size → ¬ (fun q : Nat => s.heap.size ≤ q) a := fun a ha => Nat.not_le.mpr ha
  obtain ⟨adK, adV, e1, e2⟩ := vk_Sof (args := A) (s := s) (N := 11) (tm := tmS) (len := lenS) (byt := bytS) (A := fun q => s.heap.size ≤ q) (fun i hi => by have := len_s i hi; omega) (fun i hi => hs _ (m_ex i hi)) (fun i hi => hs _ (m_co i hi)) (fun i hi => hs _ (m_ar i hi)) (fun i hi => hs _ (m_le i hi)) (fun i hi j hj => hs _ (m_el i hi j hj)) (fun i j hi hj hij => by
    rcases m_ne i hi j hj with q | q | q
    · exact absurd q hij
    · exact Or.inl (hs _ q)
    · exact Or.inr (hs _ q)) hA
  have hr : ∀ i, i < 11 → vk_R "CalledTouches$Start" (kS.getD i 0) (litS.getD i "") (adK i) s := fun i hi => vk_R.of (hts0 _ (qref i hi)) (e2 i hi)
  exact ⟨adK, adV, e1, va_Zof (hts0 _ qlay) (hts0 _ qini) (va_eqt (hs _ m_cs)) hA, hr 0 (by decide), hr 1 (by decide), hr 2 (by decide), hr 3 (by decide), hr 4 (by decide), hr 5 (by decide), hr 6 (by decide), hr 7 (by decide), hr 8 (by decide), hr 9 (by decide), hr 10 (by decide)⟩
