/-! ===== the tables' part of the start ===== -/
theorem arr_of {ty : FieldType} {A : Array Value} {s : State} (h : (Cond.arrayClass ty).before A s = true) : ∃ cA, ArrOfT s cA ty ∧ s.vm.findClass ("[" ++ ty.toString) = some cA := by
  obtain ⟨c, k, comp, h1, h2, h3⟩ := Cond.arrayClass_spec h
  exact ⟨c, fun n z => ⟨fun k h => (by cases h), k, h2, comp, h3⟩, h1⟩
theorem arrq_of {C : String} {A : Array Value} {s : State} (h : (Cond.arrayOver (.object C)).before A s = true) : ∃ cA, ArrOfT s cA (.object C) ∧ va_RA s cA (.object C) := by
  obtain ⟨comp, c, k, h1, h2, h3, h4, h5⟩ := Cond.arrayOver_spec h
  exact ⟨c, fun n z => ⟨fun k h => (by cases h), k, h3, comp, h4⟩, k, comp, h3, h4, h1, h5⟩
theorem ev_start {s : State} {A : Array Value} (hts0 : ∀ w ∈ lw_tbl, w.before A s = true) (hao : (Cond.arrayOver (.object RX9)).before A s = true) (hnest : ∀ w ∈ lw_nest, w.onTables = true) : ∃ D Y, EV D Y s := by
  have hts : ∀ w ∈ lw_all, w.before A s = true := fun w h => hts0 w (List.mem_filter.mp h).1
  obtain ⟨c0, i0, k0⟩ := u_known hts inX0 (hts _ qw127)
  obtain ⟨c1, i1, k1⟩ := u_known hts inX1 (hts _ qw214)
  obtain ⟨c2, i2, k2⟩ := u_known hts inX2 (hts _ qw160)
  obtain ⟨c3, i3, k3⟩ := u_known hts inX3 (hts _ qw144)
  obtain ⟨c5, i5, k5⟩ := u_known hts inX5 (hts _ qw185)
  obtain ⟨c7, i7, k7⟩ := u_known hts inX7 (hts _ qw220)
  obtain ⟨c9, i9, k9⟩ := u_known hts inX9 (hts _ qw89)
  obtain ⟨c10, i10, k10⟩ := u_known hts inX10 (hts _ qw81)
  obtain ⟨c11, i11, k11⟩ := u_known hts inX11 (hts _ qw752)
  obtain ⟨y1, a1, b1'⟩ := arr_of (hts _ qw125)
  obtain ⟨y2, a2, b2⟩ := arr_of (hts _ qw158)
  obtain ⟨y3, a3, b3⟩ := arrq_of hao
  refine ⟨(fun c => [c0, c1, c2, c3, c5, c7, c9, c10, c11].getD c c0, fun c => [i0, i1, i2, i3, i5, i7, i9, i10, i11].getD c i0), (y1, y2, y3), ⟨fun c q h => ?_, fun k q h => ?_⟩, fun w hw => va_Nw.of (hnest w hw) (hts0 w (List.mem_filter.mp hw).1), va_AO.of hao⟩
  · match c, h with
    | 0, h => obtain rfl := Option.some.inj h; exact k0
    | 1, h => obtain rfl := Option.some.inj h; exact k1
    | 2, h => obtain rfl := Option.some.inj h; exact k2
    | 3, h => obtain rfl := Option.some.inj h; exact k3
    | 4, h => obtain rfl := Option.some.inj h; exact k5
    | 5, h => obtain rfl := Option.some.inj h; exact k7
    | 6, h => obtain rfl := Option.some.inj h; exact k9
    | 7, h => obtain rfl := Option.some.inj h; exact k10
    | 8, h => obtain rfl := Option.some.inj h; exact k11
    | c + 9, h => exact absurd h (by simp [vwCl])
  · match k, h with
    | 0, h => obtain rfl := Option.some.inj h; exact ⟨a1, b1'⟩
    | 1, h => obtain rfl := Option.some.inj h; exact ⟨a2, b2⟩
    | 2, h => obtain rfl := Option.some.inj h; exact ⟨a3, b3⟩
    | k + 3, h => exact absurd h (by simp)
theorem nest_tab {w : Cond} (h : nestish w = true) : w.onTables = true := by
  cases w <;> first | rfl | exact Bool.noConfusion (show false = true from h)
theorem qao : Cond.arrayOver (.object RX9) ∈ lw_tbl := List.mem_of_getElem? (i := 133) (by decide +kernel)
theorem ev_of {s : State} {A : Array Value} (hts0 : ∀ w ∈ lw_tbl, w.before A s = true) : ∃ D Y, EV D Y s := ev_start hts0 (hts0 _ qao) (fun _ hw => nest_tab (List.mem_filter.mp hw).2)
