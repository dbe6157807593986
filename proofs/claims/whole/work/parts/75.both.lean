/-! ===== one call on both sides, over LI ===== -/
theorem z_bells (hsn : Int32) (t tr sn : TV) (hsz : Int32) (hh : Nat → TV) (pl : Int32) (ps : Nat → Int32) (rc rm rl rx : Int32) (rp : Nat → Int32) (gb gc gl ga : Int32) (gr gf go : Nat → Int32) (wb fb vs : Int32) (few rch : Nat → Int32) (ub us : Int32) (ufew urch lv lb : Nat → Int32) (vk vp ty ve vm vq : Int32) (s9 past kept pad cell other rows read track lead distance line : Nat → Int32) (hI : LI hsn t sn hsz hh pl ps wb fb few lv vk vp ty s9 past kept pad) (s1 : Int32) : ∃ (R1 : Int32 × Int32 × Int32 × Int32 × Int32 × Int32 × (Nat → Int32) × Int32 × (Nat → TV) × Int32 × Int32 × Int32 × Int32 × (Nat → Int32)) (R2 : Int32 × Int32 × (Nat → Int32) × (Nat → Int32)), f_X10_bells s1 t.1 t.2.1 t.2.2.1 t.2.2.2.1 t.2.2.2.2.1 t.2.2.2.2.2.1 t.2.2.2.2.2.2 hsz hh rc rm rl rx rp = some R1 ∧ f_X11_bells s1 vp s9 past = some R2 ∧ R1.1 = R2.1 ∧ LI hsn (R1.2.1, R1.2.2.1, R1.2.2.2.1, R1.2.2.2.2.1, R1.2.2.2.2.2.1, R1.2.2.2.2.2.2.1, t.2.2.2.2.2.2) sn R1.2.2.2.2.2.2.2.1 R1.2.2.2.2.2.2.2.2.1 pl ps wb fb few lv vk R2.2.1 ty R2.2.2.1 R2.2.2.2 kept pad := by
  obtain ⟨hX, hp, hk, hc⟩ := hI
  obtain ⟨z0, z1, z2, z3, z4, z5, z6, z7, z8, z9, z10, z11, z12, z13, z14, z15, z16, e1, e2, hX'⟩ := x_bells hX s1 rc rm rl rx rp
  exact ⟨_, _, e1, e2, rfl, hX', hp, hk, hc⟩
theorem z_method (hsn : Int32) (t tr sn : TV) (hsz : Int32) (hh : Nat → TV) (pl : Int32) (ps : Nat → Int32) (rc rm rl rx : Int32) (rp : Nat → Int32) (gb gc gl ga : Int32) (gr gf go : Nat → Int32) (wb fb vs : Int32) (few rch : Nat → Int32) (ub us : Int32) (ufew urch lv lb : Nat → Int32) (vk vp ty ve vm vq : Int32) (s9 past kept pad cell other rows read track lead distance line : Nat → Int32) (hI : LI hsn t sn hsz hh pl ps wb fb few lv vk vp ty s9 past kept pad) : ∃ (R1 : Int32 × Int32 × (Nat → Int32) × Int32 × (Nat → TV) × Int32 × Int32 × Int32 × Int32 × Int32 × (Nat → Int32)) (R2 : Int32 × Int32 × Int32 × Int32 × Int32 × (Nat → Int32) × (Nat → Int32) × (Nat → Int32)), f_X10_method t.1 t.2.1 t.2.2.1 t.2.2.2.1 t.2.2.2.2.1 t.2.2.2.2.2.1 t.2.2.2.2.2.2 hsz hh pl ps rc rm rl rx rp = some R1 ∧ f_X11_method vp ty vm vq s9 past pad read = some R2 ∧ R1.1 = R2.1 ∧ LI hsn (t.1, R1.2.1, t.2.2.1, t.2.2.2.1, t.2.2.2.2.1, R1.2.2.1, t.2.2.2.2.2.2) sn R1.2.2.2.1 R1.2.2.2.2.1 R1.2.2.2.2.2.1 ps wb fb few lv vk R2.2.1 R2.2.2.1 R2.2.2.2.2.2.1 R2.2.2.2.2.2.2.1 kept pad := by
  obtain ⟨hX, hp, hk, hc⟩ := hI
  obtain ⟨z0, z1, z2, z3, z4, z5, z6, z7, z8, z9, z10, z11, z12, z13, z14, z15, z16, z17, e1, e2, hX', hp'⟩ := x_method hX hp rc rm rl rx vm vq rp read
  exact ⟨_, _, e1, e2, rfl, hX', hp', hk, hc⟩
theorem z_call (hsn : Int32) (t tr sn : TV) (hsz : Int32) (hh : Nat → TV) (pl : Int32) (ps : Nat → Int32) (rc rm rl rx : Int32) (rp : Nat → Int32) (gb gc gl ga : Int32) (gr gf go : Nat → Int32) (wb fb vs : Int32) (few rch : Nat → Int32) (ub us : Int32) (ufew urch lv lb : Nat → Int32) (vk vp ty ve vm vq : Int32) (s9 past kept pad cell other rows read track lead distance line : Nat → Int32) (hI : LI hsn t sn hsz hh pl ps wb fb few lv vk vp ty s9 past kept pad) (s1 : Int32) (s2 : Int32) : ∃ (R1 : Int32 × Int32 × Int32 × Int32 × (Nat → TV)) (R2 : Int32 × Int32 × (Nat → Int32) × (Nat → Int32)), f_X10_call s1 s2 t.1 t.2.1 t.2.2.1 t.2.2.2.1 t.2.2.2.2.1 t.2.2.2.2.2.1 t.2.2.2.2.2.2 hsz hh = some R1 ∧ f_X11_call s1 s2 vp s9 past = some R2 ∧ R1.1 = R2.1 ∧ LI hsn (t.1, t.2.1, R1.2.1, R1.2.2.1, t.2.2.2.2.1, t.2.2.2.2.2.1, t.2.2.2.2.2.2) sn R1.2.2.2.1 R1.2.2.2.2 pl ps wb fb few lv vk R2.2.1 ty R2.2.2.1 R2.2.2.2 kept pad := by
  obtain ⟨hX, hp, hk, hc⟩ := hI
  obtain ⟨z0, z1, z2, z3, z4, z5, z6, z7, e1, e2, hX'⟩ := x_call hX s1 s2
  exact ⟨_, _, e1, e2, rfl, hX', hp, hk, hc⟩
theorem z_touch (hsn : Int32) (t tr sn : TV) (hsz : Int32) (hh : Nat → TV) (pl : Int32) (ps : Nat → Int32) (rc rm rl rx : Int32) (rp : Nat → Int32) (gb gc gl ga : Int32) (gr gf go : Nat → Int32) (wb fb vs : Int32) (few rch : Nat → Int32) (ub us : Int32) (ufew urch lv lb : Nat → Int32) (vk vp ty ve vm vq : Int32) (s9 past kept pad cell other rows read track lead distance line : Nat → Int32) (hI : LI hsn t sn hsz hh pl ps wb fb few lv vk vp ty s9 past kept pad) : ∃ (R1 : Int32 × Int32 × (Nat → Int32) × Int32 × (Nat → TV) × Int32) (R2 : Int32 × Int32 × Int32 × (Nat → Int32) × (Nat → Int32)), f_X10_touch t.1 t.2.1 t.2.2.1 t.2.2.2.1 t.2.2.2.2.1 t.2.2.2.2.2.1 t.2.2.2.2.2.2 hsz hh pl ps = some R1 ∧ f_X11_touch vp ty s9 past pad = some R2 ∧ R1.1 = R2.1 ∧ LI hsn (t.1, t.2.1, t.2.2.1, t.2.2.2.1, R1.2.1, t.2.2.2.2.2.1, R1.2.2.1) sn R1.2.2.2.1 R1.2.2.2.2.1 R1.2.2.2.2.2 ps wb fb few lv vk R2.2.1 R2.2.2.1 R2.2.2.2.1 R2.2.2.2.2 kept pad := by
  obtain ⟨hX, hp, hk, hc⟩ := hI
  obtain ⟨z0, z1, z2, z3, z4, z5, z6, z7, z8, z9, e1, e2, hX', hp'⟩ := x_touch hX hp
  exact ⟨_, _, e1, e2, rfl, hX', hp', hk, hc⟩
theorem z_add (hsn : Int32) (t tr sn : TV) (hsz : Int32) (hh : Nat → TV) (pl : Int32) (ps : Nat → Int32) (rc rm rl rx : Int32) (rp : Nat → Int32) (gb gc gl ga : Int32) (gr gf go : Nat → Int32) (wb fb vs : Int32) (few rch : Nat → Int32) (ub us : Int32) (ufew urch lv lb : Nat → Int32) (vk vp ty ve vm vq : Int32) (s9 past kept pad cell other rows read track lead distance line : Nat → Int32) (hI : LI hsn t sn hsz hh pl ps wb fb few lv vk vp ty s9 past kept pad) (s1 : Int32) : ∃ (R1 : Int32 × Int32 × (Nat → Int32) × Int32 × (Nat → TV)) (R2 : Int32 × Int32 × (Nat → Int32) × (Nat → Int32)), f_X10_add s1 t.1 t.2.1 t.2.2.1 t.2.2.2.1 t.2.2.2.2.1 t.2.2.2.2.2.1 t.2.2.2.2.2.2 hsz hh = some R1 ∧ f_X11_add s1 vp s9 past = some R2 ∧ R1.1 = R2.1 ∧ LI hsn (t.1, t.2.1, t.2.2.1, t.2.2.2.1, R1.2.1, t.2.2.2.2.2.1, R1.2.2.1) sn R1.2.2.2.1 R1.2.2.2.2 pl ps wb fb few lv vk R2.2.1 ty R2.2.2.1 R2.2.2.2 kept pad := by
  obtain ⟨hX, hp, hk, hc⟩ := hI
  obtain ⟨z0, z1, z2, z3, z4, z5, z6, z7, e1, e2, hX'⟩ := x_add hX s1
  exact ⟨_, _, e1, e2, rfl, hX', hp, hk, hc⟩
theorem z_cut (hsn : Int32) (t tr sn : TV) (hsz : Int32) (hh : Nat → TV) (pl : Int32) (ps : Nat → Int32) (rc rm rl rx : Int32) (rp : Nat → Int32) (gb gc gl ga : Int32) (gr gf go : Nat → Int32) (wb fb vs : Int32) (few rch : Nat → Int32) (ub us : Int32) (ufew urch lv lb : Nat → Int32) (vk vp ty ve vm vq : Int32) (s9 past kept pad cell other rows read track lead distance line : Nat → Int32) (hI : LI hsn t sn hsz hh pl ps wb fb few lv vk vp ty s9 past kept pad) (s1 : Int32) : ∃ (R1 : Int32 × Int32 × Int32 × (Nat → TV)) (R2 : Int32 × Int32 × (Nat → Int32) × (Nat → Int32)), f_X10_cut s1 t.1 t.2.1 t.2.2.1 t.2.2.2.1 t.2.2.2.2.1 t.2.2.2.2.2.1 t.2.2.2.2.2.2 hsz hh = some R1 ∧ f_X11_cut s1 vp s9 past = some R2 ∧ R1.1 = R2.1 ∧ LI hsn (t.1, t.2.1, t.2.2.1, t.2.2.2.1, R1.2.1, t.2.2.2.2.2.1, t.2.2.2.2.2.2) sn R1.2.2.1 R1.2.2.2 pl ps wb fb few lv vk R2.2.1 ty R2.2.2.1 R2.2.2.2 kept pad := by
  obtain ⟨hX, hp, hk, hc⟩ := hI
  obtain ⟨z0, z1, z2, z3, z4, z5, z6, e1, e2, hX'⟩ := x_cut hX s1
  exact ⟨_, _, e1, e2, rfl, hX', hp, hk, hc⟩
theorem z_append (hsn : Int32) (t tr sn : TV) (hsz : Int32) (hh : Nat → TV) (pl : Int32) (ps : Nat → Int32) (rc rm rl rx : Int32) (rp : Nat → Int32) (gb gc gl ga : Int32) (gr gf go : Nat → Int32) (wb fb vs : Int32) (few rch : Nat → Int32) (ub us : Int32) (ufew urch lv lb : Nat → Int32) (vk vp ty ve vm vq : Int32) (s9 past kept pad cell other rows read track lead distance line : Nat → Int32) (hI : LI hsn t sn hsz hh pl ps wb fb few lv vk vp ty s9 past kept pad) (s1 : Int32) : ∃ (R1 : Int32 × Int32 × (Nat → Int32)) (R2 : Int32 × Int32 × (Nat → Int32)), f_X10_append s1 pl ps = some R1 ∧ f_X11_append s1 ty pad = some R2 ∧ R1.1 = R2.1 ∧ LI hsn t sn hsz hh R1.2.1 R1.2.2 wb fb few lv vk vp R2.2.1 s9 past kept R2.2.2 := by
  obtain ⟨hX, hp, hk, hc⟩ := hI
  obtain ⟨z0, z1, z2, z3, z4, e1, e2, hp'⟩ := x_append hp s1
  exact ⟨_, _, e1, e2, rfl, hX, hp', hk, hc⟩
theorem z_clear (hsn : Int32) (t tr sn : TV) (hsz : Int32) (hh : Nat → TV) (pl : Int32) (ps : Nat → Int32) (rc rm rl rx : Int32) (rp : Nat → Int32) (gb gc gl ga : Int32) (gr gf go : Nat → Int32) (wb fb vs : Int32) (few rch : Nat → Int32) (ub us : Int32) (ufew urch lv lb : Nat → Int32) (vk vp ty ve vm vq : Int32) (s9 past kept pad cell other rows read track lead distance line : Nat → Int32) (hI : LI hsn t sn hsz hh pl ps wb fb few lv vk vp ty s9 past kept pad) : ∃ (R1 : Int32 × Int32) (R2 : Int32 × Int32), f_X10_clear pl = R1 ∧ f_X11_clear ty = R2 ∧ R1.1 = R2.1 ∧ LI hsn t sn hsz hh R1.2 ps wb fb few lv vk vp R2.2 s9 past kept pad := by
  obtain ⟨hX, hp, hk, hc⟩ := hI
  obtain ⟨N, tx, h1, h2, h3, h4⟩ := hp
  exact ⟨_, _, rfl, rfl, (by show pl = ty; rw [h2, h3]), hX, ⟨0, tx, by omega, rfl, rfl, fun i hi => absurd hi (by omega)⟩, hk, hc⟩
theorem z_fault (hsn : Int32) (t tr sn : TV) (hsz : Int32) (hh : Nat → TV) (pl : Int32) (ps : Nat → Int32) (rc rm rl rx : Int32) (rp : Nat → Int32) (gb gc gl ga : Int32) (gr gf go : Nat → Int32) (wb fb vs : Int32) (few rch : Nat → Int32) (ub us : Int32) (ufew urch lv lb : Nat → Int32) (vk vp ty ve vm vq : Int32) (s9 past kept pad cell other rows read track lead distance line : Nat → Int32) (hI : LI hsn t sn hsz hh pl ps wb fb few lv vk vp ty s9 past kept pad) (s1 : Int32) : ∃ (R1 : Int32 × Int32 × Int32 × Int32 × Int32 × (Nat → Int32)) (R2 : Int32 × Int32 × Int32 × (Nat → Int32)), f_X10_fault s1 t.1 pl ps rc rm rl rx rp = some R1 ∧ f_X11_fault s1 ty vm vq s9 pad read = some R2 ∧ R1.1 = R2.1 ∧ LI hsn t sn hsz hh pl ps wb fb few lv vk vp ty s9 past kept pad := by
  obtain ⟨hX, hp, hk, hc⟩ := hI
  obtain ⟨⟨n, m, b, g, l⟩, P, h1, h2, h3, hq⟩ := hX
  have t1 : t.1 = nI n := h2.1
  have h1' : OKs n m b g l := h1
  have h3' : SR n m b g l s9 := h3
  obtain ⟨v, q1, q2, q3, q4, q5, p1, p2, p3, e1, e2⟩ := x_fault h1'.1.1 h1'.1.2 h3'.1 hp s1 rc rm rl rx vm vq rp read
  have e0 : f_X10_fault s1 t.1 pl ps rc rm rl rx rp = f_X10_fault s1 (nI n) pl ps rc rm rl rx rp := by rw [t1]
  exact ⟨_, _, e0.trans e1, e2, rfl, ⟨(n, m, b, g, l), P, h1, h2, h3, hq⟩, hp, hk, hc⟩
theorem z_bell (hsn : Int32) (t tr sn : TV) (hsz : Int32) (hh : Nat → TV) (pl : Int32) (ps : Nat → Int32) (rc rm rl rx : Int32) (rp : Nat → Int32) (gb gc gl ga : Int32) (gr gf go : Nat → Int32) (wb fb vs : Int32) (few rch : Nat → Int32) (ub us : Int32) (ufew urch lv lb : Nat → Int32) (vk vp ty ve vm vq : Int32) (s9 past kept pad cell other rows read track lead distance line : Nat → Int32) (hI : LI hsn t sn hsz hh pl ps wb fb few lv vk vp ty s9 past kept pad) (s1 : Int32) (s2 : Int32) : ∃ (R1 : Int32 × Int32 × Int32 × Int32 × Int32 × (Nat → Int32) × (Nat → Int32) × (Nat → Int32)) (R2 : Int32 × Int32 × (Nat → Int32) × (Nat → Int32)), f_X10_bell s1 s2 t.1 t.2.1 t.2.2.1 t.2.2.2.1 t.2.2.2.2.1 t.2.2.2.2.2.1 t.2.2.2.2.2.2 gb gc gl ga gr gf go = some R1 ∧ f_X11_bell s1 s2 ve s9 cell rows = some R2 ∧ R1.1 = R2.1 ∧ LI hsn t sn hsz hh pl ps wb fb few lv vk vp ty s9 past kept pad := by
  obtain ⟨hX, hp, hk, hc⟩ := hI
  obtain ⟨⟨n, m, b, g, l⟩, P, h1, h2, h3, hq⟩ := hX
  obtain ⟨t1, t2, t3, t4, t5, t6, t7⟩ := id h2
  have t1 : t.1 = nI n := t1
  have t2 : t.2.1 = nI m.length := t2
  have t3 : t.2.2.1 = nI b := t3
  have t4 : t.2.2.2.1 = nI g := t4
  have t5 : t.2.2.2.2.1 = nI l.length := t5
  obtain ⟨z0, z1, z2, z3, z4, z5, z6, z7, z8, z9, z10, e1, e2⟩ := x_bell (show OKs n m b g l from h1) (show SR n m b g l s9 from h3) t6 t7 s1 s2 gb gc gl ga ve gr gf go cell rows
  have e0 : f_X10_bell s1 s2 t.1 t.2.1 t.2.2.1 t.2.2.2.1 t.2.2.2.2.1 t.2.2.2.2.2.1 t.2.2.2.2.2.2 gb gc gl ga gr gf go = f_X10_bell s1 s2 (nI n) (nI m.length) (nI b) (nI g) (nI l.length) t.2.2.2.2.2.1 t.2.2.2.2.2.2 gb gc gl ga gr gf go := by rw [t1, t2, t3, t4, t5]
  exact ⟨_, _, e0.trans e1, e2, rfl, ⟨(n, m, b, g, l), P, h1, h2, h3, hq⟩, hp, hk, hc⟩
theorem z_change (hsn : Int32) (t tr sn : TV) (hsz : Int32) (hh : Nat → TV) (pl : Int32) (ps : Nat → Int32) (rc rm rl rx : Int32) (rp : Nat → Int32) (gb gc gl ga : Int32) (gr gf go : Nat → Int32) (wb fb vs : Int32) (few rch : Nat → Int32) (ub us : Int32) (ufew urch lv lb : Nat → Int32) (vk vp ty ve vm vq : Int32) (s9 past kept pad cell other rows read track lead distance line : Nat → Int32) (hI : LI hsn t sn hsz hh pl ps wb fb few lv vk vp ty s9 past kept pad) (s1 : Int32) (s2 : Int32) : ∃ (R1 : Int32) (R2 : Int32), f_X10_change s1 s2 t.2.1 t.2.2.1 t.2.2.2.1 t.2.2.2.2.1 t.2.2.2.2.2.1 t.2.2.2.2.2.2 = some R1 ∧ f_X11_change s1 s2 s9 = some R2 ∧ R1 = R2 ∧ LI hsn t sn hsz hh pl ps wb fb few lv vk vp ty s9 past kept pad := by
  obtain ⟨hX, hp, hk, hc⟩ := hI
  obtain ⟨⟨n, m, b, g, l⟩, P, h1, h2, h3, hq⟩ := hX
  obtain ⟨t1, t2, t3, t4, t5, t6, t7⟩ := id h2
  have t1 : t.1 = nI n := t1
  have t2 : t.2.1 = nI m.length := t2
  have t3 : t.2.2.1 = nI b := t3
  have t4 : t.2.2.2.1 = nI g := t4
  have t5 : t.2.2.2.2.1 = nI l.length := t5
  obtain ⟨z0, e1, e2⟩ := x_change (show OKs n m b g l from h1) (show SR n m b g l s9 from h3) t6 t7 s1 s2
  have e0 : f_X10_change s1 s2 t.2.1 t.2.2.1 t.2.2.2.1 t.2.2.2.2.1 t.2.2.2.2.2.1 t.2.2.2.2.2.2 = f_X10_change s1 s2 (nI m.length) (nI b) (nI g) (nI l.length) t.2.2.2.2.2.1 t.2.2.2.2.2.2 := by rw [t2, t3, t4, t5]
  exact ⟨_, _, e0.trans e1, e2, rfl, ⟨(n, m, b, g, l), P, h1, h2, h3, hq⟩, hp, hk, hc⟩
theorem z_row (hsn : Int32) (t tr sn : TV) (hsz : Int32) (hh : Nat → TV) (pl : Int32) (ps : Nat → Int32) (rc rm rl rx : Int32) (rp : Nat → Int32) (gb gc gl ga : Int32) (gr gf go : Nat → Int32) (wb fb vs : Int32) (few rch : Nat → Int32) (ub us : Int32) (ufew urch lv lb : Nat → Int32) (vk vp ty ve vm vq : Int32) (s9 past kept pad cell other rows read track lead distance line : Nat → Int32) (hI : LI hsn t sn hsz hh pl ps wb fb few lv vk vp ty s9 past kept pad) (s1 : Int32) (s2 : Int32) : ∃ (R1 : Int32 × Int32 × Int32 × Int32 × Int32 × (Nat → Int32) × (Nat → Int32) × (Nat → Int32) × Int32 × Int32 × Int32 × (Nat → Int32) × (Nat → Int32) × (Nat → Int32) × (Nat → Int32)) (R2 : Int32 × Int32 × (Nat → Int32) × (Nat → Int32) × (Nat → Int32) × (Nat → Int32) × (Nat → Int32) × (Nat → Int32)), f_X10_row s1 s2 t.1 t.2.1 t.2.2.1 t.2.2.2.1 t.2.2.2.2.1 t.2.2.2.2.2.1 t.2.2.2.2.2.2 gb gc gl ga gr gf go wb fb vs few rch lv lb = some R1 ∧ f_X11_row s1 s2 ve s9 cell other rows lead distance line = some R2 ∧ R1.1 = R2.1 ∧ LI hsn t sn hsz hh pl ps R1.2.2.2.2.2.2.2.2.1 R1.2.2.2.2.2.2.2.2.2.1 R1.2.2.2.2.2.2.2.2.2.2.2.1 R1.2.2.2.2.2.2.2.2.2.2.2.2.2.1 vk vp ty s9 past kept pad := by
  obtain ⟨hX, hp, hk, hc⟩ := hI
  obtain ⟨⟨n, m, b, g, l⟩, P, h1, h2, h3, hq⟩ := hX
  obtain ⟨t1, t2, t3, t4, t5, t6, t7⟩ := id h2
  have t1 : t.1 = nI n := t1
  have t2 : t.2.1 = nI m.length := t2
  have t3 : t.2.2.1 = nI b := t3
  have t4 : t.2.2.2.1 = nI g := t4
  have t5 : t.2.2.2.2.1 = nI l.length := t5
  obtain ⟨z0, z1, z2, z3, z4, z5, z6, z7, z8, z9, z10, z11, z12, z13, z14, z15, z16, z17, z18, z19, z20, z21, e1, e2, hc'⟩ := x_row (show OKs n m b g l from h1) (show SR n m b g l s9 from h3) t6 t7 s1 s2 gb gc gl ga ve gr gf go cell rows other lead distance line wb fb vs few rch lv lb hc
  have e0 : f_X10_row s1 s2 t.1 t.2.1 t.2.2.1 t.2.2.2.1 t.2.2.2.2.1 t.2.2.2.2.2.1 t.2.2.2.2.2.2 gb gc gl ga gr gf go wb fb vs few rch lv lb = f_X10_row s1 s2 (nI n) (nI m.length) (nI b) (nI g) (nI l.length) t.2.2.2.2.2.1 t.2.2.2.2.2.2 gb gc gl ga gr gf go wb fb vs few rch lv lb := by rw [t1, t2, t3, t4, t5]
  exact ⟨_, _, e0.trans e1, e2, rfl, ⟨(n, m, b, g, l), P, h1, h2, h3, hq⟩, hp, hk, hc'⟩
theorem z_path (hsn : Int32) (t tr sn : TV) (hsz : Int32) (hh : Nat → TV) (pl : Int32) (ps : Nat → Int32) (rc rm rl rx : Int32) (rp : Nat → Int32) (gb gc gl ga : Int32) (gr gf go : Nat → Int32) (wb fb vs : Int32) (few rch : Nat → Int32) (ub us : Int32) (ufew urch lv lb : Nat → Int32) (vk vp ty ve vm vq : Int32) (s9 past kept pad cell other rows read track lead distance line : Nat → Int32) (hI : LI hsn t sn hsz hh pl ps wb fb few lv vk vp ty s9 past kept pad) (s1 : Int32) (s2 : Int32) : ∃ (R1 : Int32 × Int32 × Int32 × Int32 × Int32 × (Nat → Int32) × (Nat → Int32) × (Nat → Int32)) (R2 : Int32 × Int32 × (Nat → Int32) × (Nat → Int32) × (Nat → Int32)), f_X10_path s1 s2 t.1 t.2.1 t.2.2.1 t.2.2.2.1 t.2.2.2.2.1 t.2.2.2.2.2.1 t.2.2.2.2.2.2 gb gc gl ga gr gf go = some R1 ∧ f_X11_path s1 s2 ve s9 cell rows track = some R2 ∧ R1.1 = R2.1 ∧ LI hsn t sn hsz hh pl ps wb fb few lv vk vp ty s9 past kept pad := by
  obtain ⟨hX, hp, hk, hc⟩ := hI
  obtain ⟨⟨n, m, b, g, l⟩, P, h1, h2, h3, hq⟩ := hX
  obtain ⟨t1, t2, t3, t4, t5, t6, t7⟩ := id h2
  have t1 : t.1 = nI n := t1
  have t2 : t.2.1 = nI m.length := t2
  have t3 : t.2.2.1 = nI b := t3
  have t4 : t.2.2.2.1 = nI g := t4
  have t5 : t.2.2.2.2.1 = nI l.length := t5
  obtain ⟨z0, z1, z2, z3, z4, z5, z6, z7, z8, z9, z10, z11, e1, e2⟩ := x_path (show OKs n m b g l from h1) (show SR n m b g l s9 from h3) t6 t7 s1 s2 gb gc gl ga ve gr gf go cell rows track
  have e0 : f_X10_path s1 s2 t.1 t.2.1 t.2.2.1 t.2.2.2.1 t.2.2.2.2.1 t.2.2.2.2.2.1 t.2.2.2.2.2.2 gb gc gl ga gr gf go = f_X10_path s1 s2 (nI n) (nI m.length) (nI b) (nI g) (nI l.length) t.2.2.2.2.2.1 t.2.2.2.2.2.2 gb gc gl ga gr gf go := by rw [t1, t2, t3, t4, t5]
  exact ⟨_, _, e0.trans e1, e2, rfl, ⟨(n, m, b, g, l), P, h1, h2, h3, hq⟩, hp, hk, hc⟩
theorem z_blows (hsn : Int32) (t tr sn : TV) (hsz : Int32) (hh : Nat → TV) (pl : Int32) (ps : Nat → Int32) (rc rm rl rx : Int32) (rp : Nat → Int32) (gb gc gl ga : Int32) (gr gf go : Nat → Int32) (wb fb vs : Int32) (few rch : Nat → Int32) (ub us : Int32) (ufew urch lv lb : Nat → Int32) (vk vp ty ve vm vq : Int32) (s9 past kept pad cell other rows read track lead distance line : Nat → Int32) (hI : LI hsn t sn hsz hh pl ps wb fb few lv vk vp ty s9 past kept pad) (s1 : Int32) (s2 : Int32) : ∃ (R1 : Int32 × Int32 × Int32 × Int32 × Int32 × (Nat → Int32) × (Nat → Int32) × (Nat → Int32)) (R2 : Int32 × Int32 × (Nat → Int32) × (Nat → Int32) × (Nat → Int32)), f_X10_blows s1 s2 t.1 t.2.1 t.2.2.1 t.2.2.2.1 t.2.2.2.2.1 t.2.2.2.2.2.1 t.2.2.2.2.2.2 gb gc gl ga gr gf go = some R1 ∧ f_X11_blows s1 s2 ve s9 cell rows track = some R2 ∧ R1.1 = R2.1 ∧ LI hsn t sn hsz hh pl ps wb fb few lv vk vp ty s9 past kept pad := by
  obtain ⟨hX, hp, hk, hc⟩ := hI
  obtain ⟨⟨n, m, b, g, l⟩, P, h1, h2, h3, hq⟩ := hX
  obtain ⟨t1, t2, t3, t4, t5, t6, t7⟩ := id h2
  have t1 : t.1 = nI n := t1
  have t2 : t.2.1 = nI m.length := t2
  have t3 : t.2.2.1 = nI b := t3
  have t4 : t.2.2.2.1 = nI g := t4
  have t5 : t.2.2.2.2.1 = nI l.length := t5
  obtain ⟨z0, z1, z2, z3, z4, z5, z6, z7, z8, z9, z10, z11, e1, e2⟩ := x_blows (show OKs n m b g l from h1) (show SR n m b g l s9 from h3) t6 t7 s1 s2 gb gc gl ga ve gr gf go cell rows track
  have e0 : f_X10_blows s1 s2 t.1 t.2.1 t.2.2.1 t.2.2.2.1 t.2.2.2.2.1 t.2.2.2.2.2.1 t.2.2.2.2.2.2 gb gc gl ga gr gf go = f_X10_blows s1 s2 (nI n) (nI m.length) (nI b) (nI g) (nI l.length) t.2.2.2.2.2.1 t.2.2.2.2.2.2 gb gc gl ga gr gf go := by rw [t1, t2, t3, t4, t5]
  exact ⟨_, _, e0.trans e1, e2, rfl, ⟨(n, m, b, g, l), P, h1, h2, h3, hq⟩, hp, hk, hc⟩
theorem z_count (hsn : Int32) (t tr sn : TV) (hsz : Int32) (hh : Nat → TV) (pl : Int32) (ps : Nat → Int32) (rc rm rl rx : Int32) (rp : Nat → Int32) (gb gc gl ga : Int32) (gr gf go : Nat → Int32) (wb fb vs : Int32) (few rch : Nat → Int32) (ub us : Int32) (ufew urch lv lb : Nat → Int32) (vk vp ty ve vm vq : Int32) (s9 past kept pad cell other rows read track lead distance line : Nat → Int32) (hI : LI hsn t sn hsz hh pl ps wb fb few lv vk vp ty s9 past kept pad) (s1 : Int32) : ∃ (R1 : Int32 × Int32 × Int32 × Int32 × Int32 × (Nat → Int32) × (Nat → Int32) × (Nat → Int32)) (R2 : Int32 × Int32 × (Nat → Int32) × (Nat → Int32)), f_X10_count s1 t.1 t.2.1 t.2.2.1 t.2.2.2.1 t.2.2.2.2.1 t.2.2.2.2.2.1 t.2.2.2.2.2.2 hsz pl gb gc gl ga gr gf go = some R1 ∧ f_X11_count s1 vp ty ve s9 cell rows = some R2 ∧ R1.1 = R2.1 ∧ LI hsn t sn hsz hh pl ps wb fb few lv vk vp ty s9 past kept pad := by
  obtain ⟨hX, hp, hk, hc⟩ := hI
  obtain ⟨⟨n, m, b, g, l⟩, P, h1, h2, h3, hq⟩ := hX
  obtain ⟨t1, t2, t3, t4, t5, t6, t7⟩ := id h2
  have t1 : t.1 = nI n := t1
  have t2 : t.2.1 = nI m.length := t2
  have t3 : t.2.2.1 = nI b := t3
  have t4 : t.2.2.2.1 = nI g := t4
  have t5 : t.2.2.2.2.1 = nI l.length := t5
  obtain ⟨z0, z1, z2, z3, z4, z5, z6, z7, z8, z9, z10, e1, e2⟩ := x_count (show OKs n m b g l from h1) (show SR n m b g l s9 from h3) t6 t7 s1 hsz pl gb gc gl ga ve gr gf go cell rows
  have e0 : f_X10_count s1 t.1 t.2.1 t.2.2.1 t.2.2.2.1 t.2.2.2.2.1 t.2.2.2.2.2.1 t.2.2.2.2.2.2 hsz pl gb gc gl ga gr gf go = f_X10_count s1 (nI n) (nI m.length) (nI b) (nI g) (nI l.length) t.2.2.2.2.2.1 t.2.2.2.2.2.2 hsz pl gb gc gl ga gr gf go := by rw [t1, t2, t3, t4, t5]
  have e8 : vp = hsz := hq.2.2.1.trans hq.2.1.symm
  have e9 : ty = pl := by obtain ⟨N, tx, j1, j2, j3, j4⟩ := hp; rw [j2, j3]
  subst e8 e9
  exact ⟨_, _, e0.trans e1, e2, rfl, ⟨(n, m, b, g, l), P, h1, h2, h3, hq⟩, hp, hk, hc⟩
theorem z_music (hsn : Int32) (t tr sn : TV) (hsz : Int32) (hh : Nat → TV) (pl : Int32) (ps : Nat → Int32) (rc rm rl rx : Int32) (rp : Nat → Int32) (gb gc gl ga : Int32) (gr gf go : Nat → Int32) (wb fb vs : Int32) (few rch : Nat → Int32) (ub us : Int32) (ufew urch lv lb : Nat → Int32) (vk vp ty ve vm vq : Int32) (s9 past kept pad cell other rows read track lead distance line : Nat → Int32) (hI : LI hsn t sn hsz hh pl ps wb fb few lv vk vp ty s9 past kept pad) : ∃ (R1 : UInt64 × Int32 × Int32 × Int32 × Int32 × (Nat → Int32) × (Nat → Int32) × (Nat → Int32)) (R2 : UInt64 × Int32 × (Nat → Int32) × (Nat → Int32)), f_X10_music t.1 t.2.1 t.2.2.1 t.2.2.2.1 t.2.2.2.2.1 t.2.2.2.2.2.1 t.2.2.2.2.2.2 gb gc gl ga gr gf go = some R1 ∧ f_X11_music ve s9 cell rows = some R2 ∧ R1.1 = R2.1 ∧ LI hsn t sn hsz hh pl ps wb fb few lv vk vp ty s9 past kept pad := by
  obtain ⟨hX, hp, hk, hc⟩ := hI
  obtain ⟨⟨n, m, b, g, l⟩, P, h1, h2, h3, hq⟩ := hX
  obtain ⟨t1, t2, t3, t4, t5, t6, t7⟩ := id h2
  have t1 : t.1 = nI n := t1
  have t2 : t.2.1 = nI m.length := t2
  have t3 : t.2.2.1 = nI b := t3
  have t4 : t.2.2.2.1 = nI g := t4
  have t5 : t.2.2.2.2.1 = nI l.length := t5
  obtain ⟨z0, z1, z2, z3, z4, z5, z6, z7, z8, z9, z10, e1, e2⟩ := x_music (show OKs n m b g l from h1) (show SR n m b g l s9 from h3) t6 t7 gb gc gl ga ve gr gf go cell rows
  have e0 : f_X10_music t.1 t.2.1 t.2.2.1 t.2.2.2.1 t.2.2.2.2.1 t.2.2.2.2.2.1 t.2.2.2.2.2.2 gb gc gl ga gr gf go = f_X10_music (nI n) (nI m.length) (nI b) (nI g) (nI l.length) t.2.2.2.2.2.1 t.2.2.2.2.2.2 gb gc gl ga gr gf go := by rw [t1, t2, t3, t4, t5]
  exact ⟨_, _, e0.trans e1, e2, rfl, ⟨(n, m, b, g, l), P, h1, h2, h3, hq⟩, hp, hk, hc⟩
theorem z_home (hsn : Int32) (t tr sn : TV) (hsz : Int32) (hh : Nat → TV) (pl : Int32) (ps : Nat → Int32) (rc rm rl rx : Int32) (rp : Nat → Int32) (gb gc gl ga : Int32) (gr gf go : Nat → Int32) (wb fb vs : Int32) (few rch : Nat → Int32) (ub us : Int32) (ufew urch lv lb : Nat → Int32) (vk vp ty ve vm vq : Int32) (s9 past kept pad cell other rows read track lead distance line : Nat → Int32) (hI : LI hsn t sn hsz hh pl ps wb fb few lv vk vp ty s9 past kept pad) (s1 : Int32) : ∃ (R1 : Int32 × Int32 × Int32 × Int32 × Int32 × (Nat → Int32) × (Nat → Int32) × (Nat → Int32) × Int32 × Int32 × Int32 × (Nat → Int32) × (Nat → Int32) × Int32 × Int32 × (Nat → Int32) × (Nat → Int32) × (Nat → Int32) × (Nat → Int32)) (R2 : Int32 × Int32 × (Nat → Int32) × (Nat → Int32) × (Nat → Int32) × (Nat → Int32) × (Nat → Int32) × (Nat → Int32)), f_X10_home s1 t.1 t.2.1 t.2.2.1 t.2.2.2.1 t.2.2.2.2.1 t.2.2.2.2.2.1 t.2.2.2.2.2.2 gb gc gl ga gr gf go wb fb vs few rch ub us ufew urch lv lb = some R1 ∧ f_X11_home s1 ve s9 cell other rows lead distance line = some R2 ∧ R1.1 = R2.1 ∧ LI hsn t sn hsz hh pl ps R1.2.2.2.2.2.2.2.2.1 R1.2.2.2.2.2.2.2.2.2.1 R1.2.2.2.2.2.2.2.2.2.2.2.1 R1.2.2.2.2.2.2.2.2.2.2.2.2.2.2.2.2.2.1 vk vp ty s9 past kept pad := by
  obtain ⟨hX, hp, hk, hc⟩ := hI
  obtain ⟨⟨n, m, b, g, l⟩, P, h1, h2, h3, hq⟩ := hX
  obtain ⟨t1, t2, t3, t4, t5, t6, t7⟩ := id h2
  have t1 : t.1 = nI n := t1
  have t2 : t.2.1 = nI m.length := t2
  have t3 : t.2.2.1 = nI b := t3
  have t4 : t.2.2.2.1 = nI g := t4
  have t5 : t.2.2.2.2.1 = nI l.length := t5
  obtain ⟨z0, z1, z2, z3, z4, z5, z6, z7, z8, z9, z10, z11, z12, z13, z14, z15, z16, z17, z18, z19, z20, z21, z22, z23, z24, z25, e1, e2, hc'⟩ := x_home (show OKs n m b g l from h1) (show SR n m b g l s9 from h3) t6 t7 s1 gb gc gl ga ve gr gf go cell rows other lead distance line wb fb vs ub us few rch ufew urch lv lb hc
  have e0 : f_X10_home s1 t.1 t.2.1 t.2.2.1 t.2.2.2.1 t.2.2.2.2.1 t.2.2.2.2.2.1 t.2.2.2.2.2.2 gb gc gl ga gr gf go wb fb vs few rch ub us ufew urch lv lb = f_X10_home s1 (nI n) (nI m.length) (nI b) (nI g) (nI l.length) t.2.2.2.2.2.1 t.2.2.2.2.2.2 gb gc gl ga gr gf go wb fb vs few rch ub us ufew urch lv lb := by rw [t1, t2, t3, t4, t5]
  exact ⟨_, _, e0.trans e1, e2, rfl, ⟨(n, m, b, g, l), P, h1, h2, h3, hq⟩, hp, hk, hc'⟩
theorem z_homeCall (hsn : Int32) (t tr sn : TV) (hsz : Int32) (hh : Nat → TV) (pl : Int32) (ps : Nat → Int32) (rc rm rl rx : Int32) (rp : Nat → Int32) (gb gc gl ga : Int32) (gr gf go : Nat → Int32) (wb fb vs : Int32) (few rch : Nat → Int32) (ub us : Int32) (ufew urch lv lb : Nat → Int32) (vk vp ty ve vm vq : Int32) (s9 past kept pad cell other rows read track lead distance line : Nat → Int32) (hI : LI hsn t sn hsz hh pl ps wb fb few lv vk vp ty s9 past kept pad) (s1 : Int32) : ∃ (R1 : Int32 × Int32 × Int32 × Int32 × Int32 × (Nat → Int32) × (Nat → Int32) × (Nat → Int32) × Int32 × Int32 × Int32 × (Nat → Int32) × (Nat → Int32) × (Nat → Int32) × (Nat → Int32)) (R2 : Int32 × Int32 × (Nat → Int32) × (Nat → Int32) × (Nat → Int32) × (Nat → Int32) × (Nat → Int32) × (Nat → Int32)), f_X10_homeCall s1 t.1 t.2.1 t.2.2.1 t.2.2.2.1 t.2.2.2.2.1 t.2.2.2.2.2.1 t.2.2.2.2.2.2 gb gc gl ga gr gf go wb fb vs few rch lv lb = some R1 ∧ f_X11_homeCall s1 ve s9 cell other rows lead distance line = some R2 ∧ R1.1 = R2.1 ∧ LI hsn t sn hsz hh pl ps R1.2.2.2.2.2.2.2.2.1 R1.2.2.2.2.2.2.2.2.2.1 R1.2.2.2.2.2.2.2.2.2.2.2.1 R1.2.2.2.2.2.2.2.2.2.2.2.2.2.1 vk vp ty s9 past kept pad := by
  obtain ⟨hX, hp, hk, hc⟩ := hI
  obtain ⟨⟨n, m, b, g, l⟩, P, h1, h2, h3, hq⟩ := hX
  obtain ⟨t1, t2, t3, t4, t5, t6, t7⟩ := id h2
  have t1 : t.1 = nI n := t1
  have t2 : t.2.1 = nI m.length := t2
  have t3 : t.2.2.1 = nI b := t3
  have t4 : t.2.2.2.1 = nI g := t4
  have t5 : t.2.2.2.2.1 = nI l.length := t5
  obtain ⟨z0, z1, z2, z3, z4, z5, z6, z7, z8, z9, z10, z11, z12, z13, z14, z15, z16, z17, z18, z19, z20, z21, e1, e2, hc'⟩ := x_homeCall (show OKs n m b g l from h1) (show SR n m b g l s9 from h3) t6 t7 s1 gb gc gl ga ve gr gf go cell rows other lead distance line wb fb vs few rch lv lb hc
  have e0 : f_X10_homeCall s1 t.1 t.2.1 t.2.2.1 t.2.2.2.1 t.2.2.2.2.1 t.2.2.2.2.2.1 t.2.2.2.2.2.2 gb gc gl ga gr gf go wb fb vs few rch lv lb = f_X10_homeCall s1 (nI n) (nI m.length) (nI b) (nI g) (nI l.length) t.2.2.2.2.2.1 t.2.2.2.2.2.2 gb gc gl ga gr gf go wb fb vs few rch lv lb := by rw [t1, t2, t3, t4, t5]
  exact ⟨_, _, e0.trans e1, e2, rfl, ⟨(n, m, b, g, l), P, h1, h2, h3, hq⟩, hp, hk, hc'⟩
theorem z_ifCalled (hsn : Int32) (t tr sn : TV) (hsz : Int32) (hh : Nat → TV) (pl : Int32) (ps : Nat → Int32) (rc rm rl rx : Int32) (rp : Nat → Int32) (gb gc gl ga : Int32) (gr gf go : Nat → Int32) (wb fb vs : Int32) (few rch : Nat → Int32) (ub us : Int32) (ufew urch lv lb : Nat → Int32) (vk vp ty ve vm vq : Int32) (s9 past kept pad cell other rows read track lead distance line : Nat → Int32) (hI : LI hsn t sn hsz hh pl ps wb fb few lv vk vp ty s9 past kept pad) (s1 : Int32) (s2 : Int32) (s3 : Int32) : ∃ (R1 : Int32 × Int32 × Int32 × Int32 × Int32 × Int32 × (Nat → Int32) × (Nat → Int32) × Int32 × Int32 × Int32 × Int32 × (Nat → Int32) × (Nat → Int32) × (Nat → Int32)) (R2 : Int32 × Int32 × (Nat → Int32) × (Nat → Int32) × (Nat → Int32)), f_X10_ifCalled s1 s2 s3 t.1 t.2.1 t.2.2.1 t.2.2.2.1 t.2.2.2.2.1 t.2.2.2.2.2.1 t.2.2.2.2.2.2 tr.1 tr.2.1 tr.2.2.1 tr.2.2.2.1 tr.2.2.2.2.1 tr.2.2.2.2.2.1 tr.2.2.2.2.2.2 gb gc gl ga gr gf go = some R1 ∧ f_X11_ifCalled s1 s2 s3 ve s9 cell rows = some R2 ∧ R1.1 = R2.1 ∧ LI hsn t sn hsz hh pl ps wb fb few lv vk vp ty R2.2.2.1 past kept pad := by
  obtain ⟨hX, hp, hk, hc⟩ := hI
  obtain ⟨⟨n, m, b, g, l⟩, P, h1, h2, h3, hq⟩ := hX
  obtain ⟨t1, t2, t3, t4, t5, t6, t7⟩ := id h2
  have t1 : t.1 = nI n := t1
  have t2 : t.2.1 = nI m.length := t2
  have t3 : t.2.2.1 = nI b := t3
  have t4 : t.2.2.2.1 = nI g := t4
  have t5 : t.2.2.2.2.1 = nI l.length := t5
  obtain ⟨z0, z1, z2, z3, z4, z5, z6, z7, z8, z9, z10, z11, z12, z13, z14, z15, z16, z17, z18, e1, e2, h3'⟩ := x_ifCalled (show OKs n m b g l from h1) (show SR n m b g l s9 from h3) t6 t7 s1 s2 s3 tr.1 tr.2.1 tr.2.2.1 tr.2.2.2.1 tr.2.2.2.2.1 gb gc gl ga ve tr.2.2.2.2.2.1 tr.2.2.2.2.2.2 gr gf go cell rows
  have e0 : f_X10_ifCalled s1 s2 s3 t.1 t.2.1 t.2.2.1 t.2.2.2.1 t.2.2.2.2.1 t.2.2.2.2.2.1 t.2.2.2.2.2.2 tr.1 tr.2.1 tr.2.2.1 tr.2.2.2.1 tr.2.2.2.2.1 tr.2.2.2.2.2.1 tr.2.2.2.2.2.2 gb gc gl ga gr gf go = f_X10_ifCalled s1 s2 s3 (nI n) (nI m.length) (nI b) (nI g) (nI l.length) t.2.2.2.2.2.1 t.2.2.2.2.2.2 tr.1 tr.2.1 tr.2.2.1 tr.2.2.2.1 tr.2.2.2.2.1 tr.2.2.2.2.2.1 tr.2.2.2.2.2.2 gb gc gl ga gr gf go := by rw [t1, t2, t3, t4, t5]
  exact ⟨_, _, e0.trans e1, e2, rfl, ⟨(n, m, b, g, l), P, h1, h2, h3', hq⟩, hp, hk, hc⟩
theorem z_best (hsn : Int32) (t tr sn : TV) (hsz : Int32) (hh : Nat → TV) (pl : Int32) (ps : Nat → Int32) (rc rm rl rx : Int32) (rp : Nat → Int32) (gb gc gl ga : Int32) (gr gf go : Nat → Int32) (wb fb vs : Int32) (few rch : Nat → Int32) (ub us : Int32) (ufew urch lv lb : Nat → Int32) (vk vp ty ve vm vq : Int32) (s9 past kept pad cell other rows read track lead distance line : Nat → Int32) (hI : LI hsn t sn hsz hh pl ps wb fb few lv vk vp ty s9 past kept pad) : ∃ (R1 : Int32 × Int32 × Int32 × Int32 × Int32 × Int32 × (Nat → Int32) × (Nat → Int32) × Int32 × Int32 × Int32 × Int32 × (Nat → Int32) × (Nat → Int32) × (Nat → Int32)) (R2 : Int32 × Int32 × (Nat → Int32) × (Nat → Int32)), f_X10_best t.1 t.2.1 t.2.2.1 t.2.2.2.1 t.2.2.2.2.1 t.2.2.2.2.2.1 t.2.2.2.2.2.2 tr.1 tr.2.1 tr.2.2.1 tr.2.2.2.1 tr.2.2.2.2.1 tr.2.2.2.2.2.1 tr.2.2.2.2.2.2 gb gc gl ga gr gf go = some R1 ∧ f_X11_best ve s9 cell rows = some R2 ∧ R1.1 = R2.1 ∧ LI hsn t sn hsz hh pl ps wb fb few lv vk vp ty s9 past kept pad := by
  obtain ⟨hX, hp, hk, hc⟩ := hI
  obtain ⟨⟨n, m, b, g, l⟩, P, h1, h2, h3, hq⟩ := hX
  obtain ⟨t1, t2, t3, t4, t5, t6, t7⟩ := id h2
  have t1 : t.1 = nI n := t1
  have t2 : t.2.1 = nI m.length := t2
  have t3 : t.2.2.1 = nI b := t3
  have t4 : t.2.2.2.1 = nI g := t4
  have t5 : t.2.2.2.2.1 = nI l.length := t5
  obtain ⟨z0, z1, z2, z3, z4, z5, z6, z7, z8, z9, z10, z11, z12, z13, z14, z15, z16, z17, e1, e2⟩ := x_best (show OKs n m b g l from h1) (show SR n m b g l s9 from h3) t6 t7 tr.1 tr.2.1 tr.2.2.1 tr.2.2.2.1 tr.2.2.2.2.1 gb gc gl ga ve tr.2.2.2.2.2.1 tr.2.2.2.2.2.2 gr gf go cell rows
  have e0 : f_X10_best t.1 t.2.1 t.2.2.1 t.2.2.2.1 t.2.2.2.2.1 t.2.2.2.2.2.1 t.2.2.2.2.2.2 tr.1 tr.2.1 tr.2.2.1 tr.2.2.2.1 tr.2.2.2.2.1 tr.2.2.2.2.2.1 tr.2.2.2.2.2.2 gb gc gl ga gr gf go = f_X10_best (nI n) (nI m.length) (nI b) (nI g) (nI l.length) t.2.2.2.2.2.1 t.2.2.2.2.2.2 tr.1 tr.2.1 tr.2.2.1 tr.2.2.2.1 tr.2.2.2.2.1 tr.2.2.2.2.2.1 tr.2.2.2.2.2.2 gb gc gl ga gr gf go := by rw [t1, t2, t3, t4, t5]
  exact ⟨_, _, e0.trans e1, e2, rfl, ⟨(n, m, b, g, l), P, h1, h2, h3, hq⟩, hp, hk, hc⟩
theorem z_undo (hsn : Int32) (t tr sn : TV) (hsz : Int32) (hh : Nat → TV) (pl : Int32) (ps : Nat → Int32) (rc rm rl rx : Int32) (rp : Nat → Int32) (gb gc gl ga : Int32) (gr gf go : Nat → Int32) (wb fb vs : Int32) (few rch : Nat → Int32) (ub us : Int32) (ufew urch lv lb : Nat → Int32) (vk vp ty ve vm vq : Int32) (s9 past kept pad cell other rows read track lead distance line : Nat → Int32) (hI : LI hsn t sn hsz hh pl ps wb fb few lv vk vp ty s9 past kept pad) : ∃ (R1 : Int32 × Int32 × Int32 × Int32 × Int32 × Int32 × (Nat → Int32) × (Nat → Int32) × Int32) (R2 : Int32 × Int32 × (Nat → Int32)), f_X10_undo t.1 t.2.1 t.2.2.1 t.2.2.2.1 t.2.2.2.2.1 t.2.2.2.2.2.1 t.2.2.2.2.2.2 hsz hh = some R1 ∧ f_X11_undo vp s9 past = some R2 ∧ R1.1 = R2.1 ∧ LI hsn (R1.2.1, R1.2.2.1, R1.2.2.2.1, R1.2.2.2.2.1, R1.2.2.2.2.2.1, R1.2.2.2.2.2.2.1, R1.2.2.2.2.2.2.2.1) sn R1.2.2.2.2.2.2.2.2 hh pl ps wb fb few lv vk R2.2.1 ty R2.2.2 past kept pad := by
  obtain ⟨hX, hp, hk, hc⟩ := hI
  obtain ⟨z0, z1, z2, z3, z4, e1, e2, hX'⟩ := x_undo hX
  exact ⟨_, _, e1, e2, rfl, hX', hp, hk, hc⟩
theorem z_save (hsn : Int32) (t tr sn : TV) (hsz : Int32) (hh : Nat → TV) (pl : Int32) (ps : Nat → Int32) (rc rm rl rx : Int32) (rp : Nat → Int32) (gb gc gl ga : Int32) (gr gf go : Nat → Int32) (wb fb vs : Int32) (few rch : Nat → Int32) (ub us : Int32) (ufew urch lv lb : Nat → Int32) (vk vp ty ve vm vq : Int32) (s9 past kept pad cell other rows read track lead distance line : Nat → Int32) (hI : LI hsn t sn hsz hh pl ps wb fb few lv vk vp ty s9 past kept pad) : ∃ (R1 : Int32 × Int32 × Int32 × Int32 × Int32 × Int32 × Int32 × (Nat → Int32) × (Nat → Int32)) (R2 : Int32 × Int32 × (Nat → Int32)), f_X10_save hsn t.1 t.2.1 t.2.2.1 t.2.2.2.1 t.2.2.2.2.1 t.2.2.2.2.2.1 t.2.2.2.2.2.2 sn.1 sn.2.1 sn.2.2.1 sn.2.2.2.1 sn.2.2.2.2.1 sn.2.2.2.2.2.1 sn.2.2.2.2.2.2 = R1 ∧ f_X11_save vk s9 kept = some R2 ∧ R1.1 = R2.1 ∧ LI R1.2.1 t (R1.2.2.1, R1.2.2.2.1, R1.2.2.2.2.1, R1.2.2.2.2.2.1, R1.2.2.2.2.2.2.1, R1.2.2.2.2.2.2.2.1, R1.2.2.2.2.2.2.2.2) hsz hh pl ps wb fb few lv R2.2.1 vp ty s9 past R2.2.2 pad := by
  obtain ⟨hX, hp, hk, hc⟩ := hI
  obtain ⟨z0, z1, z2, z3, z4, e1, e2, hk'⟩ := x_save (snap := sn) (hsn := hsn) (vk := vk) (kept := kept) hX
  exact ⟨_, _, e1, e2, rfl, hX, hp, hk', hc⟩
theorem z_restore (hsn : Int32) (t tr sn : TV) (hsz : Int32) (hh : Nat → TV) (pl : Int32) (ps : Nat → Int32) (rc rm rl rx : Int32) (rp : Nat → Int32) (gb gc gl ga : Int32) (gr gf go : Nat → Int32) (wb fb vs : Int32) (few rch : Nat → Int32) (ub us : Int32) (ufew urch lv lb : Nat → Int32) (vk vp ty ve vm vq : Int32) (s9 past kept pad cell other rows read track lead distance line : Nat → Int32) (hI : LI hsn t sn hsz hh pl ps wb fb few lv vk vp ty s9 past kept pad) : ∃ (R1 : Int32 × Int32 × Int32 × Int32 × Int32 × Int32 × (Nat → Int32) × (Nat → Int32) × Int32 × (Nat → TV)) (R2 : Int32 × Int32 × (Nat → Int32) × (Nat → Int32)), f_X10_restore hsn t.1 t.2.1 t.2.2.1 t.2.2.2.1 t.2.2.2.2.1 t.2.2.2.2.2.1 t.2.2.2.2.2.2 sn.1 sn.2.1 sn.2.2.1 sn.2.2.2.1 sn.2.2.2.2.1 sn.2.2.2.2.2.1 sn.2.2.2.2.2.2 hsz hh = some R1 ∧ f_X11_restore vk vp s9 past kept = some R2 ∧ R1.1 = R2.1 ∧ LI hsn (R1.2.1, R1.2.2.1, R1.2.2.2.1, R1.2.2.2.2.1, R1.2.2.2.2.2.1, R1.2.2.2.2.2.2.1, R1.2.2.2.2.2.2.2.1) sn R1.2.2.2.2.2.2.2.2.1 R1.2.2.2.2.2.2.2.2.2 pl ps wb fb few lv vk R2.2.1 ty R2.2.2.1 R2.2.2.2 kept pad := by
  obtain ⟨hX, hp, hk, hc⟩ := hI
  obtain ⟨z0, z1, z2, z3, z4, z5, z6, e1, e2, hX'⟩ := x_restore hX hk
  exact ⟨_, _, e1, e2, rfl, hX', hp, hk, hc⟩
