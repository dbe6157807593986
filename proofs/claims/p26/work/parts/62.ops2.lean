/-! ===== cut, call, save, restore, append, both ===== -/
def Kp (hsn vk : Int32) (snap : TV) (kept : Nat → Int32) : Prop := ∃ kf : Bool, hsn = nI (b1 kf) ∧ vk = nI (b1 kf) ∧ (kf = true → ∃ a, OKa a ∧ TRa a snap ∧ SRa a kept)
def Pd (pl ty : Int32) (ps mp : Nat → Int32) : Prop := ∃ (N : Nat) (tx : Nat → Nat), N ≤ 80 ∧ pl = nI N ∧ ty = nI N ∧ ∀ i, i < N → ps i = nI (tx i) ∧ mp i = nI (tx i) ∧ tx i < 65536
theorem nar_c : ∀ c, c < 127 → vp_nar .char (((nI c).toUInt32 % 65536).toInt32) = nI c := by decide +kernel
