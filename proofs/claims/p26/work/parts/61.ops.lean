/-! ===== what changes the state, both ===== -/
def Sx (t : TV) (hsz : Int32) (hh : Nat → TV) (s : Nat → Int32) (vp : Int32) (past : Nat → Int32) : Prop := ∃ (a : AT) (P : List AT), OKa a ∧ TRa a t ∧ SRa a s ∧ P.length ≤ 4 ∧ hsz = nI P.length ∧ vp = nI P.length ∧ HX P hh ∧ HM P past
