/-! ===== sums, signs, numbers that are equal to themselves ===== -/
theorem sm_snoc (f : Nat → Nat) : ∀ (d s : Nat), sm f (d + 1) s = sm f d s + f (s + d)
  | 0, s => by simp [sm]
  | d + 1, s => by
    have h := sm_snoc f d (s + 1)
    rw [sm, h, sm, show s + 1 + d = s + (d + 1) by omega]
    omega
theorem sm_add (f g : Nat → Nat) : ∀ (d s : Nat), sm (fun i => f i + g i) d s = sm f d s + sm g d s
  | 0, _ => rfl
  | d + 1, s => by
    rw [sm, sm, sm, sm_add f g d (s + 1)]
    omega
theorem cnt_snoc (P : Nat → Bool) (d s : Nat) : cnt P (d + 1) s = cnt P d s + b1 (P (s + d)) := sm_snoc _ d s
/-- pairs i < j, told by the first or by the second -/
theorem tri_swap (g : Nat → Nat → Nat) : ∀ n, sm (fun i => sm (fun j => g i j) (n - (i + 1)) (i + 1)) n 0 = sm (fun j => sm (fun i => g i j) j 0) n 0
  | 0 => rfl
  | n + 1 => by
    rw [sm_snoc, sm_snoc, ← tri_swap g n]
    have e1 : sm (fun i => sm (fun j => g i j) (n + 1 - (i + 1)) (i + 1)) n 0 = sm (fun i => sm (fun j => g i j) (n - (i + 1)) (i + 1) + g i n) n 0 := by
      refine sm_congr n 0 (fun i _ hi => ?_)
      rw [show n + 1 - (i + 1) = (n - (i + 1)) + 1 by omega, sm_snoc, show i + 1 + (n - (i + 1)) = n by omega]
    rw [e1, sm_add]
    simp [sm]
def inv2 (n : Nat) (Z : List Nat) : Nat := sm (fun p => cnt (fun q => decide (Z.getD p 0 < Z.getD q 0)) p 0) n 0
theorem inv2_eq (n : Nat) (Z : List Nat) : ipair n Z = inv2 n Z := tri_swap (fun i j => b1 (decide (Z.getD j 0 < Z.getD i 0))) n
def sgq (n : Nat) (Z : List Nat) : Bool := Nat.beq (ipair n Z % 2) (cyO (pk Z) n n 0 0 0 % 2)
theorem sgq_4 : allZ (sgq 4) 4 4 [] = true := by decide +kernel
theorem sgq_5 : allZ (sgq 5) 5 5 [] = true := by decide +kernel
theorem sgq_6 : allZ (sgq 6) 6 6 [] = true := by decide +kernel
theorem sgq_7 : allZ (sgq 7) 7 7 [] = true := by decide +kernel
theorem sgq_row {n : Nat} {Z : List Nat} (h : isRow n Z) (h4 : 4 ≤ n) (hn : n ≤ 7) : ipair n Z % 2 = cyO (pk Z) n n 0 0 0 % 2 := by
  have : sgq n Z = true := by
    rcases (show n = 4 ∨ n = 5 ∨ n = 6 ∨ n = 7 by omega) with rfl | rfl | rfl | rfl
    · exact allZ_row sgq_4 h
    · exact allZ_row sgq_5 h
    · exact allZ_row sgq_6 h
    · exact allZ_row sgq_7 h
  exact Nat.eq_of_beq_eq_true this
/-- the search with a number for 'not found' -/
def fnI (P : Nat → Bool) (d s : Nat) : Int32 := fnd (-4) (fun i => nI i) P d s
theorem fnd_some (P : Nat → Bool) : ∀ (d s : Nat), fnd (some (-4 : Int32)) (fun i => some (nI i)) P d s = some (fnI P d s)
  | 0, _ => rfl
  | d + 1, s => by
    unfold fnI
    rw [fnd, fnd]
    by_cases c : P s = true
    · rw [if_pos c, if_pos c]
    · rw [if_neg c, if_neg c]; exact fnd_some P d (s + 1)
theorem fnI_snoc (P : Nat → Bool) : ∀ (d s : Nat), s + d < 2 ^ 31 → fnI P (d + 1) s = if (0 : Int32) ≤ fnI P d s then fnI P d s else if P (s + d) = true then nI (s + d) else fnI P d s
  | 0, s, h => by
    show (if P s = true then nI s else (-4 : Int32)) = _
    rw [if_neg (show ¬ (0 : Int32) ≤ fnI P 0 s by show ¬ (0 : Int32) ≤ -4; decide)]
    rfl
  | d + 1, s, h => by
    have e1 : fnI P (d + 1 + 1) s = if P s = true then nI s else fnI P (d + 1) (s + 1) := rfl
    have e2 : fnI P (d + 1) s = if P s = true then nI s else fnI P d (s + 1) := rfl
    rw [e1, e2]
    by_cases c : P s = true
    · rw [if_pos c, if_pos c, if_pos (nI_pos' (by omega))]
    · rw [if_neg c, if_neg c, fnI_snoc P d (s + 1) (by omega), show s + 1 + d = s + (d + 1) by omega]
theorem fnI_neg (P : Nat → Bool) (d s : Nat) (h : s + d < 2 ^ 31) : fnI P d s < 0 ∨ 0 ≤ fnI P d s := by
  by_cases c : (0 : Int32) ≤ fnI P d s
  · exact Or.inr c
  · exact Or.inl (Int32.not_le.mp c)
theorem order_refl (x : Jvm.FP.Core.Datum) (h : x ≠ .nan) : Jvm.FP.Core.order x x = some .eq := by
  have c : ∀ a : Int, compare a a = Ordering.eq := fun a => by simp [compare, compareOfLessAndEq]
  cases x with
  | nan => exact absurd rfl h
  | inf s => exact congrArg some (c _)
  | fin s a q => exact congrArg some (c _)
theorem dcmp_refl {r : UInt64} (h : nnb r = true) : Op.cmpValue (FP.dcmp r r) .l = 0 := by
  have hn : Jvm.FP.Core.decode Jvm.FP.Core.b64 r.toNat ≠ .nan := by
    unfold nnb at h
    rw [decide_eq_true_eq, UInt64.le_iff_toNat_le, UInt64.toNat_and, show (0x7fffffffffffffff : UInt64).toNat = 2 ^ 63 - 1 by decide, Nat.and_two_pow_sub_one_eq_mod] at h
    unfold Jvm.FP.Core.decode Jvm.FP.Core.fieldE Jvm.FP.Core.fieldT
    rw [show Jvm.FP.Core.b64.exps = 2048 by decide, show Jvm.FP.Core.b64.tails = 2 ^ 52 by decide]
    have h2 : (0x7ff0000000000000 : UInt64).toNat = 2047 * 2 ^ 52 := by decide
    rw [h2] at h
    intro q
    by_cases c1 : r.toNat / 2 ^ 52 % 2048 = 2048 - 1
    · rw [if_pos c1] at q
      by_cases c2 : r.toNat % 2 ^ 52 = 0
      · rw [if_pos c2] at q; cases q
      · omega
    · rw [if_neg c1] at q
      by_cases c2 : r.toNat / 2 ^ 52 % 2048 = 0
      · rw [if_pos c2] at q; cases q
      · rw [if_neg c2] at q; cases q
  have : FP.dcmp r r = some .eq := order_refl _ hn
  rw [this]
  rfl
/-! what isWithin says -/
theorem wi_0 {x lo up : Int32} (h : x < lo) : f_X10_isWithin x lo up = 0 := by unfold f_X10_isWithin; rw [if_pos h]
theorem wi_hi {x up : Nat} {lo : Int32} (h : up < x) (hx : x < 2 ^ 31) : f_X10_isWithin (nI x) lo (nI up) = 0 := by
  unfold f_X10_isWithin
  by_cases c : nI x < lo
  · rw [if_pos c]
  · rw [if_neg c, if_pos (nI_lt h hx)]
theorem wi_1 {x lo up : Nat} (h1 : lo ≤ x) (h2 : x ≤ up) (hu : up < 2 ^ 31) : f_X10_isWithin (nI x) (nI lo) (nI up) = 1 := by
  unfold f_X10_isWithin
  rw [if_neg (nI_nlt h1 (by omega)), if_neg (nI_nlt h2 hu)]
theorem one0 : ¬ (1 : Int32) = 0 := by decide
theorem bell_at {a : AT} {k p : Nat} (hk : k ≤ lastA a) (hT : lastA a < 2 ^ 31) (hp : p < a.1) (hn : a.1 < 2 ^ 31) : A_bell a (nI k) (nI (p + 1)) = some (nI ((RA a k).getD p 0 + 1)) := by
  unfold A_bell
  rw [show f_X10_isWithin (nI k) 0 (nI (lastA a)) = 1 from wi_1 (Nat.zero_le _) hk hT, if_neg one0, show f_X10_isWithin (nI (p + 1)) 1 (nI a.1) = 1 from wi_1 (show 1 ≤ p + 1 by omega) hp hn, if_neg one0, nI_clamp (by omega), nI_clamp (by omega), Nat.add_sub_cancel]
theorem row_at {a : AT} {k : Nat} {w : Int32} (hk : k ≤ lastA a) (hT : lastA a < 2 ^ 31) : A_row a (nI k) w = if w = 0 then some (nI (ipair a.1 (RA a k) % 2)) else
  if w = 1 then some (nI (cyO (pk (RA a k)) a.1 a.1 0 0 0 % 2)) else
  if w = 2 then some (nI (b1 (sw a.1 (RA a k)))) else
  if w = 3 then some (nI (cnt (fun p => decide ((RA a k).getD p 0 = p)) a.1 0)) else
  if w = 4 then some (nI (fs (RA a) 0 k)) else none := by
  unfold A_row
  rw [show f_X10_isWithin (nI k) 0 (nI (lastA a)) = 1 from wi_1 (Nat.zero_le _) hk hT, if_neg one0, nI_clamp (by omega)]
