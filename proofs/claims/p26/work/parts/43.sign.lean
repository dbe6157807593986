/-! ===== signs, told in two ways ===== -/
def allZ (f : List Nat → Bool) (n : Nat) : Nat → List Nat → Bool
  | 0, l => f l
  | k + 1, l => (List.range n).all (fun b => l.elem b || allZ f n k (b :: l))
theorem allZ_spec {f : List Nat → Bool} {n : Nat} : ∀ (k : Nat) (l : List Nat), allZ f n k l = true → ∀ p : List Nat, p.length = k → (p ++ l).Nodup → (∀ b ∈ p, b < n) → f (p ++ l) = true
  | 0, l, h, p, hp, _, _ => by
    obtain rfl : p = [] := List.length_eq_zero_iff.mp hp
    exact h
  | k + 1, l, h, p, hp, hd, hb => by
    have hne : p ≠ [] := by intro q; rw [q] at hp; exact absurd hp (by simp)
    have e := List.dropLast_concat_getLast hne
    have e2 : p ++ l = p.dropLast ++ (p.getLast hne :: l) := by
      rw [show p.dropLast ++ (p.getLast hne :: l) = (p.dropLast ++ [p.getLast hne]) ++ l by simp, e]
    rw [allZ, List.all_eq_true] at h
    have h1 := h (p.getLast hne) (List.mem_range.mpr (hb _ (List.getLast_mem hne)))
    rw [Bool.or_eq_true] at h1
    rw [e2] at hd ⊢
    rcases h1 with h1 | h1
    · have := List.elem_iff.mp h1
      have h3 := (List.nodup_append.mp hd).2.1
      exact absurd this (List.nodup_cons.mp h3).1
    · exact allZ_spec k _ h1 p.dropLast (by rw [List.length_dropLast, hp]; rfl) hd (fun b q => hb b ((List.dropLast_sublist p).subset q))
theorem allZ_row {f : List Nat → Bool} {n : Nat} (h : allZ f n n [] = true) {Z : List Nat} (hZ : isRow n Z) : f Z = true := by
  have := allZ_spec n [] h Z hZ.len (by rw [List.append_nil]; exact hZ.nodup) (fun b q => hZ.lt q)
  rwa [List.append_nil] at this
def cyI (x st : Nat) : Nat → Nat → Nat → Nat → Nat × Nat
  | 0, u, w, _ => (u, w)
  | d + 1, u, w, p => if p = st then (u, w) else if bitN u st = 0 then cyI x st d (u ||| 2 ^ p) (w + 1) (dg x p) else (u, w)
def cyO (x n : Nat) : Nat → Nat → Nat → Nat → Nat
  | 0, _, _, w => w
  | d + 1, st, u, w => cyO x n d (st + 1) (cyI x st n u w (dg x st)).1 (cyI x st n u w (dg x st)).2
def rgI (x p : Nat) : Nat → Nat → Nat → Option Nat
  | 0, _, _ => none
  | d + 1, low, a => if a = p then some low else rgI x p d (if low ≤ a then low else a) (dg x a)
def rgO (x : Nat) : Nat → Nat → Nat → Option Nat
  | 0, _, v => some v
  | d + 1, p, v => match rgI x p 8 p (dg x p) with
    | none => none
    | some low => rgO x d (p + 1) (v + if low = p then 1 else 0)
def sgn (n : Nat) (Z : List Nat) : Bool := match rgO (pk Z) n 0 0 with
  | none => false
  | some v => Nat.ble v n && ((n - v) % 2 == cyO (pk Z) n n 0 0 0 % 2)
theorem sgn_4 : allZ (sgn 4) 4 4 [] = true := by decide +kernel
theorem sgn_5 : allZ (sgn 5) 5 5 [] = true := by decide +kernel
theorem sgn_6 : allZ (sgn 6) 6 6 [] = true := by decide +kernel
theorem sgn_7 : allZ (sgn 7) 7 7 [] = true := by decide +kernel

