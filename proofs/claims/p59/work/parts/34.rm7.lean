/-- places lo .. n of a row's takings moved down by one taking -/
def shF (g : Gm) (r lo n : Int) : Gm := fun y => if 132 + 16 * r + 7 + lo ≤ (y : Int) ∧ (y : Int) < 132 + 16 * r + 7 + n then g (y + 3) else g y
theorem sh_0 (g : Gm) (r : Int) {lo n : Int} (h : n ≤ lo) : shF g r lo n = g := funext (fun y => if_neg (fun q => by omega))
theorem sh_out (g : Gm) (r lo n : Int) {k : Nat} (h : (k : Int) < 132 + 16 * r + 7 + lo ∨ 132 + 16 * r + 7 + n ≤ (k : Int)) : shF g r lo n k = g k := if_neg (fun q => by omega)
theorem sh_in (g : Gm) (r lo n : Int) {k : Nat} (h : 132 + 16 * r + 7 + lo ≤ (k : Int) ∧ (k : Int) < 132 + 16 * r + 7 + n) : shF g r lo n k = g (k + 3) := if_pos h
theorem sh_step {g : Gm} {r lo n : Int} (hr : 0 ≤ r) (h0 : 0 ≤ lo) (h1 : lo ≤ n) : gU (shF g r lo n) (132 + 16 * r + (7 + n)) (g (132 + 16 * r + (7 + n + 3)).toNat) = shF g r lo (n + 1) := by
  refine funext (fun y => ?_)
  rw [gU_if]
  unfold shF
  by_cases e : y = (132 + 16 * r + (7 + n)).toNat
  · rw [if_pos e, if_pos (by omega)]
    congr 1
    omega
  · rw [if_neg e]
    by_cases q : 132 + 16 * r + 7 + lo ≤ (y : Int) ∧ (y : Int) < 132 + 16 * r + 7 + n
    · rw [if_pos q, if_pos (by omega)]
    · rw [if_neg q, if_neg (by omega)]
def fDrop (G : Gm) (r k : Int) : Gm := shF (gU G (132 + 16 * r + 6) ((G (132 + 16 * r + 6).toNat) - 1)) r (3 * k) (3 * ((G (132 + 16 * r + 6).toNat) - 1))
