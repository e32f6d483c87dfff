/-- places lo .. n of a row's takings moved down by one taking -/
def shF (g : Gm) (r lo n : Int) : Gm := fun y => if 132 + 16 * r + 7 + lo ≤ (y : Int) ∧ (y : Int) < 132 + 16 * r + 7 + n then g (y + 3) else g y
theorem sh_out (g : Gm) (r lo n : Int) {k : Nat} (h : (k : Int) < 132 + 16 * r + 7 + lo ∨ 132 + 16 * r + 7 + n ≤ (k : Int)) : shF g r lo n k = g k := if_neg (fun q => by omega)
theorem sh_in (g : Gm) (r lo n : Int) {k : Nat} (h : 132 + 16 * r + 7 + lo ≤ (k : Int) ∧ (k : Int) < 132 + 16 * r + 7 + n) : shF g r lo n k = g (k + 3) := if_pos h
def fDrop (G : Gm) (r k : Int) : Gm := shF (gU G (132 + 16 * r + 6) ((G (132 + 16 * r + 6).toNat) - 1)) r (3 * k) (3 * ((G (132 + 16 * r + 6).toNat) - 1))
