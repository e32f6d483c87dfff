def cpG (old : Gm) (off : Int) (new : Gm) (soff n : Int) : Gm := fun y => if off ≤ (y : Int) ∧ (y : Int) < off + n then new (soff + ((y : Int) - off)).toNat else old y
theorem cp_0 (old : Gm) (off : Int) (new : Gm) (soff : Int) {n : Int} (h : n ≤ 0) : cpG old off new soff n = old := funext (fun y => if_neg (fun q => by omega))
theorem cp_out (old : Gm) (off : Int) (new : Gm) (soff n : Int) {k : Nat} (h : (k : Int) < off ∨ off + n ≤ (k : Int)) : cpG old off new soff n k = old k := if_neg (fun q => by omega)
theorem cp_in (old : Gm) (off : Int) (new : Gm) (soff n : Int) {k : Nat} (h : off ≤ (k : Int) ∧ (k : Int) < off + n) : cpG old off new soff n k = new (soff + ((k : Int) - off)).toNat := if_pos h
theorem cp_step {old new : Gm} {off soff n n' i v : Int} (h0 : 0 ≤ off) (h1 : 0 ≤ n) (h2 : i = off + n) (h3 : n' = n + 1) (hv : v = new (soff + n).toNat) : gU (cpG old off new soff n) i v = cpG old off new soff n' := by
  subst h2; subst h3; subst hv
  refine funext (fun y => ?_)
  rw [gU_if]
  unfold cpG
  by_cases e : y = (off + n).toNat
  · rw [if_pos e, if_pos (by omega)]
    congr 2
    omega
  · rw [if_neg e]
    by_cases q : off ≤ (y : Int) ∧ (y : Int) < off + n
    · rw [if_pos q, if_pos (by omega)]
    · rw [if_neg q, if_neg (by omega)]
/-- the past -/
def RH (M : ZM) (P : Int → Gm) (c : Int) : Prop := zI M 670 19 = c ∧ (0 ≤ c ∧ c ≤ 6) ∧ ∀ k : Int, 0 ≤ k → k < c → ∀ j : Nat, j < 516 → zI M 679 (516 * k.toNat + j) = P k j
def pushP (P : Int → Gm) (G : Gm) (c : Int) : Int → Gm := if c = 6 then (fun k => if k = 5 then G else P (k + 1)) else (fun k => if k = c then G else P k)
def pushC (c : Int) : Int := if c = 6 then 6 else c + 1
theorem pushC_r {c : Int} (h : 0 ≤ c ∧ c ≤ 6) : 1 ≤ pushC c ∧ pushC c ≤ 6 := by unfold pushC; split <;> omega
theorem RH.fr {S : Nat → Prop} {M M' : ZM} {P : Int → Gm} {c : Int} (hy : LY M) (h : RH M P c) (f : Fr S M M') (h1 : ¬ S 679) (h2 : zI M' 670 19 = zI M 670 19) : RH M' P c := by
  refine ⟨h2.trans h.1, h.2.1, fun k k0 k1 j hj => ?_⟩
  rw [f.i hy.a18 h1]
  exact h.2.2 k k0 k1 j hj
