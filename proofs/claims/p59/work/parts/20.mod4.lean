theorem zIr {Ψ : ZPhi} {pc : Nat} {L : List (Option ZV)} {st : List ZV} {M : ZM} {k n : Nat} {x y : Int} (e : y = x) (h : Ψ pc L (zi x :: st) M k n) : Ψ pc L (zi y :: st) M k n := e ▸ h
theorem cntA_s {a : Int} {p : Int → Bool} {n : Int} (h : 0 ≤ n) : a + cntI p (n + 1) = if p n = true then a + cntI p n + 1 else a + cntI p n := by
  rw [cntI_s h]
  split <;> omega
def fRiskS (G : Gm) (r w l : Int) : Int := if hasB (G (132 + 16 * r + 5).toNat) w = true ∧ (l = -1 ∨ (G (6 + 9 * w + 3).toNat) < l) then (G (6 + 9 * w + 3).toNat) else l
def fRisk (G : Gm) (r : Int) : Int := foldI (fRiskS G r) (-1) (G 4)
def c_risk (G : Gm) (r : Int) : Int := if 0 ≤ r ∧ r ≤ G 5 - 1 then 0 else 1
def v_risk (G : Gm) (r : Int) : Int := if 0 ≤ r ∧ r ≤ G 5 - 1 then fRisk G r else 0
def fAudC (G : Gm) (r b : Int) : Bool := decide (((G (132 + 16 * r + 1).toNat) = 2 ∧ (G (132 + 16 * r + 3).toNat) = -1) ∧ (b = -1 ∨ (if fRisk G r = fRisk G b then (G (132 + 16 * b + 0).toNat) < (G (132 + 16 * r + 0).toNat) else fRisk G r < fRisk G b)))
def c_nextAudit (G : Gm) : Int := 0
def v_nextAudit (G : Gm) : Int := pickI (fAudC G) (G 5)
def fDueS (G : Gm) (r k l : Int) : Int := if (G (132 + 16 * r + (7 + 3 * k + 1)).toNat) = -1 ∧ (l = -1 ∨ (G (132 + 16 * r + (7 + 3 * k + 2)).toNat) < l) then (G (132 + 16 * r + (7 + 3 * k + 2)).toNat) else l
def fDueR (G : Gm) (r l : Int) : Int := foldI (fDueS G r) l (G (132 + 16 * r + 6).toNat)
def fLateP (G : Gm) (t r k : Int) : Bool := decide ((G (132 + 16 * r + (7 + 3 * k + 1)).toNat) = -1 ∧ (G (132 + 16 * r + (7 + 3 * k + 2)).toNat) < t)
def fLateR (G : Gm) (t r : Int) : Int := cntI (fLateP G t r) (G (132 + 16 * r + 6).toNat)
def c_nextDue (G : Gm) : Int := 0
def v_nextDue (G : Gm) : Int := foldI (fDueR G) (-1) (G 5)
def c_lateIn (G : Gm) (ticks : Int) : Int := if 0 ≤ ticks ∧ ticks ≤ 99 then 0 else 1
def v_lateIn (G : Gm) (ticks : Int) : Int := if 0 ≤ ticks ∧ ticks ≤ 99 then sumI (fLateR G (G 3 + ticks)) (G 5) else 0
def c_lost (G : Gm) : Int := 0
def v_lost (G : Gm) : Int := setI (fun r => fStuck G r || decide ((G (132 + 16 * r + 1).toNat) = 3)) (G 5)
def c_finishedOf (G : Gm) (size : Int) : Int := if 1 ≤ size ∧ size ≤ 9 then 0 else 1
def v_finishedOf (G : Gm) (size : Int) : Int := if 1 ≤ size ∧ size ≤ 9 then cntI (fun r => decide ((G (132 + 16 * r + 0).toNat) = size ∧ (G (132 + 16 * r + 1).toNat) = 2)) (G 5) else 0
def c_left (G : Gm) : Int := 0
def v_left (G : Gm) : Int := sumI (fun r => if (G (132 + 16 * r + 1).toNat) < 2 then (G (132 + 16 * r + 0).toNat) else 0) (G 5)
def c_leader (G : Gm) : Int := 0
def v_leader (G : Gm) : Int := pickI (fun w b => decide (b = -1 ∨ (G (6 + 9 * b + 8).toNat) < (G (6 + 9 * w + 8).toNat))) (G 4)
def c_place (G : Gm) (w : Int) : Int := if 0 ≤ w ∧ w ≤ G 4 - 1 then 0 else 1
def v_place (G : Gm) (w : Int) : Int := if 0 ≤ w ∧ w ≤ G 4 - 1 then 1 + cntI (fun o => decide ((G (6 + 9 * w + 8).toNat) < (G (6 + 9 * o + 8).toNat))) (G 4) else 0
def fPairC (G : Gm) (r a b : Int) : Bool := decide ((fRefusal G a r = 0 ∧ fRefusal G b r = 0) ∧ (G (6 + 9 * a + 1).toNat) ≠ (G (6 + 9 * b + 1).toNat) ∧ fFoes G a b = false)
def fPairS (G : Gm) (r a b : Int) (x : Int × Int) : Int × Int := if fPairC G r a b = true ∧ x.2 < (G (6 + 9 * a + 3).toNat) + (G (6 + 9 * b + 3).toNat) then (8 * a + b, (G (6 + 9 * a + 3).toNat) + (G (6 + 9 * b + 3).toNat)) else x
def fPairR (G : Gm) (r a : Int) (x : Int × Int) : Int × Int := foldF (fPairS G r a) x (a + 1) (G 4)
def fPair (G : Gm) (r : Int) : Int × Int := foldI (fPairR G r) (-1, -1) (G 4)
def c_bestPair (G : Gm) (r : Int) : Int := if 0 ≤ r ∧ r ≤ G 5 - 1 then 0 else 1
def v_bestPair (G : Gm) (r : Int) : Int := if 0 ≤ r ∧ r ≤ G 5 - 1 then (if (G (132 + 16 * r + 1).toNat) = 0 ∧ (G (132 + 16 * r + 6).toNat) ≤ 0 then (fPair G r).1 else -1) else 0
