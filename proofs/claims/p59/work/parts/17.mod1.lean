abbrev Gm : Type := Nat → Int
/-- a row's takings -/
def RI (G : Gm) (r : Int) : Prop := (0 ≤ r ∧ r < 24) ∧ (0 ≤ (G (132 + 16 * r + 6).toNat) ∧ (G (132 + 16 * r + 6).toNat) ≤ 3) ∧ ∀ k, 0 ≤ k → k < (G (132 + 16 * r + 6).toNat) → 0 ≤ (G (132 + 16 * r + (7 + 3 * k + 0)).toNat) ∧ (G (132 + 16 * r + (7 + 3 * k + 0)).toNat) < 6
def GI (G : Gm) : Prop := (0 ≤ G 4 ∧ G 4 ≤ 6) ∧ (0 ≤ G 5 ∧ G 5 ≤ 24) ∧ ∀ r, 0 ≤ r → r < G 5 → RI G r
def fTakingOf (G : Gm) (w r : Int) : Int := fndI (fun k => decide ((G (132 + 16 * r + (7 + 3 * k + 0)).toNat) = w)) ((G (132 + 16 * r + 6).toNat))
theorem fTakingOf_r (G : Gm) (w r : Int) (h : 0 ≤ (G (132 + 16 * r + 6).toNat)) : fTakingOf G w r = -1 ∨ 0 ≤ fTakingOf G w r ∧ fTakingOf G w r < (G (132 + 16 * r + 6).toNat) := by
  rcases fndI_r (fun k => decide ((G (132 + 16 * r + (7 + 3 * k + 0)).toNat) = w)) h with q | q
  · exact Or.inl q.1
  · exact Or.inr ⟨q.1, q.2.1⟩
def fResultOf (G : Gm) (w r : Int) : Int := if fTakingOf G w r = -1 then -1 else (G (132 + 16 * r + (7 + 3 * (fTakingOf G w r) + 1)).toNat)
def fWorksAt (G : Gm) (w r : Int) : Bool := if fTakingOf G w r = -1 then false else decide ((G (132 + 16 * r + (7 + 3 * (fTakingOf G w r) + 1)).toNat) = -1)
def fInWork (G : Gm) (w : Int) : Int := cntI (fun r => fWorksAt G w r) (G 5)
def fNeeds (G : Gm) (r : Int) : Int := zmax 0 ((if (G (132 + 16 * r + 1).toNat) = 0 then 2 else if (G (132 + 16 * r + 1).toNat) = 1 then 3 else 0) - (G (132 + 16 * r + 6).toNat))
def fAgree (G : Gm) (a b : Int) : Bool := decide (zabs (a - b) ≤ G 0)
def fFoes (G : Gm) (a b : Int) : Bool := decide (a ≠ b ∧ ((G (60 + 6 * a + b).toNat) = 1 ∨ 1 < (G (96 + 6 * a + b).toNat)))
def hasB (s k : Int) : Bool := decide (zand (zshr s k) 1 = 1)
def fTeam (G : Gm) (w r : Int) : Bool := anyI (fun k => decide ((G (6 + 9 * ((G (132 + 16 * r + (7 + 3 * k + 0)).toNat)) + 1).toNat) = (G (6 + 9 * w + 1).toNat))) ((G (132 + 16 * r + 6).toNat))
def fFoe (G : Gm) (w r : Int) : Bool := anyI (fun k => fFoes G w (G (132 + 16 * r + (7 + 3 * k + 0)).toNat)) ((G (132 + 16 * r + 6).toNat))
def fBarrier (G : Gm) (w r : Int) : Int := if hasB (G (132 + 16 * r + 4).toNat) w = true then 4 else if fTeam G w r = true then 5 else if fFoe G w r = true then 6 else 0
def fRefusal (G : Gm) (w r : Int) : Int := if (G (6 + 9 * w + 3).toNat) < G 2 then 1 else if fInWork G w ≥ (G (6 + 9 * w + 2).toNat) then 2 else if fNeeds G r = 0 then 3 else fBarrier G w r
def fCan (G : Gm) (w r : Int) : Bool := decide (fRefusal G w r = 0)
def fStuck (G : Gm) (r : Int) : Bool := foldI (fun w b => b && decide (0 < fBarrier G w r)) (decide (0 < fNeeds G r)) (G 4)
