/-- what the numbers are bounded by -/
def WV (G : Gm) (w : Int) : Prop := (0 ≤ (G (6 + 9 * w + 1).toNat) ∧ (G (6 + 9 * w + 1).toNat) ≤ 5) ∧ (1 ≤ (G (6 + 9 * w + 2).toNat) ∧ (G (6 + 9 * w + 2).toNat) ≤ 5) ∧ (0 ≤ (G (6 + 9 * w + 3).toNat) ∧ (G (6 + 9 * w + 3).toNat) ≤ 20) ∧ (0 ≤ (G (6 + 9 * w + 4).toNat) ∧ (G (6 + 9 * w + 4).toNat) ≤ 100000) ∧ (0 ≤ (G (6 + 9 * w + 5).toNat) ∧ (G (6 + 9 * w + 5).toNat) ≤ 100000) ∧ (0 ≤ (G (6 + 9 * w + 6).toNat) ∧ (G (6 + 9 * w + 6).toNat) ≤ 100000) ∧ (0 ≤ (G (6 + 9 * w + 7).toNat) ∧ (G (6 + 9 * w + 7).toNat) ≤ 100000) ∧ (0 ≤ (G (6 + 9 * w + 8).toNat) ∧ (G (6 + 9 * w + 8).toNat) ≤ 100000)
def RV (G : Gm) (r : Int) : Prop := (1 ≤ (G (132 + 16 * r + 0).toNat) ∧ (G (132 + 16 * r + 0).toNat) ≤ 9) ∧ (0 ≤ (G (132 + 16 * r + 1).toNat) ∧ (G (132 + 16 * r + 1).toNat) ≤ 3) ∧ (-1 ≤ (G (132 + 16 * r + 2).toNat) ∧ (G (132 + 16 * r + 2).toNat) ≤ 99) ∧ (-1 ≤ (G (132 + 16 * r + 3).toNat) ∧ (G (132 + 16 * r + 3).toNat) ≤ 99) ∧ (0 ≤ (G (132 + 16 * r + 4).toNat) ∧ (G (132 + 16 * r + 4).toNat) < 64) ∧ ∀ k, 0 ≤ k → k < (G (132 + 16 * r + 6).toNat) → (-1 ≤ (G (132 + 16 * r + (7 + 3 * k + 1)).toNat) ∧ (G (132 + 16 * r + (7 + 3 * k + 1)).toNat) ≤ 99) ∧ (0 ≤ (G (132 + 16 * r + (7 + 3 * k + 2)).toNat) ∧ (G (132 + 16 * r + (7 + 3 * k + 2)).toNat) ≤ 100100)
def GV (G : Gm) : Prop := (0 ≤ G 0 ∧ G 0 ≤ 20) ∧ (1 ≤ G 1 ∧ G 1 ≤ 50) ∧ (0 ≤ G 2 ∧ G 2 ≤ 19) ∧ (0 ≤ G 3 ∧ G 3 ≤ 100000) ∧ (∀ w, 0 ≤ w → w < G 4 → WV G w) ∧ (∀ r, 0 ≤ r → r < G 5 → RV G r) ∧ ∀ a b : Int, 0 ≤ a → a < 6 → 0 ≤ b → b < 6 → 0 ≤ (G (96 + 6 * a + b).toNat) ∧ (G (96 + 6 * a + b).toNat) ≤ 100000
theorem fResultOf_r {G : Gm} {w r : Int} (hm : 0 ≤ (G (132 + 16 * r + 6).toNat)) (h : RV G r) : -1 ≤ fResultOf G w r ∧ fResultOf G w r ≤ 99 := by
  unfold fResultOf
  split
  · omega
  · rcases fTakingOf_r G w r hm with q | q
    · contradiction
    · exact (h.2.2.2.2.2 _ q.1 q.2).1
def c_takers (G : Gm) (r : Int) : Int := if 0 ≤ r ∧ r ≤ G 5 - 1 then 0 else 1
def v_takers (G : Gm) (r : Int) : Int := if 0 ≤ r ∧ r ≤ G 5 - 1 then setI (fun w => fCan G w r) (G 4) else 0
def c_isStuck (G : Gm) (r : Int) : Int := if 0 ≤ r ∧ r ≤ G 5 - 1 then 0 else 1
def v_isStuck (G : Gm) (r : Int) : Bool := if 0 ≤ r ∧ r ≤ G 5 - 1 then fStuck G r else false
def c_strikes (G : Gm) (a b : Int) : Int := if (0 ≤ a ∧ a ≤ G 4 - 1) ∧ (0 ≤ b ∧ b ≤ G 4 - 1) then 0 else 1
def v_strikes (G : Gm) (a b : Int) : Int := if (0 ≤ a ∧ a ≤ G 4 - 1) ∧ (0 ≤ b ∧ b ≤ G 4 - 1) then (G (96 + 6 * a + b).toNat) else 0
def c_isBarred (G : Gm) (a b : Int) : Int := if (0 ≤ a ∧ a ≤ G 4 - 1) ∧ (0 ≤ b ∧ b ≤ G 4 - 1) then 0 else 1
def v_isBarred (G : Gm) (a b : Int) : Bool := if (0 ≤ a ∧ a ≤ G 4 - 1) ∧ (0 ≤ b ∧ b ≤ G 4 - 1) then fFoes G a b else false
def fTogP (G : Gm) (a b g r : Int) : Bool := decide (fResultOf G a r ≠ -1 ∧ fResultOf G b r ≠ -1 ∧ (if zabs (fResultOf G a r - fResultOf G b r) ≤ G 0 then 1 else 0) = g)
def fTog (G : Gm) (a b g : Int) : Int := if a = b then 0 else cntI (fTogP G a b g) (G 5)
def c_agreeing (G : Gm) (a b : Int) : Int := if (0 ≤ a ∧ a ≤ G 4 - 1) ∧ (0 ≤ b ∧ b ≤ G 4 - 1) then 0 else 1
def v_agreeing (G : Gm) (a b : Int) : Int := if (0 ≤ a ∧ a ≤ G 4 - 1) ∧ (0 ≤ b ∧ b ≤ G 4 - 1) then fTog G a b 1 else 0
def c_differing (G : Gm) (a b : Int) : Int := if (0 ≤ a ∧ a ≤ G 4 - 1) ∧ (0 ≤ b ∧ b ≤ G 4 - 1) then 0 else 1
def v_differing (G : Gm) (a b : Int) : Int := if (0 ≤ a ∧ a ≤ G 4 - 1) ∧ (0 ≤ b ∧ b ≤ G 4 - 1) then fTog G a b 0 else 0
def fPartS (G : Gm) (w o : Int) (x : Int × Int) : Int × Int := if fTog G w o 1 ≤ x.2 then x else (o, fTog G w o 1)
def fPart (G : Gm) (w : Int) : Int × Int := foldI (fPartS G w) (-1, 0) (G 4)
def c_partner (G : Gm) (w : Int) : Int := if 0 ≤ w ∧ w ≤ G 4 - 1 then 0 else 1
def v_partner (G : Gm) (w : Int) : Int := if 0 ≤ w ∧ w ≤ G 4 - 1 then (fPart G w).1 else 0
def c_suspended (G : Gm) : Int := 0
def v_suspended (G : Gm) : Int := setI (fun w => decide ((G (6 + 9 * w + 3).toNat) < G 2)) (G 4)
def fManyIn (G : Gm) (s : Int) : Int := cntI (fun r => decide ((G (132 + 16 * r + 1).toNat) = s)) (G 5)
def fAudited (G : Gm) : Int := cntI (fun r => decide ((G (132 + 16 * r + 3).toNat) ≠ -1)) (G 5)
def c_property (G : Gm) (what : Int) : Int := if 0 ≤ what ∧ what ≤ 10 then 0 else 1
def v_property (G : Gm) (what : Int) : Int := if 0 ≤ what ∧ what ≤ 10 then (if what = 0 then G 4 else if what = 1 then G 5 else if what = 2 then G 3 else if what = 3 then G 0 else if what = 4 then G 1 else if what = 5 then G 2 else if what = 10 then fAudited G else fManyIn G (what - 6)) else 0
def c_worker (G : Gm) (w what : Int) : Int := if 0 ≤ w ∧ w ≤ G 4 - 1 then (if 0 ≤ what ∧ what ≤ 8 then 0 else 2) else 1
def v_worker (G : Gm) (w what : Int) : Int := if (0 ≤ w ∧ w ≤ G 4 - 1) ∧ (0 ≤ what ∧ what ≤ 8) then (if what = 0 then (G (6 + 9 * w + 1).toNat) else if what = 1 then (G (6 + 9 * w + 2).toNat) else if what = 2 then (G (6 + 9 * w + 3).toNat) else if what = 3 then fInWork G w else if what = 4 then (G (6 + 9 * w + 4).toNat) else if what = 5 then (G (6 + 9 * w + 5).toNat) else if what = 6 then (G (6 + 9 * w + 6).toNat) else if what = 7 then (G (6 + 9 * w + 7).toNat) else (G (6 + 9 * w + 8).toNat)) else 0
def c_row (G : Gm) (r what : Int) : Int := if 0 ≤ r ∧ r ≤ G 5 - 1 then (if 0 ≤ what ∧ what ≤ 6 then 0 else 2) else 1
def v_row (G : Gm) (r what : Int) : Int := if (0 ≤ r ∧ r ≤ G 5 - 1) ∧ (0 ≤ what ∧ what ≤ 6) then (if what = 0 then (G (132 + 16 * r + 0).toNat) else if what = 1 then (G (132 + 16 * r + 1).toNat) else if what = 2 then (if (G (132 + 16 * r + 1).toNat) = 2 then (G (132 + 16 * r + 2).toNat) else -1) else if what = 3 then (if (G (132 + 16 * r + 3).toNat) = -1 then 0 else 1) else if what = 4 then (G (132 + 16 * r + 6).toNat) else if what = 5 then fNeeds G r else (G (132 + 16 * r + 4).toNat)) else 0
def c_taking (G : Gm) (r k what : Int) : Int := if (0 ≤ r ∧ r ≤ G 5 - 1) ∧ (0 ≤ k ∧ k ≤ (G (132 + 16 * r + 6).toNat) - 1) then (if 0 ≤ what ∧ what ≤ 2 then 0 else 2) else 1
def v_taking (G : Gm) (r k what : Int) : Int := if ((0 ≤ r ∧ r ≤ G 5 - 1) ∧ (0 ≤ k ∧ k ≤ (G (132 + 16 * r + 6).toNat) - 1)) ∧ (0 ≤ what ∧ what ≤ 2) then (if what = 0 then (G (132 + 16 * r + (7 + 3 * k + 0)).toNat) else if what = 1 then (G (132 + 16 * r + (7 + 3 * k + 1)).toNat) else (if (G (132 + 16 * r + (7 + 3 * k + 1)).toNat) = -1 then (G (132 + 16 * r + (7 + 3 * k + 2)).toNat) else -1)) else 0
def c_finishers (G : Gm) (r : Int) : Int := if 0 ≤ r ∧ r ≤ G 5 - 1 then 0 else 1
def v_finishers (G : Gm) (r : Int) : Int := if 0 ≤ r ∧ r ≤ G 5 - 1 then (G (132 + 16 * r + 5).toNat) else 0
