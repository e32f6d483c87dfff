theorem fWorksAt_k {G : Gm} {w r : Int} (h : fWorksAt G w r = true) : fTakingOf G w r ≠ -1 := by
  intro q
  unfold fWorksAt at h
  rw [if_pos q] at h
  cases h
def c_deliver (G : Gm) (w r x : Int) : Int := if (0 ≤ w ∧ w ≤ G 4 - 1) ∧ (0 ≤ r ∧ r ≤ G 5 - 1) then (if 0 ≤ x ∧ x ≤ 99 then (if fWorksAt G w r = true then 0 else 3) else 2) else 1
def v_deliver (G : Gm) (w r x : Int) : Int := ((fDel G w r x) (132 + 16 * r + 1).toNat)
def F_deliver (G : Gm) (w r x : Int) : Gm := fDel G w r x
