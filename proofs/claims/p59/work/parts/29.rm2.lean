def SYw (j : Nat) : Prop := j = 670 ∨ j = 671 ∨ j = 679
theorem fNeeds_c {G : Gm} {r : Int} (hm : 0 ≤ (G (132 + 16 * r + 6).toNat)) (h : fNeeds G r ≠ 0) : (G (132 + 16 * r + 6).toNat) ≤ 2 ∧ ((G (132 + 16 * r + 1).toNat) = 0 ∨ (G (132 + 16 * r + 1).toNat) = 1) ∧ ((G (132 + 16 * r + 1).toNat) = 0 → (G (132 + 16 * r + 6).toNat) ≤ 1) := by
  unfold fNeeds zmax at h
  generalize (G (132 + 16 * r + 1).toNat) = s at *
  generalize (G (132 + 16 * r + 6).toNat) = n at *
  by_cases h1 : s = 0
  · rw [if_pos h1] at h
    split at h <;> omega
  · by_cases h2 : s = 1
    · rw [if_neg h1, if_pos h2] at h
      split at h <;> omega
    · rw [if_neg h1, if_neg h2] at h
      split at h <;> omega
theorem fRef_c {G : Gm} {w r : Int} (h : fRefusal G w r = 0) : ¬ (G (6 + 9 * w + 3).toNat) < G 2 ∧ fInWork G w < (G (6 + 9 * w + 2).toNat) ∧ fNeeds G r ≠ 0 ∧ fBarrier G w r = 0 := by
  unfold fRefusal at h
  split at h
  · cases h
  · split at h
    · cases h
    · split at h
      · cases h
      · exact ⟨by assumption, by omega, by assumption, h⟩
theorem fNext_c {G : Gm} {w : Int} (h : 0 ≤ G 5) : fNext G w = -1 ∨ 0 ≤ fNext G w ∧ fNext G w < G 5 ∧ fRefusal G w (fNext G w) = 0 := by
  refine foldI_inv (fun i b => b = -1 ∨ 0 ≤ b ∧ b < i ∧ fRefusal G w b = 0) (Or.inl rfl) (fun i x h0 h1 hx => ?_) (G 5) h (Int.le_refl _)
  show (if fNextC G w i x = true then i else x) = -1 ∨ 0 ≤ (if fNextC G w i x = true then i else x) ∧ (if fNextC G w i x = true then i else x) < i + 1 ∧ fRefusal G w (if fNextC G w i x = true then i else x) = 0
  split
  · next q =>
    unfold fNextC at q
    rw [decide_eq_true_eq] at q
    exact Or.inr ⟨h0, by omega, q.1⟩
  · rcases hx with q | q
    · exact Or.inl q
    · exact Or.inr ⟨q.1, by omega, q.2.2⟩
def fTake (G : Gm) (w r : Int) : Gm := gU (gU (gU (gU (gU (gU G (132 + 16 * r + 6) ((G (132 + 16 * r + 6).toNat) + 1)) (132 + 16 * r + (7 + 3 * (G (132 + 16 * r + 6).toNat) + 0)) (w)) (132 + 16 * r + (7 + 3 * (G (132 + 16 * r + 6).toNat) + 1)) (-1)) (132 + 16 * r + (7 + 3 * (G (132 + 16 * r + 6).toNat) + 2)) (G 3 + G 1)) (132 + 16 * r + 4) (zor (G (132 + 16 * r + 4).toNat) (zshl 1 w))) (6 + 9 * w + 4) ((G (6 + 9 * w + 4).toNat) + 1)
def c_take (G : Gm) (w : Int) : Int := if 0 ≤ w ∧ w ≤ G 4 - 1 then (if fNext G w = -1 then 2 else 0) else 1
def v_take (G : Gm) (w : Int) : Int := fNext G w
def F_take (G : Gm) (w : Int) : Gm := fTake G w (fNext G w)
def c_takeRow (G : Gm) (w r : Int) : Int := if (0 ≤ w ∧ w ≤ G 4 - 1) ∧ (0 ≤ r ∧ r ≤ G 5 - 1) then (if fRefusal G w r = 0 then 0 else 2) else 1
def v_takeRow (G : Gm) (w r : Int) : Int := G 3 + G 1
def F_takeRow (G : Gm) (w r : Int) : Gm := fTake G w r
def c_pardon (G : Gm) (w : Int) : Int := if 0 ≤ w ∧ w ≤ G 4 - 1 then (if (G (6 + 9 * w + 3).toNat) < G 2 then 0 else 2) else 1
def v_pardon (G : Gm) (w : Int) : Int := (G (6 + 9 * w + 3).toNat)
def F_pardon (G : Gm) (w : Int) : Gm := gU G (6 + 9 * w + 3) ((G (6 + 9 * w + 3).toNat) + (G 2 - (G (6 + 9 * w + 3).toNat)))
def c_setTable (G : Gm) (what v : Int) : Int := if (0 ≤ what ∧ what ≤ 2) ∧ ((if what = 1 then 1 else 0) ≤ v ∧ v ≤ (if what = 0 then 20 else if what = 1 then 50 else 19)) then 0 else 1
def v_setTable (G : Gm) (what v : Int) : Int := G what.toNat
def F_setTable (G : Gm) (what v : Int) : Gm := gU G what v
def c_bar (G : Gm) (a b on : Int) : Int := if (0 ≤ a ∧ a ≤ G 4 - 1) ∧ (0 ≤ b ∧ b ≤ G 4 - 1) then (if a = b then 2 else 0) else 1
def v_bar (G : Gm) (a b on : Int) : Bool := fFoes G a b
def F_bar (G : Gm) (a b on : Int) : Gm := gU (gU (gU (gU G (60 + 6 * a + b) (if on ≠ 0 then 1 else 0)) (60 + 6 * b + a) (if on ≠ 0 then 1 else 0)) (96 + 6 * a + b) (0)) (96 + 6 * b + a) (0)
