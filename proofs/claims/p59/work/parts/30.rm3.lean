def hidP (p : Prop) : Prop := p
theorem hidP_u {p : Prop} (h : hidP p) : p := h
def WBd (g : Gm) (w : Int) : Prop := (0 ≤ (g (6 + 9 * w + 3).toNat) ∧ (g (6 + 9 * w + 3).toNat) ≤ 20) ∧ (0 ≤ (g (6 + 9 * w + 6).toNat) ∧ (g (6 + 9 * w + 6).toNat) ≤ 100000) ∧ (0 ≤ (g (6 + 9 * w + 8).toNat) ∧ (g (6 + 9 * w + 8).toNat) ≤ 100000)
/-- what a row with n takings has, ahead of being compared -/
def DB (g : Gm) (r n : Int) : Prop := (0 ≤ r ∧ r < 24) ∧ (1 ≤ (g (132 + 16 * r + 0).toNat) ∧ (g (132 + 16 * r + 0).toNat) ≤ 9) ∧ (0 ≤ g 0 ∧ g 0 ≤ 20) ∧ (∀ k : Int, 0 ≤ k → k < n → (0 ≤ (g (132 + 16 * r + (7 + 3 * k + 0)).toNat) ∧ (g (132 + 16 * r + (7 + 3 * k + 0)).toNat) < 6) ∧ (-1 ≤ (g (132 + 16 * r + (7 + 3 * k + 1)).toNat) ∧ (g (132 + 16 * r + (7 + 3 * k + 1)).toNat) ≤ 99) ∧ WBd g (g (132 + 16 * r + (7 + 3 * k + 0)).toNat)) ∧ ∀ k l : Int, 0 ≤ k → k < l → l < n → (g (132 + 16 * r + (7 + 3 * k + 0)).toNat) ≠ (g (132 + 16 * r + (7 + 3 * l + 0)).toNat)
def fClamp (x : Int) : Int := zmax 0 (zmin 20 x)
def fHave (g : Gm) (r many : Int) : Bool := foldI (fun k b => b && decide ((g (132 + 16 * r + (7 + 3 * k + 1)).toNat) ≠ -1)) (decide ((g (132 + 16 * r + 6).toNat) = many)) (g (132 + 16 * r + 6).toNat)
def fGain (g : Gm) (w r : Int) : Gm := gU (gU (gU g (6 + 9 * w + 3) (fClamp ((g (6 + 9 * w + 3).toNat) + 1))) (6 + 9 * w + 6) ((g (6 + 9 * w + 6).toNat) + 1)) (6 + 9 * w + 8) ((g (6 + 9 * w + 8).toNat) + (g (132 + 16 * r + 0).toNat))
theorem fGain_n (g : Gm) {w r : Int} {k : Nat} (h : k ≠ (6 + 9 * w + 3).toNat ∧ k ≠ (6 + 9 * w + 6).toNat ∧ k ≠ (6 + 9 * w + 8).toNat) : fGain g w r k = g k := by
  unfold fGain
  rw [gU_n _ h.2.2, gU_n _ h.2.1, gU_n _ h.1]
theorem WBd.u {g : Gm} {i v w : Int} (h : WBd g w) (hw : 0 ≤ w ∧ w < 6) (hi : 60 ≤ i) : WBd (gU g i v) w := by
  unfold WBd at *
  rw [gU_n _ (by omega), gU_n _ (by omega), gU_n _ (by omega)]
  exact h
def fFin (g : Gm) (r p q : Int) : Gm := fGain (fGain (gU (gU (gU g (132 + 16 * r + 2) (if (g (6 + 9 * (g (132 + 16 * r + (7 + 3 * p + 0)).toNat) + 3).toNat) < (g (6 + 9 * (g (132 + 16 * r + (7 + 3 * q + 0)).toNat) + 3).toNat) then (g (132 + 16 * r + (7 + 3 * q + 1)).toNat) else (g (132 + 16 * r + (7 + 3 * p + 1)).toNat))) (132 + 16 * r + 1) 2) (132 + 16 * r + 5) (zor (zshl 1 (g (132 + 16 * r + (7 + 3 * p + 0)).toNat)) (zshl 1 (g (132 + 16 * r + (7 + 3 * q + 0)).toNat)))) (g (132 + 16 * r + (7 + 3 * p + 0)).toNat) r) (g (132 + 16 * r + (7 + 3 * q + 0)).toNat) r
def fCmp (g : Gm) (r : Int) : Gm := if fAgree g (g (132 + 16 * r + (7 + 3 * 0 + 1)).toNat) (g (132 + 16 * r + (7 + 3 * 1 + 1)).toNat) = true then fFin g r 0 1 else gU g (132 + 16 * r + 1) 1
def fFar (g : Gm) (r k : Int) : Int := zabs ((g (132 + 16 * r + (7 + 3 * k + 1)).toNat) - (g (132 + 16 * r + (7 + 3 * 2 + 1)).toNat))
def fNear (g : Gm) (r : Int) : Int := if fFar g r 1 < fFar g r 0 then 1 else 0
def fAside (g : Gm) (r : Int) : Gm := gU (gU (gU (gU g (132 + 16 * r + 1) 3) (6 + 9 * (g (132 + 16 * r + (7 + 3 * 0 + 0)).toNat) + 3) (fClamp ((g (6 + 9 * (g (132 + 16 * r + (7 + 3 * 0 + 0)).toNat) + 3).toNat) + -1))) (6 + 9 * (g (132 + 16 * r + (7 + 3 * 1 + 0)).toNat) + 3) (fClamp ((g (6 + 9 * (g (132 + 16 * r + (7 + 3 * 1 + 0)).toNat) + 3).toNat) + -1))) (6 + 9 * (g (132 + 16 * r + (7 + 3 * 2 + 0)).toNat) + 3) (fClamp ((g (6 + 9 * (g (132 + 16 * r + (7 + 3 * 2 + 0)).toNat) + 3).toNat) + -1))
def fDec (g : Gm) (r : Int) : Gm := if g 0 < fFar g r (fNear g r) then fAside g r else if g 0 < fFar g r (1 - fNear g r) then gU (fFin g r (fNear g r) 2) (6 + 9 * (g (132 + 16 * r + (7 + 3 * (1 - fNear g r) + 0)).toNat) + 3) (fClamp ((g (6 + 9 * (g (132 + 16 * r + (7 + 3 * (1 - fNear g r) + 0)).toNat) + 3).toNat) + -3)) else fFin g r (fNear g r) 2
theorem fFin_n (g : Gm) {r p q : Int} {k : Nat} (h0 : 0 ≤ r ∧ r < 24) (h1 : k ≠ (132 + 16 * r + 2).toNat ∧ k ≠ (132 + 16 * r + 1).toNat ∧ k ≠ (132 + 16 * r + 5).toNat) (h2 : k ≠ (6 + 9 * (g (132 + 16 * r + (7 + 3 * p + 0)).toNat) + 3).toNat ∧ k ≠ (6 + 9 * (g (132 + 16 * r + (7 + 3 * p + 0)).toNat) + 6).toNat ∧ k ≠ (6 + 9 * (g (132 + 16 * r + (7 + 3 * p + 0)).toNat) + 8).toNat) (h3 : k ≠ (6 + 9 * (g (132 + 16 * r + (7 + 3 * q + 0)).toNat) + 3).toNat ∧ k ≠ (6 + 9 * (g (132 + 16 * r + (7 + 3 * q + 0)).toNat) + 6).toNat ∧ k ≠ (6 + 9 * (g (132 + 16 * r + (7 + 3 * q + 0)).toNat) + 8).toNat) : fFin g r p q k = g k := by
  unfold fFin
  rw [fGain_n _ h3, fGain_n _ h2, gU_n _ h1.2.2, gU_n _ h1.2.1, gU_n _ h1.1]
theorem fFin_nt (g : Gm) {r p q : Int} {k : Nat} (h0 : 0 ≤ r ∧ r < 24) (h1 : k < 6) (h2 : hidP (0 ≤ (g (132 + 16 * r + (7 + 3 * p + 0)).toNat) ∧ (g (132 + 16 * r + (7 + 3 * p + 0)).toNat) < 6)) (h3 : hidP (0 ≤ (g (132 + 16 * r + (7 + 3 * q + 0)).toNat) ∧ (g (132 + 16 * r + (7 + 3 * q + 0)).toNat) < 6)) : fFin g r p q k = g k := by
  have e2 := hidP_u h2
  have e3 := hidP_u h3
  exact fFin_n g h0 (by omega) (by omega) (by omega)
