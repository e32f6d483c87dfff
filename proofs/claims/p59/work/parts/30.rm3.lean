theorem zMw {Ψ : ZPhi} {pc : Nat} {L : List (Option ZV)} {st : List ZV} {M0 M : ZM} {A : Nat} {e : Gm} {k n : Nat} (e1 : M0 = zsA M A e) (h : ∀ g : Gm, g = e → Ψ pc L st (zsA M A g) k n) : Ψ pc L st M0 k n := by subst e1; exact h e rfl
def hidP (p : Prop) : Prop := p
theorem hidP_u {p : Prop} (h : hidP p) : p := h
def zEqn (x y : Int) : Prop := x = y
theorem zEq {x y : Int} (h : zEqn x y) : x = y := h
theorem zIv {Ψ : ZPhi} {pc : Nat} {L : List (Option ZV)} {st : List ZV} {M : ZM} {k n : Nat} {y : Int} (h : ∀ v, zEqn y v → Ψ pc L (zi v :: st) M k n) : Ψ pc L (zi y :: st) M k n := h y rfl
theorem zsI_gG {M : ZM} {A : Nat} {G : Gm} (h : zI M A = G) (i v : Int) : zsI M A i.toNat v = zsA M A (gU G i v) := by rw [← h]; exact zsI_A _ _ _ _
theorem gS {g g' : Gm} {i v : Int} (h : g = gU g' i v) : g i.toNat = v := by rw [h]; exact gU_s _ _ _
theorem gN {g g' : Gm} {i v : Int} (h : g = gU g' i v) {k : Nat} (hk : k ≠ i.toNat) : g k = g' k := by rw [h]; exact gU_n _ hk
theorem RI_A {M : ZM} {A : Nat} {g : Gm} {r : Int} (h : RI g r) : RI (zI (zsA M A g) A) r := by rw [zI_A]; exact h
def WBd (g : Gm) (w : Int) : Prop := (0 ≤ (g (6 + 9 * w + 3).toNat) ∧ (g (6 + 9 * w + 3).toNat) ≤ 20) ∧ (0 ≤ (g (6 + 9 * w + 6).toNat) ∧ (g (6 + 9 * w + 6).toNat) ≤ 100000) ∧ (0 ≤ (g (6 + 9 * w + 8).toNat) ∧ (g (6 + 9 * w + 8).toNat) ≤ 100000)
/-- what a row with n takings has, ahead of being compared -/
def DB (g : Gm) (r n : Int) : Prop := (0 ≤ r ∧ r < 24) ∧ (1 ≤ (g (132 + 16 * r + 0).toNat) ∧ (g (132 + 16 * r + 0).toNat) ≤ 9) ∧ (0 ≤ g 0 ∧ g 0 ≤ 20) ∧ (∀ k : Int, 0 ≤ k → k < n → (0 ≤ (g (132 + 16 * r + (7 + 3 * k + 0)).toNat) ∧ (g (132 + 16 * r + (7 + 3 * k + 0)).toNat) < 6) ∧ (-1 ≤ (g (132 + 16 * r + (7 + 3 * k + 1)).toNat) ∧ (g (132 + 16 * r + (7 + 3 * k + 1)).toNat) ≤ 99) ∧ WBd g (g (132 + 16 * r + (7 + 3 * k + 0)).toNat)) ∧ ∀ k l : Int, 0 ≤ k → k < l → l < n → (g (132 + 16 * r + (7 + 3 * k + 0)).toNat) ≠ (g (132 + 16 * r + (7 + 3 * l + 0)).toNat)
theorem DB_A {M : ZM} {A : Nat} {g : Gm} {r n : Int} (h : DB g r n) : DB (zI (zsA M A g) A) r n := by rw [zI_A]; exact h
def fClamp (x : Int) : Int := zmax 0 (zmin 20 x)
def fHave (g : Gm) (r many : Int) : Bool := foldI (fun k b => b && decide ((g (132 + 16 * r + (7 + 3 * k + 1)).toNat) ≠ -1)) (decide ((g (132 + 16 * r + 6).toNat) = many)) (g (132 + 16 * r + 6).toNat)
def fGain (g : Gm) (w r : Int) : Gm := gU (gU (gU g (6 + 9 * w + 3) (fClamp ((g (6 + 9 * w + 3).toNat) + 1))) (6 + 9 * w + 6) ((g (6 + 9 * w + 6).toNat) + 1)) (6 + 9 * w + 8) ((g (6 + 9 * w + 8).toNat) + (g (132 + 16 * r + 0).toNat))
theorem fGain_n (g : Gm) {w r : Int} {k : Nat} (h : k ≠ (6 + 9 * w + 3).toNat ∧ k ≠ (6 + 9 * w + 6).toNat ∧ k ≠ (6 + 9 * w + 8).toNat) : fGain g w r k = g k := by
  unfold fGain
  rw [gU_n _ h.2.2, gU_n _ h.2.1, gU_n _ h.1]
theorem WBd.u {g : Gm} {i v w : Int} (h : WBd g w) (hw : 0 ≤ w ∧ w < 6) (hi : 60 ≤ i) : WBd (gU g i v) w := by
  unfold WBd at *
  rw [gU_n _ (by omega), gU_n _ (by omega), gU_n _ (by omega)]
  exact h
theorem WBd.g {g : Gm} {a r w : Int} (h : WBd g w) (hw : 0 ≤ w ∧ w < 6) (ha : 0 ≤ a ∧ a < 6) (hn : a ≠ w) : WBd (fGain g a r) w := by
  unfold WBd at *
  rw [fGain_n _ (by omega), fGain_n _ (by omega), fGain_n _ (by omega)]
  exact h
theorem WBd_A {M : ZM} {A : Nat} {g : Gm} {w : Int} (h : WBd g w) : WBd (zI (zsA M A g) A) w := by rw [zI_A]; exact h
theorem eqA {M : ZM} {A k : Nat} {g : Gm} {P : Int → Prop} (h : P (g k)) : P (zI (zsA M A g) A k) := by rw [zI_A]; exact h
def fFin (g : Gm) (r p q : Int) : Gm := fGain (fGain (gU (gU (gU g (132 + 16 * r + 2) (if (g (6 + 9 * (g (132 + 16 * r + (7 + 3 * p + 0)).toNat) + 3).toNat) < (g (6 + 9 * (g (132 + 16 * r + (7 + 3 * q + 0)).toNat) + 3).toNat) then (g (132 + 16 * r + (7 + 3 * q + 1)).toNat) else (g (132 + 16 * r + (7 + 3 * p + 1)).toNat))) (132 + 16 * r + 1) 2) (132 + 16 * r + 5) (zor (zshl 1 (g (132 + 16 * r + (7 + 3 * p + 0)).toNat)) (zshl 1 (g (132 + 16 * r + (7 + 3 * q + 0)).toNat)))) (g (132 + 16 * r + (7 + 3 * p + 0)).toNat) r) (g (132 + 16 * r + (7 + 3 * q + 0)).toNat) r
def fCmp (g : Gm) (r : Int) : Gm := if fAgree g (g (132 + 16 * r + (7 + 3 * 0 + 1)).toNat) (g (132 + 16 * r + (7 + 3 * 1 + 1)).toNat) = true then fFin g r 0 1 else gU g (132 + 16 * r + 1) 1
def fFar (g : Gm) (r k : Int) : Int := zabs ((g (132 + 16 * r + (7 + 3 * k + 1)).toNat) - (g (132 + 16 * r + (7 + 3 * 2 + 1)).toNat))
def fNear (g : Gm) (r : Int) : Int := if fFar g r 1 < fFar g r 0 then 1 else 0
def fAside (g : Gm) (r : Int) : Gm := gU (gU (gU (gU g (132 + 16 * r + 1) 3) (6 + 9 * (g (132 + 16 * r + (7 + 3 * 0 + 0)).toNat) + 3) (fClamp ((g (6 + 9 * (g (132 + 16 * r + (7 + 3 * 0 + 0)).toNat) + 3).toNat) + -1))) (6 + 9 * (g (132 + 16 * r + (7 + 3 * 1 + 0)).toNat) + 3) (fClamp ((g (6 + 9 * (g (132 + 16 * r + (7 + 3 * 1 + 0)).toNat) + 3).toNat) + -1))) (6 + 9 * (g (132 + 16 * r + (7 + 3 * 2 + 0)).toNat) + 3) (fClamp ((g (6 + 9 * (g (132 + 16 * r + (7 + 3 * 2 + 0)).toNat) + 3).toNat) + -1))
def fDec (g : Gm) (r : Int) : Gm := if g 0 < fFar g r (fNear g r) then fAside g r else if g 0 < fFar g r (1 - fNear g r) then gU (fFin g r (fNear g r) 2) (6 + 9 * (g (132 + 16 * r + (7 + 3 * (1 - fNear g r) + 0)).toNat) + 3) (fClamp ((g (6 + 9 * (g (132 + 16 * r + (7 + 3 * (1 - fNear g r) + 0)).toNat) + 3).toNat) + -3)) else fFin g r (fNear g r) 2
theorem fFin_n (g : Gm) {r p q : Int} {k : Nat} (h0 : 0 ≤ r ∧ r < 24) (h1 : k ≠ (132 + 16 * r + 2).toNat ∧ k ≠ (132 + 16 * r + 1).toNat ∧ k ≠ (132 + 16 * r + 5).toNat) (h2 : k ≠ (6 + 9 * (g (132 + 16 * r + (7 + 3 * p + 0)).toNat) + 3).toNat ∧ k ≠ (6 + 9 * (g (132 + 16 * r + (7 + 3 * p + 0)).toNat) + 6).toNat ∧ k ≠ (6 + 9 * (g (132 + 16 * r + (7 + 3 * p + 0)).toNat) + 8).toNat) (h3 : k ≠ (6 + 9 * (g (132 + 16 * r + (7 + 3 * q + 0)).toNat) + 3).toNat ∧ k ≠ (6 + 9 * (g (132 + 16 * r + (7 + 3 * q + 0)).toNat) + 6).toNat ∧ k ≠ (6 + 9 * (g (132 + 16 * r + (7 + 3 * q + 0)).toNat) + 8).toNat) : fFin g r p q k = g k := by
  unfold fFin
  rw [fGain_n _ h3, fGain_n _ h2, gU_n _ h1.2.2, gU_n _ h1.2.1, gU_n _ h1.1]
theorem fFin_nr (g : Gm) {r p q : Int} {k : Nat} (h0 : 0 ≤ r ∧ r < 24) (h1 : (132 + 16 * r + 6).toNat ≤ k) (h2 : hidP (0 ≤ (g (132 + 16 * r + (7 + 3 * p + 0)).toNat) ∧ (g (132 + 16 * r + (7 + 3 * p + 0)).toNat) < 6)) (h3 : hidP (0 ≤ (g (132 + 16 * r + (7 + 3 * q + 0)).toNat) ∧ (g (132 + 16 * r + (7 + 3 * q + 0)).toNat) < 6)) : fFin g r p q k = g k := by
  have e2 := hidP_u h2
  have e3 := hidP_u h3
  exact fFin_n g h0 (by omega) (by omega) (by omega)
theorem fFin_nt (g : Gm) {r p q : Int} {k : Nat} (h0 : 0 ≤ r ∧ r < 24) (h1 : k < 6) (h2 : hidP (0 ≤ (g (132 + 16 * r + (7 + 3 * p + 0)).toNat) ∧ (g (132 + 16 * r + (7 + 3 * p + 0)).toNat) < 6)) (h3 : hidP (0 ≤ (g (132 + 16 * r + (7 + 3 * q + 0)).toNat) ∧ (g (132 + 16 * r + (7 + 3 * q + 0)).toNat) < 6)) : fFin g r p q k = g k := by
  have e2 := hidP_u h2
  have e3 := hidP_u h3
  exact fFin_n g h0 (by omega) (by omega) (by omega)
theorem fFin_nw (g : Gm) {r p q w : Int} {k : Nat} (h0 : 0 ≤ r ∧ r < 24) (hw : 0 ≤ w ∧ w < 6) (h1 : k = (6 + 9 * w + 3).toNat) (h2 : hidP ((0 ≤ (g (132 + 16 * r + (7 + 3 * p + 0)).toNat) ∧ (g (132 + 16 * r + (7 + 3 * p + 0)).toNat) < 6) ∧ w ≠ (g (132 + 16 * r + (7 + 3 * p + 0)).toNat))) (h3 : hidP ((0 ≤ (g (132 + 16 * r + (7 + 3 * q + 0)).toNat) ∧ (g (132 + 16 * r + (7 + 3 * q + 0)).toNat) < 6) ∧ w ≠ (g (132 + 16 * r + (7 + 3 * q + 0)).toNat))) : fFin g r p q k = g k := by
  have e2 := hidP_u h2
  have e3 := hidP_u h3
  exact fFin_n g h0 (by omega) (by omega) (by omega)
theorem hidP_i {p q : Prop} (h : hidP p) (h2 : hidP q) : hidP (p ∧ q) := ⟨h, h2⟩
