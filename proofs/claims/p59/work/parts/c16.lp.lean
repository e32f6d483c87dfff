/-! the law's load: what is drawn, what stands around -/
def lTm (S : Nat × (Nat → Int)) (w : Int) : Int := drS S (10 + 3 * w) 6
def lQo (S : Nat × (Nat → Int)) (w : Int) : Int := 1 + drS S (11 + 3 * w) 5
def lTr (S : Nat × (Nat → Int)) (w : Int) : Int := drS S (12 + 3 * w) 21
def lMm (S : Nat × (Nat → Int)) (k : Int) : Int := 1 + drS S (30 + 2 * k) 4
def lZz (S : Nat × (Nat → Int)) (k : Int) : Int := 1 + drS S (31 + 2 * k) 9
def lTo (S : Nat × (Nat → Int)) : Int := if drS S 1 4 = 0 then drS S 2 21 else drS S 2 5
def lPa (S : Nat × (Nat → Int)) : Int := 1 + drS S 3 12
def lLe (S : Nat × (Nat → Int)) : Int := drS S 4 10
def lTX (S : Nat × (Nat → Int)) (W tol lots one other : Int) : List Int := sTB tol (lPa S) (lLe S) [] ++ txW (lTm S) (lQo S) (lTr S) W.toNat ++ txR (lMm S) (lZz S) lots.toNat ++ txB one other
theorem prs_lw {S : Nat × (Nat → Int)} {B : Gm} {n W tol lots y one other : Int} (hW : W = 1 + drS S 0 6) (ht : tol = lTo S) (hl : lots = drS S 5 4) (hy : y = smR (lMm S) lots.toNat) (h1 : one = drS S 6 W) (h2 : other = drS S 7 W) (h : AtB B n 0 (lTX S W tol lots one other)) : ((prs B n).2.1 = 0 ∧ (prs B n).2.2.1 = -1) ∧ LDD tol (lTm S) (lQo S) (lTr S) W y one other (prs B n).1 := by
  have d0 := dr_r (S := S) (k := 0) (n := 6) (by decide)
  have d1 := dr_r (S := S) (k := 2) (n := 21) (by decide)
  have d2 := dr_r (S := S) (k := 2) (n := 5) (by decide)
  have d3 := dr_r (S := S) (k := 3) (n := 12) (by decide)
  have d4 := dr_r (S := S) (k := 4) (n := 10) (by decide)
  have d5 := dr_r (S := S) (k := 5) (n := 4) (by decide)
  have d6 := dr_r (S := S) (k := 6) (n := W) (by omega)
  have d7 := dr_r (S := S) (k := 7) (n := W) (by omega)
  have eW : ((W.toNat : Nat) : Int) = W := by omega
  have ht2 : 0 ≤ tol ∧ tol ≤ 20 := by
    rw [ht]
    unfold lTo
    split <;> omega
  have h9 := prs_ld (B := B) (n := n) (a := tol) (b := lPa S) (c := lLe S) (i := one) (j := other) (tm := lTm S) (qo := lQo S) (tr := lTr S) (m := lMm S) (z := lZz S) (W := W.toNat) (R := lots.toNat) ht2 (by unfold lPa; omega) (by unfold lLe; omega) (fun w _ _ => ?_) (fun k _ _ => ?_) (fun k _ _ => ?_) (by omega) (by omega) (by omega) (by omega) h
  · rw [eW, ← hy] at h9
    exact h9
  · have a1 := dr_r (S := S) (k := 10 + 3 * w) (n := 6) (by decide)
    have a2 := dr_r (S := S) (k := 11 + 3 * w) (n := 5) (by decide)
    have a3 := dr_r (S := S) (k := 12 + 3 * w) (n := 21) (by decide)
    unfold lTm lQo lTr
    omega
  · have a1 := dr_r (S := S) (k := 30 + 2 * k) (n := 4) (by decide)
    unfold lMm
    omega
  · have a1 := dr_r (S := S) (k := 31 + 2 * k) (n := 9) (by decide)
    unfold lZz
    omega
/-- what stands as load begins -/
def LP9 (S : Nat × (Nat → Int)) (M : ZM) : Prop := (LC9 S M ∧ S.1 < 2147483648) ∧ (KL M ∧ KD M ∧ 670 ≤ zN M) ∧ (LV M ∧ KC M ∧ OX M) ∧ ∃ (G0 : Gm) (P : Int → Gm) (c : Int), TR M 129 G0 ∧ GI G0 ∧ RQ M P c
theorem LP9.fr {T : Nat → Prop} {S : Nat × (Nat → Int)} {M M' : ZM} (h : LP9 S M) (f : Fr T M M') (hs : ∀ j, T j → j = 66 ∨ j = 67) : LP9 S M' := by
  obtain ⟨⟨h1, h2⟩, ⟨h3, h4, h5⟩, ⟨h6, h7, h8⟩, G0, P, c, h9, h10, h11⟩ := h
  have no : ∀ j, j < 66 ∨ 67 < j → ¬ T j := fun j hj z => by
    have := hs j z
    omega
  exact ⟨⟨h1.fr f (no _ (by decide)), h2⟩, ⟨fun i hi => f.2.2 _ _ (h3 i hi), h4.fr f (no _ (by decide)) (no _ (by decide)), Nat.le_trans h5 f.1⟩, ⟨h6.fr f, h7.fr f, h8.fr f (no _ (by decide))⟩, G0, P, c, h9.fr9 h6.tab f h10 (fun j a b => no j (by omega)), h10, h11.fr h6 f (fun j a b => no j (by omega))⟩
theorem LP9.n {S : Nat × (Nat → Int)} {M : ZM} (h : LP9 S M) : 668 < zN M := Nat.lt_of_lt_of_le (by decide) h.2.1.2.2
theorem D_dr9 {S : Nat × (Nat → Int)} {M0 M : ZM} {x n : Int} {K : ZRet} {KX : ZEx} (hP : LP9 S M0) (hF : Fr Sno M0 M) (hx : 0 ≤ x) (hn : 1 ≤ n) (hK : 0 ≤ drS S x n ∧ drS S x n < n → K (some (zi (drS S x n))) M) : T_L_draw [zo 62, zi x, zi n] M K KX := ⟨S, x, n, rfl, hP.1.1.fr hF (fun z => z), hP.1.2, hx, hn, hK (dr_r hn)⟩
theorem TDS_ld {G : Gm} (hI : IV 0 G) (hF : FRS G) : TDS G := by
  refine ⟨fun q k l q0 q1 k0 k1 => ?_, fun a b a0 a1 b0 b1 => ?_⟩
  · have h9 := (hF q q0 q1).2
    unfold cnc at k1
    omega
  · have h1 := (hI.2.2.2.2.1 a b a0 a1 b0 b1).2
    have h2 := (hI.2.2.2.2.1 b a b0 b1 a0 a1).2
    omega
theorem LSt_ld {S : Nat × (Nat → Int)} {M M' : ZM} {G : Gm} {P : Int → Gm} {c a W N i j : Int} {tm qo tr : Int → Int} (h : LP9 S M) (f : Fr S8l M M') (hT : TR M' 129 G) (hQ : RQ M' P c) (hD : LDD a tm qo tr W N i j G) (hW : 1 ≤ W) : LSt S 0 G M' := by
  obtain ⟨d1, d2, d3, d4, d5, d6, d7⟩ := hD
  exact ⟨h.1.1.fr f (by unfold S8l; omega), ⟨h.2.2.1.1.fr f, hT, d1.gi, d1.gv, d1.gx⟩, ⟨P, c, hQ⟩, d1, TDS_ld d1 d6, by omega, Nat.le_trans h.2.1.2.2 f.1⟩
theorem R_ec {M : ZM} {v : Int} {K : ZRet} {KX : ZEx} (hL : LV M) (h : zI M 64 8 = v) (hK : K (some (zi v)) M) : T_X8_errorCode [zo 64] M K KX := ⟨0, rfl, hL, by rw [h]; exact hK⟩
theorem R_ep {M : ZM} {v : Int} {K : ZRet} {KX : ZEx} (hL : LV M) (h : zI M 64 9 = v) (hK : K (some (zi v)) M) : T_X8_errorPosition [zo 64] M K KX := ⟨0, rfl, hL, by rw [h]; exact hK⟩
/-- what load's reads find -/
theorem LDD.rd {a W N i j : Int} {tm qo tr : Int → Int} {G : Gm} (h : LDD a tm qo tr W N i j G) : G 4 = W ∧ G 5 = N ∧ G 3 = 0 ∧ G 0 = a ∧ fManyIn G 0 = N ∧ (i = j ∧ b2i (fFoes G i j) = 0 ∨ i ≠ j ∧ b2i (fFoes G i j) = 1) := by
  obtain ⟨d1, d2, d3, d4, d5, d6, d7⟩ := h
  have g3 := d1.2.1.2.2.2.1
  have g5 := d1.2.1.2.2.2.2.2
  refine ⟨d3, d4, by omega, d2, ?_, ?_⟩
  · unfold fManyIn
    have key : ∀ r : Int, 0 ≤ r → r ≤ G 5 → cntI (fun r => decide ((G (132 + 16 * r + 1).toNat) = 0)) r = r := by
      refine zup (n := G 5) _ ?_ (fun r r0 r1 ih => ?_)
      · exact cntI_0
      · exact (cntI_s r0).trans ((if_pos (decide_eq_true (d6 r r0 r1).1)).trans (by rw [ih]))
    rw [key (G 5) g5.1 (Int.le_refl _), d4]
  · rw [d7]
    by_cases z : i = j
    · exact Or.inl ⟨z, by rw [decide_eq_false (fun y => y z)]; rfl⟩
    · exact Or.inr ⟨z, by rw [decide_eq_true z]; rfl⟩
