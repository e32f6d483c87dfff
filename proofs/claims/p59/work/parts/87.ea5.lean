/-- the same numbers of a table -/
def E516 (g G : Gm) : Prop := ∀ j : Nat, j < 516 → g j = G j
theorem E516.rf {g : Gm} : E516 g g := fun _ _ => rfl
theorem E516.of {f g G : Gm} (e : f = g) (h : E516 g G) : E516 f G := e ▸ h
theorem E516.tr {f g G : Gm} (h1 : E516 f g) (h2 : E516 g G) : E516 f G := fun j hj => (h1 j hj).trans (h2 j hj)
def toldW (B : Gm) (n : Int) (G : Gm) (e : E3) : Int := if (eName B n e).1 = 0 then fWith G (eNm B n e) else -1
def eTold (B : Gm) (n : Int) (G : Gm) (e : E3) : E3 := if toldW B n G e = -1 then eErr 3 (eName B n e) else eName B n e
def vTold (B : Gm) (n : Int) (G : Gm) (e : E3) : Int := if (eTold B n G e).1 = 0 then toldW B n G e else 0
theorem eTold_b {B : Gm} {n : Int} {G : Gm} {e : E3} (h : e.1 ≠ 0) : eTold B n G e = e := by
  unfold eTold
  rw [eName_b h]
  split
  · exact eErr_b h
  · rfl
theorem eTold_ok {B : Gm} {n : Int} {G : Gm} {e : E3} (h : eOK n e) : eOK n (eTold B n G e) := by
  unfold eTold
  split
  · exact eErr_ok (eName_ok h)
  · exact eName_ok h
theorem eTold_i {B : Gm} {n : Int} {G : Gm} {e : E3} (h : (eTold B n G e).1 = 0) : e.1 = 0 := by
  by_cases q : e.1 = 0
  · exact q
  · rw [eTold_b q] at h; exact h
theorem vTold_r {B : Gm} {n : Int} {G : Gm} {e : E3} (h : 0 ≤ G 4 ∧ G 4 ≤ 6) : 0 ≤ vTold B n G e ∧ vTold B n G e < 6 := by
  unfold vTold
  split
  · next q =>
    unfold eTold at q
    by_cases z : toldW B n G e = -1
    · rw [if_pos z] at q
      exact absurd q (eErr_n (by decide))
    · unfold toldW at z ⊢
      split
      · next y =>
        rw [if_pos y] at z
        rcases fWith_r G (eNm B n e) h.1 with u | u
        · exact absurd u z
        · omega
      · next y =>
        rw [if_neg y] at z
        exact absurd rfl z
  · omega
def ePT (B : Gm) (n : Int) (e : E3) : E3 := eNum B n 0 19 (eKw B n (kwT 3) (eNum B n 1 50 (eKw B n (kwT 2) (eNum B n 0 20 (eKw B n (kwT 1) (eKw B n (kwT 0) e))))))
def gPT (B : Gm) (n : Int) (G : Gm) (e : E3) : Gm := gU (gU (gU G 0 (eVal B n 0 20 (eKw B n (kwT 1) (eKw B n (kwT 0) e)))) 1 (eVal B n 1 50 (eKw B n (kwT 2) (eNum B n 0 20 (eKw B n (kwT 1) (eKw B n (kwT 0) e)))))) 2 (eVal B n 0 19 (eKw B n (kwT 3) (eNum B n 1 50 (eKw B n (kwT 2) (eNum B n 0 20 (eKw B n (kwT 1) (eKw B n (kwT 0) e)))))))
def w0 (B : Gm) (n : Int) (G : Gm) (e : E3) : E3 := eGo B n (if G 4 = 6 then eErr 4 e else e)
def w1 (B : Gm) (n : Int) (G : Gm) (e : E3) : E3 := if (eName B n (w0 B n G e)).1 = 0 ∧ fWith G (eNm B n (w0 B n G e)) ≠ -1 then eErr 3 (eName B n (w0 B n G e)) else eName B n (w0 B n G e)
def w2 (B : Gm) (n : Int) (G : Gm) (e : E3) : E3 := eKw B n (kwT 5) (eGo B n (w1 B n G e))
def w3 (B : Gm) (n : Int) (G : Gm) (e : E3) : E3 := eKw B n (kwT 6) (eNum B n 0 5 (w2 B n G e))
def w4 (B : Gm) (n : Int) (G : Gm) (e : E3) : E3 := eNum B n 1 5 (w3 B n G e)
def ePW (B : Gm) (n : Int) (G : Gm) (e : E3) : E3 := if eIs B n (kwT 7) (w4 B n G e) = true then eNum B n 0 20 (eKw B n (kwT 7) (w4 B n G e)) else w4 B n G e
def tPW (B : Gm) (n : Int) (G : Gm) (e : E3) : Int := if eIs B n (kwT 7) (w4 B n G e) = true then eVal B n 0 20 (eKw B n (kwT 7) (w4 B n G e)) else 10
def gPW (B : Gm) (n : Int) (G : Gm) (e : E3) : Gm := if (ePW B n G e).1 = 0 then F_wk G (eNm B n (w0 B n G e)) (eVal B n 0 5 (w2 B n G e)) (eVal B n 1 5 (w3 B n G e)) (tPW B n G e) else G
def r1 (B : Gm) (n : Int) (e : E3) : E3 := eLook B n 1 24 (eGo B n e)
def r2 (B : Gm) (n : Int) (G : Gm) (e : E3) : E3 := if (r1 B n e).1 = 0 ∧ 24 < G 5 + tkV B (eGo B n e).2.2 (tkE B n (eGo B n e).2.2) then eErr 4 (r1 B n e) else r1 B n e
def r3 (B : Gm) (n : Int) (G : Gm) (e : E3) : E3 := eKw B n (kwT 9) (eNum B n 1 24 (r2 B n G e))
def ePR (B : Gm) (n : Int) (G : Gm) (e : E3) : E3 := eNum B n 1 9 (r3 B n G e)
def gPR (B : Gm) (n : Int) (G : Gm) (e : E3) : Gm := if (ePR B n G e).1 = 0 then fRows G (eVal B n 1 24 (r2 B n G e)) (eVal B n 1 9 (r3 B n G e)) else G
def b1 (B : Gm) (n : Int) (G : Gm) (e : E3) : E3 := eTold B n G (eGo B n e)
def b2 (B : Gm) (n : Int) (G : Gm) (e : E3) : E3 := eTold B n G (eGo B n (b1 B n G e))
def ba (B : Gm) (n : Int) (G : Gm) (e : E3) : Int := vTold B n G (eGo B n e)
def bb (B : Gm) (n : Int) (G : Gm) (e : E3) : Int := vTold B n G (eGo B n (b1 B n G e))
def ePB (B : Gm) (n : Int) (G : Gm) (e : E3) : E3 := eGo B n (if (b2 B n G e).1 = 0 ∧ (ba B n G e = bb B n G e ∨ fFoes G (ba B n G e) (bb B n G e) = true) then eErr 3 (b2 B n G e) else b2 B n G e)
def gPB (B : Gm) (n : Int) (G : Gm) (e : E3) : Gm := if (ePB B n G e).1 = 0 then gU (gU G (60 + 6 * ba B n G e + bb B n G e) 1) (60 + 6 * bb B n G e + ba B n G e) 1 else G
def eST (B : Gm) (n : Int) (G : Gm) (e : E3) : E3 := eSemi B n (if eIs B n (kwT 4) e = true then ePW B n G e else if eIs B n (kwT 8) e = true then ePR B n G e else if eIs B n (kwT 10) e = true then ePB B n G e else eErr 1 e)
def gST (B : Gm) (n : Int) (G : Gm) (e : E3) : Gm := if eIs B n (kwT 4) e = true then gPW B n G e else if eIs B n (kwT 8) e = true then gPR B n G e else if eIs B n (kwT 10) e = true then gPB B n G e else G
def eLP (B : Gm) (n : Int) : Nat → Gm × E3 → Gm × E3
  | 0, x => x
  | f + 1, x => if x.2.1 = 0 ∧ tkK B n x.2.2.2 ≠ 3 then eLP B n f (gST B n x.1 x.2, eST B n x.1 x.2) else x
/-- what the parser's statements leave -/
def S4d (j : Nat) : Prop := j = 670 ∨ j = 672
def RXd (M M' : ZM) : Prop := Fr S4d M M' ∧ ∀ f : Nat, f < 8 ∨ 13 < f → zI M' 670 f = zI M 670 f
theorem RXd.rf {M : ZM} : RXd M M := ⟨Fr.rf, fun _ _ => rfl⟩
theorem RXd.tr {M M' M2 : ZM} (h : RXd M M') (h2 : RXd M' M2) : RXd M M2 := ⟨h.1.tr h2.1, fun f hf => (h2.2 f hf).trans (h.2 f hf)⟩
theorem RXd.a {M : ZM} {g : Gm} (hY : LY M) : RXd M (zsA M 672 g) := ⟨Fr_A hY.a2 (by decide) (by decide) (Or.inr rfl), fun f _ => congrFun (zI_An M g (by decide)) f⟩
theorem RP.a {M : ZM} {B : Gm} {n : Int} {e : E3} {g : Gm} (h : RP M B n e) : RP (zsA M 672 g) B n e := by
  have e1 : zI (zsA M 672 g) 670 = zI M 670 := zI_An _ _ (by decide)
  have e2 : zI (zsA M 672 g) 674 = zI M 674 := zI_An _ _ (by decide)
  unfold RP RTx RTk at h ⊢
  rw [e1, e2]
  exact h
