/-- what holds of the output's text under way -/
def CQ (M0 : ZM) (G : Gm) : Prop := LV M0 ∧ TR M0 129 G ∧ KD M0 ∧ GI G ∧ GV G ∧ GX G
theorem CQ.L {M0 M : ZM} {G : Gm} {c : Nat} {o : List Int} (h : CQ M0 G) (hO : OC M0 M c o) : LV M := h.1.fr hO.fr
theorem CQ.T {M0 M : ZM} {G : Gm} {c : Nat} {o : List Int} (h : CQ M0 G) (hO : OC M0 M c o) : TR M 129 G := h.2.1.fr9 h.1.tab hO.fr h.2.2.2.1 (fun j j0 j1 => by unfold SOC; omega)
theorem CQ.K {M0 M : ZM} {G : Gm} {c : Nat} {o : List Int} (h : CQ M0 G) (hO : OC M0 M c o) : KD M := h.2.2.1.fr hO.fr (by unfold SOC; omega) (by unfold SOC; omega)
theorem len1 (o : List Int) (x : Int) : (o ++ [x]).length = o.length + 1 := by rw [List.length_append, List.length_singleton]
theorem LV.r7o {M : ZM} (h : LV M) : zR M 64 7 = some 668 := h.r7
def rowPc (G : Gm) (i : Int) : List Nat := if (G (132 + 16 * i + 1).toNat) = 2 then (if (G (132 + 16 * i + 3).toNat) = -1 then [1, (dig (G (132 + 16 * i + 2).toNat)).length] else [1, (dig (G (132 + 16 * i + 2).toNat)).length, 1]) else [1]
