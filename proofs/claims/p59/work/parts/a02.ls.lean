/-! the law's view of the class: what it reads -/
def CG (M : ZM) (G : Gm) : Prop := LV M ∧ TR M 129 G ∧ GI G ∧ GV G ∧ GX G
/-- cells that the class has -/
def SC9 (j : Nat) : Prop := 64 ≤ j ∧ j < 670
theorem CG.fr {S : Nat → Prop} {M M' : ZM} {G : Gm} (h : CG M G) (f : Fr S M M') (hs : ∀ j, 64 ≤ j → j < 670 → ¬ S j) : CG M' G :=
  ⟨h.1.fr f, h.2.1.fr9 h.1.tab f h.2.2.1 (fun j a b => hs j (by omega) (by omega)), h.2.2⟩
theorem CG.vd {M M' : ZM} {G : Gm} (h : CG M G) (f : Fr SVd M M') : CG M' G :=
  ⟨h.1.fr f, h.2.1.fr9 h.1.tab f h.2.2.1 (fun j a b => by unfold SVd; omega), h.2.2⟩
theorem R_property {M : ZM} {G : Gm} {what v : Int} {K : ZRet} {KX : ZEx} (hC : CG M G) (hc : c_property G what = 0) (hv : v_property G what = v) (hK : K (some (zi v)) M) : T_X8_property [zo 64, zi what] M K KX :=
  ⟨G, what, rfl, hC.1, hC.2.1, hC.2.2.1, hC.2.2.2.1, hC.2.2.2.2, fun _ => by rw [hv]; exact hK, fun h => absurd (hc.symm.trans h) (by decide)⟩
theorem R_prop0 {M : ZM} {G : Gm} {K : ZRet} {KX : ZEx} (hC : CG M G) (hK : K (some (zi (G 4))) M) : T_X8_property [zo 64, zi 0] M K KX := R_property hC rfl rfl hK
theorem R_prop1 {M : ZM} {G : Gm} {K : ZRet} {KX : ZEx} (hC : CG M G) (hK : K (some (zi (G 5))) M) : T_X8_property [zo 64, zi 1] M K KX := R_property hC rfl rfl hK
theorem R_prop2 {M : ZM} {G : Gm} {K : ZRet} {KX : ZEx} (hC : CG M G) (hK : K (some (zi (G 3))) M) : T_X8_property [zo 64, zi 2] M K KX := R_property hC rfl rfl hK
theorem R_prop3 {M : ZM} {G : Gm} {K : ZRet} {KX : ZEx} (hC : CG M G) (hK : K (some (zi (G 0))) M) : T_X8_property [zo 64, zi 3] M K KX := R_property hC rfl rfl hK
theorem R_propM {M : ZM} {G : Gm} {s : Int} {K : ZRet} {KX : ZEx} (hC : CG M G) (hs : 0 ≤ s ∧ s < 4) (hK : K (some (zi (fManyIn G s))) M) : T_X8_property [zo 64, zi (6 + s)] M K KX := by
  refine R_property hC ?_ ?_ hK
  · unfold c_property
    rw [if_pos (by omega)]
  · unfold v_property
    rw [if_pos (by omega), if_neg (by omega), if_neg (by omega), if_neg (by omega), if_neg (by omega), if_neg (by omega), if_neg (by omega), if_neg (by omega), show 6 + s - 6 = s by omega]
theorem R_wk {M : ZM} {G : Gm} {w what v : Int} {K : ZRet} {KX : ZEx} (hC : CG M G) (hw : 0 ≤ w ∧ w < G 4) (hs : 0 ≤ what ∧ what ≤ 8) (hv : (if what = 0 then (G (6 + 9 * w + 1).toNat) else if what = 1 then (G (6 + 9 * w + 2).toNat) else if what = 2 then (G (6 + 9 * w + 3).toNat) else if what = 3 then fInWork G w else if what = 4 then (G (6 + 9 * w + 4).toNat) else if what = 5 then (G (6 + 9 * w + 5).toNat) else if what = 6 then (G (6 + 9 * w + 6).toNat) else if what = 7 then (G (6 + 9 * w + 7).toNat) else (G (6 + 9 * w + 8).toNat)) = v) (hK : K (some (zi v)) M) : T_X8_worker [zo 64, zi w, zi what] M K KX := by
  have hc : c_worker G w what = 0 := by
    unfold c_worker
    rw [if_pos (by omega), if_pos hs]
  have hv' : v_worker G w what = v := by
    unfold v_worker
    rw [if_pos ⟨by omega, hs⟩]
    exact hv
  exact ⟨G, w, what, rfl, hC.1, hC.2.1, hC.2.2.1, hC.2.2.2.1, hC.2.2.2.2, fun _ => by rw [hv']; exact hK, fun h => absurd (hc.symm.trans h) (by decide), fun h => absurd (hc.symm.trans h) (by decide)⟩
theorem R_row {M : ZM} {G : Gm} {r what v : Int} {K : ZRet} {KX : ZEx} (hC : CG M G) (hr : 0 ≤ r ∧ r < G 5) (hs : 0 ≤ what ∧ what ≤ 6) (hv : (if what = 0 then (G (132 + 16 * r + 0).toNat) else if what = 1 then (G (132 + 16 * r + 1).toNat) else if what = 2 then (if (G (132 + 16 * r + 1).toNat) = 2 then (G (132 + 16 * r + 2).toNat) else -1) else if what = 3 then (if (G (132 + 16 * r + 3).toNat) = -1 then 0 else 1) else if what = 4 then (G (132 + 16 * r + 6).toNat) else if what = 5 then fNeeds G r else (G (132 + 16 * r + 4).toNat)) = v) (hK : K (some (zi v)) M) : T_X8_row [zo 64, zi r, zi what] M K KX := by
  have hc : c_row G r what = 0 := by
    unfold c_row
    rw [if_pos (by omega), if_pos hs]
  have hv' : v_row G r what = v := by
    unfold v_row
    rw [if_pos ⟨by omega, hs⟩]
    exact hv
  exact ⟨G, r, what, rfl, hC.1, hC.2.1, hC.2.2.1, hC.2.2.2.1, hC.2.2.2.2, fun _ => by rw [hv']; exact hK, fun h => absurd (hc.symm.trans h) (by decide), fun h => absurd (hc.symm.trans h) (by decide)⟩
theorem R_row2 {M : ZM} {G : Gm} {r : Int} {K : ZRet} {KX : ZEx} (hC : CG M G) (hr : 0 ≤ r ∧ r < G 5) (hK : K (some (zi (G (132 + 16 * r + 2).toNat))) M) : T_X8_row [zo 64, zi r, zi 2] M K KX := by
  refine R_row hC hr (by decide) ?_ hK
  have hx := (hC.2.2.2.2.1 r hr.1 hr.2).2.2.1
  show (if (G (132 + 16 * r + 1).toNat) = 2 then (G (132 + 16 * r + 2).toNat) else -1) = _
  split
  · rfl
  · next q => exact (hx q).1.symm
theorem R_tk {M : ZM} {G : Gm} {r k what v : Int} {K : ZRet} {KX : ZEx} (hC : CG M G) (hr : 0 ≤ r ∧ r < G 5) (hk : 0 ≤ k ∧ k < G (132 + 16 * r + 6).toNat) (hs : 0 ≤ what ∧ what ≤ 2) (hv : (if what = 0 then (G (132 + 16 * r + (7 + 3 * k + 0)).toNat) else if what = 1 then (G (132 + 16 * r + (7 + 3 * k + 1)).toNat) else (if (G (132 + 16 * r + (7 + 3 * k + 1)).toNat) = -1 then (G (132 + 16 * r + (7 + 3 * k + 2)).toNat) else -1)) = v) (hK : K (some (zi v)) M) : T_X8_taking [zo 64, zi r, zi k, zi what] M K KX := by
  have hc : c_taking G r k what = 0 := by
    unfold c_taking
    rw [if_pos (by omega), if_pos hs]
  have hv' : v_taking G r k what = v := by
    unfold v_taking
    rw [if_pos ⟨by omega, hs⟩]
    exact hv
  exact ⟨G, r, k, what, rfl, hC.1, hC.2.1, hC.2.2.1, hC.2.2.2.1, hC.2.2.2.2, fun _ => by rw [hv']; exact hK, fun h => absurd (hc.symm.trans h) (by decide), fun h => absurd (hc.symm.trans h) (by decide)⟩
theorem R_fin {M : ZM} {G : Gm} {r : Int} {K : ZRet} {KX : ZEx} (hC : CG M G) (hr : 0 ≤ r ∧ r < G 5) (hK : K (some (zi (G (132 + 16 * r + 5).toNat))) M) : T_X8_finishers [zo 64, zi r] M K KX := by
  have hc : c_finishers G r = 0 := by
    unfold c_finishers
    rw [if_pos (by omega)]
  have hv' : v_finishers G r = G (132 + 16 * r + 5).toNat := by
    unfold v_finishers
    rw [if_pos (by omega)]
  exact ⟨G, r, rfl, hC.1, hC.2.1, hC.2.2.1, hC.2.2.2.1, hC.2.2.2.2, fun a b c => ((hC.2.2.2.2.1 r a b).2.2.1 c).2.2, fun _ => by rw [hv']; exact hK, fun h => absurd (hc.symm.trans h) (by decide)⟩
theorem R_str {M : ZM} {G : Gm} {a b : Int} {K : ZRet} {KX : ZEx} (hC : CG M G) (ha : 0 ≤ a ∧ a < G 4) (hb : 0 ≤ b ∧ b < G 4) (hK : K (some (zi (G (96 + 6 * a + b).toNat))) M) : T_X8_strikes [zo 64, zi a, zi b] M K KX := by
  have hc : c_strikes G a b = 0 := by
    unfold c_strikes
    rw [if_pos (by omega)]
  have hv' : v_strikes G a b = G (96 + 6 * a + b).toNat := by
    unfold v_strikes
    rw [if_pos (by omega)]
  exact ⟨G, a, b, rfl, hC.1, hC.2.1, hC.2.2.1, hC.2.2.2.1, hC.2.2.2.2, fun _ => by rw [hv']; exact hK, fun h => absurd (hc.symm.trans h) (by decide)⟩
theorem R_bar {M : ZM} {G : Gm} {a b : Int} {K : ZRet} {KX : ZEx} (hC : CG M G) (ha : 0 ≤ a ∧ a < G 4) (hb : 0 ≤ b ∧ b < G 4) (hK : K (some (zi (b2i (fFoes G a b)))) M) : T_X8_isBarred [zo 64, zi a, zi b] M K KX := by
  have hc : c_isBarred G a b = 0 := by
    unfold c_isBarred
    rw [if_pos (by omega)]
  have hv' : v_isBarred G a b = fFoes G a b := by
    unfold v_isBarred
    rw [if_pos (by omega)]
  exact ⟨G, a, b, rfl, hC.1, hC.2.1, hC.2.2.1, hC.2.2.2.1, hC.2.2.2.2, fun _ => by rw [hv']; exact hK, fun h => absurd (hc.symm.trans h) (by decide)⟩
theorem R_left {M : ZM} {G : Gm} {K : ZRet} {KX : ZEx} (hC : CG M G) (hK : K (some (zi (v_left G))) M) : T_X8_left [zo 64] M K KX := ⟨G, rfl, hC.1, hC.2.1, hC.2.2.1, hC.2.2.2.1, hC.2.2.2.2, hK⟩
theorem R_next {M : ZM} {G : Gm} {K : ZRet} {KX : ZEx} (hC : CG M G) (hK : K (some (zi (v_nextDue G))) M) : T_X8_nextDue [zo 64] M K KX := ⟨G, rfl, hC.1, hC.2.1, hC.2.2.1, hC.2.2.2.1, hC.2.2.2.2, hK⟩
theorem R_late {M : ZM} {G : Gm} {t : Int} {K : ZRet} {KX : ZEx} (hC : CG M G) (ht : 0 ≤ t ∧ t ≤ 99) (hK : K (some (zi (sumI (fLateR G (G 3 + t)) (G 5)))) M) : T_X8_lateIn [zo 64, zi t] M K KX := by
  have hc : c_lateIn G t = 0 := by
    unfold c_lateIn
    rw [if_pos ht]
  have hv' : v_lateIn G t = sumI (fLateR G (G 3 + t)) (G 5) := by
    unfold v_lateIn
    rw [if_pos ht]
  exact ⟨G, t, rfl, hC.1, hC.2.1, hC.2.2.1, hC.2.2.2.1, hC.2.2.2.2, fun _ => by rw [hv']; exact hK, fun h => absurd (hc.symm.trans h) (by decide)⟩
theorem R_stIf {M : ZM} {G : Gm} {w r x : Int} {K : ZRet} {KX : ZEx} (hC : CG M G) (hw : 0 ≤ w ∧ w < G 4) (hr : 0 ≤ r ∧ r < G 5) (hx : 0 ≤ x ∧ x ≤ 99) (hf : fWorksAt G w r = true) (hK : ∀ M', Fr SVd M M' → K (some (zi (fDel G w r x (132 + 16 * r + 1).toNat))) M') : T_X8_stateIf [zo 64, zi w, zi r, zi x] M K KX := by
  have hc : c_stateIf G w r x = 0 := by
    unfold c_stateIf
    rw [if_pos (by omega), if_pos hx, if_pos hf]
  exact ⟨G, w, r, x, rfl, hC.1, hC.2.1, hC.2.2.1, hC.2.2.2.1, hC.2.2.2.2, fun _ => hK, fun h => absurd (hc.symm.trans h) (by decide), fun h => absurd (hc.symm.trans h) (by decide), fun h => absurd (hc.symm.trans h) (by decide)⟩
theorem R_trIf {M : ZM} {G : Gm} {w r x o : Int} {K : ZRet} {KX : ZEx} (hC : CG M G) (hw : 0 ≤ w ∧ w < G 4) (hr : 0 ≤ r ∧ r < G 5) (hx : 0 ≤ x ∧ x ≤ 99) (ho : 0 ≤ o ∧ o < G 4) (hf : fWorksAt G w r = true) (hK : ∀ M', Fr SVd M M' → K (some (zi (fDel G w r x (6 + 9 * o + 3).toNat))) M') : T_X8_trustIf [zo 64, zi w, zi r, zi x, zi o] M K KX := by
  have hc : c_trustIf G w r x o = 0 := by
    unfold c_trustIf
    rw [if_pos (by omega), if_pos hx, if_pos hf]
  exact ⟨G, w, r, x, o, rfl, hC.1, hC.2.1, hC.2.2.1, hC.2.2.2.1, hC.2.2.2.2, fun _ => hK, fun h => absurd (hc.symm.trans h) (by decide), fun h => absurd (hc.symm.trans h) (by decide), fun h => absurd (hc.symm.trans h) (by decide)⟩
/-- the law's state: the script's content S, k changes at most, the class shows G -/
def LC9 (S : Nat × (Nat → Int)) (M : ZM) : Prop := (zO M 62 20 ∧ zLn M 62 = S.1) ∧ ∀ j, zI M 62 j = S.2 j
def LSt (S : Nat × (Nat → Int)) (k : Int) (G : Gm) (M : ZM) : Prop := LC9 S M ∧ CG M G ∧ (∃ P c, RQ M P c) ∧ IV k G ∧ TDS G ∧ 1 ≤ G 4 ∧ 670 ≤ zN M
theorem LC9.fr {T : Nat → Prop} {S : Nat × (Nat → Int)} {M M' : ZM} (h : LC9 S M) (f : Fr T M M') (h62 : ¬ T 62) : LC9 S M' := by
  obtain ⟨⟨a8, a9⟩, aA⟩ := h
  refine ⟨⟨⟨(f.2.1 62 a8.2).1.trans a8.1, Nat.lt_of_lt_of_le a8.2 f.1⟩, (f.2.1 62 a8.2).2.1.trans a9⟩, fun j => ?_⟩
  rw [((f.2.1 62 a8.2).2.2.1 h62).1]
  exact aA j
theorem LSt.fr {T : Nat → Prop} {S : Nat × (Nat → Int)} {k : Int} {G : Gm} {M M' : ZM} (h : LSt S k G M) (f : Fr T M M') (hs : ∀ j, 62 ≤ j → j < 670 → ¬ T j) : LSt S k G M' := by
  obtain ⟨h1, h2, ⟨P, c, h3⟩, h4, h5, h6, h7⟩ := h
  exact ⟨h1.fr f (hs _ (by decide) (by decide)), h2.fr f (fun j a b => hs j (by omega) b), ⟨P, c, h3.fr h2.1 f (fun j a b => hs j (by omega) (by omega))⟩, h4, h5, h6, Nat.le_trans h7 f.1⟩
theorem LSt.vd {S : Nat × (Nat → Int)} {k : Int} {G : Gm} {M M' : ZM} (h : LSt S k G M) (f : Fr SVd M M') : LSt S k G M' := by
  obtain ⟨h1, h2, ⟨P, c, h3⟩, h4, h5, h6, h7⟩ := h
  exact ⟨h1.fr f (by unfold SVd; omega), h2.vd f, ⟨P, c, h3.fr h2.1 f (fun j a b => by unfold SVd; omega)⟩, h4, h5, h6, Nat.le_trans h7 f.1⟩
theorem LSt.up {S : Nat × (Nat → Int)} {k k' : Int} {G : Gm} {M : ZM} (h : LSt S k G M) (hk : k ≤ k') (hk' : k' ≤ 1000) : LSt S k' G M := ⟨h.1, h.2.1, h.2.2.1, h.2.2.2.1.up hk hk', h.2.2.2.2⟩
/-- after a change of the class -/
theorem LSt.w {S : Nat × (Nat → Int)} {k k' : Int} {G G' : Gm} {M M' : ZM} (h : LSt S k G M) (f : Fr SCw M M') (hT : TR M' 129 G') (hq : ∃ P c, RQ M' P c) (hI : IV k' G') (hD : TDS G') (e4 : G' 4 = G 4) : LSt S k' G' M' := by
  obtain ⟨h1, h2, -, -, -, h6, h7⟩ := h
  exact ⟨h1.fr f (by unfold SCw; omega), ⟨h2.1.fr f, hT, hI.gi, hI.gv, hI.gx⟩, hq, hI, hD, by rw [e4]; exact h6, Nat.le_trans h7 f.1⟩
