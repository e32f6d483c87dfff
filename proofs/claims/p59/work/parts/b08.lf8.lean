/-! the law: what a delivery comes to -/
theorem by_bit : ∀ a b o : Fin 6, (zand (zshr (zor (zshl 1 (a.val : Int)) (zshl 1 (b.val : Int))) (o.val : Int)) 1 = 1 ↔ o = a ∨ o = b) := by decide +kernel
theorem by_biti {a b o : Int} (ha : 0 ≤ a ∧ a < 6) (hb : 0 ≤ b ∧ b < 6) (ho : 0 ≤ o ∧ o < 6) : zand (zshr (zor (zshl 1 a) (zshl 1 b)) o) 1 = 1 ↔ o = a ∨ o = b := by
  have h := by_bit ⟨a.toNat, by omega⟩ ⟨b.toNat, by omega⟩ ⟨o.toNat, by omega⟩
  have e1 : ((a.toNat : Nat) : Int) = a := by omega
  have e2 : ((b.toNat : Nat) : Int) = b := by omega
  have e3 : ((o.toNat : Nat) : Int) = o := by omega
  simp only [e1, e2, e3, Fin.mk.injEq] at h
  rw [h]
  constructor
  · rintro (z | z)
    · exact Or.inl (by omega)
    · exact Or.inr (by omega)
  · rintro (z | z)
    · exact Or.inl (by omega)
    · exact Or.inr (by omega)
theorem fGain_tr {g : Gm} {w r o : Int} (hw : 0 ≤ w ∧ w < 6) (ho : 0 ≤ o ∧ o < 6) : trG (fGain g w r) o = aSt (trG g) w (cpd (trG g w + 1)) o := by
  unfold fGain
  by_cases z : o = w
  · subst z
    rw [aSt_s]
    show gU (gU (gU g _ _) _ _) _ _ (6 + 9 * o + 3).toNat = _
    rw [gU_n _ (by omega), gU_n _ (by omega), gU_s]
    rfl
  · rw [aSt_n z]
    show gU (gU (gU g _ _) _ _) _ _ (6 + 9 * o + 3).toNat = _
    rw [gU_n _ (by omega), gU_n _ (by omega), gU_n _ (by omega)]
    rfl
theorem fGain_pt {g : Gm} {w r o : Int} (hw : 0 ≤ w ∧ w < 6) (ho : 0 ≤ o ∧ o < 6) : ptG (fGain g w r) o = if o = w then ptG g w + szG g r else ptG g o := by
  unfold fGain
  by_cases z : o = w
  · subst z
    rw [if_pos rfl]
    show gU (gU (gU g _ _) _ _) _ _ (6 + 9 * o + 8).toNat = _
    rw [gU_s]
    rfl
  · rw [if_neg z]
    show gU (gU (gU g _ _) _ _) _ _ (6 + 9 * o + 8).toNat = _
    rw [gU_n _ (by omega), gU_n _ (by omega), gU_n _ (by omega)]
    rfl
/-- what is asked of an outcome -/
def DR (G G' : Gm) (r w due val bi : Int) (T : Int → Int) : Prop := stG G' r = due ∧ (due = 2 → vaG G' r = val ∧ fiG G' r = bi) ∧ gvG G' w = gvG G w + 1 ∧ (∀ o, 0 ≤ o → o < G 4 → trG G' o = T o ∧ ptG G' o = ptG G o + (if due = 2 ∧ zand (zshr bi o) 1 = 1 then szG G r else 0)) ∧ szG G' r = szG G r ∧ G' 4 = G 4 ∧ G' 5 = G 5
theorem zbb {z : Bool} : z = true ∨ z = false := by cases z <;> simp
theorem fFin_dr {g : Gm} {r p q a b : Int} (hr : 0 ≤ r ∧ r < 24) (ea : wkc g r p = a) (eb : wkc g r q = b) (ha : 0 ≤ a ∧ a < 6) (hb : 0 ≤ b ∧ b < 6) (hab : a ≠ b) : stG (fFin g r p q) r = 2 ∧ vaG (fFin g r p q) r = (if trG g a < trG g b then rsG g r q else rsG g r p) ∧ fiG (fFin g r p q) r = zor (zshl 1 a) (zshl 1 b) ∧ (∀ v, 0 ≤ v → v < 6 → gvG (fFin g r p q) v = gvG g v) ∧ (∀ o, 0 ≤ o → o < 6 → trG (fFin g r p q) o = aSt (aSt (trG g) a (cpd (trG g a + 1))) b (cpd (trG g b + 1)) o ∧ ptG (fFin g r p q) o = ptG g o + (if o = a ∨ o = b then szG g r else 0)) ∧ szG (fFin g r p q) r = szG g r ∧ fFin g r p q 4 = g 4 ∧ fFin g r p q 5 = g 5 := by
  have ea' : g (132 + 16 * r + (7 + 3 * p + 0)).toNat = a := ea
  have eb' : g (132 + 16 * r + (7 + 3 * q + 0)).toNat = b := eb
  have rw9 := fun (j : Int) (j0 : 0 ≤ j) => fFin_rw (j := j) hr.1 ea' eb' ha hb j0
  refine ⟨?_, ?_, ?_, fun v v0 v1 => ?_, fun o o0 o1 => ?_, ?_, ?_, ?_⟩
  · exact (rw9 1 (by decide)).trans (by rw [if_neg (by decide), if_pos rfl])
  · exact (rw9 2 (by decide)).trans (by rw [if_neg (by decide), if_neg (by decide), if_pos rfl]; rfl)
  · exact (rw9 5 (by decide)).trans (by rw [if_pos rfl])
  · exact fFin_n g hr (by omega) (by rw [ea']; omega) (by rw [eb']; omega)
  · unfold fFin
    rw [ea', eb']
    generalize hX : gU (gU (gU g (132 + 16 * r + 2) _) (132 + 16 * r + 1) 2) (132 + 16 * r + 5) _ = X
    have eX : ∀ j : Nat, j < 132 → X j = g j := fun j hj => by rw [← hX, gU_n _ (by omega), gU_n _ (by omega), gU_n _ (by omega)]
    have eT : ∀ v, 0 ≤ v → v < 6 → trG X v = trG g v := fun v v0 v1 => eX _ (by omega)
    have eP : ∀ v, 0 ≤ v → v < 6 → ptG X v = ptG g v := fun v v0 v1 => eX _ (by omega)
    have eS : szG X r = szG g r := by rw [← hX]; unfold szG; rw [gU_n _ (by omega), gU_n _ (by omega), gU_n _ (by omega)]
    have eS2 : szG (fGain X a r) r = szG g r := (fGain_n X (by omega)).trans eS
    refine ⟨?_, ?_⟩
    · rw [fGain_tr hb ⟨o0, o1⟩]
      by_cases z : o = b
      · subst z
        rw [aSt_s, aSt_s, fGain_tr ha hb, aSt_n (fun y => hab y.symm), eT _ hb.1 hb.2]
      · rw [aSt_n z, aSt_n z, fGain_tr ha ⟨o0, o1⟩, eT _ ha.1 ha.2]
        by_cases y : o = a
        · subst y; rw [aSt_s, aSt_s]
        · rw [aSt_n y, aSt_n y, eT _ o0 o1]
    · rw [fGain_pt hb ⟨o0, o1⟩, eS2]
      by_cases z : o = b
      · subst z
        rw [if_pos rfl, fGain_pt ha hb, if_neg (fun y => hab y.symm), eP _ hb.1 hb.2, if_pos (Or.inr rfl)]
      · rw [if_neg z, fGain_pt ha ⟨o0, o1⟩, eS]
        by_cases y : o = a
        · subst y; rw [if_pos rfl, if_pos (Or.inl rfl), eP _ ha.1 ha.2]
        · rw [if_neg y, if_neg (fun t => t.elim y z), eP _ o0 o1, Int.add_zero]
  · exact (rw9 0 (by decide)).trans (by rw [if_neg (by decide), if_neg (by decide), if_neg (by decide)]; rfl)
  · exact fFin_n g hr (by omega) (by rw [ea']; omega) (by rw [eb']; omega)
  · exact fFin_n g hr (by omega) (by rw [ea']; omega) (by rw [eb']; omega)
/-- a delivery under way: the value of taking k -/
def dvv (G : Gm) (r w x k : Int) : Int := if wkc G r k = w then x else rsG G r k
theorem d1_f {k : Int} {G : Gm} {w r x : Int} (h : IV k G) (hw : 0 ≤ w ∧ w < G 4) (hr : 0 ≤ r ∧ r < G 5) (hf : fWorksAt G w r = true) : (∀ j, 0 ≤ j → j < cnc G r → rsG (fDel1 G w r x) r j = dvv G r w x j ∧ wkc (fDel1 G w r x) r j = wkc G r j) ∧ (∀ o, 0 ≤ o → o < 6 → trG (fDel1 G w r x) o = trG G o ∧ ptG (fDel1 G w r x) o = ptG G o) ∧ gvG (fDel1 G w r x) w = gvG G w + 1 ∧ stG (fDel1 G w r x) r = stG G r ∧ szG (fDel1 G w r x) r = szG G r ∧ cnc (fDel1 G w r x) r = cnc G r ∧ fDel1 G w r x 4 = G 4 ∧ fDel1 G w r x 5 = G 5 ∧ fDel1 G w r x 0 = G 0 := by
  have hG := h.gi
  have h4G := hG.1
  have h5G := hG.2.1
  have h6 := (hG.2.2 r hr.1 hr.2).2.1
  obtain ⟨t, ht, ht1, htw, htr⟩ := fWk_t h6.1 hf
  have hx9 := (h.gx.1 r hr.1 hr.2).2.1
  have n1 : ∀ {j : Nat}, j ≠ (132 + 16 * r + (7 + 3 * t + 1)).toNat → j ≠ (6 + 9 * w + 5).toNat → fDel1 G w r x j = G j := fun a b => fDel1_n (by rw [ht]; exact a) b
  refine ⟨fun j j0 j1 => ⟨?_, n1 (by omega) (by omega)⟩, fun o o0 o1 => ⟨n1 (by omega) (by omega), n1 (by omega) (by omega)⟩, ?_, n1 (by omega) (by omega), n1 (by omega) (by omega), n1 (by omega) (by omega), n1 (by omega) (by omega), n1 (by omega) (by omega), n1 (by omega) (by omega)⟩
  · unfold dvv
    by_cases z : j = t
    · rw [z, if_pos (show wkc G r t = w from htw)]
      unfold rsG fDel1
      rw [ht, gU_n _ (by omega), gU_s]
    · rw [if_neg]
      · exact n1 (by omega) (by omega)
      · intro y
        rcases Int.lt_or_gt_of_ne z with u | u
        · exact hx9 j t j0 u ht1.2 (y.trans htw.symm)
        · exact hx9 t j ht1.1 u j1 (htw.trans y.symm)
  · unfold gvG fDel1
    rw [gU_s]
theorem st_of {k : Int} {G : Gm} {w r : Int} (h : IV k G) (hr : 0 ≤ r ∧ r < G 5) (hf : fWorksAt G w r = true) : (stG G r = 0 ∧ cnc G r ≤ 2) ∨ (stG G r = 1 ∧ 2 ≤ cnc G r) := by
  have hR := h.2.2.2.1 r hr.1 hr.2
  obtain ⟨t, ht, ht1, htw, htr⟩ := fWk_t (h.gi.2.2 r hr.1 hr.2).2.1.1 hf
  obtain ⟨a1, a2, a3, a4, a5, a6, a7, a8⟩ := hR
  have e1 : rwf G r 1 = stG G r := rfl
  have e6 : rwf G r 6 = cnc G r := rfl
  by_cases z : 2 ≤ stG G r
  · have h9 : 0 ≤ G (132 + 16 * r + (7 + 3 * t + 1)).toNat := a8 z t ht1.1 ht1.2
    omega
  · by_cases y : stG G r = 0
    · exact Or.inl ⟨y, (a6 y).1⟩
    · have a1' : 0 ≤ stG G r ∧ stG G r ≤ 3 := a1.2.1
      have y1 : stG G r = 1 := by omega
      exact Or.inr ⟨y1, (a7 y1).1⟩
theorem hv_iff {g : Gm} {r n : Int} (hm : 0 ≤ cnc g r) : fHave g r n = true ↔ cnc g r = n ∧ ∀ k, 0 ≤ k → k < n → rsG g r k ≠ -1 := ⟨fun h => fHave_c hm h, fun h => fHave_i hm h.1 h.2⟩
/-- not all is there yet -/
theorem DR_C {k : Int} {G : Gm} {w r x : Int} (h : IV k G) (hw : 0 ≤ w ∧ w < G 4) (hr : 0 ≤ r ∧ r < G 5) (hf : fWorksAt G w r = true) (hn : ¬ (cnc G r = (if stG G r = 0 then 2 else 3) ∧ ∀ j, 0 ≤ j → j < cnc G r → 0 ≤ dvv G r w x j)) (hx : 0 ≤ x) : DR G (fDel G w r x) r w (stG G r) (-1) 0 (trG G) := by
  obtain ⟨d1, d2, d3, d4, d5, d6, d7, d8, d9⟩ := d1_f (x := x) h hw hr hf
  have h6 := (h.gi.2.2 r hr.1 hr.2).2.1.1
  have hs := st_of h hr hf
  have hR := h.2.2.2.1 r hr.1 hr.2
  have e : fDel G w r x = fDel1 G w r x := by
    unfold fDel fDel2
    have e1 : fDel1 G w r x (132 + 16 * r + 1).toNat = stG G r := d4
    have key : ∀ n, cnc G r = n → n = (if stG G r = 0 then 2 else 3) → fHave (fDel1 G w r x) r n = true → False := fun n hc hn2 hh => by
      have h9 := (hv_iff (by rw [d6]; exact h6)).mp hh
      refine hn ⟨hc.trans hn2, fun j j0 j1 => ?_⟩
      have h8 := h9.2 j j0 (by omega)
      rw [(d1 j j0 j1).1] at h8
      have hb : -1 ≤ dvv G r w x j := by
        unfold dvv
        split
        · omega
        · exact ((hR.2.1 j j0 j1).2.1).1
      omega
    have keyc : ∀ n, fHave (fDel1 G w r x) r n = true → cnc G r = n := fun n hh => by
      have h9 := (hv_iff (by rw [d6]; exact h6)).mp hh
      rw [← d6]; exact h9.1
    rw [e1]
    rw [if_neg, if_neg]
    · rintro ⟨z, hh⟩
      exact key 3 (keyc 3 hh) (by rw [if_neg (by omega)]) hh
    · rintro ⟨z, hh⟩
      exact key 2 (keyc 2 hh) (by rw [if_pos z]) hh
  rw [e]
  have h4 := h.gi.1
  refine ⟨d4, fun z => by omega, d3, fun o o0 o1 => ⟨(d2 o o0 (by omega)).1, ?_⟩, d5, d7, d8⟩
  rw [(d2 o o0 (by omega)).2, if_neg (fun z => by omega), Int.add_zero]
theorem zad_s (a b : Int) : zabs (a - b) = zabs (b - a) := by unfold zabs; (repeat' split) <;> omega
/-- two are compared -/
theorem DR_A {k : Int} {G : Gm} {w r x : Int} (h : IV k G) (hw : 0 ≤ w ∧ w < G 4) (hr : 0 ≤ r ∧ r < G 5) (hf : fWorksAt G w r = true) (hs : stG G r = 0) (hc : cnc G r = 2) (hv : 0 ≤ dvv G r w x 0 ∧ 0 ≤ dvv G r w x 1) : (zabs (dvv G r w x 0 - dvv G r w x 1) ≤ G 0 → DR G (fDel G w r x) r w 2 (if trG G (wkc G r 0) < trG G (wkc G r 1) then dvv G r w x 1 else dvv G r w x 0) (zor (zshl 1 (wkc G r 0)) (zshl 1 (wkc G r 1))) (aSt (aSt (trG G) (wkc G r 0) (cpd (trG G (wkc G r 0) + 1))) (wkc G r 1) (cpd (trG G (wkc G r 1) + 1)))) ∧ (¬ zabs (dvv G r w x 0 - dvv G r w x 1) ≤ G 0 → ∀ v bi, DR G (fDel G w r x) r w 1 v bi (trG G)) := by
  obtain ⟨d1, d2, d3, d4, d5, d6, d7, d8, d9⟩ := d1_f (x := x) h hw hr hf
  have hG := h.gi
  have h4 := hG.1
  have h5 := hG.2.1
  have hx9 := h.gx.1 r hr.1 hr.2
  have w0 : 0 ≤ wkc G r 0 ∧ wkc G r 0 < 6 := (hG.2.2 r hr.1 hr.2).2.2 0 (by decide) (show (0 : Int) < cnc G r by omega)
  have w1 : 0 ≤ wkc G r 1 ∧ wkc G r 1 < 6 := (hG.2.2 r hr.1 hr.2).2.2 1 (by decide) (show (1 : Int) < cnc G r by omega)
  have w01 : wkc G r 0 ≠ wkc G r 1 := hx9.2.1 0 1 (by decide) (by decide) (show (1 : Int) < cnc G r by omega)
  obtain ⟨r0, e0⟩ := d1 0 (by decide) (by omega)
  obtain ⟨r1, e1⟩ := d1 1 (by decide) (by omega)
  have hh : fHave (fDel1 G w r x) r 2 = true := (hv_iff (by omega)).mpr ⟨by omega, fun j j0 j1 => by
    rcases (show j = 0 ∨ j = 1 by omega) with z | z <;> subst z
    · rw [r0]; omega
    · rw [r1]; omega⟩
  have e : fDel G w r x = fCmp (fDel1 G w r x) r := by
    unfold fDel fDel2
    rw [if_pos ⟨d4.trans hs, hh⟩]
  rw [e]
  have ea : fAgree (fDel1 G w r x) (fDel1 G w r x (132 + 16 * r + (7 + 3 * 0 + 1)).toNat) (fDel1 G w r x (132 + 16 * r + (7 + 3 * 1 + 1)).toNat) = decide (zabs (dvv G r w x 0 - dvv G r w x 1) ≤ G 0) := by
    show decide (zabs (rsG (fDel1 G w r x) r 0 - rsG (fDel1 G w r x) r 1) ≤ fDel1 G w r x 0) = _
    rw [r0, r1, d9]
  unfold fCmp
  rw [ea]
  refine ⟨fun z => ?_, fun z v bi => ?_⟩
  · rw [if_pos (decide_eq_true z)]
    obtain ⟨f1, f2, f3, f4, f5, f6, f7, f8⟩ := fFin_dr (g := fDel1 G w r x) (r := r) (p := 0) (q := 1) ⟨hr.1, by omega⟩ e0 e1 w0 w1 w01
    refine ⟨f1, fun _ => ⟨?_, f3⟩, (f4 w hw.1 (by omega)).trans d3, fun o o0 o1 => ⟨?_, ?_⟩, f6.trans d5, f7.trans d7, f8.trans d8⟩
    · rw [f2, r0, r1, (d2 _ w0.1 w0.2).1, (d2 _ w1.1 w1.2).1]
    · rw [(f5 o o0 (by omega)).1, (d2 _ w0.1 w0.2).1, (d2 _ w1.1 w1.2).1]
      unfold aSt
      rw [(d2 o o0 (by omega)).1]
    · rw [(f5 o o0 (by omega)).2, (d2 o o0 (by omega)).2, d5]
      have h9 := by_biti w0 w1 ⟨o0, (by omega : o < 6)⟩
      by_cases y : o = wkc G r 0 ∨ o = wkc G r 1
      · rw [if_pos y, if_pos ⟨rfl, h9.mpr y⟩]
      · rw [if_neg y, if_neg (fun t => y (h9.mp t.2))]
  · rw [if_neg (by rw [decide_eq_true_eq]; exact z)]
    have n1 : ∀ {j : Nat}, j ≠ (132 + 16 * r + 1).toNat → gU (fDel1 G w r x) (132 + 16 * r + 1) 1 j = fDel1 G w r x j := fun a => gU_n _ a
    refine ⟨gU_s _ _ _, fun t => by omega, (n1 (by omega)).trans d3, fun o o0 o1 => ⟨(n1 (by omega)).trans (d2 o o0 (by omega)).1, ?_⟩, (n1 (by omega)).trans d5, (n1 (by omega)).trans d7, (n1 (by omega)).trans d8⟩
    rw [if_neg (fun t => absurd t.1 (by decide)), Int.add_zero]
    exact (n1 (by omega)).trans (d2 o o0 (by omega)).2
/-- three are decided -/
theorem DR_B {k : Int} {G : Gm} {w r x : Int} (h : IV k G) (hw : 0 ≤ w ∧ w < G 4) (hr : 0 ≤ r ∧ r < G 5) (hf : fWorksAt G w r = true) (hs : stG G r = 1) (hc : cnc G r = 3) (hv : 0 ≤ dvv G r w x 0 ∧ 0 ≤ dvv G r w x 1 ∧ 0 ≤ dvv G r w x 2) {p q : Int} (hp : p = 1 ∧ q = 0 ∧ zabs (dvv G r w x 1 - dvv G r w x 2) < zabs (dvv G r w x 0 - dvv G r w x 2) ∨ p = 0 ∧ q = 1 ∧ ¬ zabs (dvv G r w x 1 - dvv G r w x 2) < zabs (dvv G r w x 0 - dvv G r w x 2)) :
    (¬ zabs (dvv G r w x p - dvv G r w x 2) ≤ G 0 → ∀ v bi, DR G (fDel G w r x) r w 3 v bi (aSt (aSt (aSt (trG G) (wkc G r 0) (cpd (trG G (wkc G r 0) - 1))) (wkc G r 1) (cpd (trG G (wkc G r 1) - 1))) (wkc G r 2) (cpd (trG G (wkc G r 2) - 1)))) ∧
    (zabs (dvv G r w x p - dvv G r w x 2) ≤ G 0 → zabs (dvv G r w x q - dvv G r w x 2) ≤ G 0 → DR G (fDel G w r x) r w 2 (if trG G (wkc G r p) < trG G (wkc G r 2) then dvv G r w x 2 else dvv G r w x p) (zor (zshl 1 (wkc G r p)) (zshl 1 (wkc G r 2))) (aSt (aSt (trG G) (wkc G r p) (cpd (trG G (wkc G r p) + 1))) (wkc G r 2) (cpd (trG G (wkc G r 2) + 1)))) ∧
    (zabs (dvv G r w x p - dvv G r w x 2) ≤ G 0 → ¬ zabs (dvv G r w x q - dvv G r w x 2) ≤ G 0 → DR G (fDel G w r x) r w 2 (if trG G (wkc G r p) < trG G (wkc G r 2) then dvv G r w x 2 else dvv G r w x p) (zor (zshl 1 (wkc G r p)) (zshl 1 (wkc G r 2))) (aSt (aSt (aSt (trG G) (wkc G r p) (cpd (trG G (wkc G r p) + 1))) (wkc G r 2) (cpd (trG G (wkc G r 2) + 1))) (wkc G r q) (cpd (trG G (wkc G r q) - 3)))) := by
  obtain ⟨d1, d2, d3, d4, d5, d6, d7, d8, d9⟩ := d1_f (x := x) h hw hr hf
  have hG := h.gi
  have h4 := hG.1
  have h5 := hG.2.1
  have hx9 := h.gx.1 r hr.1 hr.2
  have wB : ∀ j, 0 ≤ j → j < 3 → 0 ≤ wkc G r j ∧ wkc G r j < 6 := fun j j0 j1 => (hG.2.2 r hr.1 hr.2).2.2 j j0 (show j < cnc G r by omega)
  have wN : ∀ i j, 0 ≤ i → i < j → j < 3 → wkc G r i ≠ wkc G r j := fun i j i0 ij j3 => hx9.2.1 i j i0 ij (show j < cnc G r by omega)
  have w0 := wB 0 (by decide) (by decide)
  have w1 := wB 1 (by decide) (by decide)
  have w2 := wB 2 (by decide) (by decide)
  have w01 := wN 0 1 (by decide) (by decide) (by decide)
  have w02 := wN 0 2 (by decide) (by decide) (by decide)
  have w12 := wN 1 2 (by decide) (by decide) (by decide)
  obtain ⟨r0, e0⟩ := d1 0 (by decide) (by omega)
  obtain ⟨r1, e1⟩ := d1 1 (by decide) (by omega)
  obtain ⟨r2, e2⟩ := d1 2 (by decide) (by omega)
  have hh : fHave (fDel1 G w r x) r 3 = true := (hv_iff (by omega)).mpr ⟨by omega, fun j j0 j1 => by
    rcases (show j = 0 ∨ j = 1 ∨ j = 2 by omega) with z | z | z <;> subst z
    · rw [r0]; omega
    · rw [r1]; omega
    · rw [r2]; omega⟩
  have e : fDel G w r x = fDec (fDel1 G w r x) r := by
    unfold fDel fDel2
    rw [if_neg (fun z => absurd (hs.symm.trans (d4.symm.trans z.1)) (by decide)), if_pos ⟨d4.trans hs, hh⟩]
  rw [e]
  have far : ∀ j, fFar (fDel1 G w r x) r j = zabs (rsG (fDel1 G w r x) r j - rsG (fDel1 G w r x) r 2) := fun j => rfl
  have near : fNear (fDel1 G w r x) r = p := by
    unfold fNear
    rw [far, far, r0, r1, r2]
    rcases hp with z | z
    · rw [if_pos z.2.2, z.1]
    · rw [if_neg z.2.2, z.1]
  have hpq : 1 - p = q := by omega
  have hp3 : (0 ≤ p ∧ p < 2) ∧ 0 ≤ q ∧ q < 2 := by omega
  have ep := d1 p hp3.1.1 (by omega)
  have eq := d1 q hp3.2.1 (by omega)
  have wp := wB p hp3.1.1 (by omega)
  have wq := wB q hp3.2.1 (by omega)
  have wp2 := wN p 2 hp3.1.1 (by omega) (by decide)
  have wq2 := wN q 2 hp3.2.1 (by omega) (by decide)
  have wpq : wkc G r p ≠ wkc G r q := by
    rcases hp with z | z
    · rw [z.1, z.2.1]; exact fun y => w01 y.symm
    · rw [z.1, z.2.1]; exact w01
  have eT : ∀ o, 0 ≤ o → o < 6 → trG (fDel1 G w r x) o = trG G o := fun o a b => (d2 o a b).1
  have fD : fDec (fDel1 G w r x) r = if G 0 < zabs (dvv G r w x p - dvv G r w x 2) then fAside (fDel1 G w r x) r else if G 0 < zabs (dvv G r w x q - dvv G r w x 2) then gU (fFin (fDel1 G w r x) r p 2) (6 + 9 * wkc G r q + 3) (cpd (trG G (wkc G r q) + -3)) else fFin (fDel1 G w r x) r p 2 := by
    have t1 : ((fDel1 G w r x) (132 + 16 * r + (7 + 3 * q + 0)).toNat) = wkc G r q := eq.2
    have t2 : ((fDel1 G w r x) (6 + 9 * wkc G r q + 3).toNat) = trG G (wkc G r q) := eT _ wq.1 wq.2
    unfold fDec
    rw [near, hpq, far, far, ep.1, eq.1, r2, d9, t1, t2]
    rfl
  rw [fD]
  refine ⟨fun z v bi => ?_, fun z y => ?_, fun z y => ?_⟩
  · rw [if_pos (by omega)]
    have t0 : ((fDel1 G w r x) (132 + 16 * r + (7 + 3 * 0 + 0)).toNat) = wkc G r 0 := e0
    have t1 : ((fDel1 G w r x) (132 + 16 * r + (7 + 3 * 1 + 0)).toNat) = wkc G r 1 := e1
    have t2 : ((fDel1 G w r x) (132 + 16 * r + (7 + 3 * 2 + 0)).toNat) = wkc G r 2 := e2
    have s0 : ((fDel1 G w r x) (6 + 9 * wkc G r 0 + 3).toNat) = trG G (wkc G r 0) := eT _ w0.1 w0.2
    have s1 : ((fDel1 G w r x) (6 + 9 * wkc G r 1 + 3).toNat) = trG G (wkc G r 1) := eT _ w1.1 w1.2
    have s2 : ((fDel1 G w r x) (6 + 9 * wkc G r 2 + 3).toNat) = trG G (wkc G r 2) := eT _ w2.1 w2.2
    unfold fAside
    rw [t0, t1, t2, s0, s1, s2]
    have n1 : ∀ {j : Nat} {a b c : Int}, j ≠ (132 + 16 * r + 1).toNat → j ≠ (6 + 9 * wkc G r 0 + 3).toNat → j ≠ (6 + 9 * wkc G r 1 + 3).toNat → j ≠ (6 + 9 * wkc G r 2 + 3).toNat → gU (gU (gU (gU (fDel1 G w r x) (132 + 16 * r + 1) 3) (6 + 9 * wkc G r 0 + 3) a) (6 + 9 * wkc G r 1 + 3) b) (6 + 9 * wkc G r 2 + 3) c j = fDel1 G w r x j := fun a b c d => by rw [gU_n _ d, gU_n _ c, gU_n _ b, gU_n _ a]
    refine ⟨?_, fun t => by omega, (n1 (by omega) (by omega) (by omega) (by omega)).trans d3, fun o o0 o1 => ⟨?_, ?_⟩, (n1 (by omega) (by omega) (by omega) (by omega)).trans d5, (n1 (by omega) (by omega) (by omega) (by omega)).trans d7, (n1 (by omega) (by omega) (by omega) (by omega)).trans d8⟩
    · unfold stG
      rw [gU_n _ (by omega), gU_n _ (by omega), gU_n _ (by omega), gU_s]
    · have eo := eT o o0 (by omega)
      show gU (gU (gU (gU (fDel1 G w r x) _ _) _ _) _ _) _ _ (6 + 9 * o + 3).toNat = _
      by_cases y2 : o = wkc G r 2
      · rw [y2, gU_s, aSt_s]; rfl
      · rw [gU_n _ (by omega), aSt_n y2]
        by_cases y1 : o = wkc G r 1
        · rw [y1, gU_s, aSt_s]; rfl
        · rw [gU_n _ (by omega), aSt_n y1]
          by_cases y0 : o = wkc G r 0
          · rw [y0, gU_s, aSt_s]; rfl
          · rw [gU_n _ (by omega), aSt_n y0, gU_n _ (by omega)]
            exact eo
    · rw [if_neg (fun t => absurd t.1 (by decide)), Int.add_zero]
      exact (n1 (by omega) (by omega) (by omega) (by omega)).trans (d2 o o0 (by omega)).2
  · rw [if_neg (by omega), if_neg (by omega)]
    obtain ⟨f1, f2, f3, f4, f5, f6, f7, f8⟩ := fFin_dr (g := fDel1 G w r x) (r := r) (p := p) (q := 2) ⟨hr.1, by omega⟩ ep.2 e2 wp w2 wp2
    refine ⟨f1, fun _ => ⟨?_, f3⟩, (f4 w hw.1 (by omega)).trans d3, fun o o0 o1 => ⟨?_, ?_⟩, f6.trans d5, f7.trans d7, f8.trans d8⟩
    · rw [f2, r2, ep.1, eT _ wp.1 wp.2, eT _ w2.1 w2.2]
    · rw [(f5 o o0 (by omega)).1, eT _ wp.1 wp.2, eT _ w2.1 w2.2]
      unfold aSt
      rw [eT o o0 (by omega)]
    · rw [(f5 o o0 (by omega)).2, (d2 o o0 (by omega)).2, d5]
      have h9 := by_biti wp w2 ⟨o0, (by omega : o < 6)⟩
      by_cases y : o = wkc G r p ∨ o = wkc G r 2
      · rw [if_pos y, if_pos ⟨rfl, h9.mpr y⟩]
      · rw [if_neg y, if_neg (fun t => y (h9.mp t.2))]
  · rw [if_neg (by omega), if_pos (by omega)]
    obtain ⟨f1, f2, f3, f4, f5, f6, f7, f8⟩ := fFin_dr (g := fDel1 G w r x) (r := r) (p := p) (q := 2) ⟨hr.1, by omega⟩ ep.2 e2 wp w2 wp2
    generalize fFin (fDel1 G w r x) r p 2 = X at f1 f2 f3 f4 f5 f6 f7 f8
    have n1 : ∀ {j : Nat} {a : Int}, j ≠ (6 + 9 * wkc G r q + 3).toNat → gU X (6 + 9 * wkc G r q + 3) a j = X j := fun d => gU_n _ d
    refine ⟨(n1 (by omega)).trans f1, fun _ => ⟨?_, (n1 (by omega)).trans f3⟩, (n1 (by omega)).trans ((f4 w hw.1 (by omega)).trans d3), fun o o0 o1 => ⟨?_, ?_⟩, (n1 (by omega)).trans (f6.trans d5), (n1 (by omega)).trans (f7.trans d7), (n1 (by omega)).trans (f8.trans d8)⟩
    · refine (n1 (by omega)).trans (f2.trans ?_)
      rw [r2, ep.1, eT _ wp.1 wp.2, eT _ w2.1 w2.2]
    · show gU X _ _ (6 + 9 * o + 3).toNat = _
      by_cases y2 : o = wkc G r q
      · rw [y2, gU_s, aSt_s]; rfl
      · rw [gU_n _ (by omega), aSt_n y2]
        refine (f5 o o0 (by omega)).1.trans ?_
        rw [eT _ wp.1 wp.2, eT _ w2.1 w2.2]
        unfold aSt
        rw [eT o o0 (by omega)]
    · refine (n1 (by omega)).trans ((f5 o o0 (by omega)).2.trans ?_)
      rw [(d2 o o0 (by omega)).2, d5]
      have h9 := by_biti wp w2 ⟨o0, (by omega : o < 6)⟩
      by_cases y : o = wkc G r p ∨ o = wkc G r 2
      · rw [if_pos y, if_pos ⟨rfl, h9.mpr y⟩]
      · rw [if_neg y, if_neg (fun t => y (h9.mp t.2))]

