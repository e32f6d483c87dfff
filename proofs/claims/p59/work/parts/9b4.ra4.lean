def WB (d : Int) (G G' : Gm) : Prop := ∀ w : Int, 0 ≤ w → w < 6 → (∀ j : Int, 0 ≤ j → j < 3 → G' (6 + 9 * w + j).toNat = G (6 + 9 * w + j).toNat) ∧ (0 ≤ G (6 + 9 * w + 3).toNat ∧ G (6 + 9 * w + 3).toNat ≤ 20 → 0 ≤ G' (6 + 9 * w + 3).toNat ∧ G' (6 + 9 * w + 3).toNat ≤ 20) ∧ ∀ j : Int, 4 ≤ j → j < 9 → G (6 + 9 * w + j).toNat ≤ G' (6 + 9 * w + j).toNat ∧ G' (6 + 9 * w + j).toNat ≤ G (6 + 9 * w + j).toNat + d
def ST9 (r : Int) (G G' : Gm) : Prop := ∀ j : Nat, (j < 6 ∨ (60 ≤ j ∧ (j : Int) < 132 + 16 * r) ∨ 132 + 16 * r + 16 ≤ (j : Int)) → G' j = G j
def CH (d r : Int) (G G' : Gm) : Prop := WB d G G' ∧ ST9 r G G'
theorem CH.rf {r : Int} {G : Gm} : CH 0 r G G := ⟨fun w _ _ => ⟨fun _ _ _ => rfl, id, fun _ _ _ => by omega⟩, fun _ _ => rfl⟩
theorem CH.tr {d e r : Int} {G G1 G2 : Gm} (h : CH d r G G1) (h2 : CH e r G1 G2) : CH (d + e) r G G2 := by
  refine ⟨fun w w0 w1 => ?_, fun j hj => (h2.2 j hj).trans (h.2 j hj)⟩
  obtain ⟨a1, a2, a3⟩ := h.1 w w0 w1
  obtain ⟨b1, b2, b3⟩ := h2.1 w w0 w1
  refine ⟨fun j j0 j1 => (b1 j j0 j1).trans (a1 j j0 j1), fun z => b2 (a2 z), fun j j0 j1 => ?_⟩
  have c1 := a3 j j0 j1
  have c2 := b3 j j0 j1
  omega
theorem CH.up {d e r : Int} {G G1 : Gm} (h : CH d r G G1) (hd : d ≤ e) : CH e r G G1 := by
  refine ⟨fun w w0 w1 => ?_, h.2⟩
  obtain ⟨a1, a2, a3⟩ := h.1 w w0 w1
  refine ⟨a1, a2, fun j j0 j1 => ?_⟩
  have c1 := a3 j j0 j1
  omega
theorem CH.row {r i v : Int} {G : Gm} (hr : 0 ≤ r) (hi : 0 ≤ i ∧ i < 16) : CH 0 r G (gU G (132 + 16 * r + i) v) := by
  have e : ∀ {j : Nat}, j ≠ (132 + 16 * r + i).toNat → gU G (132 + 16 * r + i) v j = G j := fun z => gU_n _ z
  refine ⟨fun w w0 w1 => ⟨fun j j0 j1 => e (by omega), fun z => ?_, fun j j0 j1 => ?_⟩, fun j hj => e (by omega)⟩
  · rw [e (by omega)]; exact z
  · rw [e (by omega)]; omega
theorem CH.t {r a v : Int} {G : Gm} (hr : 0 ≤ r) (ha : 0 ≤ a ∧ a < 6) (hv : 0 ≤ v ∧ v ≤ 20) : CH 0 r G (gU G (6 + 9 * a + 3) v) := by
  have e : ∀ {j : Nat}, j ≠ (6 + 9 * a + 3).toNat → gU G (6 + 9 * a + 3) v j = G j := fun z => gU_n _ z
  refine ⟨fun w w0 w1 => ⟨fun j j0 j1 => e (by omega), fun z => ?_, fun j j0 j1 => ?_⟩, fun j hj => e (by omega)⟩
  · by_cases q : w = a
    · subst q; rw [gU_s]; exact hv
    · rw [e (by omega)]; exact z
  · rw [e (by omega)]; omega
theorem CH.c {r a i v d : Int} {G : Gm} (hr : 0 ≤ r) (ha : 0 ≤ a ∧ a < 6) (hi : 4 ≤ i ∧ i < 9) (hd : 0 ≤ d) (hv : G (6 + 9 * a + i).toNat ≤ v ∧ v ≤ G (6 + 9 * a + i).toNat + d) : CH d r G (gU G (6 + 9 * a + i) v) := by
  have e : ∀ {j : Nat}, j ≠ (6 + 9 * a + i).toNat → gU G (6 + 9 * a + i) v j = G j := fun z => gU_n _ z
  refine ⟨fun w w0 w1 => ⟨fun j j0 j1 => e (by omega), fun z => ?_, fun j j0 j1 => ?_⟩, fun j hj => e (by omega)⟩
  · rw [e (by omega)]; exact z
  · by_cases q : w = a ∧ j = i
    · obtain ⟨q1, q2⟩ := q; subst q1; subst q2; rw [gU_s]; exact hv
    · rw [e (by omega)]; omega
theorem fClamp_r (x : Int) : 0 ≤ fClamp x ∧ fClamp x ≤ 20 := by
  unfold fClamp zmax zmin
  repeat' split
  all_goals omega
theorem CH.gain {r a : Int} {G : Gm} (hr : 0 ≤ r) (ha : 0 ≤ a ∧ a < 6) (hs : 0 ≤ G (132 + 16 * r + 0).toNat ∧ G (132 + 16 * r + 0).toNat ≤ 9) : CH 10 r G (fGain G a r) := by
  have h1 : CH 0 r G (gU G (6 + 9 * a + 3) (fClamp ((G (6 + 9 * a + 3).toNat) + 1))) := CH.t hr ha (fClamp_r _)
  have h2 : CH 1 r (gU G (6 + 9 * a + 3) (fClamp ((G (6 + 9 * a + 3).toNat) + 1))) (gU (gU G (6 + 9 * a + 3) (fClamp ((G (6 + 9 * a + 3).toNat) + 1))) (6 + 9 * a + 6) ((G (6 + 9 * a + 6).toNat) + 1)) := CH.c hr ha (by decide) (by decide) (by rw [gU_n _ (by omega)]; omega)
  have h3 : CH 9 r (gU (gU G (6 + 9 * a + 3) (fClamp ((G (6 + 9 * a + 3).toNat) + 1))) (6 + 9 * a + 6) ((G (6 + 9 * a + 6).toNat) + 1)) (fGain G a r) := CH.c hr ha (by decide) (by decide) (by rw [gU_n _ (by omega), gU_n _ (by omega)]; omega)
  exact (h1.tr h2).tr h3
theorem CH.fin {r p q a b : Int} {G : Gm} (hr : 0 ≤ r) (ea : G (132 + 16 * r + (7 + 3 * p + 0)).toNat = a) (eb : G (132 + 16 * r + (7 + 3 * q + 0)).toNat = b) (ha : 0 ≤ a ∧ a < 6) (hb : 0 ≤ b ∧ b < 6) (hs : 0 ≤ G (132 + 16 * r + 0).toNat ∧ G (132 + 16 * r + 0).toNat ≤ 9) : CH 20 r G (fFin G r p q) := by
  unfold fFin
  rw [ea, eb]
  refine CH.tr (d := 10) (e := 10) (CH.tr (d := 0) (e := 10) (CH.tr (d := 0) (e := 0) (CH.tr (d := 0) (e := 0) (CH.row hr (by decide)) (CH.row hr (by decide))) (CH.row hr (by decide))) (CH.gain hr ha ?_)) (CH.gain hr hb ?_)
  · rw [gU_n _ (by omega), gU_n _ (by omega), gU_n _ (by omega)]; exact hs
  · rw [fGain_n _ ⟨by omega, by omega, by omega⟩, gU_n _ (by omega), gU_n _ (by omega), gU_n _ (by omega)]; exact hs
theorem fFin_rw {r p q a b j : Int} {G : Gm} (hr : 0 ≤ r) (ea : G (132 + 16 * r + (7 + 3 * p + 0)).toNat = a) (eb : G (132 + 16 * r + (7 + 3 * q + 0)).toNat = b) (ha : 0 ≤ a ∧ a < 6) (hb : 0 ≤ b ∧ b < 6) (j0 : 0 ≤ j) : fFin G r p q (132 + 16 * r + j).toNat = if j = 5 then zor (zshl 1 a) (zshl 1 b) else if j = 1 then 2 else if j = 2 then (if G (6 + 9 * a + 3).toNat < G (6 + 9 * b + 3).toNat then G (132 + 16 * r + (7 + 3 * q + 1)).toNat else G (132 + 16 * r + (7 + 3 * p + 1)).toNat) else G (132 + 16 * r + j).toNat := by
  unfold fFin
  rw [ea, eb, fGain_n _ ⟨by omega, by omega, by omega⟩, fGain_n _ ⟨by omega, by omega, by omega⟩]
  by_cases q5 : j = 5
  · subst q5; rw [if_pos rfl, gU_s]
  · rw [if_neg q5, gU_n _ (by omega)]
    by_cases q1 : j = 1
    · subst q1; rw [if_pos rfl, gU_s]
    · rw [if_neg q1, gU_n _ (by omega)]
      by_cases q2 : j = 2
      · subst q2; rw [if_pos rfl, gU_s]
      · rw [if_neg q2, gU_n _ (by omega)]
/-- a row's numbers but for its state -/
def RB (k m : Int) (R : Int → Int) : Prop := ((1 ≤ R 0 ∧ R 0 ≤ 9) ∧ (0 ≤ R 1 ∧ R 1 ≤ 3) ∧ (-1 ≤ R 2 ∧ R 2 ≤ 99) ∧ (-1 ≤ R 3 ∧ R 3 ≤ 99) ∧ (0 ≤ R 4 ∧ R 4 < 64) ∧ (0 ≤ R 6 ∧ R 6 ≤ 3)) ∧ (∀ j : Int, 0 ≤ j → j < R 6 → (0 ≤ R (7 + 3 * j + 0) ∧ R (7 + 3 * j + 0) < m ∧ hasB (R 4) (R (7 + 3 * j + 0)) = true) ∧ (-1 ≤ R (7 + 3 * j + 1) ∧ R (7 + 3 * j + 1) ≤ 99) ∧ (0 ≤ R (7 + 3 * j + 2) ∧ R (7 + 3 * j + 2) ≤ 100 * k + 50)) ∧ (∀ j l : Int, 0 ≤ j → j < l → l < R 6 → R (7 + 3 * j + 0) ≠ R (7 + 3 * l + 0))
theorem RW.rb {k m : Int} {R : Int → Int} (h : RW k m R) : RB k m R := ⟨h.1, h.2.1, h.2.2.1⟩
theorem zor_comm9 (x y : Int) : zor x y = zor y x := by
  unfold zor
  rw [Int32.or_comm]
theorem RB.same {k m : Int} {R R' : Int → Int} (h : RB k m R) (h1 : 0 ≤ R' 1 ∧ R' 1 ≤ 3) (h2 : -1 ≤ R' 2 ∧ R' 2 ≤ 99) (en : ∀ j, 0 ≤ j → j < 16 → j ≠ 1 → j ≠ 2 → j ≠ 5 → R' j = R j) : RB k m R' := by
  obtain ⟨⟨a0, a1, a2, a3, a4, a6⟩, b1, b2⟩ := h
  have f6 := en 6 (by decide) (by decide) (by decide) (by decide) (by decide)
  have f4 := en 4 (by decide) (by decide) (by decide) (by decide) (by decide)
  have f0 := en 0 (by decide) (by decide) (by decide) (by decide) (by decide)
  have f3 := en 3 (by decide) (by decide) (by decide) (by decide) (by decide)
  refine ⟨⟨by rw [f0]; exact a0, h1, h2, by rw [f3]; exact a3, by rw [f4]; exact a4, by rw [f6]; exact a6⟩, fun j j0 j1 => ?_, fun j l j0 j1 j2 => ?_⟩
  · rw [f6] at j1
    rw [f4, en _ (by omega) (by omega) (by omega) (by omega) (by omega), en (7 + 3 * j + 1) (by omega) (by omega) (by omega) (by omega) (by omega), en (7 + 3 * j + 2) (by omega) (by omega) (by omega) (by omega) (by omega)]
    exact b1 j j0 j1
  · rw [f6] at j2
    rw [en _ (by omega) (by omega) (by omega) (by omega) (by omega), en (7 + 3 * l + 0) (by omega) (by omega) (by omega) (by omega) (by omega)]
    exact b2 j l j0 j1 j2
theorem RB.fin {k m a b v : Int} {R R' : Int → Int} (h : RB k m R) (hres : ∀ j : Int, 0 ≤ j → j < R 6 → 0 ≤ R (7 + 3 * j + 1)) (e1 : R' 1 = 2) (e2 : R' 2 = v) (hv : 0 ≤ v ∧ v ≤ 99) (e5 : R' 5 = zor (zshl 1 a) (zshl 1 b)) (hab : a ≠ b) (ha : 0 ≤ a ∧ a < m) (hb : 0 ≤ b ∧ b < m) (en : ∀ j, 0 ≤ j → j < 16 → j ≠ 1 → j ≠ 2 → j ≠ 5 → R' j = R j) : RW k m R' := by
  have hs := h.same (R' := R') (by omega) (by omega) en
  have f6 := en 6 (by decide) (by decide) (by decide) (by decide) (by decide)
  have a6 := h.1.2.2.2.2.2
  refine ⟨hs.1, hs.2.1, hs.2.2, fun z => absurd e1 z, fun _ => ⟨by omega, ?_⟩, fun z => ?_, fun z => ?_, fun _ j j0 j1 => ?_⟩
  · by_cases q : a < b
    · exact ⟨a, b, ha.1, q, hb.2, e5⟩
    · exact ⟨b, a, hb.1, by omega, ha.2, by rw [e5, zor_comm9]⟩
  · rw [e1] at z; exact absurd z (by decide)
  · rw [e1] at z; exact absurd z (by decide)
  · rw [f6] at j1
    rw [en _ (by omega) (by omega) (by omega) (by omega) (by omega)]
    exact hres j j0 j1
theorem RB.dis {k m : Int} {R R' : Int → Int} (h : RB k m R) (h6 : R 6 = 2) (hres : ∀ j : Int, 0 ≤ j → j < R 6 → 0 ≤ R (7 + 3 * j + 1)) (e2 : R 2 = -1 ∧ R 3 = -1 ∧ R 5 = 0) (e1 : R' 1 = 1) (en : ∀ j, 0 ≤ j → j < 16 → j ≠ 1 → R' j = R j) : RW k m R' := by
  have f2 := en 2 (by decide) (by decide) (by decide)
  have f3 := en 3 (by decide) (by decide) (by decide)
  have f5 := en 5 (by decide) (by decide) (by decide)
  have f6 := en 6 (by decide) (by decide) (by decide)
  have f8 := en 8 (by decide) (by decide) (by decide)
  have f11 := en 11 (by decide) (by decide) (by decide)
  have r0 : 0 ≤ R 8 := hres 0 (by decide) (by omega)
  have r1 : 0 ≤ R 11 := hres 1 (by decide) (by omega)
  have hs := h.same (R' := R') (by omega) (by omega) (fun j j0 j1 x1 _ _ => en j j0 j1 x1)
  refine ⟨hs.1, hs.2.1, hs.2.2, fun _ => by rw [f2, f3, f5]; exact e2, fun z => ?_, fun z => ?_, fun _ => ⟨by omega, by omega, by omega, fun z => by omega⟩, fun z => by omega⟩
  · rw [e1] at z; exact absurd z (by decide)
  · rw [e1] at z; exact absurd z (by decide)
theorem RB.asd {k m : Int} {R R' : Int → Int} (h : RB k m R) (hres : ∀ j : Int, 0 ≤ j → j < R 6 → 0 ≤ R (7 + 3 * j + 1)) (e2 : R 2 = -1 ∧ R 3 = -1 ∧ R 5 = 0) (e1 : R' 1 = 3) (en : ∀ j, 0 ≤ j → j < 16 → j ≠ 1 → R' j = R j) : RW k m R' := by
  have f2 := en 2 (by decide) (by decide) (by decide)
  have f3 := en 3 (by decide) (by decide) (by decide)
  have f5 := en 5 (by decide) (by decide) (by decide)
  have f6 := en 6 (by decide) (by decide) (by decide)
  have a6 := h.1.2.2.2.2.2
  have hs := h.same (R' := R') (by omega) (by omega) (fun j j0 j1 x1 _ _ => en j j0 j1 x1)
  refine ⟨hs.1, hs.2.1, hs.2.2, fun _ => by rw [f2, f3, f5]; exact e2, fun z => ?_, fun z => ?_, fun z => ?_, fun z j j0 j1 => ?_⟩
  · rw [e1] at z; exact absurd z (by decide)
  · rw [e1] at z; exact absurd z (by decide)
  · rw [e1] at z; exact absurd z (by decide)
  · rw [f6] at j1
    rw [en _ (by omega) (by omega) (by omega)]
    exact hres j j0 j1
theorem IV.ch {k d r : Int} {G G' : Gm} (h : IV k G) (hk : k + 1 ≤ 1000) (hc : CH d r G G') (hd : d ≤ 100) (hr : 0 ≤ r ∧ r < G 5) (hw : RW (k + 1) (G 4) (rwf G' r)) : IV (k + 1) G' := by
  have h4 := h.2.1.2.2.2.2.1
  have h5 := h.2.1.2.2.2.2.2
  have e : ∀ {j : Nat}, (j < 6 ∨ (60 ≤ j ∧ (j : Int) < 132 + 16 * r) ∨ 132 + 16 * r + 16 ≤ (j : Int)) → G' j = G j := fun z => hc.2 _ z
  have hk0 := h.1
  have e4 : G' 4 = G 4 := e (by omega)
  refine h.step ⟨by omega, hk⟩ (h.2.1.up (by omega) (fun j hj => e (by omega))) e4 (e (by omega)) (fun w w0 w1 => Or.inl ?_) (fun q q0 q1 => ?_) (Or.inr (fun j j0 j1 => e (by omega)))
  · obtain ⟨c1, c2, c3⟩ := hc.1 w w0 (by omega)
    have h9 := h.2.2.1 w w0 w1
    unfold IVw at h9 ⊢
    rw [c1 0 (by decide) (by decide), c1 1 (by decide) (by decide), c1 2 (by decide) (by decide)]
    have d3 := c2 h9.2.2.2.1
    have d4 := c3 4 (by decide) (by decide)
    have d5 := c3 5 (by decide) (by decide)
    have d6 := c3 6 (by decide) (by decide)
    have d7 := c3 7 (by decide) (by decide)
    have d8 := c3 8 (by decide) (by decide)
    refine ⟨h9.1, h9.2.1, h9.2.2.1, d3, ?_, ?_, ?_, ?_, ?_⟩ <;> omega
  · by_cases eq : q = r
    · subst eq
      refine Or.inl ?_
      show RW (k + 1) (G' 4) (rwf G' q)
      rw [e4]
      exact hw
    · exact Or.inr (fun j j0 j1 => e (by omega))
