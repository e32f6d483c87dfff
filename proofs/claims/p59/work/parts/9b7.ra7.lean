def ET (g g' : Gm) : Prop := (∀ j : Nat, j < 6 → g' j = g j) ∧ (∀ w j : Int, 0 ≤ w → w < g 4 → 0 ≤ j → j < 9 → g' (6 + 9 * w + j).toNat = g (6 + 9 * w + j).toNat) ∧ (∀ j : Nat, 60 ≤ j → j < 132 → g' j = g j) ∧ ∀ r : Int, 0 ≤ r → r < g 5 → (∀ j : Int, 0 ≤ j → j < 7 → g' (132 + 16 * r + j).toNat = g (132 + 16 * r + j).toNat) ∧ ∀ k c : Int, 0 ≤ k → k < g (132 + 16 * r + 6).toNat → 0 ≤ c → c < 3 → g' (132 + 16 * r + (7 + 3 * k + c)).toNat = g (132 + 16 * r + (7 + 3 * k + c)).toNat
theorem ET.rf {g : Gm} : ET g g := ⟨fun _ _ => rfl, fun _ _ _ _ _ _ => rfl, fun _ _ _ => rfl, fun _ _ _ => ⟨fun _ _ _ => rfl, fun _ _ _ _ _ _ => rfl⟩⟩
theorem ET.wk {g g' : Gm} (h : ET g g') (hG : GI g) {w r : Int} (r0 : 0 ≤ r) (r1 : r < g 5) : fWorksAt g' w r = fWorksAt g w r := by
  obtain ⟨h1, h2⟩ := h.2.2.2 r r0 r1
  have h6 := (hG.2.2 r r0 r1).2.1.1
  have e6 := h1 6 (by decide) (by decide)
  have et : fTakingOf g' w r = fTakingOf g w r := by
    unfold fTakingOf fndI
    rw [e6]
    refine fnd_c _ _ (fun k k0 k1 => ?_)
    rw [h2 k 0 (by omega) (by omega) (by decide) (by decide)]
  unfold fWorksAt
  rw [et]
  rcases fTakingOf_r g w r h6 with z | z
  · rw [if_pos z, if_pos z]
  · rw [if_neg (by omega), if_neg (by omega), h2 _ 1 z.1 z.2 (by decide) (by decide)]
theorem ET.iw {g g' : Gm} (h : ET g g') (hG : GI g) (w : Int) : fInWork g' w = fInWork g w := by
  unfold fInWork
  rw [h.1 5 (by decide)]
  exact cntI_c (fun r r0 r1 => h.wk hG r0 r1)
theorem TR.et {M : ZM} {t : Nat} {g g' : Gm} (h : TR M t g) (he : ET g g') (hG : GI g) : TR M t g' := by
  obtain ⟨⟨a1, a2, a3, a4⟩, b, c, d⟩ := TR_iff.mp h
  obtain ⟨e1, e2, e3, e5⟩ := id he
  have e4 := e1 4 (by decide)
  have e55 := e1 5 (by decide)
  refine TR_iff.mpr ⟨⟨fun k hk => by rw [e1 k hk]; exact a1 k hk, fun w w0 w1 => ?_, fun r r0 r1 => ?_, fun x y x0 x1 y0 y1 => ?_⟩, fun r r0 r1 => ?_, fun w w0 w1 => ?_, fun w w0 w1 => ?_⟩
  · rw [e4] at w1
    rw [e2 w 1 w0 w1 (by decide) (by decide), e2 w 2 w0 w1 (by decide) (by decide), e2 w 3 w0 w1 (by decide) (by decide), e2 w 4 w0 w1 (by decide) (by decide), e2 w 5 w0 w1 (by decide) (by decide), e2 w 6 w0 w1 (by decide) (by decide), e2 w 7 w0 w1 (by decide) (by decide), e2 w 8 w0 w1 (by decide) (by decide)]
    exact a2 w w0 w1
  · rw [e55] at r1
    obtain ⟨q1, q2⟩ := e5 r r0 r1
    rw [q1 0 (by decide) (by decide), q1 1 (by decide) (by decide), q1 2 (by decide) (by decide), q1 3 (by decide) (by decide), q1 4 (by decide) (by decide), q1 6 (by decide) (by decide)]
    refine ⟨(a3 r r0 r1).1, fun k k0 k1 => ?_⟩
    rw [q2 k 0 k0 k1 (by decide) (by decide), q2 k 1 k0 k1 (by decide) (by decide), q2 k 2 k0 k1 (by decide) (by decide)]
    exact (a3 r r0 r1).2 k k0 k1
  · rw [e3 _ (by omega) (by omega), e3 _ (by omega) (by omega)]
    exact a4 x y x0 x1 y0 y1
  · rw [e55] at r1
    obtain ⟨q1, -⟩ := e5 r r0 r1
    rw [q1 1 (by decide) (by decide), q1 5 (by decide) (by decide), e4]
    exact b r r0 r1
  · rw [e4] at w1
    rw [e2 w 0 w0 w1 (by decide) (by decide)]
    exact c w w0 w1
  · rw [e4] at w1
    rw [he.iw hG]
    exact d w w0 w1
theorem RW.et {k m : Int} {R R' : Int → Int} (h : RW k m R) (e : ∀ j : Int, 0 ≤ j → j < 7 → R' j = R j) (ek : ∀ i c : Int, 0 ≤ i → i < R 6 → 0 ≤ c → c < 3 → R' (7 + 3 * i + c) = R (7 + 3 * i + c)) : RW k m R' := by
  obtain ⟨a, b1, b2, b3, b4, b5, b6, b7⟩ := h
  have f0 := e 0 (by decide) (by decide)
  have f1 := e 1 (by decide) (by decide)
  have f2 := e 2 (by decide) (by decide)
  have f3 := e 3 (by decide) (by decide)
  have f4 := e 4 (by decide) (by decide)
  have f5 := e 5 (by decide) (by decide)
  have f6 := e 6 (by decide) (by decide)
  refine ⟨by rw [f0, f1, f2, f3, f4, f6]; exact a, fun j j0 j1 => ?_, fun j l j0 j1 j2 => ?_, by rw [f1, f2, f3, f5]; exact b3, by rw [f1, f2, f5]; exact b4, ?_, ?_, ?_⟩
  · rw [f6] at j1
    rw [ek j 0 j0 j1 (by decide) (by decide), ek j 1 j0 j1 (by decide) (by decide), ek j 2 j0 j1 (by decide) (by decide), f4]
    exact b1 j j0 j1
  · rw [f6] at j2
    rw [ek j 0 j0 (by omega) (by decide) (by decide), ek l 0 (by omega) j2 (by decide) (by decide)]
    exact b2 j l j0 j1 j2
  · rw [f1, f6]
    intro z
    refine ⟨(b5 z).1, fun z2 => ?_⟩
    have g0 : R' 8 = R 8 := ek 0 1 (by decide) (by omega) (by decide) (by decide)
    have g1 : R' 11 = R 11 := ek 1 1 (by decide) (by omega) (by decide) (by decide)
    rw [g0, g1]
    exact (b5 z).2 z2
  · rw [f1, f6]
    intro z
    have h9 := b6 z
    have g0 : R' 8 = R 8 := ek 0 1 (by decide) (by omega) (by decide) (by decide)
    have g1 : R' 11 = R 11 := ek 1 1 (by decide) (by omega) (by decide) (by decide)
    rw [g0, g1]
    refine ⟨h9.1, h9.2.1, h9.2.2.1, fun z3 => ?_⟩
    have g2 : R' 14 = R 14 := ek 2 1 (by decide) (by omega) (by decide) (by decide)
    rw [g2]
    exact h9.2.2.2 z3
  · rw [f1, f6]
    intro z j j0 j1
    rw [ek j 1 j0 j1 (by decide) (by decide)]
    exact b7 z j j0 j1
theorem IV.et {k : Int} {g g' : Gm} (h : IV k g) (he : ET g g') : IV k g' := by
  obtain ⟨e1, e2, e3, e5⟩ := id he
  refine ⟨h.1, h.2.1.up (Int.le_refl _) e1, fun w w0 w1 => ?_, fun r r0 r1 => ?_, h.2.2.2.2.up (Int.le_refl _) e3⟩
  · rw [e1 4 (by decide)] at w1
    exact (h.2.2.1 w w0 w1).up (Int.le_refl _) (fun j j0 j1 => e2 w j w0 w1 j0 j1)
  · rw [e1 5 (by decide)] at r1
    obtain ⟨q1, q2⟩ := e5 r r0 r1
    show RW k (g' 4) (rwf g' r)
    rw [e1 4 (by decide)]
    exact RW.et (h.2.2.2.1 r r0 r1) q1 q2
theorem ET.of {g g' : Gm} (h : E516 g' g) (hG : GI g) : ET g g' := by
  have h5 := hG.2.1
  have h4 := hG.1
  refine ⟨fun j hj => h j (by omega), fun w j w0 w1 j0 j1 => h _ (by omega), fun j j0 j1 => h j (by omega), fun r r0 r1 => ⟨fun j j0 j1 => h _ (by omega), fun k c k0 k1 c0 c1 => ?_⟩⟩
  have h6 := (hG.2.2 r r0 r1).2.1
  exact h _ (by omega)
theorem RwT.two {g g' : Gm} {r : Int} {l : List T3} (h : RwT g r l) (h' : RwT g' r l) : g' (132 + 16 * r + 6).toNat = g (132 + 16 * r + 6).toNat ∧ ∀ k c : Int, 0 ≤ k → k < g (132 + 16 * r + 6).toNat → 0 ≤ c → c < 3 → g' (132 + 16 * r + (7 + 3 * k + c)).toNat = g (132 + 16 * r + (7 + 3 * k + c)).toNat := by
  refine ⟨h'.1.trans h.1.symm, fun k c k0 k1 c0 c1 => ?_⟩
  have hk : k.toNat < l.length := by have := h.1; omega
  have h9 := h.2 k.toNat _ (List.getElem?_eq_getElem hk)
  have h8 := h'.2 k.toNat _ (List.getElem?_eq_getElem hk)
  rw [show ((k.toNat : Nat) : Int) = k by omega] at h9 h8
  have h7 := h8.trans h9.symm
  have q0 : g' (132 + 16 * r + (7 + 3 * k + 0)).toNat = g (132 + 16 * r + (7 + 3 * k + 0)).toNat := congrArg (fun x : T3 => x.1) h7
  have q1 : g' (132 + 16 * r + (7 + 3 * k + 1)).toNat = g (132 + 16 * r + (7 + 3 * k + 1)).toNat := congrArg (fun x : T3 => x.2.1) h7
  have q2 : g' (132 + 16 * r + (7 + 3 * k + 2)).toNat = g (132 + 16 * r + (7 + 3 * k + 2)).toNat := congrArg (fun x : T3 => x.2.2) h7
  by_cases e0 : c = 0
  · subst e0; exact q0
  · by_cases e1 : c = 1
    · subst e1; exact q1
    · rw [show c = 2 by omega]; exact q2
theorem LvR.et {T n n' : Int} {G g g' : Gm} (h : LvR T G g n) (h' : LvR T G g' n') (hG : GI G) : ET g g' ∧ n' = n := by
  obtain ⟨r1, -, hw, hn, hS, h3⟩ := h
  obtain ⟨r1', -, hw', hn', hS', h3'⟩ := h'
  have h4 := hG.1
  have h5 := hG.2.1
  have e : ∀ {j : Nat}, j ≠ 3 → (∀ w : Int, 0 ≤ w → w < 6 → j ≠ (6 + 9 * w + 3).toNat ∧ j ≠ (6 + 9 * w + 7).toNat) → (∀ r : Int, 0 ≤ r → r < 24 → (j : Int) < 132 + 16 * r + 6 ∨ 132 + 16 * r + 16 ≤ (j : Int)) → g j = G j ∧ g' j = g j := fun a b c => ⟨hS _ a b c, (hS' _ a b c).trans (hS _ a b c).symm⟩
  have g4 := (e (j := 4) (by decide) (fun w w0 w1 => by omega) (fun r r0 r1 => by omega)).1
  have g5 := (e (j := 5) (by decide) (fun w w0 w1 => by omega) (fun r r0 r1 => by omega)).1
  refine ⟨⟨fun j hj => ?_, fun w j w0 w1 j0 j1 => ?_, fun j j0 j1 => (e (by omega) (fun w w0 w1 => by omega) (fun r r0 r1 => by omega)).2, fun r r0 r2 => ?_⟩, hn'.trans hn.symm⟩
  · by_cases q : j = 3
    · subst q; exact h3'.trans h3.symm
    · exact (e q (fun w w0 w1 => by omega) (fun r r0 r1 => by omega)).2
  · rw [g4] at w1
    by_cases q3 : j = 3
    · subst q3; exact (hw' w w0 w1).1.trans (hw w w0 w1).1.symm
    · by_cases q7 : j = 7
      · subst q7; exact (hw' w w0 w1).2.trans (hw w w0 w1).2.symm
      · exact (e (by omega) (fun v v0 v1 => by omega) (fun r r0 r1 => by omega)).2
  · rw [g5] at r2
    obtain ⟨t1, t2⟩ := (r1 r r0 r2).two (r1' r r0 r2)
    refine ⟨fun j j0 j1 => ?_, t2⟩
    by_cases q : j = 6
    · subst q; exact t1
    · exact (e (by omega) (fun v v0 v1 => by omega) (fun s s0 s1 => by omega)).2
theorem SetA.et {r n n' : Int} {G g g' : Gm} (h : SetA G r g n) (h' : SetA G r g' n') (hG : GI G) (hr : 0 ≤ r ∧ r < G 5) : ET g g' ∧ n' = n := by
  obtain ⟨hT, h1, hS, hn⟩ := h
  obtain ⟨hT', h1', hS', hn'⟩ := h'
  have h4 := hG.1
  have h5 := hG.2.1
  have e : ∀ {j : Nat}, j ≠ (132 + 16 * r + 1).toNat → ((j : Int) < 132 + 16 * r + 6 ∨ 132 + 16 * r + 16 ≤ (j : Int)) → g j = G j ∧ g' j = g j := fun a b => ⟨hS _ a b, (hS' _ a b).trans (hS _ a b).symm⟩
  have g4 := (e (j := 4) (by omega) (by omega)).1
  have g5 := (e (j := 5) (by omega) (by omega)).1
  refine ⟨⟨fun j hj => (e (by omega) (by omega)).2, fun w j w0 w1 j0 j1 => ?_, fun j j0 j1 => (e (by omega) (by omega)).2, fun s s0 s1 => ?_⟩, hn'.trans hn.symm⟩
  · rw [g4] at w1
    exact (e (by omega) (by omega)).2
  · rw [g5] at s1
    by_cases q : s = r
    · subst q
      obtain ⟨t1, t2⟩ := hT.two hT'
      refine ⟨fun j j0 j1 => ?_, t2⟩
      by_cases q6 : j = 6
      · subst q6; exact t1
      · by_cases q1 : j = 1
        · subst q1; exact h1'.trans h1.symm
        · exact (e (by omega) (by omega)).2
    · refine ⟨fun j j0 j1 => (e (by omega) (by omega)).2, fun k c k0 k1 c0 c1 => ?_⟩
      have e6 := (e (j := (132 + 16 * s + 6).toNat) (by omega) (by omega)).1
      rw [e6] at k1
      have h6 := (hG.2.2 s s0 s1).2.1
      exact (e (by omega) (by omega)).2
