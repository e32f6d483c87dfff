theorem RB.flt {k k' m r : Int} {G g : Gm} {on : T3 → Bool} (h : RB k m (rwf G r)) (hk : k ≤ k') (hT : RwT g r ((TK G r).filter on)) (e0 : rwf g r 0 = rwf G r 0) (e4 : rwf g r 4 = rwf G r 4) (h1 : 0 ≤ rwf g r 1 ∧ rwf g r 1 ≤ 3) (h2 : -1 ≤ rwf g r 2 ∧ rwf g r 2 ≤ 99) (h3 : -1 ≤ rwf g r 3 ∧ rwf g r 3 ≤ 99) : RB k' m (rwf g r) ∧ rwf g r 6 ≤ rwf G r 6 ∧ ∀ j : Int, 0 ≤ j → j < rwf g r 6 → ∃ i : Int, 0 ≤ i ∧ i < rwf G r 6 ∧ on (TKe G r i) = true ∧ TKe g r j = TKe G r i := by
  have a6 := h.1.2.2.2.2.2
  have hL : RwT G r (TK G r) := TK_RwT a6.1
  have hll : ((TK G r).filter on).length ≤ (TK G r).length := List.length_filter_le _ _
  have g6 : rwf g r 6 = (((TK G r).filter on).length : Int) := hT.1
  have G6 : rwf G r 6 = ((TK G r).length : Int) := hL.1
  have ex : ∀ j : Int, 0 ≤ j → j < rwf g r 6 → ∃ i : Int, 0 ≤ i ∧ i < rwf G r 6 ∧ on (TKe G r i) = true ∧ TKe g r j = TKe G r i := fun j j0 j1 => by
    have hj : j.toNat < ((TK G r).filter on).length := by omega
    have h9 := hT.2 j.toNat _ (List.getElem?_eq_getElem hj)
    rw [show ((j.toNat : Nat) : Int) = j by omega] at h9
    have hm := List.getElem_mem hj
    rw [← h9] at hm
    obtain ⟨m1, m2⟩ := List.mem_filter.mp hm
    obtain ⟨i, i0, i1, i2⟩ := TK_mem m1
    exact ⟨i, i0, i1, by rw [← i2]; exact m2, i2⟩
  refine ⟨⟨⟨by rw [e0]; exact h.1.1, h1, h2, h3, by rw [e4]; exact h.1.2.2.2.2.1, by omega⟩, fun j j0 j1 => ?_, fun j l j0 j1 j2 => ?_⟩, by omega, ex⟩
  · obtain ⟨i, i0, i1, -, i3⟩ := ex j j0 j1
    have h9 := h.2.1 i i0 i1
    have q0 : rwf g r (7 + 3 * j + 0) = rwf G r (7 + 3 * i + 0) := congrArg (fun x : T3 => x.1) i3
    have q1 : rwf g r (7 + 3 * j + 1) = rwf G r (7 + 3 * i + 1) := congrArg (fun x : T3 => x.2.1) i3
    have q2 : rwf g r (7 + 3 * j + 2) = rwf G r (7 + 3 * i + 2) := congrArg (fun x : T3 => x.2.2) i3
    rw [q0, q1, q2, e4]
    exact ⟨h9.1, h9.2.1, h9.2.2.1, by omega⟩
  · have hx : XL ((TK G r).filter on) := List.Pairwise.sublist List.filter_sublist (hL.xl (fun a b a0 a1 a2 => h.2.2 a b a0 a1 a2))
    have hl : l.toNat < ((TK G r).filter on).length := by omega
    have hj : j.toNat < ((TK G r).filter on).length := by omega
    have h9 := List.pairwise_iff_getElem.mp hx j.toNat l.toNat hj hl (by omega)
    have h8 := hT.2 j.toNat _ (List.getElem?_eq_getElem hj)
    have h7 := hT.2 l.toNat _ (List.getElem?_eq_getElem hl)
    rw [show ((j.toNat : Nat) : Int) = j by omega] at h8
    rw [show ((l.toNat : Nat) : Int) = l by omega] at h7
    rw [← h8, ← h7] at h9
    exact h9
theorem IV.setA {k r n : Int} {G g : Gm} (h : IV k G) (hr : 0 ≤ r ∧ r < G 5) (hs : G (132 + 16 * r + 1).toNat < 2) (hA : SetA G r g n) : IV k g := by
  have h4 := h.2.1.2.2.2.2.1
  have h5 := h.2.1.2.2.2.2.2
  obtain ⟨hT, h3, he, -⟩ := hA
  have e : ∀ {j : Nat}, j ≠ (132 + 16 * r + 1).toNat → (j : Int) < 132 + 16 * r + 6 ∨ 132 + 16 * r + 16 ≤ (j : Int) → g j = G j := fun a b => he _ a b
  have e4 : g 4 = G 4 := e (by omega) (by omega)
  have hrw : RW k (G 4) (rwf G r) := h.2.2.2.1 r hr.1 hr.2
  have hs' : rwf G r 1 < 2 := hs
  have g3 : rwf g r 1 = 3 := h3
  have f0 : rwf g r 0 = rwf G r 0 := e (by omega) (by omega)
  have f2 : rwf g r 2 = rwf G r 2 := e (by omega) (by omega)
  have f3 : rwf g r 3 = rwf G r 3 := e (by omega) (by omega)
  have f4 : rwf g r 4 = rwf G r 4 := e (by omega) (by omega)
  have f5 : rwf g r 5 = rwf G r 5 := e (by omega) (by omega)
  obtain ⟨b1, b2, b3⟩ := hrw.rb.flt (Int.le_refl k) hT f0 f4 (by omega) (by rw [f2]; exact hrw.1.2.2.1) (by rw [f3]; exact hrw.1.2.2.2.1)
  refine h.step ⟨Int.le_refl _, h.1.2⟩ (h.2.1.up (Int.le_refl _) (fun j hj => e (by omega) (by omega))) e4 (e (by omega) (by omega)) (fun w w0 w1 => Or.inr (fun j j0 j1 => e (by omega) (by omega))) (fun q q0 q1 => ?_) (Or.inr (fun j j0 j1 => e (by omega) (by omega)))
  by_cases eq : q = r
  · subst eq
    refine Or.inl ?_
    show RW k (g 4) (rwf g q)
    rw [e4]
    refine ⟨b1.1, b1.2.1, b1.2.2, fun _ => by rw [f2, f3, f5]; exact hrw.2.2.2.1 (by omega), fun z => ?_, fun z => ?_, fun z => ?_, fun _ j j0 j1 => ?_⟩
    · rw [g3] at z; exact absurd z (by decide)
    · rw [g3] at z; exact absurd z (by decide)
    · rw [g3] at z; exact absurd z (by decide)
    · obtain ⟨i, i0, i1, i2, i3⟩ := b3 j j0 j1
      have q1 : rwf g q (7 + 3 * j + 1) = rwf G q (7 + 3 * i + 1) := congrArg (fun x : T3 => x.2.1) i3
      have h9 := (hrw.2.1 i i0 i1).2.1.1
      have h8 : ¬ rwf G q (7 + 3 * i + 1) = -1 := by
        unfold inWk at i2
        intro z
        have z2 : (TKe G q i).2.1 = -1 := z
        rw [decide_eq_true z2] at i2
        exact absurd i2 (by decide)
      omega
  · exact Or.inr (fun j j0 j1 => e (by omega) (by omega))
theorem onT_res {T : Int} {x : T3} (h : x.2.1 ≠ -1) : onT T x = true := by
  unfold onT lateT
  rw [decide_eq_false (fun z => h z.1)]
  rfl
theorem TK_2 {G : Gm} {r : Int} (h : rwf G r 6 = 2) : TK G r = [TKe G r 0, TKe G r 1] := by
  have h9 : G (132 + 16 * r + 6).toNat = 2 := h
  unfold TK
  rw [h9]
  rfl
theorem TK_3 {G : Gm} {r : Int} (h : rwf G r 6 = 3) : TK G r = [TKe G r 0, TKe G r 1, TKe G r 2] := by
  have h9 : G (132 + 16 * r + 6).toNat = 3 := h
  unfold TK
  rw [h9]
  rfl
theorem RwT.i0 {g : Gm} {r : Int} {x : T3} {l : List T3} (h : RwT g r (x :: l)) : TKe g r 0 = x := h.2 0 x rfl
theorem RwT.i1 {g : Gm} {r : Int} {x y : T3} {l : List T3} (h : RwT g r (x :: y :: l)) : TKe g r 1 = y := h.2 1 y rfl
theorem RwT.i2 {g : Gm} {r : Int} {x y z : T3} {l : List T3} (h : RwT g r (x :: y :: z :: l)) : TKe g r 2 = z := h.2 2 z rfl
theorem RW.lv {k m r T : Int} {G g : Gm} (h : RW k m (rwf G r)) (hT : RwT g r ((TK G r).filter (onT T))) (e : ∀ j : Int, 0 ≤ j → j < 6 → rwf g r j = rwf G r j) : RW (k + 1) m (rwf g r) := by
  have f0 := e 0 (by decide) (by decide)
  have f1 := e 1 (by decide) (by decide)
  have f2 := e 2 (by decide) (by decide)
  have f3 := e 3 (by decide) (by decide)
  have f4 := e 4 (by decide) (by decide)
  have f5 := e 5 (by decide) (by decide)
  obtain ⟨b1, b2, b3⟩ := h.rb.flt (k' := k + 1) (by omega) hT f0 f4 (by rw [f1]; exact h.1.2.1) (by rw [f2]; exact h.1.2.2.1) (by rw [f3]; exact h.1.2.2.2.1)
  have g6 : rwf g r 6 = (((TK G r).filter (onT T)).length : Int) := hT.1
  have a6 := h.1.2.2.2.2.2
  obtain ⟨-, -, -, c4, c5, c6, c7, c8⟩ := h
  refine ⟨b1.1, b1.2.1, b1.2.2, fun z => by rw [f2, f3, f5]; exact c4 (by rw [← f1]; exact z), fun z => by rw [f2, f5]; exact c5 (by rw [← f1]; exact z), fun z => ?_, fun z => ?_, fun z j j0 j1 => ?_⟩
  · clear c5
    have h9 := c6 (by rw [← f1]; exact z)
    refine ⟨by omega, fun z2 => ?_⟩
    have n2 : rwf G r 6 = 2 := by omega
    have hT2 := hT
    rw [TK_2 n2] at hT2 g6
    have hfl : [TKe G r 0, TKe G r 1].filter (onT T) = [TKe G r 0, TKe G r 1] := by
      have hl : ([TKe G r 0, TKe G r 1].filter (onT T)).length = [TKe G r 0, TKe G r 1].length := by
        show _ = 2
        omega
      exact List.Sublist.eq_of_length List.filter_sublist hl
    rw [hfl] at hT2
    have q0 : rwf g r 8 = rwf G r 8 := congrArg (fun x : T3 => x.2.1) hT2.i0
    have q1 : rwf g r 11 = rwf G r 11 := congrArg (fun x : T3 => x.2.1) hT2.i1
    rw [q0, q1]
    exact h9.2 n2
  · clear c5
    have h9 := c7 (by rw [← f1]; exact z)
    have o0 : onT T (TKe G r 0) = true := onT_res (show rwf G r 8 ≠ -1 by omega)
    have o1 : onT T (TKe G r 1) = true := onT_res (show rwf G r 11 ≠ -1 by omega)
    have hn6 := b1.1.2.2.2.2.2
    by_cases n3 : rwf G r 6 = 3
    · have hT3 := hT
      rw [TK_3 n3] at hT3 g6
      rw [List.filter_cons_of_pos o0, List.filter_cons_of_pos o1] at hT3 g6
      have q0 : rwf g r 8 = rwf G r 8 := congrArg (fun x : T3 => x.2.1) hT3.i0
      have q1 : rwf g r 11 = rwf G r 11 := congrArg (fun x : T3 => x.2.1) hT3.i1
      rw [List.length_cons, List.length_cons] at g6
      refine ⟨by omega, by omega, by omega, fun z3 => ?_⟩
      cases e2 : onT T (TKe G r 2) with
      | true =>
        rw [List.filter_cons_of_pos e2] at hT3
        have q2 : rwf g r 14 = rwf G r 14 := congrArg (fun x : T3 => x.2.1) hT3.i2
        rw [q2]
        exact h9.2.2.2 n3
      | false =>
        rw [List.filter_cons_of_neg (by rw [e2]; exact Bool.false_ne_true)] at g6
        have : (List.filter (onT T) ([] : List T3)).length = 0 := rfl
        omega
    · have n2 : rwf G r 6 = 2 := by omega
      have hT3 := hT
      rw [TK_2 n2] at hT3 g6
      rw [List.filter_cons_of_pos o0, List.filter_cons_of_pos o1] at hT3 g6
      have q0 : rwf g r 8 = rwf G r 8 := congrArg (fun x : T3 => x.2.1) hT3.i0
      have q1 : rwf g r 11 = rwf G r 11 := congrArg (fun x : T3 => x.2.1) hT3.i1
      rw [List.length_cons, List.length_cons] at g6
      exact ⟨by omega, by omega, by omega, fun z3 => by omega⟩
  · obtain ⟨i, i0, i1, i2, i3⟩ := b3 j j0 j1
    have q1 : rwf g r (7 + 3 * j + 1) = rwf G r (7 + 3 * i + 1) := congrArg (fun x : T3 => x.2.1) i3
    rw [q1]
    exact c8 (by rw [← f1]; exact z) i i0 i1
theorem IV.lv {k ticks n : Int} {G g : Gm} (h : IV k G) (hk : k + 1 ≤ 1000) (ht : 1 ≤ ticks ∧ ticks ≤ 99) (hR : LvR (G 3 + ticks) G g n) : IV (k + 1) g := by
  obtain ⟨r1, -, hw, -, hS, h3⟩ := hR
  have h0 := h.1
  have h4 := h.2.1.2.2.2.2.1
  have h5 := h.2.1.2.2.2.2.2
  have ht0 := h.2.1
  have e : ∀ {j : Nat}, j ≠ 3 → (j < 6 ∨ 60 ≤ j ∧ j < 132 ∨ ∃ r i : Int, (0 ≤ r ∧ r < 24) ∧ (0 ≤ i ∧ i < 6) ∧ j = (132 + 16 * r + i).toNat) → g j = G j := fun {j} a b => by
    refine hS j a (fun w w0 w1 => ?_) (fun r r0 r1 => ?_)
    · rcases b with b | b | ⟨s, i, b1, b2, b3⟩
      · omega
      · omega
      · omega
    · rcases b with b | b | ⟨s, i, b1, b2, b3⟩
      · omega
      · omega
      · omega
  have e4 : g 4 = G 4 := e (by decide) (Or.inl (by decide))
  have e5 : g 5 = G 5 := e (by decide) (Or.inl (by decide))
  refine h.step ⟨by omega, hk⟩ ?_ e4 e5 (fun w w0 w1 => Or.inl ?_) (fun r q0 q1 => Or.inl ?_) (Or.inr (fun j j0 j1 => e (by omega) (Or.inr (Or.inl ⟨j0, j1⟩))))
  · unfold IVt at ht0 ⊢
    rw [h3, e4, e5, e (j := 0) (by decide) (Or.inl (by decide)), e (j := 1) (by decide) (Or.inl (by decide)), e (j := 2) (by decide) (Or.inl (by decide))]
    refine ⟨ht0.1, ht0.2.1, ht0.2.2.1, by omega, ht0.2.2.2.2⟩
  · have hb := sumI_b (f := fun r => LW (G 3 + ticks) w (TK G r)) 3 h5.1 (fun r r0 r1 => by
      have h9 := TK_len (h.gi.2.2 r r0 r1)
      have h8 : List.countP (fun x => lateT (G 3 + ticks) x && decide (x.1 = w)) (TK G r) ≤ (TK G r).length := List.countP_le_length
      show 0 ≤ LW (G 3 + ticks) w (TK G r) ∧ LW (G 3 + ticks) w (TK G r) ≤ 3
      unfold LW
      omega)
    have hww := hw w w0 w1
    have h9 := h.2.2.1 w w0 w1
    have ew : ∀ j : Int, 0 ≤ j → j < 9 → j ≠ 3 → j ≠ 7 → g (6 + 9 * w + j).toNat = G (6 + 9 * w + j).toNat := fun j j0 j1 j3 j7 => hS _ (by omega) (fun v v0 v1 => by omega) (fun r r0 r1 => by omega)
    obtain ⟨c, hc⟩ : ∃ c, sumI (fun r => LW (G 3 + ticks) w (TK G r)) (G 5) = c := ⟨_, rfl⟩
    rw [hc] at hb
    have hw1 : g (6 + 9 * w + 3).toNat = zmax 0 (G (6 + 9 * w + 3).toNat - c) := by rw [← hc]; exact hww.1
    have hw2 : g (6 + 9 * w + 7).toNat = G (6 + 9 * w + 7).toNat + c := by rw [← hc]; exact hww.2
    unfold IVw at h9 ⊢
    rw [ew 0 (by decide) (by decide) (by decide) (by decide), ew 1 (by decide) (by decide) (by decide) (by decide), ew 2 (by decide) (by decide) (by decide) (by decide), ew 4 (by decide) (by decide) (by decide) (by decide), ew 5 (by decide) (by decide) (by decide) (by decide), ew 6 (by decide) (by decide) (by decide) (by decide), ew 8 (by decide) (by decide) (by decide) (by decide), hw1, hw2]
    refine ⟨h9.1, h9.2.1, h9.2.2.1, ?_, by omega, by omega, by omega, by omega, by omega⟩
    unfold zmax
    split <;> omega
  · have hrw : RW k (G 4) (rwf G r) := h.2.2.2.1 r q0 q1
    show RW (k + 1) (g 4) (rwf g r)
    rw [e4]
    exact hrw.lv (r1 r q0 q1) (fun j j0 j1 => e (by omega) (Or.inr (Or.inr ⟨r, j, by omega, ⟨j0, j1⟩, rfl⟩)))
