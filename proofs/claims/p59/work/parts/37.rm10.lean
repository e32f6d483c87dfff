def lateT (T : Int) (x : T3) : Bool := decide (x.2.1 = -1 ∧ x.2.2 < T)
def onT (T : Int) (x : T3) : Bool := !lateT T x
def LW (T w : Int) (l : List T3) : Int := ((l.countP (fun x => lateT T x && decide (x.1 = w)) : Nat) : Int)
def LN (T : Int) (l : List T3) : Int := ((l.countP (lateT T) : Nat) : Int)
theorem LW_0 (T w : Int) : LW T w [] = 0 := rfl
theorem LN_0 (T : Int) : LN T [] = 0 := rfl
theorem LW_s (T w : Int) (l : List T3) (x : T3) : LW T w (l ++ [x]) = LW T w l + (if lateT T x = true ∧ x.1 = w then 1 else 0) := by
  unfold LW
  rw [List.countP_append, List.countP_singleton]
  by_cases q : lateT T x = true ∧ x.1 = w
  · rw [if_pos q, if_pos (by rw [q.1, decide_eq_true q.2]; rfl)]
    rfl
  · rw [if_neg q, if_neg (by rw [Bool.and_eq_true, decide_eq_true_eq]; exact q)]
    omega
theorem LN_s (T : Int) (l : List T3) (x : T3) : LN T (l ++ [x]) = LN T l + (if lateT T x = true then 1 else 0) := by
  unfold LN
  rw [List.countP_append, List.countP_singleton]
  split <;> omega
theorem LW_b (T w : Int) (l : List T3) : 0 ≤ LW T w l ∧ LW T w l ≤ LN T l := by
  refine ⟨by unfold LW; omega, ?_⟩
  unfold LW LN
  have h : l.countP (fun x => lateT T x && decide (x.1 = w)) ≤ l.countP (lateT T) := List.countP_mono_left (fun x _ h => by rw [Bool.and_eq_true] at h; exact h.1)
  omega
theorem LN_b (T : Int) (l : List T3) : 0 ≤ LN T l ∧ LN T l ≤ (l.length : Int) := by
  refine ⟨by unfold LN; omega, ?_⟩
  unfold LN
  have h : l.countP (lateT T) ≤ l.length := List.countP_le_length
  omega
def LvW (G g : Gm) (c : Int → Int) : Prop := ∀ w : Int, 0 ≤ w → w < G 4 → (g (6 + 9 * w + 3).toNat) = zmax 0 ((G (6 + 9 * w + 3).toNat) - c w) ∧ (g (6 + 9 * w + 7).toNat) = (G (6 + 9 * w + 7).toNat) + c w
def LvS (G g : Gm) : Prop := ∀ k : Nat, k ≠ 3 → (∀ w : Int, 0 ≤ w → w < 6 → k ≠ (6 + 9 * w + 3).toNat ∧ k ≠ (6 + 9 * w + 7).toNat) → (∀ r : Int, 0 ≤ r → r < 24 → (k : Int) < 132 + 16 * r + 6 ∨ 132 + 16 * r + 16 ≤ (k : Int)) → g k = G k
/-- row i under way, o1 of it seen, l2 ahead -/
def LvI (T : Int) (G g : Gm) (i : Int) (o1 l2 : List T3) (n : Int) : Prop := TK G i = o1 ++ l2 ∧ RwT g i (o1.filter (onT T) ++ l2) ∧ (∀ r, 0 ≤ r → r < i → RwT g r ((TK G r).filter (onT T))) ∧ (∀ r, i < r → r < G 5 → RwT g r (TK G r)) ∧ LvW G g (fun w => sumI (fun r => LW T w (TK G r)) i + LW T w o1) ∧ n = sumI (fun r => LN T (TK G r)) i + LN T o1 ∧ LvS G g ∧ g 3 = T
/-- rows below i are done -/
def LvO (T : Int) (G g : Gm) (i n : Int) : Prop := (∀ r, 0 ≤ r → r < i → RwT g r ((TK G r).filter (onT T))) ∧ (∀ r, i ≤ r → r < G 5 → RwT g r (TK G r)) ∧ LvW G g (fun w => sumI (fun r => LW T w (TK G r)) i) ∧ n = sumI (fun r => LN T (TK G r)) i ∧ LvS G g ∧ g 3 = T
def LvR (T : Int) (G g : Gm) (n : Int) : Prop := LvO T G g (G 5) n
theorem LvO.i {T : Int} {G g : Gm} {i n : Int} (h : LvO T G g i n) (hi : i < G 5) : LvI T G g i [] (TK G i) n := by
  obtain ⟨h1, h2, h3, h4, h5, h6⟩ := h
  refine ⟨rfl, h2 i (Int.le_refl _) hi, h1, fun r q => h2 r (by omega), fun w q0 q1 => ?_, by rw [LN_0, Int.add_zero]; exact h4, h5, h6⟩
  have h9 := h3 w q0 q1
  simp only [LW_0, Int.add_zero]
  exact h9
theorem LvI.o {T : Int} {G g : Gm} {i n : Int} {o1 : List T3} (h : LvI T G g i o1 [] n) (hi : 0 ≤ i) : LvO T G g (i + 1) n := by
  obtain ⟨h1, h2, h3, h4, h5, h6, h7, h8⟩ := h
  rw [List.append_nil] at h1 h2
  refine ⟨fun r q0 q1 => ?_, fun r q0 q1 => h4 r (by omega) q1, fun w q0 q1 => ?_, ?_, h7, h8⟩
  · by_cases e : r = i
    · subst e; rw [h1]; exact h2
    · exact h3 r q0 (by omega)
  · have h9 := h5 w q0 q1
    simp only [sumI_s hi, h1]
    exact h9
  · rw [sumI_s hi, h1]; exact h6
theorem LvI.keep {T : Int} {G g : Gm} {i n : Int} {o1 l2 : List T3} {x : T3} (h : LvI T G g i o1 (x :: l2) n) (hx : lateT T x = false) : LvI T G g i (o1 ++ [x]) l2 n ∧ ((o1 ++ [x]).filter (onT T)).length = (o1.filter (onT T)).length + 1 := by
  obtain ⟨h1, h2, h3, h4, h5, h6, h7, h8⟩ := h
  have e1 : (o1 ++ [x]).filter (onT T) = o1.filter (onT T) ++ [x] := by
    rw [List.filter_append, List.filter_cons, if_pos (by unfold onT; rw [hx]; rfl), List.filter_nil]
  refine ⟨⟨by rw [List.append_assoc]; exact h1, by rw [e1, List.append_assoc]; exact h2, h3, h4, fun w q0 q1 => ?_, ?_, h7, h8⟩, by rw [e1, List.length_append, List.length_singleton]⟩
  · have h9 := h5 w q0 q1
    simp only [LW_s, hx]
    simpa using h9
  · rw [LN_s, hx]
    simpa using h6
theorem LvI.drop {T : Int} {G g : Gm} {i n k w : Int} {o1 l2 : List T3} {x : T3} (h : LvI T G g i o1 (x :: l2) n) (hx : lateT T x = true) (hi : 0 ≤ i ∧ i < 24) (h4G : G 4 ≤ 6) (h5G : G 5 ≤ 24) (hL : ∀ r, 0 ≤ r → r < G 5 → (TK G r).length ≤ 3) (hi5 : i < G 5) (hw : x.1 = w) (hw6 : 0 ≤ w ∧ w < 6) (hT : 0 ≤ (G (6 + 9 * w + 3).toNat) ∧ (G (6 + 9 * w + 3).toNat) ≤ 20) (hk : k = ((o1.filter (onT T)).length : Int)) : LvI T G (fDrop (gU (gU g (6 + 9 * w + 3) (fClamp ((g (6 + 9 * w + 3).toNat) + -1))) (6 + 9 * w + 7) ((g (6 + 9 * w + 7).toNat) + 1)) i k) i (o1 ++ [x]) l2 (n + 1) ∧ ((o1 ++ [x]).filter (onT T)).length = (o1.filter (onT T)).length := by
  obtain ⟨h1, h2, h3, h4, h5, h6, h7, h8⟩ := h
  have hlr := hL i hi.1 hi5
  have hfl : (o1.filter (onT T)).length ≤ o1.length := List.length_filter_le _ _
  have hl3 : (o1.filter (onT T)).length + 1 + l2.length ≤ 3 := by
    rw [h1, List.length_append, List.length_cons] at hlr
    omega
  have e1 : (o1 ++ [x]).filter (onT T) = o1.filter (onT T) := by
    rw [List.filter_append, List.filter_cons, if_neg (by unfold onT; rw [hx]; exact Bool.false_ne_true), List.filter_nil, List.append_nil]
  have hmg : (g (132 + 16 * i + 6).toNat) = ((o1.filter (onT T)).length : Int) + 1 + (l2.length : Int) := by rw [h2.1, List.length_append, List.length_cons]; omega
  have hx9 : ∀ j : Nat, (60 ≤ j ∨ j < 6) → gU (gU g (6 + 9 * w + 3) (fClamp ((g (6 + 9 * w + 3).toNat) + -1))) (6 + 9 * w + 7) ((g (6 + 9 * w + 7).toNat) + 1) j = g j := fun j hj => by
    rw [gU_n _ (by omega), gU_n _ (by omega)]
  have hd : ∀ j : Nat, ((j : Int) < 132 + 16 * i + 6 ∨ 132 + 16 * i + 16 ≤ (j : Int)) → fDrop (gU (gU g (6 + 9 * w + 3) (fClamp ((g (6 + 9 * w + 3).toNat) + -1))) (6 + 9 * w + 7) ((g (6 + 9 * w + 7).toNat) + 1)) i k j = gU (gU g (6 + 9 * w + 3) (fClamp ((g (6 + 9 * w + 3).toNat) + -1))) (6 + 9 * w + 7) ((g (6 + 9 * w + 7).toNat) + 1) j := fun j hj => by
    refine fDrop_n hi.1 (by omega) ?_ hj
    rw [hx9 _ (by omega), hmg]
    omega
  have hcl : ∀ r, r ≠ i → 0 ≤ r → r < G 5 → ∀ l, l.length ≤ 3 → RwT g r l → RwT (fDrop (gU (gU g (6 + 9 * w + 3) (fClamp ((g (6 + 9 * w + 3).toNat) + -1))) (6 + 9 * w + 7) ((g (6 + 9 * w + 7).toNat) + 1)) i k) r l := fun r e r0 r1 l hl hr => hr.congr r0 hl (fun j j0 j1 => by
    rw [hd j (by omega), hx9 j (by omega)])
  refine ⟨⟨by rw [List.append_assoc]; exact h1, ?_, fun r r0 r1 => ?_, fun r r0 r1 => ?_, fun v q0 q1 => ?_, ?_, fun j j3 jw jr => ?_, ?_⟩, by rw [e1]⟩
  · rw [e1, hk]
    exact (h2.congr hi.1 (by rw [List.length_append, List.length_cons]; omega) (fun j j0 j1 => hx9 j (by omega))).drop hi.1 (by rw [List.length_append, List.length_cons]; omega)
  · exact hcl r (by omega) r0 (by omega) _ (Nat.le_trans (List.length_filter_le _ _) (hL r r0 (by omega))) (h3 r r0 r1)
  · exact hcl r (by omega) (by omega) r1 _ (hL r (by omega) r1) (h4 r r0 r1)
  · obtain ⟨g3, g7⟩ := h5 v q0 q1
    have hb : 0 ≤ sumI (fun r => LW T v (TK G r)) i := (sumI_b (f := (fun r => LW T v (TK G r))) 3 hi.1 (fun r r0 r1 => ⟨(LW_b _ _ _).1, Int.le_trans (Int.le_trans (LW_b _ _ _).2 (LN_b _ _).2) (by have := hL r r0 (by omega); omega)⟩)).1
    have hb1 := (LW_b T v o1).1
    rw [hd _ (by omega), hd _ (by omega)]
    simp only [LW_s, hx, hw, true_and] at g3 g7 ⊢
    by_cases e : w = v
    · subst e
      rw [gU_n _ (by omega), gU_s, gU_s, if_pos rfl]
      rw [g3, g7]
      refine ⟨?_, by omega⟩
      unfold fClamp zmax zmin
      repeat' split
      all_goals omega
    · rw [gU_n _ (by omega), gU_n _ (by omega), gU_n _ (by omega), gU_n _ (by omega), if_neg e, Int.add_zero]
      exact ⟨g3, g7⟩
  · rw [LN_s, hx, if_pos rfl, h6]
    omega
  · have j8 := jw w hw6.1 hw6.2
    have j9 := jr i hi.1 hi.2
    rw [hd j j9, gU_n _ j8.2, gU_n _ j8.1]
    exact h7 j j3 jw jr
  · rw [hd 3 (by omega), hx9 3 (by omega)]
    exact h8
/-- what is asked ahead of it -/
def LvP (g : Gm) : Prop := (0 ≤ g 5 ∧ g 5 ≤ 24) ∧ (0 ≤ g 4 ∧ g 4 ≤ 6) ∧ (∀ r, 0 ≤ r → r < g 5 → RI g r ∧ ∀ x, x ∈ TK g r → x.1 < g 4) ∧ ∀ w : Int, 0 ≤ w → w < g 4 → (0 ≤ (g (6 + 9 * w + 3).toNat) ∧ (g (6 + 9 * w + 3).toNat) ≤ 20) ∧ (0 ≤ (g (6 + 9 * w + 7).toNat) ∧ (g (6 + 9 * w + 7).toNat) ≤ 200000)
theorem LvP_A {M : ZM} {A : Nat} {g : Gm} (h : LvP g) : LvP (zI (zsA M A g) A) := by rw [zI_A]; exact h
theorem onT_mono {T : Int} {x : T3} (h : onT (T + 1) x = true) : onT T x = true := by
  unfold onT lateT at *
  rw [Bool.not_eq_true', decide_eq_false_iff_not] at *
  omega
theorem late_mono {T : Int} {x : T3} (h : lateT T x = true) : lateT (T + 1) x = true := by
  unfold lateT at *
  rw [decide_eq_true_eq] at *
  omega
theorem onT_ff (T : Int) (l : List T3) : (l.filter (onT T)).filter (onT (T + 1)) = l.filter (onT (T + 1)) := by
  rw [List.filter_filter]
  refine List.filter_congr (fun x _ => ?_)
  by_cases q : onT (T + 1) x = true
  · rw [q, onT_mono q]; rfl
  · rw [Bool.eq_false_iff.mpr q]; rfl
theorem LN_ff (T : Int) (l : List T3) : LN T l + LN (T + 1) (l.filter (onT T)) = LN (T + 1) l := by
  unfold LN
  induction l with
  | nil => rfl
  | cons x l ih =>
    by_cases q : lateT T x = true
    · rw [List.countP_cons_of_pos q, List.countP_cons_of_pos (late_mono q), List.filter_cons, if_neg (by unfold onT; rw [q]; exact Bool.false_ne_true)]
      omega
    · have q2 : onT T x = true := by unfold onT; rw [Bool.eq_false_iff.mpr q]; rfl
      rw [List.countP_cons_of_neg q, List.filter_cons, if_pos q2]
      by_cases p : lateT (T + 1) x = true
      · rw [List.countP_cons_of_pos p, List.countP_cons_of_pos p]
        omega
      · rw [List.countP_cons_of_neg p, List.countP_cons_of_neg p]
        exact ih
theorem cP_pos (T w : Int) {x : T3} {l : List T3} (h1 : lateT T x = true) (h2 : x.1 = w) : (x :: l).countP (fun x => lateT T x && decide (x.1 = w)) = l.countP (fun x => lateT T x && decide (x.1 = w)) + 1 := List.countP_cons_of_pos (p := fun x : T3 => lateT T x && decide (x.1 = w)) (by rw [Bool.and_eq_true]; exact ⟨h1, decide_eq_true h2⟩)
theorem cP_neg (T w : Int) {x : T3} {l : List T3} (h : ¬ (lateT T x = true ∧ x.1 = w)) : (x :: l).countP (fun x => lateT T x && decide (x.1 = w)) = l.countP (fun x => lateT T x && decide (x.1 = w)) := List.countP_cons_of_neg (p := fun x : T3 => lateT T x && decide (x.1 = w)) (by rw [Bool.and_eq_true, decide_eq_true_eq]; exact h)
theorem LW_ff (T w : Int) (l : List T3) : LW T w l + LW (T + 1) w (l.filter (onT T)) = LW (T + 1) w l := by
  unfold LW
  induction l with
  | nil => rfl
  | cons x l ih =>
    by_cases e : x.1 = w
    · by_cases q : lateT T x = true
      · rw [cP_pos T w q e, cP_pos (T + 1) w (late_mono q) e, List.filter_cons, if_neg (by unfold onT; rw [q]; exact Bool.false_ne_true)]
        omega
      · have q2 : onT T x = true := by unfold onT; rw [Bool.eq_false_iff.mpr q]; rfl
        rw [cP_neg T w (fun z => q z.1), List.filter_cons, if_pos q2]
        by_cases p : lateT (T + 1) x = true
        · rw [cP_pos (T + 1) w p e, cP_pos (T + 1) w p e]
          omega
        · rw [cP_neg (T + 1) w (fun z => p z.1), cP_neg (T + 1) w (fun z => p z.1)]
          exact ih
    · rw [cP_neg T w (fun z => e z.2), cP_neg (T + 1) w (fun z => e z.2), List.filter_cons]
      split
      · rw [cP_neg (T + 1) w (fun z => e z.2)]
        exact ih
      · exact ih
theorem sumI_add (f g : Int → Int) {n : Int} (h : 0 ≤ n) : sumI f n + sumI g n = sumI (fun i => f i + g i) n := by
  refine zup (n := n) (fun i => sumI f i + sumI g i = sumI (fun i => f i + g i) i) rfl (fun i h0 h1 ih => ?_) n h (Int.le_refl _)
  show sumI f (i + 1) + sumI g (i + 1) = sumI (fun i => f i + g i) (i + 1)
  rw [sumI_s h0, sumI_s h0, sumI_s h0]
  have ih' : sumI f i + sumI g i = sumI (fun i => f i + g i) i := ih
  omega
theorem TK_congr {G g : Gm} {r : Int} (hR : RI G r) (e : ∀ j : Nat, 132 + 16 * r + 6 ≤ (j : Int) → (j : Int) < 132 + 16 * r + 16 → g j = G j) : TK g r = TK G r := ((TK_RwT hR.2.1.1).congr hR.1.1 (TK_len hR) e).tk
theorem LvR.base {T : Int} {G g2 : Gm} {m : Int} (hr : 0 ≤ G 5 ∧ G 5 ≤ 24) (hw : 0 ≤ G 4 ∧ G 4 ≤ 6) (hR : ∀ r, 0 ≤ r → r < G 5 → RI G r) (h : LvR T (gU G 3 T) g2 m) : LvR T G g2 m := by
  have ek : ∀ j : Nat, j ≠ 3 → gU G 3 T j = G j := fun j hj => gU_n _ hj
  have e5 : gU G 3 T 5 = G 5 := ek 5 (by decide)
  have e4 : gU G 3 T 4 = G 4 := ek 4 (by decide)
  have et : ∀ r, 0 ≤ r → r < G 5 → TK (gU G 3 T) r = TK G r := fun r r0 r1 => TK_congr (hR r r0 r1) (fun j j0 j1 => ek j (by omega))
  obtain ⟨h1, h2, h3, h4, h5, h6⟩ := h
  rw [e5] at h1 h2 h3 h4
  refine ⟨fun r r0 r1 => by rw [← et r r0 r1]; exact h1 r r0 r1, fun r r0 r1 => by omega, fun w w0 w1 => ?_, ?_, fun k k0 k1 k2 => (h5 k k0 k1 k2).trans (ek k k0), h6⟩
  · have h9 := h3 w w0 (by rw [e4]; exact w1)
    simp only at h9 ⊢
    rw [ek _ (by omega), ek _ (by omega), sumI_c (f := fun r => LW T w (TK (gU G 3 T) r)) (g := fun r => LW T w (TK G r)) (fun r r0 r1 => by simp only [et r r0 r1])] at h9
    exact h9
  · rw [h4]
    exact sumI_c (fun r r0 r1 => by simp only [et r r0 r1])
theorem LvR.comp {T : Int} {G g g2 : Gm} {n m : Int} (hr : 0 ≤ G 5 ∧ G 5 ≤ 24) (hw : 0 ≤ G 4 ∧ G 4 ≤ 6) (hR : ∀ r, 0 ≤ r → r < G 5 → RI G r) (h : LvR T G g n) (h2 : LvR (T + 1) (gU g 3 (T + 1)) g2 m) : LvR (T + 1) G g2 (n + m) := by
  have ek : ∀ j : Nat, j ≠ 3 → gU g 3 (T + 1) j = g j := fun j hj => gU_n _ hj
  obtain ⟨a1, a2, a3, a4, a5, a6⟩ := h
  have e5 : gU g 3 (T + 1) 5 = G 5 := (ek 5 (by decide)).trans (a5 5 (by decide) (fun w q0 q1 => by omega) (fun r q0 q1 => by omega))
  have e4 : gU g 3 (T + 1) 4 = G 4 := (ek 4 (by decide)).trans (a5 4 (by decide) (fun w q0 q1 => by omega) (fun r q0 q1 => by omega))
  have et : ∀ r, 0 ≤ r → r < G 5 → TK (gU g 3 (T + 1)) r = (TK G r).filter (onT T) := fun r r0 r1 => ((a1 r r0 r1).congr r0 (Nat.le_trans (List.length_filter_le _ _) (TK_len (hR r r0 r1))) (fun j j0 j1 => ek j (by omega))).tk
  obtain ⟨b1, b2, b3, b4, b5, b6⟩ := h2
  rw [e5] at b1 b2 b3 b4
  refine ⟨fun r r0 r1 => by have h9 := b1 r r0 r1; rw [et r r0 r1, onT_ff] at h9; exact h9, fun r r0 r1 => by omega, fun w w0 w1 => ?_, ?_, fun k k0 k1 k2 => ((b5 k k0 k1 k2).trans (ek k k0)).trans (a5 k k0 k1 k2), b6⟩
  · have h9 := b3 w w0 (by rw [e4]; exact w1)
    have h8 := a3 w w0 w1
    have hs : sumI (fun r => LW T w (TK G r)) (G 5) + sumI (fun r => LW (T + 1) w (TK (gU g 3 (T + 1)) r)) (G 5) = sumI (fun r => LW (T + 1) w (TK G r)) (G 5) := by
      rw [sumI_add _ _ hr.1]
      exact sumI_c (fun r r0 r1 => by simp only [et r r0 r1]; exact LW_ff T w _)
    have hb : 0 ≤ sumI (fun r => LW (T + 1) w (TK (gU g 3 (T + 1)) r)) (G 5) := (sumI_b 3 hr.1 (fun r r0 r1 => ⟨(LW_b _ _ _).1, Int.le_trans (Int.le_trans (LW_b _ _ _).2 (LN_b _ _).2) (by simp only [et r r0 r1]; have q1 := TK_len (hR r r0 r1); have q2 := List.length_filter_le (onT T) (TK G r); omega)⟩)).1
    rw [ek _ (by omega), ek _ (by omega)] at h9
    simp only at h8 h9 ⊢
    rw [← hs]
    generalize sumI (fun r => LW (T + 1) w (TK (gU g 3 (T + 1)) r)) (G 5) = c2 at *
    generalize sumI (fun r => LW T w (TK G r)) (G 5) = c1 at *
    refine ⟨?_, by omega⟩
    rw [h9.1, h8.1]
    unfold zmax
    repeat' split
    all_goals omega
  · rw [a4, b4, sumI_add _ _ hr.1]
    exact sumI_c (fun r r0 r1 => by simp only [et r r0 r1]; exact LN_ff T _)
theorem LvP.base {G : Gm} {v : Int} (hG : GI G) (hV : GV G) (hX : GX G) : LvP (gU G 3 v) := by
  have ek : ∀ j : Nat, j ≠ 3 → gU G 3 v j = G j := fun j hj => gU_n _ hj
  have e5 : gU G 3 v 5 = G 5 := ek 5 (by decide)
  have e4 : gU G 3 v 4 = G 4 := ek 4 (by decide)
  refine ⟨by rw [e5]; exact hG.2.1, by rw [e4]; exact hG.1, fun r r0 r1 => ?_, fun w w0 w1 => ?_⟩
  · rw [e5] at r1
    have hR := hG.2.2 r r0 r1
    have et : TK (gU G 3 v) r = TK G r := TK_congr hR (fun j j0 j1 => ek j (by omega))
    refine ⟨((TK_RwT hR.2.1.1).congr r0 (TK_len hR) (fun j j0 j1 => ek j (by omega))).ri hR.1 (TK_len hR) hR.tk, fun x hx => ?_⟩
    rw [et] at hx
    rw [e4]
    obtain ⟨k, k1, rfl⟩ := List.mem_map.mp hx
    have := List.mem_range.mp k1
    exact ((hX.1 r r0 r1).1 (k : Int) (by omega) (by omega)).1
  · rw [e4] at w1
    have h9 := hV.2.2.2.2.1 w w0 w1
    rw [ek _ (by omega), ek _ (by omega)]
    exact ⟨h9.2.2.1, by have := h9.2.2.2.2.2.2.1; omega⟩
theorem LvR.p {T : Int} {G g : Gm} {n v : Int} (hG : GI G) (hV : GV G) (hX : GX G) (h : LvR T G g n) : LvP (gU g 3 v) := by
  have ek : ∀ j : Nat, j ≠ 3 → gU g 3 v j = g j := fun j hj => gU_n _ hj
  obtain ⟨a1, a2, a3, a4, a5, a6⟩ := h
  have e5 : gU g 3 v 5 = G 5 := (ek 5 (by decide)).trans (a5 5 (by decide) (fun w q0 q1 => by omega) (fun r q0 q1 => by omega))
  have e4 : gU g 3 v 4 = G 4 := (ek 4 (by decide)).trans (a5 4 (by decide) (fun w q0 q1 => by omega) (fun r q0 q1 => by omega))
  refine ⟨by rw [e5]; exact hG.2.1, by rw [e4]; exact hG.1, fun r r0 r1 => ?_, fun w w0 w1 => ?_⟩
  · rw [e5] at r1
    have hR := hG.2.2 r r0 r1
    have hl := Nat.le_trans (List.length_filter_le (onT T) _) (TK_len hR)
    have hrw := (a1 r r0 r1).congr r0 hl (fun j j0 j1 => ek j (by omega))
    refine ⟨hrw.ri hR.1 hl (fun x hx => hR.tk x (List.mem_filter.mp hx).1), fun x hx => ?_⟩
    rw [hrw.tk] at hx
    rw [e4]
    obtain ⟨k, k1, rfl⟩ := List.mem_map.mp (List.mem_filter.mp hx).1
    have := List.mem_range.mp k1
    exact ((hX.1 r r0 r1).1 (k : Int) (by omega) (by omega)).1
  · rw [e4] at w1
    have h9 := hV.2.2.2.2.1 w w0 w1
    have h8 := a3 w w0 w1
    have hb : 0 ≤ sumI (fun r => LW T w (TK G r)) (G 5) ∧ sumI (fun r => LW T w (TK G r)) (G 5) ≤ G 5 * 3 := sumI_b 3 hG.2.1.1 (fun r r0 r1 => ⟨(LW_b _ _ _).1, Int.le_trans (Int.le_trans (LW_b _ _ _).2 (LN_b _ _).2) (by have q1 := TK_len (hG.2.2 r r0 r1); omega)⟩)
    rw [ek _ (by omega), ek _ (by omega)]
    have hg5 := hG.2.1
    have h7 := h9.2.2.1
    have h6 := h9.2.2.2.2.2.2.1
    simp only at h8
    generalize sumI (fun r => LW T w (TK G r)) (G 5) = c1 at *
    rw [h8.1, h8.2]
    refine ⟨?_, by omega⟩
    unfold zmax
    split <;> omega
theorem LvR.n {T : Int} {G g : Gm} {n : Int} (hG : GI G) (h : LvR T G g n) : 0 ≤ n ∧ n ≤ 72 := by
  rw [h.2.2.2.1]
  have hb : 0 ≤ sumI (fun r => LN T (TK G r)) (G 5) ∧ sumI (fun r => LN T (TK G r)) (G 5) ≤ G 5 * 3 := sumI_b 3 hG.2.1.1 (fun r r0 r1 => ⟨(LN_b _ _).1, Int.le_trans (LN_b _ _).2 (by have q1 := TK_len (hG.2.2 r r0 r1); omega)⟩)
  have hg5 := hG.2.1
  omega
theorem LvR.nP {T : Int} {G g : Gm} {n : Int} (hP : LvP G) (h : LvR T G g n) : 0 ≤ n ∧ n ≤ 72 := by
  rw [h.2.2.2.1]
  have hg5 := hP.1
  have hb : 0 ≤ sumI (fun r => LN T (TK G r)) (G 5) ∧ sumI (fun r => LN T (TK G r)) (G 5) ≤ G 5 * 3 := sumI_b 3 hg5.1 (fun r r0 r1 => ⟨(LN_b _ _).1, Int.le_trans (LN_b _ _).2 (by have q1 := TK_len (hP.2.2.1 r r0 r1).1; omega)⟩)
  omega
theorem apiFin2 {M M1 M2 : ZM} {P : Int → Gm} {c : Int} {K : ZRet} {r : Option ZV} (hY : LY M) (hf : Fr (fun j => j = 670 ∨ j = 679) (zsI M 670 0 0) M1) (h8 : ∀ f, f ≠ 19 → zI M1 670 f = zI (zsI M 670 0 0) 670 f) (hH : RH M1 P c) (f2 : Fr (fun j => j = 671) M1 M2) (h : Fr SYw M M2 → (∀ f, f ≠ 0 → f ≠ 19 → zI M2 670 f = zI M 670 f) → zI M2 670 0 = 0 → RH M2 P c → K r M2) : K r M2 := by
  have f0 : Fr SYw M (zsI M 670 0 0) := Fr_I hY.w (by decide) (by decide) (Or.inl rfl)
  have hY0 := hY.fr f0
  have f1 : Fr SYw (zsI M 670 0 0) M1 := hf.mono (fun j q => q.elim Or.inl (fun z => Or.inr (Or.inr z)))
  have hY1 := hY0.fr hf
  have e8 : zI M2 670 = zI M1 670 := f2.i hY1.w (by decide)
  refine h ((f0.tr f1).tr (f2.mono (fun j q => Or.inr (Or.inl q)))) (fun f q0 q1 => ?_) ?_ (hH.fr hY1 f2 (by decide) (by rw [e8]))
  · rw [e8, h8 f q1, zI_Im _ _ _ q0]
  · rw [e8, h8 0 (by decide), zI_Is]
def c_pass (ticks : Int) : Int := if 1 ≤ ticks ∧ ticks ≤ 99 then 0 else 1
