/-! the reference: time passes -/
def lateT (T : Int) (x : T3) : Bool := decide (x.2.1 = -1 ∧ x.2.2 < T)
def onT (T : Int) (x : T3) : Bool := !lateT T x
def LW (T w : Int) (l : List T3) : Int := ((l.countP (fun x => lateT T x && decide (x.1 = w)) : Nat) : Int)
def LN (T : Int) (l : List T3) : Int := ((l.countP (lateT T) : Nat) : Int)
theorem LW_0 (T w : Int) : LW T w [] = 0 := rfl
theorem LN_0 (T : Int) : LN T [] = 0 := rfl
theorem LW_s (T w : Int) (l : List T3) (x : T3) : LW T w (l ++ [x]) = LW T w l + (if lateT T x = true ∧ x.1 = w then 1 else 0) := by
  unfold LW
  rw [List.countP_append, List.countP_singleton]
  by_cases q : lateT T x = true ∧ x.1 = w
  · rw [if_pos q, if_pos (by rw [q.1, decide_eq_true q.2]; rfl)]
    rfl
  · rw [if_neg q, if_neg (by rw [Bool.and_eq_true, decide_eq_true_eq]; exact q)]
    omega
theorem LN_s (T : Int) (l : List T3) (x : T3) : LN T (l ++ [x]) = LN T l + (if lateT T x = true then 1 else 0) := by
  unfold LN
  rw [List.countP_append, List.countP_singleton]
  split <;> omega
theorem LW_b (T w : Int) (l : List T3) : 0 ≤ LW T w l ∧ LW T w l ≤ LN T l := by
  refine ⟨by unfold LW; omega, ?_⟩
  unfold LW LN
  have h : l.countP (fun x => lateT T x && decide (x.1 = w)) ≤ l.countP (lateT T) := List.countP_mono_left (fun x _ h => by rw [Bool.and_eq_true] at h; exact h.1)
  omega
theorem LN_b (T : Int) (l : List T3) : 0 ≤ LN T l ∧ LN T l ≤ (l.length : Int) := by
  refine ⟨by unfold LN; omega, ?_⟩
  unfold LN
  have h : l.countP (lateT T) ≤ l.length := List.countP_le_length
  omega
def LvW (G g : Gm) (c : Int → Int) : Prop := ∀ w : Int, 0 ≤ w → w < G 4 → (g (6 + 9 * w + 3).toNat) = zmax 0 ((G (6 + 9 * w + 3).toNat) - c w) ∧ (g (6 + 9 * w + 7).toNat) = (G (6 + 9 * w + 7).toNat) + c w
def LvS (G g : Gm) : Prop := ∀ k : Nat, k ≠ 3 → (∀ w : Int, 0 ≤ w → w < 6 → k ≠ (6 + 9 * w + 3).toNat ∧ k ≠ (6 + 9 * w + 7).toNat) → (∀ r : Int, 0 ≤ r → r < 24 → (k : Int) < 132 + 16 * r + 6 ∨ 132 + 16 * r + 16 ≤ (k : Int)) → g k = G k
/-- row i under way, o1 of it seen, l2 ahead -/
def LvI (T : Int) (G g : Gm) (i : Int) (o1 l2 : List T3) (n : Int) : Prop := TK G i = o1 ++ l2 ∧ RwT g i (o1.filter (onT T) ++ l2) ∧ (∀ r, 0 ≤ r → r < i → RwT g r ((TK G r).filter (onT T))) ∧ (∀ r, i < r → r < G 5 → RwT g r (TK G r)) ∧ LvW G g (fun w => sumI (fun r => LW T w (TK G r)) i + LW T w o1) ∧ n = sumI (fun r => LN T (TK G r)) i + LN T o1 ∧ LvS G g ∧ g 3 = T
/-- rows below i are done -/
def LvO (T : Int) (G g : Gm) (i n : Int) : Prop := (∀ r, 0 ≤ r → r < i → RwT g r ((TK G r).filter (onT T))) ∧ (∀ r, i ≤ r → r < G 5 → RwT g r (TK G r)) ∧ LvW G g (fun w => sumI (fun r => LW T w (TK G r)) i) ∧ n = sumI (fun r => LN T (TK G r)) i ∧ LvS G g ∧ g 3 = T
def LvR (T : Int) (G g : Gm) (n : Int) : Prop := LvO T G g (G 5) n
theorem LvO.i {T : Int} {G g : Gm} {i n : Int} (h : LvO T G g i n) (hi : i < G 5) : LvI T G g i [] (TK G i) n := by
  obtain ⟨h1, h2, h3, h4, h5, h6⟩ := h
  refine ⟨rfl, h2 i (Int.le_refl _) hi, h1, fun r q => h2 r (by omega), fun w q0 q1 => ?_, by rw [LN_0, Int.add_zero]; exact h4, h5, h6⟩
  have h9 := h3 w q0 q1
  simp only [LW_0, Int.add_zero]
  exact h9
theorem LvI.o {T : Int} {G g : Gm} {i n : Int} {o1 : List T3} (h : LvI T G g i o1 [] n) (hi : 0 ≤ i) : LvO T G g (i + 1) n := by
  obtain ⟨h1, h2, h3, h4, h5, h6, h7, h8⟩ := h
  rw [List.append_nil] at h1 h2
  refine ⟨fun r q0 q1 => ?_, fun r q0 q1 => h4 r (by omega) q1, fun w q0 q1 => ?_, ?_, h7, h8⟩
  · by_cases e : r = i
    · subst e; rw [h1]; exact h2
    · exact h3 r q0 (by omega)
  · have h9 := h5 w q0 q1
    simp only [sumI_s hi, h1]
    exact h9
  · rw [sumI_s hi, h1]; exact h6
theorem LvI.keep {T : Int} {G g : Gm} {i n : Int} {o1 l2 : List T3} {x : T3} (h : LvI T G g i o1 (x :: l2) n) (hx : lateT T x = false) : LvI T G g i (o1 ++ [x]) l2 n ∧ ((o1 ++ [x]).filter (onT T)).length = (o1.filter (onT T)).length + 1 := by
  obtain ⟨h1, h2, h3, h4, h5, h6, h7, h8⟩ := h
  have e1 : (o1 ++ [x]).filter (onT T) = o1.filter (onT T) ++ [x] := by
    rw [List.filter_append, List.filter_cons, if_pos (by unfold onT; rw [hx]; rfl), List.filter_nil]
  refine ⟨⟨by rw [List.append_assoc]; exact h1, by rw [e1, List.append_assoc]; exact h2, h3, h4, fun w q0 q1 => ?_, ?_, h7, h8⟩, by rw [e1, List.length_append, List.length_singleton]⟩
  · have h9 := h5 w q0 q1
    simp only [LW_s, hx]
    simpa using h9
  · rw [LN_s, hx]
    simpa using h6
theorem LvI.drop {T : Int} {G g : Gm} {i n k w : Int} {o1 l2 : List T3} {x : T3} (h : LvI T G g i o1 (x :: l2) n) (hx : lateT T x = true) (hi : 0 ≤ i ∧ i < 24) (h4G : G 4 ≤ 6) (h5G : G 5 ≤ 24) (hL : ∀ r, 0 ≤ r → r < G 5 → (TK G r).length ≤ 3) (hi5 : i < G 5) (hw : x.1 = w) (hw6 : 0 ≤ w ∧ w < 6) (hT : 0 ≤ (G (6 + 9 * w + 3).toNat) ∧ (G (6 + 9 * w + 3).toNat) ≤ 20) (hk : k = ((o1.filter (onT T)).length : Int)) : LvI T G (fDrop (gU (gU g (6 + 9 * w + 3) (fClamp ((g (6 + 9 * w + 3).toNat) + -1))) (6 + 9 * w + 7) ((g (6 + 9 * w + 7).toNat) + 1)) i k) i (o1 ++ [x]) l2 (n + 1) ∧ ((o1 ++ [x]).filter (onT T)).length = (o1.filter (onT T)).length := by
  obtain ⟨h1, h2, h3, h4, h5, h6, h7, h8⟩ := h
  have hlr := hL i hi.1 hi5
  have hfl : (o1.filter (onT T)).length ≤ o1.length := List.length_filter_le _ _
  have hl3 : (o1.filter (onT T)).length + 1 + l2.length ≤ 3 := by
    rw [h1, List.length_append, List.length_cons] at hlr
    omega
  have e1 : (o1 ++ [x]).filter (onT T) = o1.filter (onT T) := by
    rw [List.filter_append, List.filter_cons, if_neg (by unfold onT; rw [hx]; exact Bool.false_ne_true), List.filter_nil, List.append_nil]
  have hmg : (g (132 + 16 * i + 6).toNat) = ((o1.filter (onT T)).length : Int) + 1 + (l2.length : Int) := by rw [h2.1, List.length_append, List.length_cons]; omega
  have hx9 : ∀ j : Nat, (60 ≤ j ∨ j < 6) → gU (gU g (6 + 9 * w + 3) (fClamp ((g (6 + 9 * w + 3).toNat) + -1))) (6 + 9 * w + 7) ((g (6 + 9 * w + 7).toNat) + 1) j = g j := fun j hj => by
    rw [gU_n _ (by omega), gU_n _ (by omega)]
  have hd : ∀ j : Nat, ((j : Int) < 132 + 16 * i + 6 ∨ 132 + 16 * i + 16 ≤ (j : Int)) → fDrop (gU (gU g (6 + 9 * w + 3) (fClamp ((g (6 + 9 * w + 3).toNat) + -1))) (6 + 9 * w + 7) ((g (6 + 9 * w + 7).toNat) + 1)) i k j = gU (gU g (6 + 9 * w + 3) (fClamp ((g (6 + 9 * w + 3).toNat) + -1))) (6 + 9 * w + 7) ((g (6 + 9 * w + 7).toNat) + 1) j := fun j hj => by
    refine fDrop_n hi.1 (by omega) ?_ hj
    rw [hx9 _ (by omega), hmg]
    omega
  have hcl : ∀ r, r ≠ i → 0 ≤ r → r < G 5 → ∀ l, l.length ≤ 3 → RwT g r l → RwT (fDrop (gU (gU g (6 + 9 * w + 3) (fClamp ((g (6 + 9 * w + 3).toNat) + -1))) (6 + 9 * w + 7) ((g (6 + 9 * w + 7).toNat) + 1)) i k) r l := fun r e r0 r1 l hl hr => hr.congr r0 hl (fun j j0 j1 => by
    rw [hd j (by omega), hx9 j (by omega)])
  refine ⟨⟨by rw [List.append_assoc]; exact h1, ?_, fun r r0 r1 => ?_, fun r r0 r1 => ?_, fun v q0 q1 => ?_, ?_, fun j j3 jw jr => ?_, ?_⟩, by rw [e1]⟩
  · rw [e1, hk]
    exact (h2.congr hi.1 (by rw [List.length_append, List.length_cons]; omega) (fun j j0 j1 => hx9 j (by omega))).drop hi.1 (by rw [List.length_append, List.length_cons]; omega)
  · exact hcl r (by omega) r0 (by omega) _ (Nat.le_trans (List.length_filter_le _ _) (hL r r0 (by omega))) (h3 r r0 r1)
  · exact hcl r (by omega) (by omega) r1 _ (hL r (by omega) r1) (h4 r r0 r1)
  · obtain ⟨g3, g7⟩ := h5 v q0 q1
    have hb : 0 ≤ sumI (fun r => LW T v (TK G r)) i := (sumI_b (f := (fun r => LW T v (TK G r))) 3 hi.1 (fun r r0 r1 => ⟨(LW_b _ _ _).1, Int.le_trans (Int.le_trans (LW_b _ _ _).2 (LN_b _ _).2) (by have := hL r r0 (by omega); omega)⟩)).1
    have hb1 := (LW_b T v o1).1
    rw [hd _ (by omega), hd _ (by omega)]
    simp only [LW_s, hx, hw, true_and] at g3 g7 ⊢
    by_cases e : w = v
    · subst e
      rw [gU_n _ (by omega), gU_s, gU_s, if_pos rfl]
      rw [g3, g7]
      refine ⟨?_, by omega⟩
      unfold fClamp zmax zmin
      repeat' split
      all_goals omega
    · rw [gU_n _ (by omega), gU_n _ (by omega), gU_n _ (by omega), gU_n _ (by omega), if_neg e, Int.add_zero]
      exact ⟨g3, g7⟩
  · rw [LN_s, hx, if_pos rfl, h6]
    omega
  · have j8 := jw w hw6.1 hw6.2
    have j9 := jr i hi.1 hi.2
    rw [hd j j9, gU_n _ j8.2, gU_n _ j8.1]
    exact h7 j j3 jw jr
  · rw [hd 3 (by omega), hx9 3 (by omega)]
    exact h8

/-- what is asked ahead of it -/
def LvP (g : Gm) : Prop := (0 ≤ g 5 ∧ g 5 ≤ 24) ∧ (0 ≤ g 4 ∧ g 4 ≤ 6) ∧ (∀ r, 0 ≤ r → r < g 5 → RI g r ∧ ∀ x, x ∈ TK g r → x.1 < g 4) ∧ ∀ w : Int, 0 ≤ w → w < g 4 → (0 ≤ (g (6 + 9 * w + 3).toNat) ∧ (g (6 + 9 * w + 3).toNat) ≤ 20) ∧ (0 ≤ (g (6 + 9 * w + 7).toNat) ∧ (g (6 + 9 * w + 7).toNat) ≤ 200000)
theorem LvP_A {M : ZM} {A : Nat} {g : Gm} (h : LvP g) : LvP (zI (zsA M A g) A) := by rw [zI_A]; exact h

def T_X9_leaves : ZTf := fun av M K KX => ∃ (_u : Nat), av = [zo 670] ∧ (LY M) ∧ (MA M 671) ∧ (LvP (zI M 671)) ∧  (∀ M' : ZM, (Fr (fun j => j = 671) M M') → (LvR (zI M 671 3) (zI M 671) (zI M' 671) (sumI (fun r => LN (zI M 671 3) (TK (zI M 671) r)) (zI M 671 5))) → K (some (zi (sumI (fun r => LN (zI M 671 3) (TK (zI M 671) r)) (zI M 671 5)))) M')
set_option maxRecDepth 100000 in
set_option maxHeartbeats 4000000 in
theorem bd_X9_leaves : zBd (cd_X9_leaves T_X9_rows T_X9_manyAt T_X9_isInWork T_X9_ofTaking T_X9_trusts T_X9_add T_X9_dropTaking) 4 0 0 T_X9_leaves := by
  rintro av M K KX hA0 hM ⟨_u, rfl, hY, hA, hP, hK⟩
  obtain ⟨G, hG0⟩ : ∃ G, zI M 671 = G := ⟨_, rfl⟩
  rw [hG0] at hP hK
  obtain ⟨hr5, hw5, hRX, hWB⟩ := hP
  have hR5 : ∀ r, 0 ≤ r → r < G 5 → RI G r := fun r r0 r1 => (hRX r r0 r1).1
  have hL3 : ∀ r, 0 ≤ r → r < G 5 → (TK G r).length ≤ 3 := fun r r0 r1 => TK_len (hR5 r r0 r1)
  have hsN : ∀ i, 0 ≤ i → i ≤ G 5 → 0 ≤ sumI (fun r => LN (G 3) (TK G r)) i ∧ sumI (fun r => LN (G 3) (TK G r)) i ≤ i * 3 := fun i i0 i1 => sumI_b 3 i0 (fun r r0 r1 => ⟨(LN_b _ _).1, Int.le_trans (LN_b _ _).2 (by have := hL3 r r0 (by omega); omega)⟩)
  have hsW : ∀ w i, 0 ≤ i → i ≤ G 5 → 0 ≤ sumI (fun r => LW (G 3) w (TK G r)) i ∧ sumI (fun r => LW (G 3) w (TK G r)) i ≤ i * 3 := fun w i i0 i1 => sumI_b 3 i0 (fun r r0 r1 => ⟨(LW_b _ _ _).1, Int.le_trans (Int.le_trans (LW_b _ _ _).2 (LN_b _ _).2) (by have := hL3 r r0 (by omega); omega)⟩)
  refine ⟨rfl, fun Φ hΦ => ?_⟩
  have outer := zdown (n := G 5) (P := fun i => ∀ g n, LvO (G 3) G g i n → Φ 4 [some (zo 670), some (zi n), some (zi i), none] [] (zsA M 671 g) 0 0) (fun i h0 h1 ih g n hO => by
    have inner : ∀ (hi : i < G 5) (l2 o1 : List T3) (g : Gm) (n k : Int), LvI (G 3) G g i o1 l2 n → k = ((o1.filter (onT (G 3))).length : Int) → Φ 14 [some (zo 670), some (zi n), some (zi i), some (zi k)] [] (zsA M 671 g) 0 0 := by
      intro hi l2
      have hRr := hR5 i h0 hi
      have hW6 := hRr.tk
      have hl3 := hL3 i h0 hi
      induction l2 with
      | nil =>
        intro o1 g n k hI hk
        have hm : (g (132 + 16 * i + 6).toNat) = k := by rw [hI.2.1.1, List.append_nil]; exact hk.symm
        have hn : 0 ≤ n ∧ n ≤ 80 := by
          have a1 := hsN i h0 h1
          have a2 := LN_b (G 3) o1
          have a3 := hI.2.2.2.2.2.1
          rw [hI.1, List.append_nil] at hl3
          omega
        generalize hM1 : zsA M 671 g = M1
        have hf1 : Fr (fun j => j = 671) M M1 := by rw [← hM1]; exact Fr_A hY.a1 (by decide) (by decide) rfl
        have hY1 := hY.fr hf1
        have hA1 := MA.fr hY hA hf1
        have hG0 : zI M1 671 = g := by rw [← hM1]; exact zI_A _ _ _
        replace hm : zEqn (g (132 + 16 * i + 6).toNat) k := hm
        refine zGoR hΦ [4, 14] 400 (fun hL9 _ hM _ _ => ?_)
        obtain ⟨qL1, qL2, qL3, _⟩ : zrg n ∧ zrg i ∧ zrg k ∧ True := hL9
        refine ⟨⟨⟨rfl, rfl⟩, hY1.w.rcv⟩, ⟨rfl, ⟨⟨⟨rfl, rfl⟩, hY1.w.rcv⟩, ⟨rfl, ⟨hY1.w, _, hA1.1, ⟨(zrgI (x := 16 * i) (by omega)), ⟨(zrgI (x := 132 + 16 * i) (by omega)), ⟨(zrgI (x := 132 + 16 * i + 6) (by omega)), ⟨zixO hA1.2.1 hA1.2.2 (i := 132 + 16 * i + 6) (by omega) (by decide), zIr (Eq.trans (congrFun hG0 _) (hm)) (⟨trivial, fun (qg1 : zrg (k)) _ => ⟨trivial, fun (qg2 : zrg (k)) _ => ⟨fun (qc3 : k ≥ k) => ⟨(zrgI (x := i + 1) (by omega)), (zFg hΦ 3 (show Φ 4 [some (zo 670), some (zi n), some (zi (i + 1)), none] [] M1 (0) (0) from ?g207l1))⟩, fun (qc4 : k < k) => ⟨⟨⟨rfl, rfl⟩, hY1.w.rcv⟩, ⟨rfl, ⟨⟨⟨rfl, rfl⟩, hY1.w.rcv⟩, ⟨rfl, ⟨(zrgI (x := 3 * k) (by omega)), ⟨(zrgI (x := 7 + 3 * k) (by omega)), ⟨(zrgI (x := 7 + 3 * k + 1) (by omega)), ⟨⟨⟨rfl, rfl⟩, hY1.w.rcv⟩, ⟨rfl, ⟨hY1.w, _, hA1.1, ⟨(zrgI (x := 16 * i) (by omega)), ⟨(zrgI (x := 132 + 16 * i) (by omega)), ⟨(zrgI (x := 132 + 16 * i + (7 + 3 * k + 1)) (by omega)), ⟨zixO hA1.2.1 hA1.2.2 (i := 132 + 16 * i + (7 + 3 * k + 1)) (by omega) (by decide), zIr ((congrFun hG0 _)) (zIv (fun v1 h_v1 => ⟨trivial, fun (qg5 : zrg (v1)) _ => ⟨trivial, fun (qg6 : zrg (v1)) _ => ⟨fun (qc7 : v1 ≠ (-1)) => ⟨(Or.inl rfl), fun _ _ => ⟨fun _ => ⟨(zrgI (x := k + 1) (by omega)), (show Φ 14 [some (zo 670), some (zi n), some (zi i), some (zi (k + 1))] [] M1 (0) (0) from ?g207l2)⟩, fun (h : (0 : Int) ≠ 0) => absurd h (by decide)⟩⟩, fun (qc9 : v1 = (-1)) => ⟨(Or.inr rfl), fun _ _ => ⟨fun (h : (1 : Int) = 0) => absurd h (by decide), fun _ => ⟨⟨⟨rfl, rfl⟩, hY1.w.rcv⟩, ⟨rfl, ⟨(zrgI (x := 3 * k) (by omega)), ⟨(zrgI (x := 7 + 3 * k) (by omega)), ⟨(zrgI (x := 7 + 3 * k + 2) (by omega)), ⟨⟨⟨rfl, rfl⟩, hY1.w.rcv⟩, ⟨rfl, ⟨hY1.w, _, hA1.1, ⟨(zrgI (x := 16 * i) (by omega)), ⟨(zrgI (x := 132 + 16 * i) (by omega)), ⟨(zrgI (x := 132 + 16 * i + (7 + 3 * k + 2)) (by omega)), ⟨zixO hA1.2.1 hA1.2.2 (i := 132 + 16 * i + (7 + 3 * k + 2)) (by omega) (by decide), zIr ((congrFun hG0 _)) (zIv (fun v2 h_v2 => ⟨trivial, fun (qg11 : zrg (v2)) _ => ⟨trivial, fun (qg12 : zrg (v2)) _ => ⟨hY1.w, _, hA1.1, ⟨zixO hA1.2.1 hA1.2.2 (i := 3) (by decide) (by decide), zIr ((congrFun hG0 _)) (zIv (fun v3 h_v3 => ⟨fun (qc13 : v2 < v3) => ⟨⟨⟨rfl, rfl⟩, hY1.w.rcv⟩, ⟨rfl, ⟨(zrgI (x := 3 * k) (by omega)), ⟨(zrgI (x := 7 + 3 * k) (by omega)), ⟨(zrgI (x := 7 + 3 * k + 0) (by omega)), ⟨⟨⟨rfl, rfl⟩, hY1.w.rcv⟩, ⟨rfl, ⟨hY1.w, _, hA1.1, ⟨(zrgI (x := 16 * i) (by omega)), ⟨(zrgI (x := 132 + 16 * i) (by omega)), ⟨(zrgI (x := 132 + 16 * i + (7 + 3 * k + 0)) (by omega)), ⟨zixO hA1.2.1 hA1.2.2 (i := 132 + 16 * i + (7 + 3 * k + 0)) (by omega) (by decide), zIr ((congrFun hG0 _)) (zIv (fun v4 h_v4 => ⟨trivial, fun (qg14 : zrg (v4)) _ => ⟨trivial, fun (qg15 : zrg (v4)) _ => ⟨⟨⟨rfl, rfl⟩, hY1.w.rcv⟩, ⟨rfl, ⟨(zrgI (x := 9 * v4) (by omega)), ⟨(zrgI (x := 6 + 9 * v4) (by omega)), ⟨(zrgI (x := 6 + 9 * v4 + 3) (by omega)), ⟨hY1.w, _, hA1.1, ⟨hY1.w, _, hA1.1, ⟨zixO hA1.2.1 hA1.2.2 (i := 6 + 9 * v4 + 3) (by omega) (by decide), zIr ((congrFun hG0 _)) (zIv (fun v5 h_v5 => ⟨(zrgI (x := v5 + (-1)) (by omega)), ⟨rfl, ⟨rfl, ⟨⟨zixW hA1.2.1 hA1.2.2 (i := 6 + 9 * v4 + 3) (by omega) (by decide), trivial⟩, zMw (zsI_gG hG0 (6 + 9 * v4 + 3) (zmax 0 (zmin 20 (v5 + (-1))))) (fun g1 hg1 => fun _ _ => ⟨⟨⟨rfl, rfl⟩, hY1.w.rcv⟩, ⟨rfl, ⟨(zrgI (x := 3 * k) (by omega)), ⟨(zrgI (x := 7 + 3 * k) (by omega)), ⟨(zrgI (x := 7 + 3 * k + 0) (by omega)), ⟨⟨⟨rfl, rfl⟩, hY1.w.rcv⟩, ⟨rfl, ⟨hY1.w, _, hA1.1, ⟨(zrgI (x := 16 * i) (by omega)), ⟨(zrgI (x := 132 + 16 * i) (by omega)), ⟨(zrgI (x := 132 + 16 * i + (7 + 3 * k + 0)) (by omega)), ⟨zixO hA1.2.1 hA1.2.2 (i := 132 + 16 * i + (7 + 3 * k + 0)) (by omega) (by decide), zIr (Eq.trans (zIa _ _ _ _) (Eq.trans (gN hg1 (by omega)) (h_v4))) (⟨trivial, fun (qg17 : zrg (v4)) _ => ⟨trivial, fun (qg18 : zrg (v4)) _ => ⟨⟨⟨rfl, rfl⟩, hY1.w.rcv⟩, ⟨rfl, ⟨hY1.w, _, hA1.1, ⟨(zrgI (x := 9 * v4) (by omega)), ⟨(zrgI (x := 6 + 9 * v4) (by omega)), ⟨(zrgI (x := 6 + 9 * v4 + 7) (by omega)), ⟨⟨rfl, rfl⟩, ⟨zixO hA1.2.1 hA1.2.2 (i := 6 + 9 * v4 + 7) (by omega) (by decide), zIr (Eq.trans (zIa _ _ _ _) ((gN hg1 (by omega)))) (zIv (fun v6 h_v6 => ⟨(zrgI (x := v6 + 1) (by omega)), ⟨⟨zixW hA1.2.1 hA1.2.2 (i := 6 + 9 * v4 + 7) (by omega) (by decide), trivial⟩, zMw (zsI_gU M1 671 g1 (6 + 9 * v4 + 7) (v6 + 1)) (fun g2 hg2 => fun _ _ => ⟨⟨⟨rfl, rfl⟩, hY1.w.rcv⟩, ⟨i, k, rfl, hY1, hA1, (by exfalso; omega), (by exfalso; omega), fun qg20 qm21 => zMw (zsA_F M1 671 g2 (fun q9 => fDrop q9 i k)) (fun g3 hg3 => ⟨(zrgI (x := n + 1) (by omega)), (show Φ 14 [some (zo 670), some (zi (n + 1)), some (zi i), some (zi k)] [] (zsA M1 671 g3) (0) (0) from ?g207l3)⟩)⟩⟩)⟩⟩))⟩⟩⟩⟩⟩⟩⟩⟩⟩⟩)⟩⟩⟩⟩⟩⟩⟩⟩⟩⟩⟩⟩)⟩⟩⟩⟩))⟩⟩⟩⟩⟩⟩⟩⟩⟩⟩))⟩⟩⟩⟩⟩⟩⟩⟩⟩⟩⟩⟩, fun (qc22 : v2 ≥ v3) => ⟨(zrgI (x := k + 1) (by omega)), (show Φ 14 [some (zo 670), some (zi n), some (zi i), some (zi (k + 1))] [] M1 (0) (0) from ?g207l4)⟩⟩))⟩⟩⟩⟩))⟩⟩⟩⟩⟩⟩⟩⟩⟩⟩⟩⟩⟩⟩⟩⟩⟩))⟩⟩⟩⟩⟩⟩⟩⟩⟩⟩⟩⟩⟩⟩⟩⟩⟩)⟩⟩⟩⟩⟩⟩⟩⟩⟩
        case g207l1 =>
          have h9 := ih (by omega) g n (hI.o h0)
          rw [hM1] at h9
          exact h9
        case g207l2 => exfalso; omega
        case g207l3 => exfalso; omega
        case g207l4 => exfalso; omega
      | cons x l2 ih2 =>
        intro o1 g n k hI hk
        have hlx : o1.length + 1 + l2.length ≤ 3 := by rw [hI.1, List.length_append, List.length_cons] at hl3; omega
        have hfx : (o1.filter (onT (G 3))).length ≤ o1.length := List.length_filter_le _ _
        obtain ⟨m, hm⟩ : ∃ m, (g (132 + 16 * i + 6).toNat) = m := ⟨_, rfl⟩
        have hm9 : m = k + 1 + (l2.length : Int) := by rw [← hm, hI.2.1.1, List.length_append, List.length_cons]; omega
        have hn : 0 ≤ n ∧ n ≤ 80 := by
          have a1 := hsN i h0 h1
          have a2 := LN_b (G 3) o1
          have a3 := hI.2.2.2.2.2.1
          omega
        have hx := hI.2.1.at
        rw [← hk] at hx
        obtain ⟨w, hw⟩ : ∃ w, x.1 = w := ⟨_, rfl⟩
        obtain ⟨s, hs⟩ : ∃ s, x.2.1 = s := ⟨_, rfl⟩
        obtain ⟨d, hd⟩ : ∃ d, x.2.2 = d := ⟨_, rfl⟩
        have hx0 : (g (132 + 16 * i + (7 + 3 * k + 0)).toNat) = w := (congrArg (fun z : T3 => z.1) hx).trans hw
        have hx1 : (g (132 + 16 * i + (7 + 3 * k + 1)).toNat) = s := (congrArg (fun z : T3 => z.2.1) hx).trans hs
        have hx2 : (g (132 + 16 * i + (7 + 3 * k + 2)).toNat) = d := (congrArg (fun z : T3 => z.2.2) hx).trans hd
        have hmem : x ∈ TK G i := by rw [hI.1]; exact List.mem_append.mpr (Or.inr List.mem_cons_self)
        have hw6 : 0 ≤ w ∧ w < 6 := by have := hW6 x hmem; rw [hw] at this; exact this
        have hRg : RI g i := hI.2.1.ri hRr.1 (by rw [List.length_append, List.length_cons]; omega) (fun y hy => hW6 y (by
          rw [hI.1]
          rcases List.mem_append.mp hy with q | q
          · exact List.mem_append.mpr (Or.inl (List.mem_filter.mp q).1)
          · exact List.mem_append.mpr (Or.inr q)))
        have hwg : w < G 4 := by have := (hRX i h0 hi).2 x hmem; rw [hw] at this; exact this
        have hwb := hWB w hw6.1 hwg
        obtain ⟨t, ht⟩ : ∃ t, (g (6 + 9 * w + 3).toNat) = t := ⟨_, rfl⟩
        obtain ⟨u, hu⟩ : ∃ u, (g (6 + 9 * w + 7).toNat) = u := ⟨_, rfl⟩
        have htb : 0 ≤ t ∧ t ≤ 20 := by
          have a1 := (hI.2.2.2.2.1 w hw6.1 hwg).1
          have a2 := hsW w i h0 h1
          have a3 := LW_b (G 3) w o1
          simp only at a1
          rw [ht] at a1
          unfold zmax at a1
          split at a1 <;> omega
        have hub : 0 ≤ u ∧ u ≤ 300000 := by
          have a1 := (hI.2.2.2.2.1 w hw6.1 hwg).2
          have a2 := hsW w i h0 h1
          have a3 := LW_b (G 3) w o1
          have a4 := LN_b (G 3) o1
          simp only at a1
          rw [hu] at a1
          omega
        have hgt : g 3 = G 3 := hI.2.2.2.2.2.2.2
        obtain ⟨T, hT⟩ : ∃ T, g 3 = T := ⟨_, rfl⟩
        generalize hM1 : zsA M 671 g = M1
        have hf1 : Fr (fun j => j = 671) M M1 := by rw [← hM1]; exact Fr_A hY.a1 (by decide) (by decide) rfl
        have hY1 := hY.fr hf1
        have hA1 := MA.fr hY hA hf1
        have hG0 : zI M1 671 = g := by rw [← hM1]; exact zI_A _ _ _
        replace hm : zEqn (g (132 + 16 * i + 6).toNat) m := hm
        replace hx0 : zEqn (g (132 + 16 * i + (7 + 3 * k + 0)).toNat) w := hx0
        replace hx1 : zEqn (g (132 + 16 * i + (7 + 3 * k + 1)).toNat) s := hx1
        replace hx2 : zEqn (g (132 + 16 * i + (7 + 3 * k + 2)).toNat) d := hx2
        replace ht : zEqn (g (6 + 9 * w + 3).toNat) t := ht
        replace hu : zEqn (g (6 + 9 * w + 7).toNat) u := hu
        replace hT : zEqn (g 3) T := hT
        replace hRg : hidP (RI g i) := hRg
        refine zGoR hΦ [4, 14] 400 (fun hL9 _ hM _ _ => ?_)
        obtain ⟨qL1, qL2, qL3, _⟩ : zrg n ∧ zrg i ∧ zrg k ∧ True := hL9
        refine ⟨⟨⟨rfl, rfl⟩, hY1.w.rcv⟩, ⟨rfl, ⟨⟨⟨rfl, rfl⟩, hY1.w.rcv⟩, ⟨rfl, ⟨hY1.w, _, hA1.1, ⟨(zrgI (x := 16 * i) (by omega)), ⟨(zrgI (x := 132 + 16 * i) (by omega)), ⟨(zrgI (x := 132 + 16 * i + 6) (by omega)), ⟨zixO hA1.2.1 hA1.2.2 (i := 132 + 16 * i + 6) (by omega) (by decide), zIr (Eq.trans (congrFun hG0 _) (hm)) (⟨trivial, fun (qg1 : zrg (m)) _ => ⟨trivial, fun (qg2 : zrg (m)) _ => ⟨fun (qc3 : k ≥ m) => ⟨(zrgI (x := i + 1) (by omega)), (zFg hΦ 3 (show Φ 4 [some (zo 670), some (zi n), some (zi (i + 1)), none] [] M1 (0) (0) from ?g208l1))⟩, fun (qc4 : k < m) => ⟨⟨⟨rfl, rfl⟩, hY1.w.rcv⟩, ⟨rfl, ⟨⟨⟨rfl, rfl⟩, hY1.w.rcv⟩, ⟨rfl, ⟨(zrgI (x := 3 * k) (by omega)), ⟨(zrgI (x := 7 + 3 * k) (by omega)), ⟨(zrgI (x := 7 + 3 * k + 1) (by omega)), ⟨⟨⟨rfl, rfl⟩, hY1.w.rcv⟩, ⟨rfl, ⟨hY1.w, _, hA1.1, ⟨(zrgI (x := 16 * i) (by omega)), ⟨(zrgI (x := 132 + 16 * i) (by omega)), ⟨(zrgI (x := 132 + 16 * i + (7 + 3 * k + 1)) (by omega)), ⟨zixO hA1.2.1 hA1.2.2 (i := 132 + 16 * i + (7 + 3 * k + 1)) (by omega) (by decide), zIr (Eq.trans (congrFun hG0 _) (hx1)) (⟨trivial, fun (qg5 : zrg (s)) _ => ⟨trivial, fun (qg6 : zrg (s)) _ => ⟨fun (qc7 : s ≠ (-1)) => ⟨(Or.inl rfl), fun _ _ => ⟨fun _ => ⟨(zrgI (x := k + 1) (by omega)), (show Φ 14 [some (zo 670), some (zi n), some (zi i), some (zi (k + 1))] [] M1 (0) (0) from ?g208l2)⟩, fun (h : (0 : Int) ≠ 0) => absurd h (by decide)⟩⟩, fun (qc9 : s = (-1)) => ⟨(Or.inr rfl), fun _ _ => ⟨fun (h : (1 : Int) = 0) => absurd h (by decide), fun _ => ⟨⟨⟨rfl, rfl⟩, hY1.w.rcv⟩, ⟨rfl, ⟨(zrgI (x := 3 * k) (by omega)), ⟨(zrgI (x := 7 + 3 * k) (by omega)), ⟨(zrgI (x := 7 + 3 * k + 2) (by omega)), ⟨⟨⟨rfl, rfl⟩, hY1.w.rcv⟩, ⟨rfl, ⟨hY1.w, _, hA1.1, ⟨(zrgI (x := 16 * i) (by omega)), ⟨(zrgI (x := 132 + 16 * i) (by omega)), ⟨(zrgI (x := 132 + 16 * i + (7 + 3 * k + 2)) (by omega)), ⟨zixO hA1.2.1 hA1.2.2 (i := 132 + 16 * i + (7 + 3 * k + 2)) (by omega) (by decide), zIr (Eq.trans (congrFun hG0 _) (hx2)) (⟨trivial, fun (qg11 : zrg (d)) _ => ⟨trivial, fun (qg12 : zrg (d)) _ => ⟨hY1.w, _, hA1.1, ⟨zixO hA1.2.1 hA1.2.2 (i := 3) (by decide) (by decide), zIr (Eq.trans (congrFun hG0 _) (hT)) (⟨fun (qc13 : d < T) => ⟨⟨⟨rfl, rfl⟩, hY1.w.rcv⟩, ⟨rfl, ⟨(zrgI (x := 3 * k) (by omega)), ⟨(zrgI (x := 7 + 3 * k) (by omega)), ⟨(zrgI (x := 7 + 3 * k + 0) (by omega)), ⟨⟨⟨rfl, rfl⟩, hY1.w.rcv⟩, ⟨rfl, ⟨hY1.w, _, hA1.1, ⟨(zrgI (x := 16 * i) (by omega)), ⟨(zrgI (x := 132 + 16 * i) (by omega)), ⟨(zrgI (x := 132 + 16 * i + (7 + 3 * k + 0)) (by omega)), ⟨zixO hA1.2.1 hA1.2.2 (i := 132 + 16 * i + (7 + 3 * k + 0)) (by omega) (by decide), zIr (Eq.trans (congrFun hG0 _) (hx0)) (⟨trivial, fun (qg14 : zrg (w)) _ => ⟨trivial, fun (qg15 : zrg (w)) _ => ⟨⟨⟨rfl, rfl⟩, hY1.w.rcv⟩, ⟨rfl, ⟨(zrgI (x := 9 * w) (by omega)), ⟨(zrgI (x := 6 + 9 * w) (by omega)), ⟨(zrgI (x := 6 + 9 * w + 3) (by omega)), ⟨hY1.w, _, hA1.1, ⟨hY1.w, _, hA1.1, ⟨zixO hA1.2.1 hA1.2.2 (i := 6 + 9 * w + 3) (by omega) (by decide), zIr (Eq.trans (congrFun hG0 _) (ht)) (⟨(zrgI (x := t + (-1)) (by omega)), ⟨rfl, ⟨rfl, ⟨⟨zixW hA1.2.1 hA1.2.2 (i := 6 + 9 * w + 3) (by omega) (by decide), trivial⟩, zMw (zsI_gG hG0 (6 + 9 * w + 3) (zmax 0 (zmin 20 (t + (-1))))) (fun g1 hg1 => fun _ _ => ⟨⟨⟨rfl, rfl⟩, hY1.w.rcv⟩, ⟨rfl, ⟨(zrgI (x := 3 * k) (by omega)), ⟨(zrgI (x := 7 + 3 * k) (by omega)), ⟨(zrgI (x := 7 + 3 * k + 0) (by omega)), ⟨⟨⟨rfl, rfl⟩, hY1.w.rcv⟩, ⟨rfl, ⟨hY1.w, _, hA1.1, ⟨(zrgI (x := 16 * i) (by omega)), ⟨(zrgI (x := 132 + 16 * i) (by omega)), ⟨(zrgI (x := 132 + 16 * i + (7 + 3 * k + 0)) (by omega)), ⟨zixO hA1.2.1 hA1.2.2 (i := 132 + 16 * i + (7 + 3 * k + 0)) (by omega) (by decide), zIr (Eq.trans (zIa _ _ _ _) (Eq.trans (gN hg1 (by omega)) (hx0))) (⟨trivial, fun (qg17 : zrg (w)) _ => ⟨trivial, fun (qg18 : zrg (w)) _ => ⟨⟨⟨rfl, rfl⟩, hY1.w.rcv⟩, ⟨rfl, ⟨hY1.w, _, hA1.1, ⟨(zrgI (x := 9 * w) (by omega)), ⟨(zrgI (x := 6 + 9 * w) (by omega)), ⟨(zrgI (x := 6 + 9 * w + 7) (by omega)), ⟨⟨rfl, rfl⟩, ⟨zixO hA1.2.1 hA1.2.2 (i := 6 + 9 * w + 7) (by omega) (by decide), zIr (Eq.trans (zIa _ _ _ _) (Eq.trans (gN hg1 (by omega)) (hu))) (⟨(zrgI (x := u + 1) (by omega)), ⟨⟨zixW hA1.2.1 hA1.2.2 (i := 6 + 9 * w + 7) (by omega) (by decide), trivial⟩, zMw (zsI_gU M1 671 g1 (6 + 9 * w + 7) (u + 1)) (fun g2 hg2 => fun _ _ => ⟨⟨⟨rfl, rfl⟩, hY1.w.rcv⟩, ⟨i, k, rfl, hY1, hA1, (RI_A (by rw [hg2, hg1]; exact ((hidP_u hRg).u (Or.inl (by omega))).u (Or.inl (by omega)))), (by rw [zI_A, hg2, hg1, gU_n _ (by omega), gU_n _ (by omega), zEq hm]; omega), fun qg20 qm21 => zMw (zsA_F M1 671 g2 (fun q9 => fDrop q9 i k)) (fun g3 hg3 => ⟨(zrgI (x := n + 1) (by omega)), (show Φ 14 [some (zo 670), some (zi (n + 1)), some (zi i), some (zi k)] [] (zsA M1 671 g3) (0) (0) from ?g208l3)⟩)⟩⟩)⟩⟩)⟩⟩⟩⟩⟩⟩⟩⟩⟩⟩)⟩⟩⟩⟩⟩⟩⟩⟩⟩⟩⟩⟩)⟩⟩⟩⟩)⟩⟩⟩⟩⟩⟩⟩⟩⟩⟩)⟩⟩⟩⟩⟩⟩⟩⟩⟩⟩⟩⟩, fun (qc22 : d ≥ T) => ⟨(zrgI (x := k + 1) (by omega)), (show Φ 14 [some (zo 670), some (zi n), some (zi i), some (zi (k + 1))] [] M1 (0) (0) from ?g208l4)⟩⟩)⟩⟩⟩⟩)⟩⟩⟩⟩⟩⟩⟩⟩⟩⟩⟩⟩⟩⟩⟩⟩⟩)⟩⟩⟩⟩⟩⟩⟩⟩⟩⟩⟩⟩⟩⟩⟩⟩⟩)⟩⟩⟩⟩⟩⟩⟩⟩⟩
        case g208l1 => exfalso; omega
        case g208l2 =>
          have hz := hI.keep (decide_eq_false (fun z => absurd (hs.symm.trans z.1) qc7))
          have h9 := ih2 (o1 ++ [x]) g n (k + 1) hz.1 (by rw [hz.2]; omega)
          rw [hM1] at h9
          exact h9
        case g208l3 =>
          subst hg3
          subst hg2
          subst hg1
          have el : lateT (G 3) x = true := decide_eq_true ⟨hs.trans qc9, by rw [hd, ← hgt, zEq hT]; omega⟩
          have e_t := zEq ht
          have e_u := zEq hu
          have hz := LvI.drop hI el hRr.1 hw5.2 hr5.2 hL3 hi hw hw6 hwb.1 hk
          have h9 := ih2 (o1 ++ [x]) _ (n + 1) k hz.1 (by rw [hz.2]; exact hk)
          rw [e_t, e_u] at h9
          rw [← hM1, zsA_A]
          exact h9
        case g208l4 =>
          have hz := hI.keep (decide_eq_false (fun z => by have z2 := z.2; rw [hd, ← hgt, zEq hT] at z2; omega))
          have h9 := ih2 (o1 ++ [x]) g n (k + 1) hz.1 (by rw [hz.2]; omega)
          rw [hM1] at h9
          exact h9
    generalize hM1 : zsA M 671 g = M1
    have hf1 : Fr (fun j => j = 671) M M1 := by rw [← hM1]; exact Fr_A hY.a1 (by decide) (by decide) rfl
    have hY1 := hY.fr hf1
    have hA1 := MA.fr hY hA hf1
    have hG0 : zI M1 671 = g := by rw [← hM1]; exact zI_A _ _ _
    obtain ⟨v, hv⟩ : ∃ v, G 5 = v := ⟨_, rfl⟩
    have hg5 : g 5 = v := (hO.2.2.2.2.1 5 (by decide) (fun w q0 q1 => by omega) (fun r q0 q1 => by omega)).trans hv
    replace hg5 : zEqn (g 5) v := hg5
    refine zGoR hΦ [4, 14] 400 (fun hL9 _ hM _ _ => ?_)
    obtain ⟨qL1, qL2, _⟩ : zrg n ∧ zrg i ∧ True := hL9
    refine ⟨⟨⟨rfl, rfl⟩, hY1.w.rcv⟩, ⟨rfl, ⟨hY1.w, _, hA1.1, ⟨zixO hA1.2.1 hA1.2.2 (i := 5) (by decide) (by decide), zIr (Eq.trans (congrFun hG0 _) (hg5)) (⟨trivial, fun (qg1 : zrg (v)) _ => ⟨fun (qc2 : i ≥ v) => ⟨trivial, (show K (some (zi n)) M1 from ?g209l1)⟩, fun (qc3 : i < v) => (show Φ 14 [some (zo 670), some (zi n), some (zi i), some (zi 0)] [] M1 (0) (0) from ?g209l2)⟩⟩)⟩⟩⟩⟩
    case g209l1 =>
      have e9 : i = G 5 := (by omega)
      subst e9
      have h8 := hO.2.2.2.1
      subst h8
      have h9 := hK (zsA M 671 g) (Fr_A hY.a1 (by decide) (by decide) rfl) (by rw [zI_A]; exact hO)
      rw [hM1] at h9
      exact h9
    case g209l2 =>
      have h9 := inner (by omega) (TK G i) [] g n 0 (hO.i (by omega)) rfl
      rw [hM1] at h9
      exact h9
    done)
  refine zGoR hΦ [4] 400 (fun hL9 _ hM _ _ => ?_)
  obtain ⟨_⟩ : True := hL9
  refine (show Φ 4 [some (zo 670), some (zi 0), some (zi 0), none] [] M (0) (0) from ?g210l1)
  case g210l1 =>
    have h9 := outer 0 (by omega) hr5.1 G 0 ⟨fun r r0 r1 => by omega, fun r r0 r1 => TK_RwT (hR5 r r0 r1).2.1.1, fun w w0 w1 => ?_, rfl, fun k _ _ _ => rfl, rfl⟩
    · rw [show zsA M 671 G = M by rw [← hG0, zsA_self]] at h9
      exact h9
    · have h8 := (hWB w w0 w1).1
      refine ⟨?_, (Int.add_zero _).symm⟩
      show _ = zmax 0 (_ - 0)
      unfold zmax
      split <;> omega
theorem M_X9_leaves {l : Launch} (hl : l.stackTraces = false) : zMet l yX9_leaves (Cond.code yX9_leaves cX9_leaves 4 (Option.some Jvm.ClassFile.FieldType.int) :: zG) rm_X9_leaves 0 0 T_X9_leaves := met_X9_leaves hl (M_X9_rows hl) (M_X9_manyAt hl) (M_X9_isInWork hl) (M_X9_ofTaking hl) (M_X9_trusts hl) (M_X9_add hl) (M_X9_dropTaking hl) bd_X9_leaves

theorem onT_mono {T : Int} {x : T3} (h : onT (T + 1) x = true) : onT T x = true := by
  unfold onT lateT at *
  rw [Bool.not_eq_true', decide_eq_false_iff_not] at *
  omega
theorem late_mono {T : Int} {x : T3} (h : lateT T x = true) : lateT (T + 1) x = true := by
  unfold lateT at *
  rw [decide_eq_true_eq] at *
  omega
theorem onT_ff (T : Int) (l : List T3) : (l.filter (onT T)).filter (onT (T + 1)) = l.filter (onT (T + 1)) := by
  rw [List.filter_filter]
  refine List.filter_congr (fun x _ => ?_)
  by_cases q : onT (T + 1) x = true
  · rw [q, onT_mono q]; rfl
  · rw [Bool.eq_false_iff.mpr q]; rfl
theorem LN_ff (T : Int) (l : List T3) : LN T l + LN (T + 1) (l.filter (onT T)) = LN (T + 1) l := by
  unfold LN
  induction l with
  | nil => rfl
  | cons x l ih =>
    by_cases q : lateT T x = true
    · rw [List.countP_cons_of_pos q, List.countP_cons_of_pos (late_mono q), List.filter_cons, if_neg (by unfold onT; rw [q]; exact Bool.false_ne_true)]
      omega
    · have q2 : onT T x = true := by unfold onT; rw [Bool.eq_false_iff.mpr q]; rfl
      rw [List.countP_cons_of_neg q, List.filter_cons, if_pos q2]
      by_cases p : lateT (T + 1) x = true
      · rw [List.countP_cons_of_pos p, List.countP_cons_of_pos p]
        omega
      · rw [List.countP_cons_of_neg p, List.countP_cons_of_neg p]
        exact ih
theorem cP_pos (T w : Int) {x : T3} {l : List T3} (h1 : lateT T x = true) (h2 : x.1 = w) : (x :: l).countP (fun x => lateT T x && decide (x.1 = w)) = l.countP (fun x => lateT T x && decide (x.1 = w)) + 1 := List.countP_cons_of_pos (p := fun x : T3 => lateT T x && decide (x.1 = w)) (by rw [Bool.and_eq_true]; exact ⟨h1, decide_eq_true h2⟩)
theorem cP_neg (T w : Int) {x : T3} {l : List T3} (h : ¬ (lateT T x = true ∧ x.1 = w)) : (x :: l).countP (fun x => lateT T x && decide (x.1 = w)) = l.countP (fun x => lateT T x && decide (x.1 = w)) := List.countP_cons_of_neg (p := fun x : T3 => lateT T x && decide (x.1 = w)) (by rw [Bool.and_eq_true, decide_eq_true_eq]; exact h)
theorem LW_ff (T w : Int) (l : List T3) : LW T w l + LW (T + 1) w (l.filter (onT T)) = LW (T + 1) w l := by
  unfold LW
  induction l with
  | nil => rfl
  | cons x l ih =>
    by_cases e : x.1 = w
    · by_cases q : lateT T x = true
      · rw [cP_pos T w q e, cP_pos (T + 1) w (late_mono q) e, List.filter_cons, if_neg (by unfold onT; rw [q]; exact Bool.false_ne_true)]
        omega
      · have q2 : onT T x = true := by unfold onT; rw [Bool.eq_false_iff.mpr q]; rfl
        rw [cP_neg T w (fun z => q z.1), List.filter_cons, if_pos q2]
        by_cases p : lateT (T + 1) x = true
        · rw [cP_pos (T + 1) w p e, cP_pos (T + 1) w p e]
          omega
        · rw [cP_neg (T + 1) w (fun z => p z.1), cP_neg (T + 1) w (fun z => p z.1)]
          exact ih
    · rw [cP_neg T w (fun z => e z.2), cP_neg (T + 1) w (fun z => e z.2), List.filter_cons]
      split
      · rw [cP_neg (T + 1) w (fun z => e z.2)]
        exact ih
      · exact ih
theorem sumI_add (f g : Int → Int) {n : Int} (h : 0 ≤ n) : sumI f n + sumI g n = sumI (fun i => f i + g i) n := by
  refine zup (n := n) (fun i => sumI f i + sumI g i = sumI (fun i => f i + g i) i) rfl (fun i h0 h1 ih => ?_) n h (Int.le_refl _)
  show sumI f (i + 1) + sumI g (i + 1) = sumI (fun i => f i + g i) (i + 1)
  rw [sumI_s h0, sumI_s h0, sumI_s h0]
  have ih' : sumI f i + sumI g i = sumI (fun i => f i + g i) i := ih
  omega
theorem TK_congr {G g : Gm} {r : Int} (hR : RI G r) (e : ∀ j : Nat, 132 + 16 * r + 6 ≤ (j : Int) → (j : Int) < 132 + 16 * r + 16 → g j = G j) : TK g r = TK G r := ((TK_RwT hR.2.1.1).congr hR.1.1 (TK_len hR) e).tk
theorem LvR.base {T : Int} {G g2 : Gm} {m : Int} (hr : 0 ≤ G 5 ∧ G 5 ≤ 24) (hw : 0 ≤ G 4 ∧ G 4 ≤ 6) (hR : ∀ r, 0 ≤ r → r < G 5 → RI G r) (h : LvR T (gU G 3 T) g2 m) : LvR T G g2 m := by
  have ek : ∀ j : Nat, j ≠ 3 → gU G 3 T j = G j := fun j hj => gU_n _ hj
  have e5 : gU G 3 T 5 = G 5 := ek 5 (by decide)
  have e4 : gU G 3 T 4 = G 4 := ek 4 (by decide)
  have et : ∀ r, 0 ≤ r → r < G 5 → TK (gU G 3 T) r = TK G r := fun r r0 r1 => TK_congr (hR r r0 r1) (fun j j0 j1 => ek j (by omega))
  obtain ⟨h1, h2, h3, h4, h5, h6⟩ := h
  rw [e5] at h1 h2 h3 h4
  refine ⟨fun r r0 r1 => by rw [← et r r0 r1]; exact h1 r r0 r1, fun r r0 r1 => by omega, fun w w0 w1 => ?_, ?_, fun k k0 k1 k2 => (h5 k k0 k1 k2).trans (ek k k0), h6⟩
  · have h9 := h3 w w0 (by rw [e4]; exact w1)
    simp only at h9 ⊢
    rw [ek _ (by omega), ek _ (by omega), sumI_c (f := fun r => LW T w (TK (gU G 3 T) r)) (g := fun r => LW T w (TK G r)) (fun r r0 r1 => by simp only [et r r0 r1])] at h9
    exact h9
  · rw [h4]
    exact sumI_c (fun r r0 r1 => by simp only [et r r0 r1])
theorem LvR.comp {T : Int} {G g g2 : Gm} {n m : Int} (hr : 0 ≤ G 5 ∧ G 5 ≤ 24) (hw : 0 ≤ G 4 ∧ G 4 ≤ 6) (hR : ∀ r, 0 ≤ r → r < G 5 → RI G r) (h : LvR T G g n) (h2 : LvR (T + 1) (gU g 3 (T + 1)) g2 m) : LvR (T + 1) G g2 (n + m) := by
  have ek : ∀ j : Nat, j ≠ 3 → gU g 3 (T + 1) j = g j := fun j hj => gU_n _ hj
  obtain ⟨a1, a2, a3, a4, a5, a6⟩ := h
  have e5 : gU g 3 (T + 1) 5 = G 5 := (ek 5 (by decide)).trans (a5 5 (by decide) (fun w q0 q1 => by omega) (fun r q0 q1 => by omega))
  have e4 : gU g 3 (T + 1) 4 = G 4 := (ek 4 (by decide)).trans (a5 4 (by decide) (fun w q0 q1 => by omega) (fun r q0 q1 => by omega))
  have et : ∀ r, 0 ≤ r → r < G 5 → TK (gU g 3 (T + 1)) r = (TK G r).filter (onT T) := fun r r0 r1 => ((a1 r r0 r1).congr r0 (Nat.le_trans (List.length_filter_le _ _) (TK_len (hR r r0 r1))) (fun j j0 j1 => ek j (by omega))).tk
  obtain ⟨b1, b2, b3, b4, b5, b6⟩ := h2
  rw [e5] at b1 b2 b3 b4
  refine ⟨fun r r0 r1 => by have h9 := b1 r r0 r1; rw [et r r0 r1, onT_ff] at h9; exact h9, fun r r0 r1 => by omega, fun w w0 w1 => ?_, ?_, fun k k0 k1 k2 => ((b5 k k0 k1 k2).trans (ek k k0)).trans (a5 k k0 k1 k2), b6⟩
  · have h9 := b3 w w0 (by rw [e4]; exact w1)
    have h8 := a3 w w0 w1
    have hs : sumI (fun r => LW T w (TK G r)) (G 5) + sumI (fun r => LW (T + 1) w (TK (gU g 3 (T + 1)) r)) (G 5) = sumI (fun r => LW (T + 1) w (TK G r)) (G 5) := by
      rw [sumI_add _ _ hr.1]
      exact sumI_c (fun r r0 r1 => by simp only [et r r0 r1]; exact LW_ff T w _)
    have hb : 0 ≤ sumI (fun r => LW (T + 1) w (TK (gU g 3 (T + 1)) r)) (G 5) := (sumI_b 3 hr.1 (fun r r0 r1 => ⟨(LW_b _ _ _).1, Int.le_trans (Int.le_trans (LW_b _ _ _).2 (LN_b _ _).2) (by simp only [et r r0 r1]; have q1 := TK_len (hR r r0 r1); have q2 := List.length_filter_le (onT T) (TK G r); omega)⟩)).1
    rw [ek _ (by omega), ek _ (by omega)] at h9
    simp only at h8 h9 ⊢
    rw [← hs]
    generalize sumI (fun r => LW (T + 1) w (TK (gU g 3 (T + 1)) r)) (G 5) = c2 at *
    generalize sumI (fun r => LW T w (TK G r)) (G 5) = c1 at *
    refine ⟨?_, by omega⟩
    rw [h9.1, h8.1]
    unfold zmax
    repeat' split
    all_goals omega
  · rw [a4, b4, sumI_add _ _ hr.1]
    exact sumI_c (fun r r0 r1 => by simp only [et r r0 r1]; exact LN_ff T _)
theorem LvP.base {G : Gm} {v : Int} (hG : GI G) (hV : GV G) (hX : GX G) : LvP (gU G 3 v) := by
  have ek : ∀ j : Nat, j ≠ 3 → gU G 3 v j = G j := fun j hj => gU_n _ hj
  have e5 : gU G 3 v 5 = G 5 := ek 5 (by decide)
  have e4 : gU G 3 v 4 = G 4 := ek 4 (by decide)
  refine ⟨by rw [e5]; exact hG.2.1, by rw [e4]; exact hG.1, fun r r0 r1 => ?_, fun w w0 w1 => ?_⟩
  · rw [e5] at r1
    have hR := hG.2.2 r r0 r1
    have et : TK (gU G 3 v) r = TK G r := TK_congr hR (fun j j0 j1 => ek j (by omega))
    refine ⟨((TK_RwT hR.2.1.1).congr r0 (TK_len hR) (fun j j0 j1 => ek j (by omega))).ri hR.1 (TK_len hR) hR.tk, fun x hx => ?_⟩
    rw [et] at hx
    rw [e4]
    obtain ⟨k, k1, rfl⟩ := List.mem_map.mp hx
    have := List.mem_range.mp k1
    exact ((hX.1 r r0 r1).1 (k : Int) (by omega) (by omega)).1
  · rw [e4] at w1
    have h9 := hV.2.2.2.2.1 w w0 w1
    rw [ek _ (by omega), ek _ (by omega)]
    exact ⟨h9.2.2.1, by have := h9.2.2.2.2.2.2.1; omega⟩
theorem LvR.p {T : Int} {G g : Gm} {n v : Int} (hG : GI G) (hV : GV G) (hX : GX G) (h : LvR T G g n) : LvP (gU g 3 v) := by
  have ek : ∀ j : Nat, j ≠ 3 → gU g 3 v j = g j := fun j hj => gU_n _ hj
  obtain ⟨a1, a2, a3, a4, a5, a6⟩ := h
  have e5 : gU g 3 v 5 = G 5 := (ek 5 (by decide)).trans (a5 5 (by decide) (fun w q0 q1 => by omega) (fun r q0 q1 => by omega))
  have e4 : gU g 3 v 4 = G 4 := (ek 4 (by decide)).trans (a5 4 (by decide) (fun w q0 q1 => by omega) (fun r q0 q1 => by omega))
  refine ⟨by rw [e5]; exact hG.2.1, by rw [e4]; exact hG.1, fun r r0 r1 => ?_, fun w w0 w1 => ?_⟩
  · rw [e5] at r1
    have hR := hG.2.2 r r0 r1
    have hl := Nat.le_trans (List.length_filter_le (onT T) _) (TK_len hR)
    have hrw := (a1 r r0 r1).congr r0 hl (fun j j0 j1 => ek j (by omega))
    refine ⟨hrw.ri hR.1 hl (fun x hx => hR.tk x (List.mem_filter.mp hx).1), fun x hx => ?_⟩
    rw [hrw.tk] at hx
    rw [e4]
    obtain ⟨k, k1, rfl⟩ := List.mem_map.mp (List.mem_filter.mp hx).1
    have := List.mem_range.mp k1
    exact ((hX.1 r r0 r1).1 (k : Int) (by omega) (by omega)).1
  · rw [e4] at w1
    have h9 := hV.2.2.2.2.1 w w0 w1
    have h8 := a3 w w0 w1
    have hb : 0 ≤ sumI (fun r => LW T w (TK G r)) (G 5) ∧ sumI (fun r => LW T w (TK G r)) (G 5) ≤ G 5 * 3 := sumI_b 3 hG.2.1.1 (fun r r0 r1 => ⟨(LW_b _ _ _).1, Int.le_trans (Int.le_trans (LW_b _ _ _).2 (LN_b _ _).2) (by have q1 := TK_len (hG.2.2 r r0 r1); omega)⟩)
    rw [ek _ (by omega), ek _ (by omega)]
    have hg5 := hG.2.1
    have h7 := h9.2.2.1
    have h6 := h9.2.2.2.2.2.2.1
    simp only at h8
    generalize sumI (fun r => LW T w (TK G r)) (G 5) = c1 at *
    rw [h8.1, h8.2]
    refine ⟨?_, by omega⟩
    unfold zmax
    split <;> omega
theorem LvR.n {T : Int} {G g : Gm} {n : Int} (hG : GI G) (h : LvR T G g n) : 0 ≤ n ∧ n ≤ 72 := by
  rw [h.2.2.2.1]
  have hb : 0 ≤ sumI (fun r => LN T (TK G r)) (G 5) ∧ sumI (fun r => LN T (TK G r)) (G 5) ≤ G 5 * 3 := sumI_b 3 hG.2.1.1 (fun r r0 r1 => ⟨(LN_b _ _).1, Int.le_trans (LN_b _ _).2 (by have q1 := TK_len (hG.2.2 r r0 r1); omega)⟩)
  have hg5 := hG.2.1
  omega
theorem LvR.nP {T : Int} {G g : Gm} {n : Int} (hP : LvP G) (h : LvR T G g n) : 0 ≤ n ∧ n ≤ 72 := by
  rw [h.2.2.2.1]
  have hg5 := hP.1
  have hb : 0 ≤ sumI (fun r => LN T (TK G r)) (G 5) ∧ sumI (fun r => LN T (TK G r)) (G 5) ≤ G 5 * 3 := sumI_b 3 hg5.1 (fun r r0 r1 => ⟨(LN_b _ _).1, Int.le_trans (LN_b _ _).2 (by have q1 := TK_len (hP.2.2.1 r r0 r1).1; omega)⟩)
  omega
theorem apiFin2 {M M1 M2 : ZM} {P : Int → Gm} {c : Int} {K : ZRet} {r : Option ZV} (hY : LY M) (hf : Fr (fun j => j = 670 ∨ j = 679) (zsI M 670 0 0) M1) (h8 : ∀ f, f ≠ 19 → zI M1 670 f = zI (zsI M 670 0 0) 670 f) (hH : RH M1 P c) (f2 : Fr (fun j => j = 671) M1 M2) (h : Fr SYw M M2 → (∀ f, f ≠ 0 → f ≠ 19 → zI M2 670 f = zI M 670 f) → zI M2 670 0 = 0 → RH M2 P c → K r M2) : K r M2 := by
  have f0 : Fr SYw M (zsI M 670 0 0) := Fr_I hY.w (by decide) (by decide) (Or.inl rfl)
  have hY0 := hY.fr f0
  have f1 : Fr SYw (zsI M 670 0 0) M1 := hf.mono (fun j q => q.elim Or.inl (fun z => Or.inr (Or.inr z)))
  have hY1 := hY0.fr hf
  have e8 : zI M2 670 = zI M1 670 := f2.i hY1.w (by decide)
  refine h ((f0.tr f1).tr (f2.mono (fun j q => Or.inr (Or.inl q)))) (fun f q0 q1 => ?_) ?_ (hH.fr hY1 f2 (by decide) (by rw [e8]))
  · rw [e8, h8 f q1, zI_Im _ _ _ q0]
  · rw [e8, h8 0 (by decide), zI_Is]

def c_pass (ticks : Int) : Int := if 1 ≤ ticks ∧ ticks ≤ 99 then 0 else 1
def T_X9_pass : ZTf := fun av M K KX => ∃ (P : Int → Gm) (c : Int) (ticks : Int), av = [zo 670, zi ticks] ∧ (LY M) ∧ (MA M 671) ∧ (GI (zI M 671)) ∧ (GV (zI M 671)) ∧ (GX (zI M 671)) ∧ (RH M P c) ∧ ((c_pass ticks = 0 → ∀ (M' : ZM) (n : Int), Fr SYw M M' → (∀ f, f ≠ 0 → f ≠ 19 → zI M' 670 f = zI M 670 f) → zI M' 670 0 = 0 → LvR (zI M 671 3 + ticks) (zI M 671) (zI M' 671) n → RH M' (pushP P (zI M 671) c) (pushC c) → K (some (zi n)) M') ∧ (c_pass ticks ≠ 0 → K (some (zi 0)) (zsI M 670 0 (c_pass ticks))))
set_option maxRecDepth 100000 in
set_option maxHeartbeats 4000000 in
theorem bd_X9_pass : zBd (cd_X9_pass T_X9_in T_X9_passes T_X9_remember T_X9_leaves) 4 0 0 T_X9_pass := by
  rintro av M K KX hA0 hM ⟨P, c, ticks, rfl, hY, hA, hG, hV9, hX9, hH, hK, hE⟩
  obtain ⟨hw5, hr5, hR5⟩ := id hG
  have htm := hV9.2.2.2.1
  simp only [c_pass] at hK hE
  refine ⟨rfl, fun Φ hΦ => ?_⟩
  obtain ⟨G, hGM⟩ : ∃ G, zI M 671 = G := ⟨_, rfl⟩
  rw [hGM] at hG hV9 hX9 hK hw5 hr5 hR5 htm
  have loop : ∀ (M1 : ZM), LY M1 → MA M1 671 → (1 ≤ ticks ∧ ticks ≤ 99) → (∀ (M2 : ZM) (n : Int), Fr (fun j => j = 671) M1 M2 → LvR (G 3 + ticks) G (zI M2 671) n → K (some (zi n)) M2) → ∀ i, 0 ≤ i → i ≤ ticks → ∀ (M2 : ZM) (n : Int), Fr (fun j => j = 671) M1 M2 → ((i = 0 ∧ zI M2 671 = G ∧ n = 0) ∨ (1 ≤ i ∧ LvR (G 3 + i) G (zI M2 671) n)) → Φ 26 [some (zo 670), some (zi ticks), some (zi n), some (zi i)] [] M2 0 0 := by
    intro M1 hY1 hA1 htk fin
    refine zdown (n := ticks) (P := fun i => ∀ (M2 : ZM) (n : Int), Fr (fun j => j = 671) M1 M2 → ((i = 0 ∧ zI M2 671 = G ∧ n = 0) ∨ (1 ≤ i ∧ LvR (G 3 + i) G (zI M2 671) n)) → Φ 26 [some (zo 670), some (zi ticks), some (zi n), some (zi i)] [] M2 0 0) (fun i h0 h1 ih M9 n hf9 hO => ?_)
    have hY9 := hY1.fr hf9
    have hA9 := MA.fr hY1 hA1 hf9
    obtain ⟨g, hG0⟩ : ∃ g, zI M9 671 = g := ⟨_, rfl⟩
    rw [hG0] at hO
    have hn : 0 ≤ n ∧ n ≤ 72 := by
      rcases hO with q | q
      · omega
      · exact q.2.n hG
    obtain ⟨T, hT⟩ : ∃ T, G 3 + i = T := ⟨_, rfl⟩
    have hgT : g 3 = T := by
      rcases hO with q | q
      · rw [q.2.1]; omega
      · rw [q.2.2.2.2.2.2]; exact hT
    have hgP : LvP (gU g 3 (T + 1)) := by
      rcases hO with q | q
      · rw [q.2.1]; exact LvP.base hG hV9 hX9
      · exact q.2.p hG hV9 hX9
    replace hgT : zEqn (g 3) T := hgT
    refine zGoR hΦ [26] 400 (fun hL9 _ hM _ _ => ?_)
    obtain ⟨qL1, qL2, qL3, _⟩ : zrg ticks ∧ zrg n ∧ zrg i ∧ True := hL9
    refine ⟨fun (qc1 : i ≥ ticks) => ⟨trivial, (show K (some (zi n)) M9 from ?g211l1)⟩, fun (qc2 : i < ticks) => ⟨hY9.w, _, hY9.r1, ⟨⟨rfl, rfl⟩, ⟨zixO hY9.a1 hY9.l1 (i := 3) (by decide) (by decide), zIr (Eq.trans (congrFun hG0 _) (hgT)) (⟨(zrgI (x := T + 1) (by omega)), ⟨⟨zixW hY9.a1 hY9.l1 (i := 3) (by decide) (by decide), trivial⟩, zMw (zsI_gG hG0 3 (T + 1)) (fun g1 hg1 => ⟨⟨⟨rfl, rfl⟩, hY9.w.rcv⟩, ⟨0, rfl, hY9, hA9, (LvP_A (by rw [hg1]; exact hgP)), fun M1 hf1 hv1 => (have hvn1 := LvR.nP (LvP_A (by rw [hg1]; exact hgP)) hv1; fun (qg3 : zrg (sumI (fun r => LN (zI (zsA M9 671 g1) 671 3) (TK (zI (zsA M9 671 g1) 671) r)) (zI (zsA M9 671 g1) 671 5))) qm4 => ⟨(zrgI (x := n + sumI (fun r => LN (zI (zsA M9 671 g1) 671 3) (TK (zI (zsA M9 671 g1) 671) r)) (zI (zsA M9 671 g1) 671 5)) (by omega)), ⟨(zrgI (x := i + 1) (by omega)), (show Φ 26 [some (zo 670), some (zi ticks), some (zi (n + sumI (fun r => LN (zI (zsA M9 671 g1) 671 3) (TK (zI (zsA M9 671 g1) 671) r)) (zI (zsA M9 671 g1) 671 5))), some (zi (i + 1))] [] M1 (0) (0) from ?g211l2)⟩⟩)⟩⟩)⟩⟩)⟩⟩⟩⟩
    case g211l1 =>
      have e9 : i = ticks := (by omega)
      subst e9
      refine fin M9 n hf9 ?_
      rcases hO with q | q
      · exact absurd htk.1 (by omega)
      · rw [hG0]; exact q.2
    case g211l2 =>
      have e_g : g1 = gU g 3 (T + 1) := hg1
      have hv9 := hv1
      generalize sumI (fun r => LN (zI (zsA M9 671 g1) 671 3) (TK (zI (zsA M9 671 g1) 671) r)) (zI (zsA M9 671 g1) 671 5) = v at hv9 hvn1 ⊢
      rw [zI_A, e_g, show gU g 3 (T + 1) 3 = T + 1 from gU_s g 3 (T + 1)] at hv9
      refine ih (by omega) M1 (n + v) ((hf9.tr (Fr_A hY9.a1 (by decide) (by decide) rfl)).tr hf1) (Or.inr ⟨by omega, ?_⟩)
      rw [← Int.add_assoc, hT]
      rcases hO with q | q
      · rw [q.2.1] at hv9
        rw [q.2.2, Int.zero_add]
        exact LvR.base hr5 hw5 hR5 hv9
      · have q2 := q.2
        rw [hT] at q2
        exact LvR.comp hr5 hw5 hR5 q2 hv9
  refine zGoR hΦ [26] 400 (fun hL9 _ hM _ _ => ?_)
  obtain ⟨qL1, _⟩ : zrg ticks ∧ True := hL9
  refine ⟨⟨⟨rfl, rfl⟩, trivial⟩, ⟨rfl, ⟨fun h => (have qc1 : ticks < 1 := zc_lt h; ⟨(Or.inl rfl), fun _ _ => ⟨⟨⟨rfl, rfl⟩, hY.w.rcv⟩, ⟨rfl, ⟨⟨⟨rfl, rfl⟩, hY.w.rcv⟩, ⟨rfl, ⟨fun (h : (0 : Int) ≠ 0) => absurd h (by decide), fun _ => ⟨⟨hY.w, trivial⟩, ⟨hY.w, ⟨fun _ => ⟨(Or.inl rfl), fun _ _ => ⟨(Or.inl rfl), fun _ _ => ⟨fun (h : (0 : Int) ≠ 0) => absurd h (by decide), fun _ => ⟨trivial, (show K (some (zi 0)) (zsI M 670 0 1) from ?g212l1)⟩⟩⟩⟩, fun (h : (1 : Int) = 0) => absurd h (by decide)⟩⟩⟩⟩⟩⟩⟩⟩⟩), fun h => (have qc5 : ticks ≥ 1 := zc_ge h; ⟨fun h => (have qc6 : ticks > 99 := zc_gt h; ⟨(Or.inl rfl), fun _ _ => ⟨⟨⟨rfl, rfl⟩, hY.w.rcv⟩, ⟨rfl, ⟨⟨⟨rfl, rfl⟩, hY.w.rcv⟩, ⟨rfl, ⟨fun (h : (0 : Int) ≠ 0) => absurd h (by decide), fun _ => ⟨⟨hY.w, trivial⟩, ⟨hY.w, ⟨fun _ => ⟨(Or.inl rfl), fun _ _ => ⟨(Or.inl rfl), fun _ _ => ⟨fun (h : (0 : Int) ≠ 0) => absurd h (by decide), fun _ => ⟨trivial, (show K (some (zi 0)) (zsI M 670 0 1) from ?g212l2)⟩⟩⟩⟩, fun (h : (1 : Int) = 0) => absurd h (by decide)⟩⟩⟩⟩⟩⟩⟩⟩⟩), fun h => (have qc10 : ticks ≤ 99 := zc_le h; ⟨(Or.inr rfl), fun _ _ => ⟨⟨⟨rfl, rfl⟩, hY.w.rcv⟩, ⟨rfl, ⟨⟨⟨rfl, rfl⟩, hY.w.rcv⟩, ⟨rfl, ⟨fun _ => ⟨fun _ => ⟨fun _ => ⟨⟨hY.w, trivial⟩, ⟨hY.w, ⟨fun (h : (0 : Int) ≠ 0) => absurd h (by decide), fun _ => ⟨(Or.inr rfl), fun _ _ => ⟨(Or.inr rfl), fun _ _ => ⟨fun _ => ⟨⟨⟨rfl, rfl⟩, hY.w.rcv⟩, ⟨P, c, rfl, hY, hH, fun M1 hf1 h81 hH1 => (have hY1 := LY.fr (M := zsI M 670 0 0) hY hf1; have hA1 := MA.fr (M := zsI M 670 0 0) hY hA hf1; fun qg14 qm15 => (show Φ 26 [some (zo 670), some (zi ticks), some (zi 0), some (zi 0)] [] M1 (0) (0) from ?g212l3))⟩⟩, fun (h : (1 : Int) = 0) => absurd h (by decide)⟩⟩⟩⟩⟩⟩, fun (h : (1 : Int) = 0) => absurd h (by decide)⟩, fun (h : (1 : Int) = 0) => absurd h (by decide)⟩, fun (h : (1 : Int) = 0) => absurd h (by decide)⟩⟩⟩⟩⟩⟩)⟩)⟩⟩⟩
  case g212l1 => first | (exfalso; omega) | (refine zKm (hE (by first | omega | ((repeat' split) <;> first | omega | (exfalso; simp_all)))) rfl ?_; first | (simp only [↓reduceIte, decide_eq_true_eq, decide_eq_false_iff_not, decide_true, decide_false, ne_eq, not_true_eq_false, not_false_eq_true, and_true, true_and, and_false, false_and, or_true, true_or, or_false, false_or, and_self, or_self, Bool.true_and, Bool.and_true, Bool.false_and, Bool.and_false, b2i, Bool.false_eq_true, reduceCtorEq, gt_iff_lt, ge_iff_le, qc1, Int.not_le.mpr qc1]; done) | (simp only [↓reduceIte, decide_eq_true_eq, decide_eq_false_iff_not, decide_true, decide_false, ne_eq, not_true_eq_false, not_false_eq_true, and_true, true_and, and_false, false_and, or_true, true_or, or_false, false_or, and_self, or_self, Bool.true_and, Bool.and_true, Bool.false_and, Bool.and_false, b2i, Bool.false_eq_true, reduceCtorEq, gt_iff_lt, ge_iff_le, qc1, Int.not_le.mpr qc1]; rfl) | (simp [qc1, Int.not_le.mpr qc1]; done) | ((repeat' split) <;> first | rfl | omega))
  case g212l2 => first | (exfalso; omega) | (refine zKm (hE (by first | omega | ((repeat' split) <;> first | omega | (exfalso; simp_all)))) rfl ?_; first | (simp only [↓reduceIte, decide_eq_true_eq, decide_eq_false_iff_not, decide_true, decide_false, ne_eq, not_true_eq_false, not_false_eq_true, and_true, true_and, and_false, false_and, or_true, true_or, or_false, false_or, and_self, or_self, Bool.true_and, Bool.and_true, Bool.false_and, Bool.and_false, b2i, Bool.false_eq_true, reduceCtorEq, gt_iff_lt, ge_iff_le, qc5, qc6, Int.not_lt.mpr qc5, Int.not_le.mpr qc6]; done) | (simp only [↓reduceIte, decide_eq_true_eq, decide_eq_false_iff_not, decide_true, decide_false, ne_eq, not_true_eq_false, not_false_eq_true, and_true, true_and, and_false, false_and, or_true, true_or, or_false, false_or, and_self, or_self, Bool.true_and, Bool.and_true, Bool.false_and, Bool.and_false, b2i, Bool.false_eq_true, reduceCtorEq, gt_iff_lt, ge_iff_le, qc5, qc6, Int.not_lt.mpr qc5, Int.not_le.mpr qc6]; rfl) | (simp [qc5, qc6, Int.not_lt.mpr qc5, Int.not_le.mpr qc6]; done) | ((repeat' split) <;> first | rfl | omega))
  case g212l3 =>
    have e49 : zI M1 671 = G := ((hf1.i (M := zsI M 670 0 0) (j := 671) hY.a1 (by decide)).trans (zI_In _ _ _ (by decide))).trans hGM
    have hH9 : RH M1 (pushP P G c) (pushC c) := by rw [← hGM]; exact hH1
    exact loop M1 hY1 hA1 (by omega) (fun M2 n f2 hv => apiFin2 hY hf1 h81 hH9 f2 (fun y1 y2 y3 y4 => hK (by first | omega | (rw [if_pos (by omega)])) M2 n y1 y2 y3 hv y4)) 0 (by omega) (by omega) M1 0 Fr.rf (Or.inl ⟨rfl, e49, rfl⟩)
theorem M_X9_pass {l : Launch} (hl : l.stackTraces = false) : zMet l yX9_pass (Cond.code yX9_pass cX9_pass 4 (Option.some Jvm.ClassFile.FieldType.int) :: zG) rm_X9_pass 0 0 T_X9_pass := met_X9_pass hl (M_X9_in hl) (M_X9_passes hl) (M_X9_remember hl) (M_X9_leaves hl) bd_X9_pass
