theorem sT_w0 {g : Gm} {r s c0 c1 c2 v : Int} (hR : RI g r) (hv : 0 ≤ v ∧ v < 6) (hr : 0 ≤ r) : ∀ i, 0 ≤ i → i ≤ (g (132 + 16 * r + 6).toNat) → (∀ k : Int, 0 ≤ k → k < i → (g (132 + 16 * r + (7 + 3 * k + 0)).toNat) ≠ v) → sT g r s c0 c1 c2 i (6 + 9 * v + 3).toNat = (g (6 + 9 * v + 3).toNat) := by
  refine zup (fun i => (∀ k : Int, 0 ≤ k → k < i → (g (132 + 16 * r + (7 + 3 * k + 0)).toNat) ≠ v) → sT g r s c0 c1 c2 i (6 + 9 * v + 3).toNat = (g (6 + 9 * v + 3).toNat)) (fun _ => ?_) (fun i h0 h1 ih hk => ?_)
  · rw [show sT g r s c0 c1 c2 0 = gU g (132 + 16 * r + 1) s from rfl, gU_n _ (by omega)]
  · have hw := hR.2.2 i h0 h1
    have hn := hk i h0 (by omega)
    rw [sT_s h0]
    unfold sTs
    rw [gU_n _ (by omega)]
    exact ih (fun k k0 k1 => hk k k0 (by omega))
theorem sT_w1 {g : Gm} {r s c0 c1 c2 v k : Int} (hR : RI g r) (hv : 0 ≤ v ∧ v < 6) (hr : 0 ≤ r) (hk : 0 ≤ k ∧ k < (g (132 + 16 * r + 6).toNat)) (hkv : (g (132 + 16 * r + (7 + 3 * k + 0)).toNat) = v) (hd : ∀ j : Int, 0 ≤ j → j < (g (132 + 16 * r + 6).toNat) → j ≠ k → (g (132 + 16 * r + (7 + 3 * j + 0)).toNat) ≠ v) : ∀ i, k + 1 ≤ i → i ≤ (g (132 + 16 * r + 6).toNat) → sT g r s c0 c1 c2 i (6 + 9 * v + 3).toNat = fClamp ((g (6 + 9 * v + 3).toNat) + cvf c0 c1 c2 k) := by
  have h9 := sT_w0 (s := s) (c0 := c0) (c1 := c1) (c2 := c2) hR hv hr k hk.1 (by omega) (fun j j0 j1 => hd j j0 (by omega) (by omega))
  have key : ∀ n : Nat, k + 1 + (n : Int) ≤ (g (132 + 16 * r + 6).toNat) → sT g r s c0 c1 c2 (k + 1 + (n : Int)) (6 + 9 * v + 3).toNat = fClamp ((g (6 + 9 * v + 3).toNat) + cvf c0 c1 c2 k) := by
    intro n
    induction n with
    | zero =>
      intro _
      rw [show k + 1 + ((0 : Nat) : Int) = k + 1 by omega, sT_s hk.1]
      unfold sTs
      rw [hkv, gU_s, h9]
    | succ n ih =>
      intro hn
      have hj := hR.2.2 (k + 1 + (n : Int)) (by omega) (by omega)
      have hne := hd (k + 1 + (n : Int)) (by omega) (by omega) (by omega)
      rw [show k + 1 + ((n + 1 : Nat) : Int) = (k + 1 + (n : Int)) + 1 by omega, sT_s (by omega)]
      unfold sTs
      rw [gU_n _ (by omega)]
      exact ih (by omega)
  intro i i0 i1
  have h8 := key (i - (k + 1)).toNat (by omega)
  rw [show k + 1 + (((i - (k + 1)).toNat : Nat) : Int) = i by omega] at h8
  exact h8
theorem fDel_sT {G : Gm} {w r k x : Int} (hG : GI G) (hV : GV G) (hX : GX G) (h : DLp G w r k x) {j : Nat} (hj : j = (132 + 16 * r + 1).toNat ∨ ∃ v : Int, 0 ≤ v ∧ v < 6 ∧ j = (6 + 9 * v + 3).toNat) : fDel G w r x j = sT (fDel1 G w r x) r (vSt (G (132 + 16 * r + 1).toNat) (gKd G r k x)) (vc0 (G 0) (yv G r k x 0) (yv G r k x 1) (yv G r k x 2) (gKd G r k x)) (vc1 (G 0) (yv G r k x 0) (yv G r k x 1) (yv G r k x 2) (gKd G r k x)) (vc2 (gKd G r k x)) (G (132 + 16 * r + 6).toNat) j := by
  have hr := h.2.1
  have hRr := hG.2.2 r hr.1 hr.2
  have hr5 := hG.2.1
  have hb : ∀ q : Int, 0 ≤ q → q < 24 → j ≠ (132 + 16 * q + 5).toNat := fun q q0 q1 => by
    rcases hj with z | ⟨v, v0, v1, z⟩ <;> omega
  rcases settle_eq hG hV hX h rfl rfl rfl rfl rfl rfl rfl rfl rfl rfl rfl rfl rfl with ⟨-, hS, -⟩ | ⟨-, hpq, hS⟩
  · exact hS j (by omega) hb
  · have ha := hRr.2.2 (vP (gKd G r k x)) (by omega) (by omega)
    have hbq := hRr.2.2 (vQ (gKd G r k x)) (by omega) (by omega)
    have h9 := (hS _ _ _ rfl rfl rfl).1 j (by omega) hb
    rw [h9]
    rcases hj with z | ⟨v, v0, v1, z⟩
    · rw [gU_n _ (by omega), gU_n _ (by omega), gU_n _ (by omega), gU_n _ (by omega), gU_n _ (by omega)]
    · rw [gU_n _ (by omega), gU_n _ (by omega), gU_n _ (by omega), gU_n _ (by omega), gU_n _ (by omega)]
theorem fDel_st {G : Gm} {w r k x : Int} (hG : GI G) (hV : GV G) (hX : GX G) (h : DLp G w r k x) : fDel G w r x (132 + 16 * r + 1).toNat = vSt (G (132 + 16 * r + 1).toNat) (gKd G r k x) := by
  have hr := h.2.1
  have hr5 := hG.2.1
  have hm := (hG.2.2 r hr.1 hr.2).2.1
  have hk0 : 0 ≤ fTakingOf G w r := by rw [h.2.2.2.1]; exact h.2.2.2.2.1.1
  have hw := h.1
  have hw5 := hG.1
  have hR1 := (fDel1_GI hG h).2.2 r hr.1 (by rw [fDel1_n (by omega) (by omega)]; exact hr.2)
  have e6 : fDel1 G w r x (132 + 16 * r + 6).toNat = (G (132 + 16 * r + 6).toNat) := fDel1_n (by omega) (by omega)
  rw [fDel_sT hG hV hX h (Or.inl rfl), sT_n hR1 _ hm.1 (by rw [e6]; omega) _ (fun v v0 v1 => by omega), gU_s]
theorem fDel_tr0 {G : Gm} {w r k x v : Int} (hG : GI G) (hV : GV G) (hX : GX G) (h : DLp G w r k x) (hv : 0 ≤ v ∧ v < 6) (hn : fTakingOf G v r = -1) : fDel G w r x (6 + 9 * v + 3).toNat = (G (6 + 9 * v + 3).toNat) := by
  have hr := h.2.1
  have hr5 := hG.2.1
  have hm := (hG.2.2 r hr.1 hr.2).2.1
  have hk0 : 0 ≤ fTakingOf G w r := by rw [h.2.2.2.1]; exact h.2.2.2.2.1.1
  have hw := h.1
  have hw5 := hG.1
  have hR1 := (fDel1_GI hG h).2.2 r hr.1 (by rw [fDel1_n (by omega) (by omega)]; exact hr.2)
  have e6 : fDel1 G w r x (132 + 16 * r + 6).toNat = (G (132 + 16 * r + 6).toNat) := fDel1_n (by omega) (by omega)
  have hf : ∀ j : Int, 0 ≤ j → j < (G (132 + 16 * r + 6).toNat) → (G (132 + 16 * r + (7 + 3 * j + 0)).toNat) ≠ v := fun j j0 j1 => by
    rcases fndI_r (fun k => decide ((G (132 + 16 * r + (7 + 3 * k + 0)).toNat) = v)) hm.1 with q | q
    · exact of_decide_eq_false (q.2 j j0 j1)
    · unfold fTakingOf at hn
      omega
  rw [fDel_sT hG hV hX h (Or.inr ⟨v, hv.1, hv.2, rfl⟩), sT_w0 hR1 hv hr.1 _ hm.1 (by rw [e6]; omega) (fun j j0 j1 => by rw [fDel1_n (by omega) (by omega)]; exact hf j j0 j1)]
  exact fDel1_n (by omega) (by omega)
theorem fDel_tr1 {G : Gm} {w r k x v i : Int} (hG : GI G) (hV : GV G) (hX : GX G) (h : DLp G w r k x) (hv : 0 ≤ v ∧ v < 6) (hi : fTakingOf G v r = i) (hn : i ≠ -1) : (0 ≤ i ∧ i < (G (132 + 16 * r + 6).toNat)) ∧ fDel G w r x (6 + 9 * v + 3).toNat = fClamp ((G (6 + 9 * v + 3).toNat) + cvf (vc0 (G 0) (yv G r k x 0) (yv G r k x 1) (yv G r k x 2) (gKd G r k x)) (vc1 (G 0) (yv G r k x 0) (yv G r k x 1) (yv G r k x 2) (gKd G r k x)) (vc2 (gKd G r k x)) i) := by
  have hr := h.2.1
  have hr5 := hG.2.1
  have hm := (hG.2.2 r hr.1 hr.2).2.1
  have hk0 : 0 ≤ fTakingOf G w r := by rw [h.2.2.2.1]; exact h.2.2.2.2.1.1
  have hw := h.1
  have hw5 := hG.1
  have hR1 := (fDel1_GI hG h).2.2 r hr.1 (by rw [fDel1_n (by omega) (by omega)]; exact hr.2)
  have e6 : fDel1 G w r x (132 + 16 * r + 6).toNat = (G (132 + 16 * r + 6).toNat) := fDel1_n (by omega) (by omega)
  have e0 : ∀ j : Int, 0 ≤ j → fDel1 G w r x (132 + 16 * r + (7 + 3 * j + 0)).toNat = (G (132 + 16 * r + (7 + 3 * j + 0)).toNat) := fun j j0 => fDel1_n (by omega) (by omega)
  have e3 : fDel1 G w r x (6 + 9 * v + 3).toNat = (G (6 + 9 * v + 3).toNat) := fDel1_n (by omega) (by omega)
  have hf : (0 ≤ i ∧ i < (G (132 + 16 * r + 6).toNat)) ∧ (G (132 + 16 * r + (7 + 3 * i + 0)).toNat) = v := by
    rcases fndI_r (fun k => decide ((G (132 + 16 * r + (7 + 3 * k + 0)).toNat) = v)) hm.1 with q | q
    · unfold fTakingOf at hi
      omega
    · unfold fTakingOf at hi
      rw [hi] at q
      exact ⟨⟨q.1, q.2.1⟩, of_decide_eq_true q.2.2.1⟩
  refine ⟨hf.1, ?_⟩
  have hd := (hX.1 r hr.1 hr.2).2.1
  have hz := sT_w1 (g := fDel1 G w r x) (s := vSt (G (132 + 16 * r + 1).toNat) (gKd G r k x)) (c0 := vc0 (G 0) (yv G r k x 0) (yv G r k x 1) (yv G r k x 2) (gKd G r k x)) (c1 := vc1 (G 0) (yv G r k x 0) (yv G r k x 1) (yv G r k x 2) (gKd G r k x)) (c2 := vc2 (gKd G r k x)) hR1 hv hr.1 (k := i) (by rw [e6]; exact hf.1) (by rw [e0 i hf.1.1]; exact hf.2) (fun j j0 j1 jn => by
    rw [e6] at j1
    rw [e0 j j0, ← hf.2]
    by_cases q : j < i
    · exact hd j i j0 q hf.1.2
    · exact (hd i j hf.1.1 (by omega) j1).symm) (G (132 + 16 * r + 6).toNat) (by omega) (by rw [e6]; omega)
  rw [fDel_sT hG hV hX h (Or.inr ⟨v, hv.1, hv.2, rfl⟩), hz, e3]
