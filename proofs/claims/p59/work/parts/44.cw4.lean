theorem fHave_i {g : Gm} {r n : Int} (hm : 0 ≤ (g (132 + 16 * r + 6).toNat)) (h : (g (132 + 16 * r + 6).toNat) = n) (hq : ∀ k : Int, 0 ≤ k → k < n → (g (132 + 16 * r + (7 + 3 * k + 1)).toNat) ≠ -1) : fHave g r n = true := by
  have key : ∀ i, 0 ≤ i → i ≤ (g (132 + 16 * r + 6).toNat) → foldI (fun k b => b && decide ((g (132 + 16 * r + (7 + 3 * k + 1)).toNat) ≠ -1)) (decide ((g (132 + 16 * r + 6).toNat) = n)) i = true := by
    refine zup (fun i => foldI (fun k b => b && decide ((g (132 + 16 * r + (7 + 3 * k + 1)).toNat) ≠ -1)) (decide ((g (132 + 16 * r + 6).toNat) = n)) i = true) (decide_eq_true h) (fun i h0 h1 ih => ?_)
    rw [foldI_s h0, Bool.and_eq_true]
    exact ⟨ih, decide_eq_true (hq i h0 (by omega))⟩
  exact key _ hm (Int.le_refl _)
/-- what is asked of a delivery -/
def DLp (G : Gm) (w r k x : Int) : Prop := (0 ≤ w ∧ w < G 4) ∧ (0 ≤ r ∧ r < G 5) ∧ (0 ≤ x ∧ x ≤ 99) ∧ fTakingOf G w r = k ∧ (0 ≤ k ∧ k < (G (132 + 16 * r + 6).toNat)) ∧ (G (132 + 16 * r + (7 + 3 * k + 0)).toNat) = w ∧ (G (132 + 16 * r + (7 + 3 * k + 1)).toNat) = -1
theorem DLp.of {G : Gm} {w r x : Int} (hG : GI G) (hw : 0 ≤ w ∧ w < G 4) (hr : 0 ≤ r ∧ r < G 5) (hx : 0 ≤ x ∧ x ≤ 99) (h : fWorksAt G w r = true) : DLp G w r (fTakingOf G w r) x := by
  have hm := (hG.2.2 r hr.1 hr.2).2.1.1
  have hk := fWorksAt_k h
  rcases fndI_r (fun k => decide ((G (132 + 16 * r + (7 + 3 * k + 0)).toNat) = w)) hm with q | q
  · exact absurd q.1 hk
  · refine ⟨hw, hr, hx, rfl, ⟨q.1, q.2.1⟩, of_decide_eq_true q.2.2.1, ?_⟩
    unfold fWorksAt at h
    rw [if_neg hk] at h
    exact of_decide_eq_true h
theorem fDel1_n {G : Gm} {w r x : Int} {j : Nat} (h1 : j ≠ (132 + 16 * r + (7 + 3 * fTakingOf G w r + 1)).toNat) (h2 : j ≠ (6 + 9 * w + 5).toNat) : fDel1 G w r x j = G j := by
  unfold fDel1
  rw [gU_n _ h2, gU_n _ h1]
theorem DLp.y {G : Gm} {w r k x : Int} (hG : GI G) (h : DLp G w r k x) {i : Int} (h0 : 0 ≤ i) (h1 : i < (G (132 + 16 * r + 6).toNat)) : ((fDel1 G w r x) (132 + 16 * r + (7 + 3 * i + 1)).toNat) = yv G r k x i := by
  obtain ⟨hw, hr, hx, hk, hkm, hkw, hkr⟩ := h
  have hr24 := hG.2.1
  have hw6 := hG.1
  unfold yv
  by_cases e : i = k
  · rw [if_pos e, e]
    unfold fDel1
    rw [hk, gU_n _ (by omega), gU_s]
  · rw [if_neg e, if_pos h1]
    exact fDel1_n (by rw [hk]; omega) (by omega)
def gKK (G : Gm) (w r x kd : Int) : Gm := if kd = 0 then fDel1 G w r x else if kd = 1 then gU (fDel1 G w r x) (132 + 16 * r + 1) 1 else if kd = 2 then fFin (fDel1 G w r x) r 0 1 else if kd = 3 then fAside (fDel1 G w r x) r else if kd = 4 then (if zabs (yv G r (fTakingOf G w r) x 1 - yv G r (fTakingOf G w r) x 2) ≤ G 0 then fFin (fDel1 G w r x) r 0 2 else gU (fFin (fDel1 G w r x) r 0 2) (6 + 9 * ((fDel1 G w r x) (132 + 16 * r + (7 + 3 * 1 + 0)).toNat) + 3) (fClamp (((fDel1 G w r x) (6 + 9 * ((fDel1 G w r x) (132 + 16 * r + (7 + 3 * 1 + 0)).toNat) + 3).toNat) + -3))) else (if zabs (yv G r (fTakingOf G w r) x 0 - yv G r (fTakingOf G w r) x 2) ≤ G 0 then fFin (fDel1 G w r x) r 1 2 else gU (fFin (fDel1 G w r x) r 1 2) (6 + 9 * ((fDel1 G w r x) (132 + 16 * r + (7 + 3 * 0 + 0)).toNat) + 3) (fClamp (((fDel1 G w r x) (6 + 9 * ((fDel1 G w r x) (132 + 16 * r + (7 + 3 * 0 + 0)).toNat) + 3).toNat) + -3)))
/-- what is known of a row in which a worker works -/
theorem DLp.st {G : Gm} {w r k x : Int} (hG : GI G) (hV : GV G) (hX : GX G) (h : DLp G w r k x) : ((G (132 + 16 * r + 1).toNat) = 0 ∧ (G (132 + 16 * r + 6).toNat) ≤ 2) ∨ ((G (132 + 16 * r + 1).toNat) = 1 ∧ (G (132 + 16 * r + 6).toNat) = 3 ∧ k = 2 ∧ 0 ≤ yv G r k x 0 ∧ 0 ≤ yv G r k x 1 ∧ yv G r k x 2 = x) := by
  obtain ⟨hw, hr, hx, hk, hkm, hkw, hkr⟩ := h
  have hm3 := (hG.2.2 r hr.1 hr.2).2.1
  obtain ⟨x1, x2, x3, x4, x5, x6, x7⟩ := hX.1 r hr.1 hr.2
  have hs0 := (hV.2.2.2.2.2.1 r hr.1 hr.2).2.1
  by_cases e0 : (G (132 + 16 * r + 1).toNat) = 0
  · exact Or.inl ⟨e0, (x5 e0).1⟩
  · by_cases e1 : (G (132 + 16 * r + 1).toNat) = 1
    · obtain ⟨a1, a2, a3, a4⟩ := x6 e1
      have hk2 : k = 2 := by
        have h9 : k = 0 ∨ k = 1 ∨ k = 2 := by omega
        rcases h9 with q | q | q
        · rw [q] at hkr; omega
        · rw [q] at hkr; omega
        · exact q
      refine Or.inr ⟨e1, by omega, hk2, ?_, ?_, ?_⟩
      · unfold yv; rw [if_neg (by omega), if_pos (by omega)]; exact a2
      · unfold yv; rw [if_neg (by omega), if_pos (by omega)]; exact a3
      · unfold yv; rw [if_pos hk2.symm]
    · have h7 : 2 ≤ (G (132 + 16 * r + 1).toNat) := by omega
      have := x7 h7 k hkm.1 hkm.2
      omega
theorem fDel_kd {G : Gm} {w r k x : Int} (hG : GI G) (hV : GV G) (hX : GX G) (h : DLp G w r k x) : fDel G w r x = gKK G w r x (gKd G r k x) := by
  have hst := h.st hG hV hX
  have hy := fun i h0 h1 => h.y hG (i := i) h0 h1
  obtain ⟨hw, hr, hx, hk, hkm, hkw, hkr⟩ := h
  have hr24 := hG.2.1
  have hw6 := hG.1
  have hm3 := (hG.2.2 r hr.1 hr.2).2.1
  have es : ((fDel1 G w r x) (132 + 16 * r + 1).toNat) = (G (132 + 16 * r + 1).toNat) := fDel1_n (by omega) (by omega)
  have em : ((fDel1 G w r x) (132 + 16 * r + 6).toNat) = (G (132 + 16 * r + 6).toNat) := fDel1_n (by rw [hk]; omega) (by omega)
  have e0 : fDel1 G w r x 0 = G 0 := fDel1_n (by rw [hk]; omega) (by omega)
  unfold fDel fDel2 gKK gKd
  rw [hk]
  rcases hst with ⟨s0, m2⟩ | ⟨s1, m3, k2, y0, y1, y2⟩
  · by_cases q : yv G r k x 0 = -1 ∨ yv G r k x 1 = -1
    · have hh : ¬ (((fDel1 G w r x) (132 + 16 * r + 1).toNat) = 0 ∧ fHave (fDel1 G w r x) r 2 = true) := fun z => by
        have h9 := fHave_c (by rw [em]; exact hm3.1) z.2
        rw [em] at h9
        rcases q with q | q
        · exact h9.2 0 (by decide) (by decide) ((hy 0 (by decide) (by omega)).trans q)
        · exact h9.2 1 (by decide) (by decide) ((hy 1 (by decide) (by omega)).trans q)
      rw [if_neg hh, if_neg (by rw [es, s0]; intro z; exact absurd z.1 (by decide))]
      have hkd : vKd (G (132 + 16 * r + 1).toNat) (G 0) (yv G r k x 0) (yv G r k x 1) (yv G r k x 2) = 0 := by unfold vKd; rw [if_pos s0, if_pos q]
      rw [hkd, if_pos rfl]
    · have q0 : yv G r k x 0 ≠ -1 := fun z => q (Or.inl z)
      have q1 : yv G r k x 1 ≠ -1 := fun z => q (Or.inr z)
      have hm2 : (G (132 + 16 * r + 6).toNat) = 2 := by
        by_cases z : 1 < (G (132 + 16 * r + 6).toNat)
        · omega
        · have h9 : yv G r k x 1 = -1 := by unfold yv; rw [if_neg (by omega), if_neg z]
          exact absurd h9 q1
      have hh : fHave (fDel1 G w r x) r 2 = true := fHave_i (by rw [em]; exact hm3.1) (by rw [em]; exact hm2) (fun i i0 i1 => by
        rw [hy i i0 (by omega)]
        have h9 : i = 0 ∨ i = 1 := by omega
        rcases h9 with z | z <;> subst z <;> assumption)
      rw [if_pos ⟨es.trans s0, hh⟩]
      unfold fCmp
      have hag : fAgree (fDel1 G w r x) ((fDel1 G w r x) (132 + 16 * r + (7 + 3 * 0 + 1)).toNat) ((fDel1 G w r x) (132 + 16 * r + (7 + 3 * 1 + 1)).toNat) = decide (zabs (yv G r k x 0 - yv G r k x 1) ≤ G 0) := by
        unfold fAgree
        rw [hy 0 (by decide) (by omega), hy 1 (by decide) (by omega), e0]
      rw [hag]
      by_cases z : zabs (yv G r k x 0 - yv G r k x 1) ≤ G 0
      · have hkd : vKd (G (132 + 16 * r + 1).toNat) (G 0) (yv G r k x 0) (yv G r k x 1) (yv G r k x 2) = 2 := by unfold vKd; rw [if_pos s0, if_neg q, if_pos z]
        rw [hkd, if_pos (decide_eq_true z)]
        rfl
      · have hkd : vKd (G (132 + 16 * r + 1).toNat) (G 0) (yv G r k x 0) (yv G r k x 1) (yv G r k x 2) = 1 := by unfold vKd; rw [if_pos s0, if_neg q, if_neg z]
        rw [hkd, if_neg (fun p => z (of_decide_eq_true p))]
        rfl
  · have hh : fHave (fDel1 G w r x) r 3 = true := fHave_i (by rw [em]; exact hm3.1) (by rw [em]; exact m3) (fun i i0 i1 => by
      rw [hy i i0 (by omega)]
      have h9 : i = 0 ∨ i = 1 ∨ i = 2 := by omega
      rcases h9 with z | z | z <;> subst z <;> omega)
    rw [if_neg (fun z => absurd (es.symm.trans z.1) (by rw [s1]; decide)), if_pos ⟨es.trans s1, hh⟩]
    have f0 : fFar (fDel1 G w r x) r 0 = zabs (yv G r k x 0 - yv G r k x 2) := by unfold fFar; rw [hy 0 (by decide) (by omega), hy 2 (by decide) (by omega)]
    have f1 : fFar (fDel1 G w r x) r 1 = zabs (yv G r k x 1 - yv G r k x 2) := by unfold fFar; rw [hy 1 (by decide) (by omega), hy 2 (by decide) (by omega)]
    unfold fDec
    generalize yv G r k x 0 = a0 at *
    generalize yv G r k x 1 = a1 at *
    generalize yv G r k x 2 = a2 at *
    have n0 : ¬ ((G (132 + 16 * r + 1).toNat) = 0) := by omega
    by_cases c : zabs (a0 - a2) ≤ zabs (a1 - a2)
    · have hn : fNear (fDel1 G w r x) r = 0 := by unfold fNear; rw [f0, f1, if_neg (by omega)]
      rw [hn, f0, show (1 : Int) - 0 = 1 from rfl, f1, e0]
      by_cases d : zabs (a0 - a2) ≤ G 0
      · have hkd : vKd (G (132 + 16 * r + 1).toNat) (G 0) a0 a1 a2 = 4 := by unfold vKd; rw [if_neg n0, if_pos s1, if_neg (fun z => z.1 d), if_pos c]
        rw [hkd, if_neg (by omega)]
        show _ = (if zabs (a1 - a2) ≤ G 0 then _ else _)
        by_cases e : zabs (a1 - a2) ≤ G 0
        · rw [if_pos e, if_neg (by omega)]
        · rw [if_neg e, if_pos (by omega)]
      · have hkd : vKd (G (132 + 16 * r + 1).toNat) (G 0) a0 a1 a2 = 3 := by unfold vKd; rw [if_neg n0, if_pos s1, if_pos ⟨d, by omega⟩]
        rw [hkd, if_pos (by omega)]
        rfl
    · have hn : fNear (fDel1 G w r x) r = 1 := by unfold fNear; rw [f0, f1, if_pos (by omega)]
      rw [hn, f1, show (1 : Int) - 1 = 0 from rfl, f0, e0]
      by_cases d : zabs (a1 - a2) ≤ G 0
      · have hkd : vKd (G (132 + 16 * r + 1).toNat) (G 0) a0 a1 a2 = 5 := by unfold vKd; rw [if_neg n0, if_pos s1, if_neg (fun z => z.2 d), if_neg c]
        rw [hkd, if_neg (by omega)]
        show _ = (if zabs (a0 - a2) ≤ G 0 then _ else _)
        by_cases e : zabs (a0 - a2) ≤ G 0
        · rw [if_pos e, if_neg (by omega)]
        · rw [if_neg e, if_pos (by omega)]
      · have hkd : vKd (G (132 + 16 * r + 1).toNat) (G 0) a0 a1 a2 = 3 := by unfold vKd; rw [if_neg n0, if_pos s1, if_pos ⟨by omega, d⟩]
        rw [hkd, if_pos (by omega)]
        rfl
