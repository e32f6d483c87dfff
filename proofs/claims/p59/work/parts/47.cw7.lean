def cvf (c0 c1 c2 i : Int) : Int := if i = 0 then c0 else if i = 1 then c1 else c2
def sTs (g : Gm) (r c0 c1 c2 j : Int) (h : Gm) : Gm := gU h (6 + 9 * (g (132 + 16 * r + (7 + 3 * j + 0)).toNat) + 3) (fClamp ((h (6 + 9 * (g (132 + 16 * r + (7 + 3 * j + 0)).toNat) + 3).toNat) + cvf c0 c1 c2 j))
def sT (g : Gm) (r s c0 c1 c2 i : Int) : Gm := foldI (sTs g r c0 c1 c2) (gU g (132 + 16 * r + 1) s) i
theorem sT_s {g : Gm} {r s c0 c1 c2 i : Int} (h : 0 ≤ i) : sT g r s c0 c1 c2 (i + 1) = sTs g r c0 c1 c2 i (sT g r s c0 c1 c2 i) := foldI_s h
theorem sT_n {g : Gm} {r s c0 c1 c2 : Int} (hR : RI g r) : ∀ i, 0 ≤ i → i ≤ (g (132 + 16 * r + 6).toNat) → ∀ j : Nat, (∀ w : Int, 0 ≤ w → w < 6 → j ≠ (6 + 9 * w + 3).toNat) → sT g r s c0 c1 c2 i j = gU g (132 + 16 * r + 1) s j := by
  refine zup (fun i => ∀ j : Nat, (∀ w : Int, 0 ≤ w → w < 6 → j ≠ (6 + 9 * w + 3).toNat) → sT g r s c0 c1 c2 i j = gU g (132 + 16 * r + 1) s j) (fun j _ => rfl) (fun i h0 h1 ih j hj => ?_)
  have hw := hR.2.2 i h0 h1
  rw [sT_s h0]
  unfold sTs
  rw [gU_n _ (hj _ hw.1 hw.2)]
  exact ih j hj
theorem sT_b {g : Gm} {r s c0 c1 c2 : Int} (hR : RI g r) : ∀ i, 0 ≤ i → i ≤ (g (132 + 16 * r + 6).toNat) → ∀ w : Int, 0 ≤ w → w < 6 → (0 ≤ (g (6 + 9 * w + 3).toNat) ∧ (g (6 + 9 * w + 3).toNat) ≤ 20) → (0 ≤ ((sT g r s c0 c1 c2 i) (6 + 9 * w + 3).toNat) ∧ ((sT g r s c0 c1 c2 i) (6 + 9 * w + 3).toNat) ≤ 20) := by
  have hr24 := hR.1
  refine zup (fun i => ∀ w : Int, 0 ≤ w → w < 6 → (0 ≤ (g (6 + 9 * w + 3).toNat) ∧ (g (6 + 9 * w + 3).toNat) ≤ 20) → (0 ≤ ((sT g r s c0 c1 c2 i) (6 + 9 * w + 3).toNat) ∧ ((sT g r s c0 c1 c2 i) (6 + 9 * w + 3).toNat) ≤ 20)) (fun w w0 w1 h => ?_) (fun i h0 h1 ih w w0 w1 h => ?_)
  · rw [show sT g r s c0 c1 c2 0 = gU g (132 + 16 * r + 1) s from rfl, gU_n _ (by omega)]
    exact h
  · have hw := hR.2.2 i h0 h1
    rw [sT_s h0]
    unfold sTs
    by_cases e : w = (g (132 + 16 * r + (7 + 3 * i + 0)).toNat)
    · rw [← e, gU_s]
      unfold fClamp zmax zmin
      repeat' split
      all_goals omega
    · rw [gU_n _ (by omega)]
      exact ih w w0 w1 h
theorem sT_GI {g : Gm} {r s c0 c1 c2 i : Int} (hG : GI g) (hr : 0 ≤ r ∧ r < g 5) (h0 : 0 ≤ i) (h1 : i ≤ (g (132 + 16 * r + 6).toNat)) : GI (sT g r s c0 c1 c2 i) := by
  have hn := sT_n (s := s) (c0 := c0) (c1 := c1) (c2 := c2) (hG.2.2 r hr.1 hr.2) i h0 h1
  have hr24 := hG.2.1
  refine hG.cg ?_ ?_ (fun q q0 q1 j j0 j1 => Or.inr ?_)
  · rw [hn 4 (fun w w0 w1 => by omega), gU_n _ (by omega)]
  · rw [hn 5 (fun w w0 w1 => by omega), gU_n _ (by omega)]
  · rw [hn j (fun w w0 w1 => by omega), gU_n _ (by omega)]
theorem fDel1_GI {G : Gm} {w r k x : Int} (hG : GI G) (h : DLp G w r k x) : GI (fDel1 G w r x) := by
  obtain ⟨hw, hr, hx, hk, hkm, hkw, hkr⟩ := h
  have hr24 := hG.2.1
  have hw6 := hG.1
  have hm3 := (hG.2.2 r hr.1 hr.2).2.1
  refine hG.cg (fDel1_n (by rw [hk]; omega) (by omega)) (fDel1_n (by rw [hk]; omega) (by omega)) (fun q q0 q1 j j0 j1 => ?_)
  by_cases e : j = (132 + 16 * r + (7 + 3 * k + 1)).toNat
  · by_cases e2 : q = r
    · subst e2
      exact Or.inl ⟨k, by omega, by omega, e⟩
    · omega
  · exact Or.inr (fDel1_n (by rw [hk]; exact e) (by omega))
theorem fClamp_0 {t : Int} (h : 0 ≤ t ∧ t ≤ 20) : fClamp (t + 0) = t := by
  unfold fClamp zmax zmin
  repeat' split
  all_goals omega
theorem sT_2 {g : Gm} {r s c0 c1 c2 a b : Int} (hr : 0 ≤ r ∧ r < 24) (h0 : (g (132 + 16 * r + (7 + 3 * 0 + 0)).toNat) = a) (h1 : (g (132 + 16 * r + (7 + 3 * 1 + 0)).toNat) = b) (ha : 0 ≤ a ∧ a < 6) (hb : 0 ≤ b ∧ b < 6) (hab : a ≠ b) : sT g r s c0 c1 c2 2 = gU (gU (gU g (132 + 16 * r + 1) s) (6 + 9 * a + 3) (fClamp ((g (6 + 9 * a + 3).toNat) + c0))) (6 + 9 * b + 3) (fClamp ((g (6 + 9 * b + 3).toNat) + c1)) := by
  rw [show (2 : Int) = 0 + 1 + 1 from rfl, sT_s (by decide), sT_s (by decide), show sT g r s c0 c1 c2 0 = gU g (132 + 16 * r + 1) s from rfl]
  unfold sTs
  rw [show (0 : Int) + 1 = 1 from rfl, h0, h1, gU_n g (k := (6 + 9 * a + 3).toNat) (by omega), gU_n _ (k := (6 + 9 * b + 3).toNat) (i := 6 + 9 * a + 3) (by omega), gU_n g (k := (6 + 9 * b + 3).toNat) (by omega)]
  rfl
theorem sT_3 {g : Gm} {r s c0 c1 c2 a b d : Int} (hr : 0 ≤ r ∧ r < 24) (h0 : (g (132 + 16 * r + (7 + 3 * 0 + 0)).toNat) = a) (h1 : (g (132 + 16 * r + (7 + 3 * 1 + 0)).toNat) = b) (h2 : (g (132 + 16 * r + (7 + 3 * 2 + 0)).toNat) = d) (ha : 0 ≤ a ∧ a < 6) (hb : 0 ≤ b ∧ b < 6) (hd : 0 ≤ d ∧ d < 6) (hab : a ≠ b) (had : a ≠ d) (hbd : b ≠ d) : sT g r s c0 c1 c2 3 = gU (gU (gU (gU g (132 + 16 * r + 1) s) (6 + 9 * a + 3) (fClamp ((g (6 + 9 * a + 3).toNat) + c0))) (6 + 9 * b + 3) (fClamp ((g (6 + 9 * b + 3).toNat) + c1))) (6 + 9 * d + 3) (fClamp ((g (6 + 9 * d + 3).toNat) + c2)) := by
  rw [show (3 : Int) = 2 + 1 from rfl, sT_s (by decide), sT_2 hr h0 h1 ha hb hab]
  unfold sTs
  rw [h2, gU_n _ (k := (6 + 9 * d + 3).toNat) (i := 6 + 9 * b + 3) (by omega), gU_n _ (k := (6 + 9 * d + 3).toNat) (i := 6 + 9 * a + 3) (by omega), gU_n g (k := (6 + 9 * d + 3).toNat) (by omega)]
  rfl
theorem kd_2 {g : Gm} {r a b : Int} (hr : 0 ≤ r ∧ r < 24) (h0 : (g (132 + 16 * r + (7 + 3 * 0 + 0)).toNat) = a) (h1 : (g (132 + 16 * r + (7 + 3 * 1 + 0)).toNat) = b) (ha : 0 ≤ a ∧ a < 6) (hb : 0 ≤ b ∧ b < 6) (hab : a ≠ b) : SmG (gU (gU (gU (gU (gU (gU (gU (gU g (132 + 16 * r + 1) 2) (6 + 9 * a + 3) (fClamp ((g (6 + 9 * a + 3).toNat) + 1))) (6 + 9 * b + 3) (fClamp ((g (6 + 9 * b + 3).toNat) + 1))) (132 + 16 * r + 2) (if (g (6 + 9 * a + 3).toNat) < (g (6 + 9 * b + 3).toNat) then (g (132 + 16 * r + (7 + 3 * 1 + 1)).toNat) else (g (132 + 16 * r + (7 + 3 * 0 + 1)).toNat))) (6 + 9 * a + 6) ((gU (gU (gU g (132 + 16 * r + 1) 2) (6 + 9 * a + 3) (fClamp ((g (6 + 9 * a + 3).toNat) + 1))) (6 + 9 * b + 3) (fClamp ((g (6 + 9 * b + 3).toNat) + 1))) (6 + 9 * a + 6).toNat + 1)) (6 + 9 * a + 8) ((gU (gU (gU g (132 + 16 * r + 1) 2) (6 + 9 * a + 3) (fClamp ((g (6 + 9 * a + 3).toNat) + 1))) (6 + 9 * b + 3) (fClamp ((g (6 + 9 * b + 3).toNat) + 1))) (6 + 9 * a + 8).toNat + (gU (gU (gU g (132 + 16 * r + 1) 2) (6 + 9 * a + 3) (fClamp ((g (6 + 9 * a + 3).toNat) + 1))) (6 + 9 * b + 3) (fClamp ((g (6 + 9 * b + 3).toNat) + 1))) (132 + 16 * r + 0).toNat)) (6 + 9 * b + 6) ((gU (gU (gU g (132 + 16 * r + 1) 2) (6 + 9 * a + 3) (fClamp ((g (6 + 9 * a + 3).toNat) + 1))) (6 + 9 * b + 3) (fClamp ((g (6 + 9 * b + 3).toNat) + 1))) (6 + 9 * b + 6).toNat + 1)) (6 + 9 * b + 8) ((gU (gU (gU g (132 + 16 * r + 1) 2) (6 + 9 * a + 3) (fClamp ((g (6 + 9 * a + 3).toNat) + 1))) (6 + 9 * b + 3) (fClamp ((g (6 + 9 * b + 3).toNat) + 1))) (6 + 9 * b + 8).toNat + (gU (gU (gU g (132 + 16 * r + 1) 2) (6 + 9 * a + 3) (fClamp ((g (6 + 9 * a + 3).toNat) + 1))) (6 + 9 * b + 3) (fClamp ((g (6 + 9 * b + 3).toNat) + 1))) (132 + 16 * r + 0).toNat)) (fFin g r 0 1) := by
  unfold fFin fGain
  rw [h0, h1]
  intro j hj hq
  have hq5 := hq r hr.1 hr.2
  by_cases e0 : j = (132 + 16 * r + 1).toNat
  · subst e0
    first | (simp (disch := omega) only [gUs9, gUn9]; done) | (simp (disch := omega) only [gUs9, gUn9]; first | rfl | assumption | (rw [fClamp_0 (by assumption)]) | omega)
  by_cases e1 : j = (132 + 16 * r + 2).toNat
  · subst e1
    first | (simp (disch := omega) only [gUs9, gUn9]; done) | (simp (disch := omega) only [gUs9, gUn9]; first | rfl | assumption | (rw [fClamp_0 (by assumption)]) | omega)
  by_cases e2 : j = (6 + 9 * a + 3).toNat
  · subst e2
    first | (simp (disch := omega) only [gUs9, gUn9]; done) | (simp (disch := omega) only [gUs9, gUn9]; first | rfl | assumption | (rw [fClamp_0 (by assumption)]) | omega)
  by_cases e3 : j = (6 + 9 * a + 6).toNat
  · subst e3
    first | (simp (disch := omega) only [gUs9, gUn9]; done) | (simp (disch := omega) only [gUs9, gUn9]; first | rfl | assumption | (rw [fClamp_0 (by assumption)]) | omega)
  by_cases e4 : j = (6 + 9 * a + 8).toNat
  · subst e4
    first | (simp (disch := omega) only [gUs9, gUn9]; done) | (simp (disch := omega) only [gUs9, gUn9]; first | rfl | assumption | (rw [fClamp_0 (by assumption)]) | omega)
  by_cases e5 : j = (6 + 9 * b + 3).toNat
  · subst e5
    first | (simp (disch := omega) only [gUs9, gUn9]; done) | (simp (disch := omega) only [gUs9, gUn9]; first | rfl | assumption | (rw [fClamp_0 (by assumption)]) | omega)
  by_cases e6 : j = (6 + 9 * b + 6).toNat
  · subst e6
    first | (simp (disch := omega) only [gUs9, gUn9]; done) | (simp (disch := omega) only [gUs9, gUn9]; first | rfl | assumption | (rw [fClamp_0 (by assumption)]) | omega)
  by_cases e7 : j = (6 + 9 * b + 8).toNat
  · subst e7
    first | (simp (disch := omega) only [gUs9, gUn9]; done) | (simp (disch := omega) only [gUs9, gUn9]; first | rfl | assumption | (rw [fClamp_0 (by assumption)]) | omega)
  first | (simp (disch := omega) only [gUs9, gUn9]; done) | (simp (disch := omega) only [gUs9, gUn9]; first | rfl | assumption | (rw [fClamp_0 (by assumption)]) | omega)
theorem kd_4 {g : Gm} {r a b d : Int} (hr : 0 ≤ r ∧ r < 24) (h0 : (g (132 + 16 * r + (7 + 3 * 0 + 0)).toNat) = a) (h1 : (g (132 + 16 * r + (7 + 3 * 1 + 0)).toNat) = b) (h2 : (g (132 + 16 * r + (7 + 3 * 2 + 0)).toNat) = d) (ha : 0 ≤ a ∧ a < 6) (hb : 0 ≤ b ∧ b < 6) (hd : 0 ≤ d ∧ d < 6) (hab : a ≠ b) (had : a ≠ d) (hbd : b ≠ d) (htb : 0 ≤ (g (6 + 9 * b + 3).toNat) ∧ (g (6 + 9 * b + 3).toNat) ≤ 20) : SmG (gU (gU (gU (gU (gU (gU (gU (gU (gU g (132 + 16 * r + 1) 2) (6 + 9 * a + 3) (fClamp ((g (6 + 9 * a + 3).toNat) + 1))) (6 + 9 * b + 3) (fClamp ((g (6 + 9 * b + 3).toNat) + 0))) (6 + 9 * d + 3) (fClamp ((g (6 + 9 * d + 3).toNat) + 1))) (132 + 16 * r + 2) (if (g (6 + 9 * a + 3).toNat) < (g (6 + 9 * d + 3).toNat) then (g (132 + 16 * r + (7 + 3 * 2 + 1)).toNat) else (g (132 + 16 * r + (7 + 3 * 0 + 1)).toNat))) (6 + 9 * a + 6) ((gU (gU (gU (gU g (132 + 16 * r + 1) 2) (6 + 9 * a + 3) (fClamp ((g (6 + 9 * a + 3).toNat) + 1))) (6 + 9 * b + 3) (fClamp ((g (6 + 9 * b + 3).toNat) + 0))) (6 + 9 * d + 3) (fClamp ((g (6 + 9 * d + 3).toNat) + 1))) (6 + 9 * a + 6).toNat + 1)) (6 + 9 * a + 8) ((gU (gU (gU (gU g (132 + 16 * r + 1) 2) (6 + 9 * a + 3) (fClamp ((g (6 + 9 * a + 3).toNat) + 1))) (6 + 9 * b + 3) (fClamp ((g (6 + 9 * b + 3).toNat) + 0))) (6 + 9 * d + 3) (fClamp ((g (6 + 9 * d + 3).toNat) + 1))) (6 + 9 * a + 8).toNat + (gU (gU (gU (gU g (132 + 16 * r + 1) 2) (6 + 9 * a + 3) (fClamp ((g (6 + 9 * a + 3).toNat) + 1))) (6 + 9 * b + 3) (fClamp ((g (6 + 9 * b + 3).toNat) + 0))) (6 + 9 * d + 3) (fClamp ((g (6 + 9 * d + 3).toNat) + 1))) (132 + 16 * r + 0).toNat)) (6 + 9 * d + 6) ((gU (gU (gU (gU g (132 + 16 * r + 1) 2) (6 + 9 * a + 3) (fClamp ((g (6 + 9 * a + 3).toNat) + 1))) (6 + 9 * b + 3) (fClamp ((g (6 + 9 * b + 3).toNat) + 0))) (6 + 9 * d + 3) (fClamp ((g (6 + 9 * d + 3).toNat) + 1))) (6 + 9 * d + 6).toNat + 1)) (6 + 9 * d + 8) ((gU (gU (gU (gU g (132 + 16 * r + 1) 2) (6 + 9 * a + 3) (fClamp ((g (6 + 9 * a + 3).toNat) + 1))) (6 + 9 * b + 3) (fClamp ((g (6 + 9 * b + 3).toNat) + 0))) (6 + 9 * d + 3) (fClamp ((g (6 + 9 * d + 3).toNat) + 1))) (6 + 9 * d + 8).toNat + (gU (gU (gU (gU g (132 + 16 * r + 1) 2) (6 + 9 * a + 3) (fClamp ((g (6 + 9 * a + 3).toNat) + 1))) (6 + 9 * b + 3) (fClamp ((g (6 + 9 * b + 3).toNat) + 0))) (6 + 9 * d + 3) (fClamp ((g (6 + 9 * d + 3).toNat) + 1))) (132 + 16 * r + 0).toNat)) (fFin g r 0 2) := by
  unfold fFin fGain
  rw [h0, h2]
  intro j hj hq
  have hq5 := hq r hr.1 hr.2
  by_cases e0 : j = (132 + 16 * r + 1).toNat
  · subst e0
    first | (simp (disch := omega) only [gUs9, gUn9]; done) | (simp (disch := omega) only [gUs9, gUn9]; first | rfl | assumption | (rw [fClamp_0 (by assumption)]) | omega)
  by_cases e1 : j = (132 + 16 * r + 2).toNat
  · subst e1
    first | (simp (disch := omega) only [gUs9, gUn9]; done) | (simp (disch := omega) only [gUs9, gUn9]; first | rfl | assumption | (rw [fClamp_0 (by assumption)]) | omega)
  by_cases e2 : j = (6 + 9 * a + 3).toNat
  · subst e2
    first | (simp (disch := omega) only [gUs9, gUn9]; done) | (simp (disch := omega) only [gUs9, gUn9]; first | rfl | assumption | (rw [fClamp_0 (by assumption)]) | omega)
  by_cases e3 : j = (6 + 9 * a + 6).toNat
  · subst e3
    first | (simp (disch := omega) only [gUs9, gUn9]; done) | (simp (disch := omega) only [gUs9, gUn9]; first | rfl | assumption | (rw [fClamp_0 (by assumption)]) | omega)
  by_cases e4 : j = (6 + 9 * a + 8).toNat
  · subst e4
    first | (simp (disch := omega) only [gUs9, gUn9]; done) | (simp (disch := omega) only [gUs9, gUn9]; first | rfl | assumption | (rw [fClamp_0 (by assumption)]) | omega)
  by_cases e5 : j = (6 + 9 * b + 3).toNat
  · subst e5
    first | (simp (disch := omega) only [gUs9, gUn9]; done) | (simp (disch := omega) only [gUs9, gUn9]; first | rfl | assumption | (rw [fClamp_0 (by assumption)]) | omega)
  by_cases e6 : j = (6 + 9 * d + 3).toNat
  · subst e6
    first | (simp (disch := omega) only [gUs9, gUn9]; done) | (simp (disch := omega) only [gUs9, gUn9]; first | rfl | assumption | (rw [fClamp_0 (by assumption)]) | omega)
  by_cases e7 : j = (6 + 9 * d + 6).toNat
  · subst e7
    first | (simp (disch := omega) only [gUs9, gUn9]; done) | (simp (disch := omega) only [gUs9, gUn9]; first | rfl | assumption | (rw [fClamp_0 (by assumption)]) | omega)
  by_cases e8 : j = (6 + 9 * d + 8).toNat
  · subst e8
    first | (simp (disch := omega) only [gUs9, gUn9]; done) | (simp (disch := omega) only [gUs9, gUn9]; first | rfl | assumption | (rw [fClamp_0 (by assumption)]) | omega)
  first | (simp (disch := omega) only [gUs9, gUn9]; done) | (simp (disch := omega) only [gUs9, gUn9]; first | rfl | assumption | (rw [fClamp_0 (by assumption)]) | omega)
theorem kd_4x {g : Gm} {r a b d : Int} (hr : 0 ≤ r ∧ r < 24) (h0 : (g (132 + 16 * r + (7 + 3 * 0 + 0)).toNat) = a) (h1 : (g (132 + 16 * r + (7 + 3 * 1 + 0)).toNat) = b) (h2 : (g (132 + 16 * r + (7 + 3 * 2 + 0)).toNat) = d) (ha : 0 ≤ a ∧ a < 6) (hb : 0 ≤ b ∧ b < 6) (hd : 0 ≤ d ∧ d < 6) (hab : a ≠ b) (had : a ≠ d) (hbd : b ≠ d) : SmG (gU (gU (gU (gU (gU (gU (gU (gU (gU g (132 + 16 * r + 1) 2) (6 + 9 * a + 3) (fClamp ((g (6 + 9 * a + 3).toNat) + 1))) (6 + 9 * b + 3) (fClamp ((g (6 + 9 * b + 3).toNat) + -3))) (6 + 9 * d + 3) (fClamp ((g (6 + 9 * d + 3).toNat) + 1))) (132 + 16 * r + 2) (if (g (6 + 9 * a + 3).toNat) < (g (6 + 9 * d + 3).toNat) then (g (132 + 16 * r + (7 + 3 * 2 + 1)).toNat) else (g (132 + 16 * r + (7 + 3 * 0 + 1)).toNat))) (6 + 9 * a + 6) ((gU (gU (gU (gU g (132 + 16 * r + 1) 2) (6 + 9 * a + 3) (fClamp ((g (6 + 9 * a + 3).toNat) + 1))) (6 + 9 * b + 3) (fClamp ((g (6 + 9 * b + 3).toNat) + -3))) (6 + 9 * d + 3) (fClamp ((g (6 + 9 * d + 3).toNat) + 1))) (6 + 9 * a + 6).toNat + 1)) (6 + 9 * a + 8) ((gU (gU (gU (gU g (132 + 16 * r + 1) 2) (6 + 9 * a + 3) (fClamp ((g (6 + 9 * a + 3).toNat) + 1))) (6 + 9 * b + 3) (fClamp ((g (6 + 9 * b + 3).toNat) + -3))) (6 + 9 * d + 3) (fClamp ((g (6 + 9 * d + 3).toNat) + 1))) (6 + 9 * a + 8).toNat + (gU (gU (gU (gU g (132 + 16 * r + 1) 2) (6 + 9 * a + 3) (fClamp ((g (6 + 9 * a + 3).toNat) + 1))) (6 + 9 * b + 3) (fClamp ((g (6 + 9 * b + 3).toNat) + -3))) (6 + 9 * d + 3) (fClamp ((g (6 + 9 * d + 3).toNat) + 1))) (132 + 16 * r + 0).toNat)) (6 + 9 * d + 6) ((gU (gU (gU (gU g (132 + 16 * r + 1) 2) (6 + 9 * a + 3) (fClamp ((g (6 + 9 * a + 3).toNat) + 1))) (6 + 9 * b + 3) (fClamp ((g (6 + 9 * b + 3).toNat) + -3))) (6 + 9 * d + 3) (fClamp ((g (6 + 9 * d + 3).toNat) + 1))) (6 + 9 * d + 6).toNat + 1)) (6 + 9 * d + 8) ((gU (gU (gU (gU g (132 + 16 * r + 1) 2) (6 + 9 * a + 3) (fClamp ((g (6 + 9 * a + 3).toNat) + 1))) (6 + 9 * b + 3) (fClamp ((g (6 + 9 * b + 3).toNat) + -3))) (6 + 9 * d + 3) (fClamp ((g (6 + 9 * d + 3).toNat) + 1))) (6 + 9 * d + 8).toNat + (gU (gU (gU (gU g (132 + 16 * r + 1) 2) (6 + 9 * a + 3) (fClamp ((g (6 + 9 * a + 3).toNat) + 1))) (6 + 9 * b + 3) (fClamp ((g (6 + 9 * b + 3).toNat) + -3))) (6 + 9 * d + 3) (fClamp ((g (6 + 9 * d + 3).toNat) + 1))) (132 + 16 * r + 0).toNat)) (gU (fFin g r 0 2) (6 + 9 * b + 3) (fClamp ((g (6 + 9 * b + 3).toNat) + -3))) := by
  unfold fFin fGain
  rw [h0, h2]
  intro j hj hq
  have hq5 := hq r hr.1 hr.2
  by_cases e0 : j = (132 + 16 * r + 1).toNat
  · subst e0
    first | (simp (disch := omega) only [gUs9, gUn9]; done) | (simp (disch := omega) only [gUs9, gUn9]; first | rfl | assumption | (rw [fClamp_0 (by assumption)]) | omega)
  by_cases e1 : j = (132 + 16 * r + 2).toNat
  · subst e1
    first | (simp (disch := omega) only [gUs9, gUn9]; done) | (simp (disch := omega) only [gUs9, gUn9]; first | rfl | assumption | (rw [fClamp_0 (by assumption)]) | omega)
  by_cases e2 : j = (6 + 9 * a + 3).toNat
  · subst e2
    first | (simp (disch := omega) only [gUs9, gUn9]; done) | (simp (disch := omega) only [gUs9, gUn9]; first | rfl | assumption | (rw [fClamp_0 (by assumption)]) | omega)
  by_cases e3 : j = (6 + 9 * a + 6).toNat
  · subst e3
    first | (simp (disch := omega) only [gUs9, gUn9]; done) | (simp (disch := omega) only [gUs9, gUn9]; first | rfl | assumption | (rw [fClamp_0 (by assumption)]) | omega)
  by_cases e4 : j = (6 + 9 * a + 8).toNat
  · subst e4
    first | (simp (disch := omega) only [gUs9, gUn9]; done) | (simp (disch := omega) only [gUs9, gUn9]; first | rfl | assumption | (rw [fClamp_0 (by assumption)]) | omega)
  by_cases e5 : j = (6 + 9 * b + 3).toNat
  · subst e5
    first | (simp (disch := omega) only [gUs9, gUn9]; done) | (simp (disch := omega) only [gUs9, gUn9]; first | rfl | assumption | (rw [fClamp_0 (by assumption)]) | omega)
  by_cases e6 : j = (6 + 9 * d + 3).toNat
  · subst e6
    first | (simp (disch := omega) only [gUs9, gUn9]; done) | (simp (disch := omega) only [gUs9, gUn9]; first | rfl | assumption | (rw [fClamp_0 (by assumption)]) | omega)
  by_cases e7 : j = (6 + 9 * d + 6).toNat
  · subst e7
    first | (simp (disch := omega) only [gUs9, gUn9]; done) | (simp (disch := omega) only [gUs9, gUn9]; first | rfl | assumption | (rw [fClamp_0 (by assumption)]) | omega)
  by_cases e8 : j = (6 + 9 * d + 8).toNat
  · subst e8
    first | (simp (disch := omega) only [gUs9, gUn9]; done) | (simp (disch := omega) only [gUs9, gUn9]; first | rfl | assumption | (rw [fClamp_0 (by assumption)]) | omega)
  first | (simp (disch := omega) only [gUs9, gUn9]; done) | (simp (disch := omega) only [gUs9, gUn9]; first | rfl | assumption | (rw [fClamp_0 (by assumption)]) | omega)
theorem kd_5 {g : Gm} {r a b d : Int} (hr : 0 ≤ r ∧ r < 24) (h0 : (g (132 + 16 * r + (7 + 3 * 0 + 0)).toNat) = a) (h1 : (g (132 + 16 * r + (7 + 3 * 1 + 0)).toNat) = b) (h2 : (g (132 + 16 * r + (7 + 3 * 2 + 0)).toNat) = d) (ha : 0 ≤ a ∧ a < 6) (hb : 0 ≤ b ∧ b < 6) (hd : 0 ≤ d ∧ d < 6) (hab : a ≠ b) (had : a ≠ d) (hbd : b ≠ d) (hta : 0 ≤ (g (6 + 9 * a + 3).toNat) ∧ (g (6 + 9 * a + 3).toNat) ≤ 20) : SmG (gU (gU (gU (gU (gU (gU (gU (gU (gU g (132 + 16 * r + 1) 2) (6 + 9 * a + 3) (fClamp ((g (6 + 9 * a + 3).toNat) + 0))) (6 + 9 * b + 3) (fClamp ((g (6 + 9 * b + 3).toNat) + 1))) (6 + 9 * d + 3) (fClamp ((g (6 + 9 * d + 3).toNat) + 1))) (132 + 16 * r + 2) (if (g (6 + 9 * b + 3).toNat) < (g (6 + 9 * d + 3).toNat) then (g (132 + 16 * r + (7 + 3 * 2 + 1)).toNat) else (g (132 + 16 * r + (7 + 3 * 1 + 1)).toNat))) (6 + 9 * b + 6) ((gU (gU (gU (gU g (132 + 16 * r + 1) 2) (6 + 9 * a + 3) (fClamp ((g (6 + 9 * a + 3).toNat) + 0))) (6 + 9 * b + 3) (fClamp ((g (6 + 9 * b + 3).toNat) + 1))) (6 + 9 * d + 3) (fClamp ((g (6 + 9 * d + 3).toNat) + 1))) (6 + 9 * b + 6).toNat + 1)) (6 + 9 * b + 8) ((gU (gU (gU (gU g (132 + 16 * r + 1) 2) (6 + 9 * a + 3) (fClamp ((g (6 + 9 * a + 3).toNat) + 0))) (6 + 9 * b + 3) (fClamp ((g (6 + 9 * b + 3).toNat) + 1))) (6 + 9 * d + 3) (fClamp ((g (6 + 9 * d + 3).toNat) + 1))) (6 + 9 * b + 8).toNat + (gU (gU (gU (gU g (132 + 16 * r + 1) 2) (6 + 9 * a + 3) (fClamp ((g (6 + 9 * a + 3).toNat) + 0))) (6 + 9 * b + 3) (fClamp ((g (6 + 9 * b + 3).toNat) + 1))) (6 + 9 * d + 3) (fClamp ((g (6 + 9 * d + 3).toNat) + 1))) (132 + 16 * r + 0).toNat)) (6 + 9 * d + 6) ((gU (gU (gU (gU g (132 + 16 * r + 1) 2) (6 + 9 * a + 3) (fClamp ((g (6 + 9 * a + 3).toNat) + 0))) (6 + 9 * b + 3) (fClamp ((g (6 + 9 * b + 3).toNat) + 1))) (6 + 9 * d + 3) (fClamp ((g (6 + 9 * d + 3).toNat) + 1))) (6 + 9 * d + 6).toNat + 1)) (6 + 9 * d + 8) ((gU (gU (gU (gU g (132 + 16 * r + 1) 2) (6 + 9 * a + 3) (fClamp ((g (6 + 9 * a + 3).toNat) + 0))) (6 + 9 * b + 3) (fClamp ((g (6 + 9 * b + 3).toNat) + 1))) (6 + 9 * d + 3) (fClamp ((g (6 + 9 * d + 3).toNat) + 1))) (6 + 9 * d + 8).toNat + (gU (gU (gU (gU g (132 + 16 * r + 1) 2) (6 + 9 * a + 3) (fClamp ((g (6 + 9 * a + 3).toNat) + 0))) (6 + 9 * b + 3) (fClamp ((g (6 + 9 * b + 3).toNat) + 1))) (6 + 9 * d + 3) (fClamp ((g (6 + 9 * d + 3).toNat) + 1))) (132 + 16 * r + 0).toNat)) (fFin g r 1 2) := by
  unfold fFin fGain
  rw [h1, h2]
  intro j hj hq
  have hq5 := hq r hr.1 hr.2
  by_cases e0 : j = (132 + 16 * r + 1).toNat
  · subst e0
    first | (simp (disch := omega) only [gUs9, gUn9]; done) | (simp (disch := omega) only [gUs9, gUn9]; first | rfl | assumption | (rw [fClamp_0 (by assumption)]) | omega)
  by_cases e1 : j = (132 + 16 * r + 2).toNat
  · subst e1
    first | (simp (disch := omega) only [gUs9, gUn9]; done) | (simp (disch := omega) only [gUs9, gUn9]; first | rfl | assumption | (rw [fClamp_0 (by assumption)]) | omega)
  by_cases e2 : j = (6 + 9 * a + 3).toNat
  · subst e2
    first | (simp (disch := omega) only [gUs9, gUn9]; done) | (simp (disch := omega) only [gUs9, gUn9]; first | rfl | assumption | (rw [fClamp_0 (by assumption)]) | omega)
  by_cases e3 : j = (6 + 9 * b + 3).toNat
  · subst e3
    first | (simp (disch := omega) only [gUs9, gUn9]; done) | (simp (disch := omega) only [gUs9, gUn9]; first | rfl | assumption | (rw [fClamp_0 (by assumption)]) | omega)
  by_cases e4 : j = (6 + 9 * b + 6).toNat
  · subst e4
    first | (simp (disch := omega) only [gUs9, gUn9]; done) | (simp (disch := omega) only [gUs9, gUn9]; first | rfl | assumption | (rw [fClamp_0 (by assumption)]) | omega)
  by_cases e5 : j = (6 + 9 * b + 8).toNat
  · subst e5
    first | (simp (disch := omega) only [gUs9, gUn9]; done) | (simp (disch := omega) only [gUs9, gUn9]; first | rfl | assumption | (rw [fClamp_0 (by assumption)]) | omega)
  by_cases e6 : j = (6 + 9 * d + 3).toNat
  · subst e6
    first | (simp (disch := omega) only [gUs9, gUn9]; done) | (simp (disch := omega) only [gUs9, gUn9]; first | rfl | assumption | (rw [fClamp_0 (by assumption)]) | omega)
  by_cases e7 : j = (6 + 9 * d + 6).toNat
  · subst e7
    first | (simp (disch := omega) only [gUs9, gUn9]; done) | (simp (disch := omega) only [gUs9, gUn9]; first | rfl | assumption | (rw [fClamp_0 (by assumption)]) | omega)
  by_cases e8 : j = (6 + 9 * d + 8).toNat
  · subst e8
    first | (simp (disch := omega) only [gUs9, gUn9]; done) | (simp (disch := omega) only [gUs9, gUn9]; first | rfl | assumption | (rw [fClamp_0 (by assumption)]) | omega)
  first | (simp (disch := omega) only [gUs9, gUn9]; done) | (simp (disch := omega) only [gUs9, gUn9]; first | rfl | assumption | (rw [fClamp_0 (by assumption)]) | omega)
theorem kd_5x {g : Gm} {r a b d : Int} (hr : 0 ≤ r ∧ r < 24) (h0 : (g (132 + 16 * r + (7 + 3 * 0 + 0)).toNat) = a) (h1 : (g (132 + 16 * r + (7 + 3 * 1 + 0)).toNat) = b) (h2 : (g (132 + 16 * r + (7 + 3 * 2 + 0)).toNat) = d) (ha : 0 ≤ a ∧ a < 6) (hb : 0 ≤ b ∧ b < 6) (hd : 0 ≤ d ∧ d < 6) (hab : a ≠ b) (had : a ≠ d) (hbd : b ≠ d) : SmG (gU (gU (gU (gU (gU (gU (gU (gU (gU g (132 + 16 * r + 1) 2) (6 + 9 * a + 3) (fClamp ((g (6 + 9 * a + 3).toNat) + -3))) (6 + 9 * b + 3) (fClamp ((g (6 + 9 * b + 3).toNat) + 1))) (6 + 9 * d + 3) (fClamp ((g (6 + 9 * d + 3).toNat) + 1))) (132 + 16 * r + 2) (if (g (6 + 9 * b + 3).toNat) < (g (6 + 9 * d + 3).toNat) then (g (132 + 16 * r + (7 + 3 * 2 + 1)).toNat) else (g (132 + 16 * r + (7 + 3 * 1 + 1)).toNat))) (6 + 9 * b + 6) ((gU (gU (gU (gU g (132 + 16 * r + 1) 2) (6 + 9 * a + 3) (fClamp ((g (6 + 9 * a + 3).toNat) + -3))) (6 + 9 * b + 3) (fClamp ((g (6 + 9 * b + 3).toNat) + 1))) (6 + 9 * d + 3) (fClamp ((g (6 + 9 * d + 3).toNat) + 1))) (6 + 9 * b + 6).toNat + 1)) (6 + 9 * b + 8) ((gU (gU (gU (gU g (132 + 16 * r + 1) 2) (6 + 9 * a + 3) (fClamp ((g (6 + 9 * a + 3).toNat) + -3))) (6 + 9 * b + 3) (fClamp ((g (6 + 9 * b + 3).toNat) + 1))) (6 + 9 * d + 3) (fClamp ((g (6 + 9 * d + 3).toNat) + 1))) (6 + 9 * b + 8).toNat + (gU (gU (gU (gU g (132 + 16 * r + 1) 2) (6 + 9 * a + 3) (fClamp ((g (6 + 9 * a + 3).toNat) + -3))) (6 + 9 * b + 3) (fClamp ((g (6 + 9 * b + 3).toNat) + 1))) (6 + 9 * d + 3) (fClamp ((g (6 + 9 * d + 3).toNat) + 1))) (132 + 16 * r + 0).toNat)) (6 + 9 * d + 6) ((gU (gU (gU (gU g (132 + 16 * r + 1) 2) (6 + 9 * a + 3) (fClamp ((g (6 + 9 * a + 3).toNat) + -3))) (6 + 9 * b + 3) (fClamp ((g (6 + 9 * b + 3).toNat) + 1))) (6 + 9 * d + 3) (fClamp ((g (6 + 9 * d + 3).toNat) + 1))) (6 + 9 * d + 6).toNat + 1)) (6 + 9 * d + 8) ((gU (gU (gU (gU g (132 + 16 * r + 1) 2) (6 + 9 * a + 3) (fClamp ((g (6 + 9 * a + 3).toNat) + -3))) (6 + 9 * b + 3) (fClamp ((g (6 + 9 * b + 3).toNat) + 1))) (6 + 9 * d + 3) (fClamp ((g (6 + 9 * d + 3).toNat) + 1))) (6 + 9 * d + 8).toNat + (gU (gU (gU (gU g (132 + 16 * r + 1) 2) (6 + 9 * a + 3) (fClamp ((g (6 + 9 * a + 3).toNat) + -3))) (6 + 9 * b + 3) (fClamp ((g (6 + 9 * b + 3).toNat) + 1))) (6 + 9 * d + 3) (fClamp ((g (6 + 9 * d + 3).toNat) + 1))) (132 + 16 * r + 0).toNat)) (gU (fFin g r 1 2) (6 + 9 * a + 3) (fClamp ((g (6 + 9 * a + 3).toNat) + -3))) := by
  unfold fFin fGain
  rw [h1, h2]
  intro j hj hq
  have hq5 := hq r hr.1 hr.2
  by_cases e0 : j = (132 + 16 * r + 1).toNat
  · subst e0
    first | (simp (disch := omega) only [gUs9, gUn9]; done) | (simp (disch := omega) only [gUs9, gUn9]; first | rfl | assumption | (rw [fClamp_0 (by assumption)]) | omega)
  by_cases e1 : j = (132 + 16 * r + 2).toNat
  · subst e1
    first | (simp (disch := omega) only [gUs9, gUn9]; done) | (simp (disch := omega) only [gUs9, gUn9]; first | rfl | assumption | (rw [fClamp_0 (by assumption)]) | omega)
  by_cases e2 : j = (6 + 9 * a + 3).toNat
  · subst e2
    first | (simp (disch := omega) only [gUs9, gUn9]; done) | (simp (disch := omega) only [gUs9, gUn9]; first | rfl | assumption | (rw [fClamp_0 (by assumption)]) | omega)
  by_cases e3 : j = (6 + 9 * b + 3).toNat
  · subst e3
    first | (simp (disch := omega) only [gUs9, gUn9]; done) | (simp (disch := omega) only [gUs9, gUn9]; first | rfl | assumption | (rw [fClamp_0 (by assumption)]) | omega)
  by_cases e4 : j = (6 + 9 * b + 6).toNat
  · subst e4
    first | (simp (disch := omega) only [gUs9, gUn9]; done) | (simp (disch := omega) only [gUs9, gUn9]; first | rfl | assumption | (rw [fClamp_0 (by assumption)]) | omega)
  by_cases e5 : j = (6 + 9 * b + 8).toNat
  · subst e5
    first | (simp (disch := omega) only [gUs9, gUn9]; done) | (simp (disch := omega) only [gUs9, gUn9]; first | rfl | assumption | (rw [fClamp_0 (by assumption)]) | omega)
  by_cases e6 : j = (6 + 9 * d + 3).toNat
  · subst e6
    first | (simp (disch := omega) only [gUs9, gUn9]; done) | (simp (disch := omega) only [gUs9, gUn9]; first | rfl | assumption | (rw [fClamp_0 (by assumption)]) | omega)
  by_cases e7 : j = (6 + 9 * d + 6).toNat
  · subst e7
    first | (simp (disch := omega) only [gUs9, gUn9]; done) | (simp (disch := omega) only [gUs9, gUn9]; first | rfl | assumption | (rw [fClamp_0 (by assumption)]) | omega)
  by_cases e8 : j = (6 + 9 * d + 8).toNat
  · subst e8
    first | (simp (disch := omega) only [gUs9, gUn9]; done) | (simp (disch := omega) only [gUs9, gUn9]; first | rfl | assumption | (rw [fClamp_0 (by assumption)]) | omega)
  first | (simp (disch := omega) only [gUs9, gUn9]; done) | (simp (disch := omega) only [gUs9, gUn9]; first | rfl | assumption | (rw [fClamp_0 (by assumption)]) | omega)
theorem kd_3 {g : Gm} {r a b d : Int} (hr : 0 ≤ r ∧ r < 24) (h0 : (g (132 + 16 * r + (7 + 3 * 0 + 0)).toNat) = a) (h1 : (g (132 + 16 * r + (7 + 3 * 1 + 0)).toNat) = b) (h2 : (g (132 + 16 * r + (7 + 3 * 2 + 0)).toNat) = d) (ha : 0 ≤ a ∧ a < 6) (hb : 0 ≤ b ∧ b < 6) (hd : 0 ≤ d ∧ d < 6) (hab : a ≠ b) (had : a ≠ d) (hbd : b ≠ d) : SmG (gU (gU (gU (gU g (132 + 16 * r + 1) 3) (6 + 9 * a + 3) (fClamp ((g (6 + 9 * a + 3).toNat) + -1))) (6 + 9 * b + 3) (fClamp ((g (6 + 9 * b + 3).toNat) + -1))) (6 + 9 * d + 3) (fClamp ((g (6 + 9 * d + 3).toNat) + -1))) (fAside g r) := by
  unfold fAside
  rw [h0, h1, h2]
  intro j hj hq
  have hq5 := hq r hr.1 hr.2
  by_cases e0 : j = (132 + 16 * r + 1).toNat
  · subst e0
    first | (simp (disch := omega) only [gUs9, gUn9]; done) | (simp (disch := omega) only [gUs9, gUn9]; first | rfl | assumption | (rw [fClamp_0 (by assumption)]) | omega)
  by_cases e1 : j = (6 + 9 * a + 3).toNat
  · subst e1
    first | (simp (disch := omega) only [gUs9, gUn9]; done) | (simp (disch := omega) only [gUs9, gUn9]; first | rfl | assumption | (rw [fClamp_0 (by assumption)]) | omega)
  by_cases e2 : j = (6 + 9 * b + 3).toNat
  · subst e2
    first | (simp (disch := omega) only [gUs9, gUn9]; done) | (simp (disch := omega) only [gUs9, gUn9]; first | rfl | assumption | (rw [fClamp_0 (by assumption)]) | omega)
  by_cases e3 : j = (6 + 9 * d + 3).toNat
  · subst e3
    first | (simp (disch := omega) only [gUs9, gUn9]; done) | (simp (disch := omega) only [gUs9, gUn9]; first | rfl | assumption | (rw [fClamp_0 (by assumption)]) | omega)
  first | (simp (disch := omega) only [gUs9, gUn9]; done) | (simp (disch := omega) only [gUs9, gUn9]; first | rfl | assumption | (rw [fClamp_0 (by assumption)]) | omega)
