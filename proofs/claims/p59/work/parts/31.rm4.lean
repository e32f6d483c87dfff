def fDel1 (G : Gm) (w r x : Int) : Gm := gU (gU G (132 + 16 * r + (7 + 3 * fTakingOf G w r + 1)) x) (6 + 9 * w + 5) ((G (6 + 9 * w + 5).toNat) + 1)
def fDel2 (g : Gm) (r : Int) : Gm := if (g (132 + 16 * r + 1).toNat) = 0 ∧ fHave g r 2 = true then fCmp g r else if (g (132 + 16 * r + 1).toNat) = 1 ∧ fHave g r 3 = true then fDec g r else g
def fDel (G : Gm) (w r x : Int) : Gm := fDel2 (fDel1 G w r x) r
theorem RI.u {g : Gm} {r i v : Int} (h : RI g r) (h1 : (0 ≤ i ∧ i < 132) ∨ ∃ k, 0 ≤ k ∧ k < 3 ∧ i = 132 + 16 * r + (7 + 3 * k + 1)) : RI (gU g i v) r := by
  obtain ⟨hr, hm, hk⟩ := h
  have e6 : gU g i v (132 + 16 * r + 6).toNat = (g (132 + 16 * r + 6).toNat) := gU_n _ (by rcases h1 with q | ⟨k, q⟩ <;> omega)
  refine ⟨hr, by rw [e6]; exact hm, fun k k0 k1 => ?_⟩
  rw [e6] at k1
  rw [gU_n _ (by rcases h1 with q | ⟨l, q⟩ <;> omega)]
  exact hk k k0 k1
theorem DB.w1 {g : Gm} {r n k x : Int} (h : DB g r n) (hn : n ≤ 3) (hk : 0 ≤ k ∧ k < 3) (hx : 0 ≤ x ∧ x ≤ 99) : DB (gU g (132 + 16 * r + (7 + 3 * k + 1)) x) r n := by
  obtain ⟨hr, hs, ht, hq, hd⟩ := h
  refine ⟨hr, by rw [gU_n _ (by omega)]; exact hs, by rw [gU_n _ (by omega)]; exact ht, fun l l0 l1 => ?_, fun l m l0 l1 l2 => ?_⟩
  · obtain ⟨b1, b2, b3⟩ := hq l l0 l1
    have ew : gU g (132 + 16 * r + (7 + 3 * k + 1)) x (132 + 16 * r + (7 + 3 * l + 0)).toNat = (g (132 + 16 * r + (7 + 3 * l + 0)).toNat) := gU_n _ (by omega)
    rw [ew]
    refine ⟨b1, ?_, ?_⟩
    · by_cases e : l = k
      · subst e; rw [gU_s]; omega
      · rw [gU_n _ (by omega)]; exact b2
    · unfold WBd at *
      rw [gU_n _ (by omega), gU_n _ (by omega), gU_n _ (by omega)]
      exact b3
  · rw [gU_n _ (by omega), gU_n _ (by omega)]
    exact hd l m l0 l1 l2
theorem DB.w2 {g : Gm} {r n w v : Int} (h : DB g r n) (hn : n ≤ 3) (hw : 0 ≤ w ∧ w < 6) : DB (gU g (6 + 9 * w + 5) v) r n := by
  obtain ⟨hr, hs, ht, hq, hd⟩ := h
  refine ⟨hr, by rw [gU_n _ (by omega)]; exact hs, by rw [gU_n _ (by omega)]; exact ht, fun l l0 l1 => ?_, fun l m l0 l1 l2 => ?_⟩
  · obtain ⟨b1, b2, b3⟩ := hq l l0 l1
    have ew : gU g (6 + 9 * w + 5) v (132 + 16 * r + (7 + 3 * l + 0)).toNat = (g (132 + 16 * r + (7 + 3 * l + 0)).toNat) := gU_n _ (by omega)
    rw [ew]
    refine ⟨b1, by rw [gU_n _ (by omega)]; exact b2, ?_⟩
    unfold WBd at *
    rw [gU_n _ (by omega), gU_n _ (by omega), gU_n _ (by omega)]
    exact b3
  · rw [gU_n _ (by omega), gU_n _ (by omega)]
    exact hd l m l0 l1 l2
theorem DB.of {G : Gm} {r n : Int} (hG : GI G) (hV : GV G) (hX : GX G) (hr : 0 ≤ r ∧ r < G 5) (hn : n ≤ (G (132 + 16 * r + 6).toNat)) : DB G r n := by
  have hR := hG.2.2 r hr.1 hr.2
  have hv := hV.2.2.2.2.2.1 r hr.1 hr.2
  have hx := hX.1 r hr.1 hr.2
  refine ⟨hR.1, hv.1, hV.1, fun k k0 k1 => ?_, fun k l k0 k1 l1 => hx.2.1 k l k0 k1 (by omega)⟩
  have h4 := (hx.1 k k0 (by omega)).1
  have hb := hR.2.2 k k0 (by omega)
  have hw := hV.2.2.2.2.1 _ hb.1 h4
  exact ⟨hb, (hv.2.2.2.2.2 k k0 (by omega)).1, hw.2.2.1, hw.2.2.2.2.2.1, hw.2.2.2.2.2.2.2⟩
theorem fHave_c {g : Gm} {r n : Int} (hm : 0 ≤ (g (132 + 16 * r + 6).toNat)) (h : fHave g r n = true) : (g (132 + 16 * r + 6).toNat) = n ∧ ∀ k : Int, 0 ≤ k → k < n → (g (132 + 16 * r + (7 + 3 * k + 1)).toNat) ≠ -1 := by
  have key : ∀ i, 0 ≤ i → i ≤ (g (132 + 16 * r + 6).toNat) → foldI (fun k b => b && decide ((g (132 + 16 * r + (7 + 3 * k + 1)).toNat) ≠ -1)) (decide ((g (132 + 16 * r + 6).toNat) = n)) i = true → (g (132 + 16 * r + 6).toNat) = n ∧ ∀ k : Int, 0 ≤ k → k < i → (g (132 + 16 * r + (7 + 3 * k + 1)).toNat) ≠ -1 := by
    refine zup (fun i => foldI (fun k b => b && decide ((g (132 + 16 * r + (7 + 3 * k + 1)).toNat) ≠ -1)) (decide ((g (132 + 16 * r + 6).toNat) = n)) i = true → (g (132 + 16 * r + 6).toNat) = n ∧ ∀ k : Int, 0 ≤ k → k < i → (g (132 + 16 * r + (7 + 3 * k + 1)).toNat) ≠ -1) (fun q => ⟨of_decide_eq_true q, fun k k0 k1 => by omega⟩) (fun i h0 h1 ih q => ?_)
    rw [foldI_s h0, Bool.and_eq_true, decide_eq_true_eq] at q
    obtain ⟨e1, e2⟩ := ih q.1
    refine ⟨e1, fun k k0 k1 => ?_⟩
    by_cases e : k = i
    · subst e; exact q.2
    · exact e2 k k0 (by omega)
  obtain ⟨e1, e2⟩ := key _ hm (Int.le_refl _) h
  exact ⟨e1, fun k k0 k1 => e2 k k0 (by omega)⟩
