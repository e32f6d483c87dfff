theorem A_sk {M : ZM} {b κ κ9 s n v : Nat} (hw : zW M b κ) (hv : v = zN M) : zN (zsR (zNw M κ9 n) b s (some v)) = zN M + 1 ∧ UB b M (zsR (zNw M κ9 n) b s (some v)) ∧ zW (zsR (zNw M κ9 n) b s (some v)) b κ ∧ (zW (zsR (zNw M κ9 n) b s (some v)) v κ9 ∧ zLn (zsR (zNw M κ9 n) b s (some v)) v = n ∧ zI (zsR (zNw M κ9 n) b s (some v)) v = fun _ => 0) ∧ zR (zsR (zNw M κ9 n) b s (some v)) b s = some v ∧ (∀ p, p ≠ s → zR (zsR (zNw M κ9 n) b s (some v)) b p = zR M b p) ∧ (∀ j κ', zW M j κ' → zW (zsR (zNw M κ9 n) b s (some v)) j κ' ∧ zLn (zsR (zNw M κ9 n) b s (some v)) j = zLn M j ∧ zI (zsR (zNw M κ9 n) b s (some v)) j = zI M j) := by
  have h64 : zCC ≤ zN M := Nat.le_trans hw.2.1 (Nat.le_of_lt hw.2.2)
  have hb0 : b ≠ zN M := Nat.ne_of_lt hw.2.2
  have k1 : ∀ j κ', zW M j κ' → zW (zsR (zNw M κ9 n) b s (some v)) j κ' := fun j κ' h => zW.nw (κ' := κ9) (n := n) h
  refine ⟨rfl, (UB.n (Nat.le_of_lt hw.2.2)).tr (UB.r (Nat.le_refl _)), k1 _ _ hw, ⟨?_, ?_, ?_⟩, up2_s _ _ _ _, fun p hp => (up2_m _ _ _ _ _ hp).trans (congrFun (up1_n _ _ _ hb0) p), fun j κ' h => ⟨k1 j κ' h, up1_n _ _ _ (Nat.ne_of_lt h.2.2), up1_n _ _ _ (Nat.ne_of_lt h.2.2)⟩⟩
  · rw [hv]; exact zW.nn (κ := κ9) (n := n) h64
  · rw [hv]; exact up1_s _ _ _
  · rw [hv]; exact up1_s _ _ _
theorem TA_mk {M0 M : ZM} {t : Nat} (u0 : UB t M0 M) (hw : zW M t 8) (hn : zN M = t + 1) (hi : zI M t 0 = 0 ∧ zI M t 1 = 10 ∧ zI M t 2 = 5 ∧ zI M t 3 = 0 ∧ zI M t 4 = 0 ∧ zI M t 5 = 0) : TA M0 t (zsR (zNw (zsR (zNw (zsR (zNw (zsR (zNw M 30 6) t 6 (some (t + 1))) 31 24) t 7 (some (t + 2))) 20 36) t 8 (some (t + 3))) 20 36) t 9 (some (t + 4))) ∧ zN (zsR (zNw (zsR (zNw (zsR (zNw (zsR (zNw M 30 6) t 6 (some (t + 1))) 31 24) t 7 (some (t + 2))) 20 36) t 8 (some (t + 3))) 20 36) t 9 (some (t + 4))) = t + 5 := by
  obtain ⟨a1, a2, a3, ⟨a4, a5, a6⟩, a7, a8, a9⟩ := A_sk (κ9 := 30) (s := 6) (n := 6) (v := t + 1) hw hn.symm
  obtain ⟨A1, hA1⟩ : ∃ A1, zsR (zNw M 30 6) t 6 (some (t + 1)) = A1 := ⟨_, rfl⟩
  rw [hA1] at a1 a2 a3 a4 a5 a6 a7 a8 a9 ⊢
  obtain ⟨b1, b2, b3, ⟨b4, b5, b6⟩, b7, b8, b9⟩ := A_sk (κ9 := 31) (s := 7) (n := 24) (v := t + 2) a3 (by rw [a1, hn])
  obtain ⟨A2, hA2⟩ : ∃ A2, zsR (zNw A1 31 24) t 7 (some (t + 2)) = A2 := ⟨_, rfl⟩
  rw [hA2] at b1 b2 b3 b4 b5 b6 b7 b8 b9 ⊢
  obtain ⟨c1, c2, c3, ⟨c4, c5, c6⟩, c7, c8, c9⟩ := A_sk (κ9 := 20) (s := 8) (n := 36) (v := t + 3) b3 (by rw [b1, a1, hn])
  obtain ⟨A3, hA3⟩ : ∃ A3, zsR (zNw A2 20 36) t 8 (some (t + 3)) = A3 := ⟨_, rfl⟩
  rw [hA3] at c1 c2 c3 c4 c5 c6 c7 c8 c9 ⊢
  obtain ⟨d1, d2, d3, ⟨d4, d5, d6⟩, d7, d8, d9⟩ := A_sk (κ9 := 20) (s := 9) (n := 36) (v := t + 4) c3 (by rw [c1, b1, a1, hn])
  obtain ⟨A4, hA4⟩ : ∃ A4, zsR (zNw A3 20 36) t 9 (some (t + 4)) = A4 := ⟨_, rfl⟩
  rw [hA4] at d1 d2 d3 d4 d5 d6 d7 d8 d9 ⊢
  have x1 := b9 _ _ a4
  have x2 := c9 _ _ x1.1
  have x3 := d9 _ _ x2.1
  have y2 := c9 _ _ b4
  have y3 := d9 _ _ y2.1
  have z3 := d9 _ _ c4
  have t1 := a9 _ _ hw
  have t2 := b9 _ _ t1.1
  have t3 := c9 _ _ t2.1
  have t4 := d9 _ _ t3.1
  have ti : zI A4 t = zI M t := t4.2.2.trans (t3.2.2.trans (t2.2.2.trans t1.2.2))
  have hN : zN A4 = t + 5 := by rw [d1, c1, b1, a1, hn]
  refine ⟨⟨(((u0.tr a2).tr b2).tr c2).tr d2, by rw [hN]; exact Nat.le_refl _, d3, by rw [ti]; exact hi, ⟨?_, ?_, ?_, d7⟩, ⟨x3.1, x3.2.1.trans (x2.2.1.trans (x1.2.1.trans a5))⟩, ⟨y3.1, y3.2.1.trans (y2.2.1.trans b5)⟩, ⟨z3.1, z3.2.1.trans c5⟩, ⟨d4, d5⟩, fun k => ⟨?_, ?_⟩⟩, hN⟩
  · rw [d8 6 (by decide), c8 6 (by decide), b8 6 (by decide)]; exact a7
  · rw [d8 7 (by decide), c8 7 (by decide)]; exact b7
  · rw [d8 8 (by decide)]; exact c7
  · rw [z3.2.2, c6]
  · rw [d6]
