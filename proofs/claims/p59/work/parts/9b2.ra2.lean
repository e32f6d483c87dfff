theorem IV.step {k k' : Int} {G G' : Gm} (h : IV k G) (hk : k ≤ k' ∧ k' ≤ 1000) (ht : IVt k' G') (h4 : G' 4 = G 4) (h5 : G' 5 = G 5) (hw : ∀ w, 0 ≤ w → w < G 4 → IVw k' G' w ∨ ∀ j : Int, 0 ≤ j → j < 9 → G' (6 + 9 * w + j).toNat = G (6 + 9 * w + j).toNat) (hr : ∀ r, 0 ≤ r → r < G 5 → IVr k' G' r ∨ ∀ j : Int, 0 ≤ j → j < 16 → G' (132 + 16 * r + j).toNat = G (132 + 16 * r + j).toNat) (hp : IVp k' G' ∨ ∀ j : Nat, 60 ≤ j → j < 132 → G' j = G j) : IV k' G' := by
  refine ⟨by have := h.1; omega, ht, fun w w0 w1 => ?_, fun r r0 r1 => ?_, ?_⟩
  · rw [h4] at w1
    rcases hw w w0 w1 with z | z
    · exact z
    · exact (h.2.2.1 w w0 w1).up hk.1 z
  · rw [h5] at r1
    rcases hr r r0 r1 with z | z
    · exact z
    · exact (h.2.2.2.1 r r0 r1).up hk.1 (by rw [h4]; exact Int.le_refl _) z
  · rcases hp with z | z
    · exact z
    · exact h.2.2.2.2.up hk.1 z
theorem IVw.u3 {k k' : Int} {G : Gm} {w v : Int} (h : IVw k G w) (hk : k ≤ k') (w0 : 0 ≤ w) (hv : 0 ≤ v ∧ v ≤ 20) : IVw k' (gU G (6 + 9 * w + 3) v) w := by
  unfold IVw at h ⊢
  rw [gU_s, gU_n _ (show (6 + 9 * w + 0).toNat ≠ (6 + 9 * w + 3).toNat by omega), gU_n _ (show (6 + 9 * w + 1).toNat ≠ (6 + 9 * w + 3).toNat by omega), gU_n _ (show (6 + 9 * w + 2).toNat ≠ (6 + 9 * w + 3).toNat by omega), gU_n _ (show (6 + 9 * w + 4).toNat ≠ (6 + 9 * w + 3).toNat by omega), gU_n _ (show (6 + 9 * w + 5).toNat ≠ (6 + 9 * w + 3).toNat by omega), gU_n _ (show (6 + 9 * w + 6).toNat ≠ (6 + 9 * w + 3).toNat by omega), gU_n _ (show (6 + 9 * w + 7).toNat ≠ (6 + 9 * w + 3).toNat by omega), gU_n _ (show (6 + 9 * w + 8).toNat ≠ (6 + 9 * w + 3).toNat by omega)]
  omega
theorem IVw.u4 {k k' : Int} {G : Gm} {w v : Int} (h : IVw k G w) (hk : k ≤ k') (w0 : 0 ≤ w) (hv : 0 ≤ v ∧ v ≤ 100 * k') : IVw k' (gU G (6 + 9 * w + 4) v) w := by
  unfold IVw at h ⊢
  rw [gU_s, gU_n _ (show (6 + 9 * w + 0).toNat ≠ (6 + 9 * w + 4).toNat by omega), gU_n _ (show (6 + 9 * w + 1).toNat ≠ (6 + 9 * w + 4).toNat by omega), gU_n _ (show (6 + 9 * w + 2).toNat ≠ (6 + 9 * w + 4).toNat by omega), gU_n _ (show (6 + 9 * w + 3).toNat ≠ (6 + 9 * w + 4).toNat by omega), gU_n _ (show (6 + 9 * w + 5).toNat ≠ (6 + 9 * w + 4).toNat by omega), gU_n _ (show (6 + 9 * w + 6).toNat ≠ (6 + 9 * w + 4).toNat by omega), gU_n _ (show (6 + 9 * w + 7).toNat ≠ (6 + 9 * w + 4).toNat by omega), gU_n _ (show (6 + 9 * w + 8).toNat ≠ (6 + 9 * w + 4).toNat by omega)]
  omega
theorem IVw.u5 {k k' : Int} {G : Gm} {w v : Int} (h : IVw k G w) (hk : k ≤ k') (w0 : 0 ≤ w) (hv : 0 ≤ v ∧ v ≤ 100 * k') : IVw k' (gU G (6 + 9 * w + 5) v) w := by
  unfold IVw at h ⊢
  rw [gU_s, gU_n _ (show (6 + 9 * w + 0).toNat ≠ (6 + 9 * w + 5).toNat by omega), gU_n _ (show (6 + 9 * w + 1).toNat ≠ (6 + 9 * w + 5).toNat by omega), gU_n _ (show (6 + 9 * w + 2).toNat ≠ (6 + 9 * w + 5).toNat by omega), gU_n _ (show (6 + 9 * w + 3).toNat ≠ (6 + 9 * w + 5).toNat by omega), gU_n _ (show (6 + 9 * w + 4).toNat ≠ (6 + 9 * w + 5).toNat by omega), gU_n _ (show (6 + 9 * w + 6).toNat ≠ (6 + 9 * w + 5).toNat by omega), gU_n _ (show (6 + 9 * w + 7).toNat ≠ (6 + 9 * w + 5).toNat by omega), gU_n _ (show (6 + 9 * w + 8).toNat ≠ (6 + 9 * w + 5).toNat by omega)]
  omega
theorem IVw.u6 {k k' : Int} {G : Gm} {w v : Int} (h : IVw k G w) (hk : k ≤ k') (w0 : 0 ≤ w) (hv : 0 ≤ v ∧ v ≤ 100 * k') : IVw k' (gU G (6 + 9 * w + 6) v) w := by
  unfold IVw at h ⊢
  rw [gU_s, gU_n _ (show (6 + 9 * w + 0).toNat ≠ (6 + 9 * w + 6).toNat by omega), gU_n _ (show (6 + 9 * w + 1).toNat ≠ (6 + 9 * w + 6).toNat by omega), gU_n _ (show (6 + 9 * w + 2).toNat ≠ (6 + 9 * w + 6).toNat by omega), gU_n _ (show (6 + 9 * w + 3).toNat ≠ (6 + 9 * w + 6).toNat by omega), gU_n _ (show (6 + 9 * w + 4).toNat ≠ (6 + 9 * w + 6).toNat by omega), gU_n _ (show (6 + 9 * w + 5).toNat ≠ (6 + 9 * w + 6).toNat by omega), gU_n _ (show (6 + 9 * w + 7).toNat ≠ (6 + 9 * w + 6).toNat by omega), gU_n _ (show (6 + 9 * w + 8).toNat ≠ (6 + 9 * w + 6).toNat by omega)]
  omega
theorem IVw.u7 {k k' : Int} {G : Gm} {w v : Int} (h : IVw k G w) (hk : k ≤ k') (w0 : 0 ≤ w) (hv : 0 ≤ v ∧ v ≤ 100 * k') : IVw k' (gU G (6 + 9 * w + 7) v) w := by
  unfold IVw at h ⊢
  rw [gU_s, gU_n _ (show (6 + 9 * w + 0).toNat ≠ (6 + 9 * w + 7).toNat by omega), gU_n _ (show (6 + 9 * w + 1).toNat ≠ (6 + 9 * w + 7).toNat by omega), gU_n _ (show (6 + 9 * w + 2).toNat ≠ (6 + 9 * w + 7).toNat by omega), gU_n _ (show (6 + 9 * w + 3).toNat ≠ (6 + 9 * w + 7).toNat by omega), gU_n _ (show (6 + 9 * w + 4).toNat ≠ (6 + 9 * w + 7).toNat by omega), gU_n _ (show (6 + 9 * w + 5).toNat ≠ (6 + 9 * w + 7).toNat by omega), gU_n _ (show (6 + 9 * w + 6).toNat ≠ (6 + 9 * w + 7).toNat by omega), gU_n _ (show (6 + 9 * w + 8).toNat ≠ (6 + 9 * w + 7).toNat by omega)]
  omega
theorem IVw.u8 {k k' : Int} {G : Gm} {w v : Int} (h : IVw k G w) (hk : k ≤ k') (w0 : 0 ≤ w) (hv : 0 ≤ v ∧ v ≤ 100 * k') : IVw k' (gU G (6 + 9 * w + 8) v) w := by
  unfold IVw at h ⊢
  rw [gU_s, gU_n _ (show (6 + 9 * w + 0).toNat ≠ (6 + 9 * w + 8).toNat by omega), gU_n _ (show (6 + 9 * w + 1).toNat ≠ (6 + 9 * w + 8).toNat by omega), gU_n _ (show (6 + 9 * w + 2).toNat ≠ (6 + 9 * w + 8).toNat by omega), gU_n _ (show (6 + 9 * w + 3).toNat ≠ (6 + 9 * w + 8).toNat by omega), gU_n _ (show (6 + 9 * w + 4).toNat ≠ (6 + 9 * w + 8).toNat by omega), gU_n _ (show (6 + 9 * w + 5).toNat ≠ (6 + 9 * w + 8).toNat by omega), gU_n _ (show (6 + 9 * w + 6).toNat ≠ (6 + 9 * w + 8).toNat by omega), gU_n _ (show (6 + 9 * w + 7).toNat ≠ (6 + 9 * w + 8).toNat by omega)]
  omega
theorem IV.pardon {k : Int} {G : Gm} {w : Int} (h : IV k G) (hw : 0 ≤ w ∧ w < G 4) : IV k (F_pardon G w) := by
  have h4 := h.2.1.2.2.2.2.1
  have h5 := h.2.1.2.2.2.2.2
  unfold F_pardon
  have e : ∀ {j : Nat}, j ≠ (6 + 9 * w + 3).toNat → gU G (6 + 9 * w + 3) ((G (6 + 9 * w + 3).toNat) + (G 2 - (G (6 + 9 * w + 3).toNat))) j = G j := fun z => gU_n _ z
  refine h.step ⟨Int.le_refl _, h.1.2⟩ (h.2.1.up (Int.le_refl _) (fun j hj => e (by omega))) (e (by omega)) (e (by omega)) (fun v v0 v1 => ?_) (fun r r0 r1 => Or.inr (fun j j0 j1 => e (by omega))) (Or.inr (fun j j0 j1 => e (by omega)))
  by_cases q : v = w
  · subst q
    have h2 := h.2.1.2.2.1
    exact Or.inl ((h.2.2.1 v v0 v1).u3 (Int.le_refl _) v0 (by omega))
  · exact Or.inr (fun j j0 j1 => e (by omega))
theorem IV.setT {k : Int} {G : Gm} {what v : Int} (h : IV k G) (hc : c_setTable G what v = 0) : IV k (F_setTable G what v) := by
  have h4 := h.2.1.2.2.2.2.1
  have h5 := h.2.1.2.2.2.2.2
  unfold c_setTable at hc
  have hq : (0 ≤ what ∧ what ≤ 2) ∧ ((if what = 1 then 1 else 0) ≤ v ∧ v ≤ (if what = 0 then 20 else if what = 1 then 50 else 19)) := by
    by_cases z : (0 ≤ what ∧ what ≤ 2) ∧ ((if what = 1 then 1 else 0) ≤ v ∧ v ≤ (if what = 0 then 20 else if what = 1 then 50 else 19))
    · exact z
    · rw [if_neg z] at hc
      exact absurd hc (by decide)
  clear hc
  unfold F_setTable
  have e : ∀ {j : Nat}, j ≠ what.toNat → gU G what v j = G j := fun z => gU_n _ z
  refine h.step ⟨Int.le_refl _, h.1.2⟩ ?_ (e (by omega)) (e (by omega)) (fun v v0 v1 => Or.inr (fun j j0 j1 => e (by omega))) (fun r r0 r1 => Or.inr (fun j j0 j1 => e (by omega))) (Or.inr (fun j j0 j1 => e (by omega)))
  have ht := h.2.1
  unfold IVt at ht ⊢
  rw [gU_if, gU_if, gU_if, gU_if, gU_if, gU_if, if_neg (show ¬ 3 = what.toNat by omega), if_neg (show ¬ 4 = what.toNat by omega), if_neg (show ¬ 5 = what.toNat by omega)]
  refine ⟨?_, ?_, ?_, ht.2.2.2⟩
  · split
    · rw [if_neg (show ¬ what = 1 by omega), if_pos (show what = 0 by omega)] at hq; omega
    · exact ht.1
  · split
    · rw [if_pos (show what = 1 by omega), if_neg (show ¬ what = 0 by omega), if_pos (show what = 1 by omega)] at hq; omega
    · exact ht.2.1
  · split
    · rw [if_neg (show ¬ what = 1 by omega), if_neg (show ¬ what = 0 by omega), if_neg (show ¬ what = 1 by omega)] at hq; omega
    · exact ht.2.2.1
theorem IV.addr {k : Int} {G : Gm} {many size : Int} (h : IV k G) (hm : 1 ≤ many ∧ many ≤ 24) (hs : 1 ≤ size ∧ size ≤ 9) (h24 : G 5 + many ≤ 24) : IV k (F_addRows G many size) := (h.rows hs many (by omega) hm.2 h24).1
theorem IV.bar {k : Int} {G : Gm} {a b on : Int} (h : IV k G) (ha : 0 ≤ a ∧ a < 6) (hb : 0 ≤ b ∧ b < 6) (hne : a ≠ b) : IV k (F_bar G a b on) := by
  have h4 := h.2.1.2.2.2.2.1
  have h5 := h.2.1.2.2.2.2.2
  have hk := h.1
  unfold F_bar
  obtain ⟨x, hx⟩ : ∃ x : Int, (if on ≠ 0 then 1 else 0) = x := ⟨_, rfl⟩
  have hx1 : x = 0 ∨ x = 1 := by
    rw [← hx]
    split
    · exact Or.inr rfl
    · exact Or.inl rfl
  rw [hx]
  have e : ∀ {j : Nat}, j < 60 ∨ 132 ≤ j → gU (gU (gU (gU G (60 + 6 * a + b) x) (60 + 6 * b + a) x) (96 + 6 * a + b) 0) (96 + 6 * b + a) 0 j = G j := fun z => by rw [gU_n _ (by omega), gU_n _ (by omega), gU_n _ (by omega), gU_n _ (by omega)]
  refine h.step ⟨Int.le_refl _, h.1.2⟩ (h.2.1.up (Int.le_refl _) (fun j hj => e (by omega))) (e (by omega)) (e (by omega)) (fun v v0 v1 => Or.inr (fun j j0 j1 => e (by omega))) (fun r r0 r1 => Or.inr (fun j j0 j1 => e (by omega))) (Or.inl ?_)
  refine ⟨fun c d c0 c1 d0 d1 => ?_, fun c c0 c1 => ?_⟩
  · have h9 := h.2.2.2.2.1 c d c0 c1 d0 d1
    simp only [gU_if]
    refine ⟨?_, ?_⟩
    · (repeat' split)
      all_goals first
      | exact hx1
      | (exfalso; omega)
      | exact h9.1
    · (repeat' split)
      all_goals first
      | exact h9.2
      | omega
  · have h9 := h.2.2.2.2.2 c c0 c1
    simp only [gU_if]
    refine ⟨?_, ?_⟩
    · (repeat' split)
      all_goals first
      | exact h9.1
      | omega
    · (repeat' split)
      all_goals first
      | exact h9.2
      | omega
