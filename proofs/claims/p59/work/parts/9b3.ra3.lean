theorem fRef_0 {G : Gm} {w r : Int} (h6 : 0 ≤ G (132 + 16 * r + 6).toNat) (h : fRefusal G w r = 0) : hasB (G (132 + 16 * r + 4).toNat) w = false ∧ ((G (132 + 16 * r + 1).toNat = 0 ∧ G (132 + 16 * r + 6).toNat < 2) ∨ (G (132 + 16 * r + 1).toNat = 1 ∧ G (132 + 16 * r + 6).toNat < 3)) := by
  unfold fRefusal at h
  by_cases q1 : (G (6 + 9 * w + 3).toNat) < G 2
  · rw [if_pos q1] at h; exact absurd h (by decide)
  rw [if_neg q1] at h
  by_cases q2 : fInWork G w ≥ (G (6 + 9 * w + 2).toNat)
  · rw [if_pos q2] at h; exact absurd h (by decide)
  rw [if_neg q2] at h
  by_cases q3 : fNeeds G r = 0
  · rw [if_pos q3] at h; exact absurd h (by decide)
  rw [if_neg q3] at h
  refine ⟨?_, ?_⟩
  · unfold fBarrier at h
    cases e : hasB (G (132 + 16 * r + 4).toNat) w with
    | false => rfl
    | true => rw [if_pos e] at h; exact absurd h (by decide)
  · unfold fNeeds zmax at q3
    by_cases a : G (132 + 16 * r + 1).toNat = 0
    · rw [if_pos a] at q3
      refine Or.inl ⟨a, ?_⟩
      by_cases z : (0 : Int) < 2 - G (132 + 16 * r + 6).toNat
      · omega
      · rw [if_neg z] at q3; exact absurd rfl q3
    · rw [if_neg a] at q3
      by_cases b : G (132 + 16 * r + 1).toNat = 1
      · rw [if_pos b] at q3
        refine Or.inr ⟨b, ?_⟩
        by_cases z : (0 : Int) < 3 - G (132 + 16 * r + 6).toNat
        · omega
        · rw [if_neg z] at q3; exact absurd rfl q3
      · rw [if_neg b] at q3
        rw [if_neg (show ¬ (0 : Int) < 0 - G (132 + 16 * r + 6).toNat by omega)] at q3
        exact absurd rfl q3
theorem RW.take {k k' m w c due : Int} {R R' : Int → Int} (h : RW k m R) (hk : 0 ≤ k ∧ k ≤ k') (hw : 0 ≤ w ∧ w < m) (hm : m ≤ 6) (hb : hasB (R 4) w = false) (hc : R 6 = c) (hs : (R 1 = 0 ∧ c < 2) ∨ (R 1 = 1 ∧ c < 3)) (e6 : R' 6 = c + 1) (e1 : R' (7 + 3 * c + 0) = w) (e2 : R' (7 + 3 * c + 1) = -1) (e3 : R' (7 + 3 * c + 2) = due) (e4 : R' 4 = zor (R 4) (zshl 1 w)) (hd : 0 ≤ due ∧ due ≤ 100 * k' + 50) (en : ∀ j, 0 ≤ j → j < 16 → j ≠ 6 → j ≠ 4 → (j < 7 + 3 * c ∨ 7 + 3 * c + 3 ≤ j) → R' j = R j) : RW k' m R' := by
  obtain ⟨⟨a0, a1, a2, a3, a4, a6⟩, b1, b2, b3, b4, b5, b6, b7⟩ := h
  clear b4
  rw [hc] at a6 b1 b2 b5 b6 b7
  have hz := zor_b (s := R 4) (i := w) a4.1 (by omega) hw.1 (by omega)
  have hl := zor_lt (s := R 4) (i := w) (n := 6) a4.1 (by decide) a4.2 hw.1 (by omega)
  have hl2 : zor (R 4) (zshl 1 w) < 64 := hl.2
  have f0 := en 0 (by decide) (by decide) (by decide) (by decide) (by omega)
  have f1 := en 1 (by decide) (by decide) (by decide) (by decide) (by omega)
  have f2 := en 2 (by decide) (by decide) (by decide) (by decide) (by omega)
  have f3 := en 3 (by decide) (by decide) (by decide) (by decide) (by omega)
  have f5 := en 5 (by decide) (by decide) (by decide) (by decide) (by omega)
  have o0 : ∀ j : Int, 0 ≤ j → j < c → R' (7 + 3 * j + 0) = R (7 + 3 * j + 0) := fun j j0 j1 => en _ (by omega) (by omega) (by omega) (by omega) (by omega)
  have o1 : ∀ j : Int, 0 ≤ j → j < c → R' (7 + 3 * j + 1) = R (7 + 3 * j + 1) := fun j j0 j1 => en _ (by omega) (by omega) (by omega) (by omega) (by omega)
  have o2 : ∀ j : Int, 0 ≤ j → j < c → R' (7 + 3 * j + 2) = R (7 + 3 * j + 2) := fun j j0 j1 => en _ (by omega) (by omega) (by omega) (by omega) (by omega)
  refine ⟨⟨by rw [f0]; exact a0, by rw [f1]; exact a1, by rw [f2]; exact a2, by rw [f3]; exact a3, by rw [e4]; exact ⟨hl.1, hl2⟩, by rw [e6]; omega⟩, fun j j0 j1 => ?_, fun j l j0 j1 j2 => ?_, fun z => ?_, fun z => ?_, fun z => ?_, fun z => ?_, fun z => ?_⟩
  · rw [e6] at j1
    by_cases e : j = c
    · subst e
      rw [e1, e2, e3, e4]
      refine ⟨⟨hw.1, hw.2, ?_⟩, by omega, hd⟩
      rw [hz.2 w hw.1 (by omega), decide_eq_true rfl, Bool.or_true]
    · have h9 := b1 j j0 (by omega)
      rw [o0 j j0 (by omega), o1 j j0 (by omega), o2 j j0 (by omega), e4]
      refine ⟨⟨h9.1.1, h9.1.2.1, ?_⟩, h9.2.1, h9.2.2.1, by omega⟩
      rw [hz.2 _ h9.1.1 (by omega), h9.1.2.2, Bool.true_or]
  · rw [e6] at j2
    by_cases e : l = c
    · subst e
      rw [e1, o0 j j0 j1]
      intro z
      have h9 := (b1 j j0 j1).1.2.2
      rw [z, hb] at h9
      exact absurd h9 (by decide)
    · rw [o0 j j0 (by omega), o0 l (by omega) (by omega)]
      exact b2 j l j0 j1 (by omega)
  · rw [f1] at z
    rw [f2, f3, f5]
    exact b3 z
  · rw [f1] at z
    omega
  · rw [f1] at z
    rw [e6]
    refine ⟨by omega, fun z2 => Or.inr ?_⟩
    have ec : c = 1 := by omega
    rw [ec] at e2
    exact e2
  · rw [f1] at z
    have h9 := b6 z
    have ec : c = 2 := by omega
    rw [e6, ec]
    rw [ec] at o1 e2
    have g8 : R' 8 = R 8 := o1 0 (by decide) (by decide)
    have g11 : R' 11 = R 11 := o1 1 (by decide) (by decide)
    rw [g8, g11]
    exact ⟨by decide, h9.2.1, h9.2.2.1, fun _ => e2⟩
  · rw [f1] at z
    omega
theorem IV.take {k : Int} {G : Gm} {w r : Int} (h : IV k G) (hk : k + 1 ≤ 1000) (hw : 0 ≤ w ∧ w < G 4) (hr : 0 ≤ r ∧ r < G 5) (hf : fRefusal G w r = 0) : IV (k + 1) (fTake G w r) := by
  have h0 := h.1
  have h4 := h.2.1.2.2.2.2.1
  have h5 := h.2.1.2.2.2.2.2
  have hrw := h.2.2.2.1 r hr.1 hr.2
  obtain ⟨hb, hs⟩ := fRef_0 hrw.1.2.2.2.2.2.1 hf
  obtain ⟨c, hc⟩ : ∃ c, G (132 + 16 * r + 6).toNat = c := ⟨_, rfl⟩
  have hc6 : 0 ≤ c ∧ c ≤ 3 := by rw [← hc]; exact hrw.1.2.2.2.2.2
  rw [hc] at hs
  unfold fTake
  rw [hc]
  have ht := h.2.1
  unfold IVt at ht
  have e : ∀ {j : Nat}, j ≠ (132 + 16 * r + 6).toNat → j ≠ (132 + 16 * r + (7 + 3 * c + 0)).toNat → j ≠ (132 + 16 * r + (7 + 3 * c + 1)).toNat → j ≠ (132 + 16 * r + (7 + 3 * c + 2)).toNat → j ≠ (132 + 16 * r + 4).toNat → j ≠ (6 + 9 * w + 4).toNat → (gU (gU (gU (gU (gU (gU G (132 + 16 * r + 6) (c + 1)) (132 + 16 * r + (7 + 3 * c + 0)) w) (132 + 16 * r + (7 + 3 * c + 1)) (-1)) (132 + 16 * r + (7 + 3 * c + 2)) (G 3 + G 1)) (132 + 16 * r + 4) (zor (G (132 + 16 * r + 4).toNat) (zshl 1 w))) (6 + 9 * w + 4) ((G (6 + 9 * w + 4).toNat) + 1)) j = G j := fun x1 x2 x3 x4 x5 x6 => by rw [gU_n _ x6, gU_n _ x5, gU_n _ x4, gU_n _ x3, gU_n _ x2, gU_n _ x1]
  refine h.step ⟨by omega, hk⟩ (h.2.1.up (by omega) (fun j hj => e (by omega) (by omega) (by omega) (by omega) (by omega) (by omega))) (e (by omega) (by omega) (by omega) (by omega) (by omega) (by omega)) (e (by omega) (by omega) (by omega) (by omega) (by omega) (by omega)) (fun v v0 v1 => ?_) (fun q q0 q1 => ?_) (Or.inr (fun j j0 j1 => e (by omega) (by omega) (by omega) (by omega) (by omega) (by omega)))
  · by_cases ev : v = w
    · subst ev
      have h9 := h.2.2.1 v v0 v1
      have h8 := h9.2.2.2.2.1
      refine Or.inl (IVw.u4 (k := k) (IVw.up h9 (Int.le_refl _) (fun j j0 j1 => ?_)) (by omega) v0 (by omega))
      rw [gU_n _ (by omega), gU_n _ (by omega), gU_n _ (by omega), gU_n _ (by omega), gU_n _ (by omega)]
    · exact Or.inr (fun j j0 j1 => e (by omega) (by omega) (by omega) (by omega) (by omega) (by omega))
  · by_cases eq : q = r
    · subst eq
      refine Or.inl ?_
      show RW (k + 1) _ _
      rw [e (by omega) (by omega) (by omega) (by omega) (by omega) (by omega)]
      refine RW.take (c := c) (w := w) (due := G 3 + G 1) hrw ⟨h0.1, by omega⟩ hw h4.2 hb hc hs ?_ ?_ ?_ ?_ ?_ (by omega) (fun j j0 j1 x6 x4 xc => ?_)
      · show _ = _
        unfold rwf
        rw [gU_n _ (by omega), gU_n _ (by omega), gU_n _ (by omega), gU_n _ (by omega), gU_n _ (by omega), gU_s]
      · unfold rwf
        rw [gU_n _ (by omega), gU_n _ (by omega), gU_n _ (by omega), gU_n _ (by omega), gU_s]
      · unfold rwf
        rw [gU_n _ (by omega), gU_n _ (by omega), gU_n _ (by omega), gU_s]
      · unfold rwf
        rw [gU_n _ (by omega), gU_n _ (by omega), gU_s]
      · unfold rwf
        rw [gU_n _ (by omega), gU_s]
      · unfold rwf
        exact e (by omega) (by omega) (by omega) (by omega) (by omega) (by omega)
    · exact Or.inr (fun j j0 j1 => e (by omega) (by omega) (by omega) (by omega) (by omega) (by omega))
