theorem fWk_t {G : Gm} {w r : Int} (h6 : 0 ≤ G (132 + 16 * r + 6).toNat) (h : fWorksAt G w r = true) : ∃ t, fTakingOf G w r = t ∧ (0 ≤ t ∧ t < G (132 + 16 * r + 6).toNat) ∧ G (132 + 16 * r + (7 + 3 * t + 0)).toNat = w ∧ G (132 + 16 * r + (7 + 3 * t + 1)).toNat = -1 := by
  refine ⟨_, rfl, ?_⟩
  unfold fWorksAt at h
  by_cases q : fTakingOf G w r = -1
  · rw [if_pos q] at h; exact absurd h (by decide)
  · rw [if_neg q] at h
    have h9 := of_decide_eq_true h
    unfold fTakingOf at q h9 ⊢
    rcases fndI_r (fun k => decide ((G (132 + 16 * r + (7 + 3 * k + 0)).toNat) = w)) h6 with z | z
    · exact absurd z.1 q
    · exact ⟨⟨z.1, z.2.1⟩, of_decide_eq_true z.2.2.1, h9⟩
theorem dFin {k d r p q m : Int} {G g : Gm} (hr : 0 ≤ r) (hb : RB (k + 1) m (rwf g r)) (hm : m ≤ 6) (hres : ∀ j : Int, 0 ≤ j → j < rwf g r 6 → 0 ≤ rwf g r (7 + 3 * j + 1)) (hp : 0 ≤ p ∧ p < rwf g r 6) (hq : 0 ≤ q ∧ q < rwf g r 6) (hpq : p ≠ q) (hc : CH d r G g) : CH (d + 20) r G (fFin g r p q) ∧ RW (k + 1) m (rwf (fFin g r p q) r) := by
  obtain ⟨a, ea⟩ : ∃ a, g (132 + 16 * r + (7 + 3 * p + 0)).toNat = a := ⟨_, rfl⟩
  obtain ⟨b, eb⟩ : ∃ b, g (132 + 16 * r + (7 + 3 * q + 0)).toNat = b := ⟨_, rfl⟩
  have ha : 0 ≤ a ∧ a < m := by have h9 := hb.2.1 p hp.1 hp.2; rw [← ea]; exact ⟨h9.1.1, h9.1.2.1⟩
  have hbb : 0 ≤ b ∧ b < m := by have h9 := hb.2.1 q hq.1 hq.2; rw [← eb]; exact ⟨h9.1.1, h9.1.2.1⟩
  have hab : a ≠ b := by
    rw [← ea, ← eb]
    by_cases z : p < q
    · exact hb.2.2 p q hp.1 z hq.2
    · exact fun e => hb.2.2 q p hq.1 (by omega) hp.2 e.symm
  have hsz := hb.1.1
  have hsz2 : 1 ≤ g (132 + 16 * r + 0).toNat ∧ g (132 + 16 * r + 0).toNat ≤ 9 := hsz
  refine ⟨hc.tr (CH.fin hr ea eb (by omega) (by omega) (by omega)), ?_⟩
  have fw : ∀ j, 0 ≤ j → rwf (fFin g r p q) r j = _ := fun j j0 => fFin_rw (G := g) (p := p) (q := q) (a := a) (b := b) hr ea eb (by omega) (by omega) j0
  have v1 := hb.2.1 p hp.1 hp.2
  have v2 := hb.2.1 q hq.1 hq.2
  have v3 := hres p hp.1 hp.2
  have v4 := hres q hq.1 hq.2
  refine hb.fin (a := a) (b := b) (v := if g (6 + 9 * a + 3).toNat < g (6 + 9 * b + 3).toNat then g (132 + 16 * r + (7 + 3 * q + 1)).toNat else g (132 + 16 * r + (7 + 3 * p + 1)).toNat) hres ?_ ?_ ?_ ?_ hab ha hbb (fun j j0 j1 x1 x2 x5 => ?_)
  · rw [fw 1 (by decide), if_neg (by decide), if_pos rfl]
  · rw [fw 2 (by decide), if_neg (by decide), if_neg (by decide), if_pos rfl]
  · have w1 : 0 ≤ g (132 + 16 * r + (7 + 3 * p + 1)).toNat ∧ g (132 + 16 * r + (7 + 3 * p + 1)).toNat ≤ 99 := ⟨v3, v1.2.1.2⟩
    have w2 : 0 ≤ g (132 + 16 * r + (7 + 3 * q + 1)).toNat ∧ g (132 + 16 * r + (7 + 3 * q + 1)).toNat ≤ 99 := ⟨v4, v2.2.1.2⟩
    split
    · exact w2
    · exact w1
  · rw [fw 5 (by decide), if_pos rfl]
  · rw [fw j j0, if_neg x5, if_neg x1, if_neg x2]
    rfl
theorem IV.del {k : Int} {G : Gm} {w r x : Int} (h : IV k G) (hk : k + 1 ≤ 1000) (hw : 0 ≤ w ∧ w < G 4) (hr : 0 ≤ r ∧ r < G 5) (hx : 0 ≤ x ∧ x ≤ 99) (hf : fWorksAt G w r = true) : IV (k + 1) (fDel G w r x) := by
  have h4 := h.2.1.2.2.2.2.1
  have hk0 := h.1
  have hrw : RW k (G 4) (rwf G r) := h.2.2.2.1 r hr.1 hr.2
  obtain ⟨t, ht, ht1, htw, htr⟩ := fWk_t hrw.1.2.2.2.2.2.1 hf
  obtain ⟨g, hg⟩ : ∃ g, fDel1 G w r x = g := ⟨_, rfl⟩
  have hg1 := hg
  unfold fDel1 at hg1
  rw [ht] at hg1
  have h6 : 0 ≤ G (132 + 16 * r + 6).toNat ∧ G (132 + 16 * r + 6).toNat ≤ 3 := hrw.1.2.2.2.2.2
  have hgr : ∀ j : Int, 0 ≤ j → j < 16 → rwf g r j = if j = 7 + 3 * t + 1 then x else rwf G r j := fun j j0 j1 => by
    show g (132 + 16 * r + j).toNat = _
    rw [← hg1, gU_n _ (by omega)]
    by_cases e : j = 7 + 3 * t + 1
    · rw [if_pos e, e, gU_s]
    · rw [if_neg e, gU_n _ (by omega)]
      rfl
  have hch : CH 1 r G g := by
    rw [← hg1]
    exact CH.tr (d := 0) (e := 1) (CH.row (i := 7 + 3 * t + 1) hr.1 (by omega)) (CH.c (i := 5) hr.1 (by omega) (by decide) (by decide) (by rw [gU_n _ (by omega)]; omega))
  have en : ∀ j : Int, 0 ≤ j → j < 16 → j ≠ 7 + 3 * t + 1 → rwf g r j = rwf G r j := fun j j0 j1 j2 => by rw [hgr j j0 j1, if_neg j2]
  have ex : rwf g r (7 + 3 * t + 1) = x := by rw [hgr _ (by omega) (by omega), if_pos rfl]
  have f0 := en 0 (by decide) (by decide) (by omega)
  have f1 := en 1 (by decide) (by decide) (by omega)
  have f2 := en 2 (by decide) (by decide) (by omega)
  have f3 := en 3 (by decide) (by decide) (by omega)
  have f4 := en 4 (by decide) (by decide) (by omega)
  have f5 := en 5 (by decide) (by decide) (by omega)
  have f6 := en 6 (by decide) (by decide) (by omega)
  have t6 : t < rwf G r 6 := ht1.2
  have r6 : 0 ≤ rwf G r 6 ∧ rwf G r 6 ≤ 3 := h6
  have htr' : rwf G r (7 + 3 * t + 1) = -1 := htr
  have hst : rwf G r 1 = 0 ∨ rwf G r 1 = 1 := by
    have h8 := hrw.1.2.1
    by_cases z : 2 ≤ rwf G r 1
    · have h9 := hrw.2.2.2.2.2.2.2 z t ht1.1 t6
      rw [htr'] at h9
      exact absurd h9 (by decide)
    · omega
  have hb : RB (k + 1) (G 4) (rwf g r) := by
    obtain ⟨⟨a0, a1, a2, a3, a4, a6⟩, b1, b2, -⟩ := hrw
    refine ⟨⟨by rw [f0]; exact a0, by rw [f1]; exact a1, by rw [f2]; exact a2, by rw [f3]; exact a3, by rw [f4]; exact a4, by rw [f6]; exact a6⟩, fun j j0 j1 => ?_, fun j l j0 j1 j2 => ?_⟩
    · rw [f6] at j1
      have h9 := b1 j j0 j1
      rw [f4, en (7 + 3 * j + 0) (by omega) (by omega) (by omega), en (7 + 3 * j + 2) (by omega) (by omega) (by omega)]
      refine ⟨h9.1, ?_, h9.2.2.1, by omega⟩
      by_cases e : j = t
      · rw [e, ex]; omega
      · rw [en (7 + 3 * j + 1) (by omega) (by omega) (by omega)]
        exact h9.2.1
    · rw [f6] at j2
      rw [en (7 + 3 * j + 0) (by omega) (by omega) (by omega), en (7 + 3 * l + 0) (by omega) (by omega) (by omega)]
      exact b2 j l j0 j1 j2
  have h235 : rwf g r 2 = -1 ∧ rwf g r 3 = -1 ∧ rwf g r 5 = 0 := by
    rw [f2, f3, f5]
    exact hrw.2.2.2.1 (by omega)
  have rs : ∀ n : Int, (∀ q : Int, 0 ≤ q → q < n → g (132 + 16 * r + (7 + 3 * q + 1)).toNat ≠ -1) → rwf g r 6 = n → ∀ j : Int, 0 ≤ j → j < rwf g r 6 → 0 ≤ rwf g r (7 + 3 * j + 1) := fun n hn e j j0 j1 => by
    have h9 := (hb.2.1 j j0 j1).2.1.1
    have h8 : rwf g r (7 + 3 * j + 1) ≠ -1 := hn j j0 (by omega)
    omega
  have g6 : 0 ≤ g (132 + 16 * r + 6).toNat := by show 0 ≤ rwf g r 6; omega
  have hm : G 4 ≤ 6 := h4.2
  unfold fDel
  rw [hg]
  unfold fDel2
  by_cases cA : (g (132 + 16 * r + 1).toNat) = 0 ∧ fHave g r 2 = true
  · rw [if_pos cA]
    obtain ⟨e6, hn⟩ := fHave_c g6 cA.2
    have e6' : rwf g r 6 = 2 := e6
    have hres := rs 2 hn e6'
    unfold fCmp
    split
    · obtain ⟨c1, c2⟩ := dFin (p := 0) (q := 1) hr.1 hb hm hres (by omega) (by omega) (by decide) hch
      exact h.ch hk c1 (by decide) hr c2
    · refine h.ch hk (hch.tr (CH.row (i := 1) hr.1 (by decide))) (by decide) hr (hb.dis e6' hres h235 (gU_s _ _ _) (fun j j0 j1 x1 => gU_n _ (by omega)))
  · rw [if_neg cA]
    by_cases cB : (g (132 + 16 * r + 1).toNat) = 1 ∧ fHave g r 3 = true
    · rw [if_pos cB]
      obtain ⟨e6, hn⟩ := fHave_c g6 cB.2
      have e6' : rwf g r 6 = 3 := e6
      have hres := rs 3 hn e6'
      have ww : ∀ j : Int, 0 ≤ j → j < 3 → 0 ≤ g (132 + 16 * r + (7 + 3 * j + 0)).toNat ∧ g (132 + 16 * r + (7 + 3 * j + 0)).toNat < 6 := fun j j0 j1 => by
        have h9 := (hb.2.1 j j0 (by omega)).1
        have h8 : 0 ≤ g (132 + 16 * r + (7 + 3 * j + 0)).toNat ∧ g (132 + 16 * r + (7 + 3 * j + 0)).toNat < G 4 := ⟨h9.1, h9.2.1⟩
        omega
      obtain ⟨nr, hnr⟩ : ∃ nr, fNear g r = nr := ⟨_, rfl⟩
      have hnr1 : nr = 0 ∨ nr = 1 := by
        rw [← hnr]
        unfold fNear
        split
        · exact Or.inr rfl
        · exact Or.inl rfl
      obtain ⟨c1, c2⟩ := dFin (p := nr) (q := 2) hr.1 hb hm hres (by omega) (by omega) (by omega) hch
      unfold fDec
      rw [hnr]
      split
      · unfold fAside
        refine h.ch hk (hch.tr (CH.tr (d := 0) (e := 0) (CH.tr (d := 0) (e := 0) (CH.tr (d := 0) (e := 0) (CH.row (i := 1) hr.1 (by decide)) (CH.t hr.1 (ww 0 (by decide) (by decide)) (fClamp_r _))) (CH.t hr.1 (ww 1 (by decide) (by decide)) (fClamp_r _))) (CH.t hr.1 (ww 2 (by decide) (by decide)) (fClamp_r _)))) (by decide) hr (hb.asd hres h235 ?_ (fun j j0 j1 x1 => ?_))
        · have a0 := ww 0 (by decide) (by decide)
          have a1 := ww 1 (by decide) (by decide)
          have a2 := ww 2 (by decide) (by decide)
          unfold rwf
          rw [gU_n _ (by omega), gU_n _ (by omega), gU_n _ (by omega), gU_s]
        · have a0 := ww 0 (by decide) (by decide)
          have a1 := ww 1 (by decide) (by decide)
          have a2 := ww 2 (by decide) (by decide)
          unfold rwf
          rw [gU_n _ (by omega), gU_n _ (by omega), gU_n _ (by omega), gU_n _ (by omega)]
      · split
        · have a1 := ww (1 - nr) (by omega) (by omega)
          refine h.ch hk (c1.tr (CH.t hr.1 a1 (fClamp_r _))) (by decide) hr ?_
          have e : ∀ j, 0 ≤ j → rwf (gU (fFin g r nr 2) (6 + 9 * (g (132 + 16 * r + (7 + 3 * (1 - nr) + 0)).toNat) + 3) (fClamp ((g (6 + 9 * (g (132 + 16 * r + (7 + 3 * (1 - nr) + 0)).toNat) + 3).toNat) + -3))) r j = rwf (fFin g r nr 2) r j := fun j j0 => gU_n _ (by omega)
          exact c2.up (Int.le_refl _) (Int.le_refl _) (fun j j0 j1 => e j j0)
        · exact h.ch hk c1 (by decide) hr c2
    · rw [if_neg cB]
      refine h.ch hk hch (by decide) hr ⟨hb.1, hb.2.1, hb.2.2, fun _ => h235, fun z => ?_, fun z => ?_, fun z => ?_, fun z => ?_⟩
      · omega
      · have hz : rwf G r 1 = 0 := by omega
        have h9 := hrw.2.2.2.2.2.1 hz
        refine ⟨by omega, fun z2 => ?_⟩
        by_cases n8 : rwf g r 8 = -1
        · exact Or.inl n8
        · by_cases n11 : rwf g r 11 = -1
          · exact Or.inr n11
          · refine absurd ⟨z, fHave_i g6 z2 (fun q q0 q1 => ?_)⟩ cA
            by_cases e : q = 0
            · rw [e]; exact n8
            · rw [show q = 1 by omega]; exact n11
      · have hz : rwf G r 1 = 1 := by omega
        have h9 := hrw.2.2.2.2.2.2.1 hz
        have q8 : rwf G r 8 = rwf G r (7 + 3 * 0 + 1) := rfl
        have q11 : rwf G r 11 = rwf G r (7 + 3 * 1 + 1) := rfl
        have t2 : t = 2 := by
          by_cases e0 : t = 0
          · rw [e0] at htr'; omega
          · by_cases e1 : t = 1
            · rw [e1] at htr'; omega
            · omega
        have z6 : rwf g r 6 = 3 := by omega
        refine absurd ⟨z, fHave_i g6 z6 (fun q q0 q1 => ?_)⟩ cB
        show rwf g r (7 + 3 * q + 1) ≠ -1
        by_cases e : q = t
        · rw [e, ex]; omega
        · rw [en _ (by omega) (by omega) (by omega)]
          by_cases e0 : q = 0
          · rw [e0]; omega
          · rw [show q = 1 by omega]; omega
      · omega
