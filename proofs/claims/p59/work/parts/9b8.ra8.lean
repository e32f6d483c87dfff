theorem RW.r23 {k m : Int} {R R' : Int → Int} (h : RW k m R) (h1 : R 1 = 2) (h2 : 0 ≤ R' 2 ∧ R' 2 ≤ 99) (h3 : -1 ≤ R' 3 ∧ R' 3 ≤ 99) (e : ∀ j : Int, 0 ≤ j → j < 16 → j ≠ 2 → j ≠ 3 → R' j = R j) : RW k m R' := by
  obtain ⟨⟨a0, a1, a2, a3, a4, a6⟩, b1, b2, b3, b4, b5, b6, b7⟩ := h
  have f0 := e 0 (by decide) (by decide) (by decide) (by decide)
  have f1 := e 1 (by decide) (by decide) (by decide) (by decide)
  have f4 := e 4 (by decide) (by decide) (by decide) (by decide)
  have f5 := e 5 (by decide) (by decide) (by decide) (by decide)
  have f6 := e 6 (by decide) (by decide) (by decide) (by decide)
  refine ⟨⟨by rw [f0]; exact a0, by rw [f1]; exact a1, h2.elim (fun x y => ⟨Int.le_trans (by decide) x, y⟩), h3, by rw [f4]; exact a4, by rw [f6]; exact a6⟩, fun j j0 j1 => ?_, fun j l j0 j1 j2 => ?_, fun z => absurd (f1.trans h1) z, fun z => ⟨h2.1, ?_⟩, fun z => ?_, fun z => ?_, fun z j j0 j1 => ?_⟩
  · clear b4
    rw [f6] at j1
    rw [e (7 + 3 * j + 0) (by omega) (by omega) (by omega) (by omega), e (7 + 3 * j + 1) (by omega) (by omega) (by omega) (by omega), e (7 + 3 * j + 2) (by omega) (by omega) (by omega) (by omega), f4]
    exact b1 j j0 j1
  · clear b4
    rw [f6] at j2
    rw [e (7 + 3 * j + 0) (by omega) (by omega) (by omega) (by omega), e (7 + 3 * l + 0) (by omega) (by omega) (by omega) (by omega)]
    exact b2 j l j0 j1 j2
  · rw [f5]
    exact (b4 h1).2
  · rw [f1, h1] at z; exact absurd z (by decide)
  · rw [f1, h1] at z; exact absurd z (by decide)
  · clear b4
    rw [f6] at j1
    rw [e (7 + 3 * j + 1) (by omega) (by omega) (by omega) (by omega)]
    exact b7 (by omega) j j0 j1
theorem CH.aud {G : Gm} {r x : Int} (hG : GI G) (hr : 0 ≤ r) (hR : RI G r) : ∀ n, 0 ≤ n → n ≤ G (132 + 16 * r + 6).toNat → CH 0 r G (fAudT G r x n) := by
  refine zup (n := G (132 + 16 * r + 6).toNat) (fun n => CH 0 r G (fAudT G r x n)) CH.rf (fun n n0 n1 ih => ?_)
  have e : fAudT G r x (n + 1) = fAudS G r x n (fAudT G r x n) := foldI_s n0
  rw [e]
  exact CH.tr (d := 0) (e := 0) ih (CH.t hr (hR.2.2 n n0 n1) (fClamp_r _))
theorem IV.strk {k p q : Int} {G : Gm} (h : IV k G) (hp : 0 ≤ p ∧ p < 6) (hq : 0 ≤ q ∧ q < 6) (hpq : p ≠ q) (hv : G (96 + 6 * q + p).toNat + 1 ≤ 100 * k) : IV k (fStrk G p q) := by
  have h4 := h.2.1.2.2.2.2.1
  have h5 := h.2.1.2.2.2.2.2
  have h9 := (h.2.2.2.2.1 q p hq.1 hq.2 hp.1 hp.2).2
  unfold fStrk
  obtain ⟨v, hvv⟩ : ∃ v, G (96 + 6 * q + p).toNat + 1 = v := ⟨_, rfl⟩
  rw [hvv] at hv ⊢
  have e : ∀ {j : Nat}, j < 96 ∨ 132 ≤ j → gU (gU G (96 + 6 * q + p) v) (96 + 6 * p + q) v j = G j := fun z => by rw [gU_n _ (by omega), gU_n _ (by omega)]
  refine h.step ⟨Int.le_refl _, h.1.2⟩ (h.2.1.up (Int.le_refl _) (fun j hj => e (by omega))) (e (by omega)) (e (by omega)) (fun w w0 w1 => Or.inr (fun j j0 j1 => e (by omega))) (fun r r0 r1 => Or.inr (fun j j0 j1 => e (by omega))) (Or.inl ⟨fun c d c0 c1 d0 d1 => ?_, fun c c0 c1 => ?_⟩)
  · have h8 := h.2.2.2.2.1 c d c0 c1 d0 d1
    rw [e (j := (60 + 6 * c + d).toNat) (by omega)]
    refine ⟨h8.1, ?_⟩
    simp only [gU_if]
    (repeat' split)
    all_goals first
    | exact h8.2
    | omega
  · have h8 := h.2.2.2.2.2 c c0 c1
    rw [e (j := (60 + 6 * c + c).toNat) (by omega)]
    refine ⟨h8.1, ?_⟩
    rw [gU_n _ (by omega), gU_n _ (by omega)]
    exact h8.2
theorem IV.row2 {k r v : Int} {G : Gm} (h : IV k G) (hr : 0 ≤ r ∧ r < G 5) (h1 : G (132 + 16 * r + 1).toNat = 2) (hv : 0 ≤ v ∧ v ≤ 99) : IV k (gU G (132 + 16 * r + 2) v) := by
  have h4 := h.2.1.2.2.2.2.1
  have h5 := h.2.1.2.2.2.2.2
  have e : ∀ {j : Nat}, j ≠ (132 + 16 * r + 2).toNat → gU G (132 + 16 * r + 2) v j = G j := fun z => gU_n _ z
  refine h.step ⟨Int.le_refl _, h.1.2⟩ (h.2.1.up (Int.le_refl _) (fun j hj => e (by omega))) (e (by omega)) (e (by omega)) (fun w w0 w1 => Or.inr (fun j j0 j1 => e (by omega))) (fun q q0 q1 => ?_) (Or.inr (fun j j0 j1 => e (by omega)))
  by_cases eq : q = r
  · subst eq
    refine Or.inl ?_
    have hrw : RW k (G 4) (rwf G q) := h.2.2.2.1 q q0 q1
    have g2 : rwf (gU G (132 + 16 * q + 2) v) q 2 = v := gU_s _ _ _
    have g3 : rwf (gU G (132 + 16 * q + 2) v) q 3 = rwf G q 3 := e (by omega)
    show RW k (gU G (132 + 16 * q + 2) v 4) _
    rw [e (j := 4) (by omega)]
    exact hrw.r23 h1 (by rw [g2]; exact hv) (by rw [g3]; exact hrw.1.2.2.2.1) (fun j j0 j1 x2 x3 => e (by omega))
  · exact Or.inr (fun j j0 j1 => e (by omega))
theorem IV.aud {k r x p q : Int} {G : Gm} (h : IV k G) (hk : k + 1 ≤ 1000) (hc : c_audit G r x = 0) (hby : BYp G r p q) : IV (k + 1) (F_audit G r x p q) := by
  have h4 := h.2.1.2.2.2.2.1
  have h5 := h.2.1.2.2.2.2.2
  have hk0 := h.1
  unfold c_audit at hc
  by_cases qr : 0 ≤ r ∧ r ≤ G 5 - 1
  · rw [if_pos qr] at hc
    by_cases qx : 0 ≤ x ∧ x ≤ 99
    · rw [if_pos qx] at hc
      by_cases qs : G (132 + 16 * r + 1).toNat = 2 ∧ G (132 + 16 * r + 3).toNat = -1
      · have hr : 0 ≤ r ∧ r < G 5 := by omega
        have hG := h.gi
        have hRI := hG.2.2 r hr.1 hr.2
        have h6 := hRI.2.1
        have hrw : RW k (G 4) (rwf G r) := h.2.2.2.1 r hr.1 hr.2
        obtain ⟨m, hm⟩ : ∃ m, G (132 + 16 * r + 6).toNat = m := ⟨_, rfl⟩
        have hch := CH.aud (x := x) hG hr.1 hRI m (by omega) (by omega)
        have hn := fAudT_n (x := x) hRI m (by omega) (by omega)
        obtain ⟨g, hg⟩ : ∃ g, fAudT G r x m = g := ⟨_, rfl⟩
        rw [hg] at hch hn
        obtain ⟨g2, hg2⟩ : ∃ g2, gU g (132 + 16 * r + 3) x = g2 := ⟨_, rfl⟩
        have hch2 : CH 0 r G g2 := by
          rw [← hg2]
          exact CH.tr (d := 0) (e := 0) hch (CH.row (i := 3) hr.1 (by decide))
        have er : ∀ j : Int, 0 ≤ j → j < 16 → j ≠ 3 → rwf g2 r j = rwf G r j := fun j j0 j1 j3 => by
          show g2 (132 + 16 * r + j).toNat = _
          rw [← hg2, gU_n _ (by omega)]
          exact hn _ (Or.inl (by omega))
        have g3 : rwf g2 r 3 = x := by rw [← hg2]; exact gU_s _ _ _
        have g22 := er 2 (by decide) (by decide) (by decide)
        have hv2 := (hrw.2.2.2.2.1 qs.1).1
        have hrw2 : RW k (G 4) (rwf g2 r) := hrw.r23 qs.1 (by rw [g22]; exact ⟨hv2, hrw.1.2.2.1.2⟩) (by rw [g3]; omega) (fun j j0 j1 j2 j3 => er j j0 j1 j3)
        have hI : IV (k + 1) g2 := h.ch hk hch2 (by decide) hr (hrw2.up (by omega) (Int.le_refl _) (fun _ _ _ => rfl))
        unfold F_audit
        rw [hm, hg, hg2]
        split
        · exact hI
        · obtain ⟨p0, p1, p2, -⟩ := hby
          have hpr := (h.2.2.2.2.1 q p (by omega) (by omega) p0 (by omega)).2.2
          have e96 : g2 (96 + 6 * q + p).toNat = G (96 + 6 * q + p).toNat := hch2.2 _ (Or.inr (Or.inl ⟨by omega, by omega⟩))
          have hI2 : IV (k + 1) (fStrk g2 p q) := hI.strk ⟨p0, by omega⟩ ⟨by omega, by omega⟩ (by omega) (by rw [e96]; omega)
          have es : ∀ {j : Nat}, j < 96 ∨ 132 ≤ j → fStrk g2 p q j = g2 j := fun z => by
            unfold fStrk
            rw [gU_n _ (by omega), gU_n _ (by omega)]
          have e5 : g2 5 = G 5 := hch2.2 _ (Or.inl (by decide))
          refine hI2.row2 ⟨hr.1, by rw [es (by omega), e5]; exact hr.2⟩ ?_ qx
          rw [es (by omega)]
          exact (er 1 (by decide) (by decide) (by decide)).trans qs.1
      · rw [if_neg qs] at hc; exact absurd hc (by decide)
    · rw [if_neg qx] at hc; exact absurd hc (by decide)
  · rw [if_neg qr] at hc; exact absurd hc (by decide)
