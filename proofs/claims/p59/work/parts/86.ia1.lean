def IVt (k : Int) (G : Gm) : Prop := (0 ≤ G 0 ∧ G 0 ≤ 20) ∧ (1 ≤ G 1 ∧ G 1 ≤ 50) ∧ (0 ≤ G 2 ∧ G 2 ≤ 19) ∧ (0 ≤ G 3 ∧ G 3 ≤ 100 * k) ∧ (0 ≤ G 4 ∧ G 4 ≤ 6) ∧ 0 ≤ G 5 ∧ G 5 ≤ 24
def IVw (k : Int) (G : Gm) (w : Int) : Prop := (1 ≤ (G (6 + 9 * w + 0).toNat) ∧ (G (6 + 9 * w + 0).toNat) < 387420489) ∧ (0 ≤ (G (6 + 9 * w + 1).toNat) ∧ (G (6 + 9 * w + 1).toNat) ≤ 5) ∧ (1 ≤ (G (6 + 9 * w + 2).toNat) ∧ (G (6 + 9 * w + 2).toNat) ≤ 5) ∧ (0 ≤ (G (6 + 9 * w + 3).toNat) ∧ (G (6 + 9 * w + 3).toNat) ≤ 20) ∧ (0 ≤ (G (6 + 9 * w + 4).toNat) ∧ (G (6 + 9 * w + 4).toNat) ≤ 100 * k) ∧ (0 ≤ (G (6 + 9 * w + 5).toNat) ∧ (G (6 + 9 * w + 5).toNat) ≤ 100 * k) ∧ (0 ≤ (G (6 + 9 * w + 6).toNat) ∧ (G (6 + 9 * w + 6).toNat) ≤ 100 * k) ∧ (0 ≤ (G (6 + 9 * w + 7).toNat) ∧ (G (6 + 9 * w + 7).toNat) ≤ 100 * k) ∧ (0 ≤ (G (6 + 9 * w + 8).toNat) ∧ (G (6 + 9 * w + 8).toNat) ≤ 100 * k)
/-- a row: its cells R, of m workers -/
def RW (k m : Int) (R : Int → Int) : Prop := ((1 ≤ R 0 ∧ R 0 ≤ 9) ∧ (0 ≤ R 1 ∧ R 1 ≤ 3) ∧ (-1 ≤ R 2 ∧ R 2 ≤ 99) ∧ (-1 ≤ R 3 ∧ R 3 ≤ 99) ∧ (0 ≤ R 4 ∧ R 4 < 64) ∧ (0 ≤ R 6 ∧ R 6 ≤ 3)) ∧ (∀ j : Int, 0 ≤ j → j < R 6 → (0 ≤ R (7 + 3 * j + 0) ∧ R (7 + 3 * j + 0) < m ∧ hasB (R 4) (R (7 + 3 * j + 0)) = true) ∧ (-1 ≤ R (7 + 3 * j + 1) ∧ R (7 + 3 * j + 1) ≤ 99) ∧ (0 ≤ R (7 + 3 * j + 2) ∧ R (7 + 3 * j + 2) ≤ 100 * k + 50)) ∧ (∀ j l : Int, 0 ≤ j → j < l → l < R 6 → R (7 + 3 * j + 0) ≠ R (7 + 3 * l + 0)) ∧ (R 1 ≠ 2 → R 2 = -1 ∧ R 3 = -1 ∧ R 5 = 0) ∧ (R 1 = 2 → 0 ≤ R 2 ∧ ∃ p q : Int, 0 ≤ p ∧ p < q ∧ q < m ∧ R 5 = zor (zshl 1 p) (zshl 1 q)) ∧ (R 1 = 0 → R 6 ≤ 2 ∧ (R 6 = 2 → R 8 = -1 ∨ R 11 = -1)) ∧ (R 1 = 1 → 2 ≤ R 6 ∧ 0 ≤ R 8 ∧ 0 ≤ R 11 ∧ (R 6 = 3 → R 14 = -1)) ∧ (2 ≤ R 1 → ∀ j : Int, 0 ≤ j → j < R 6 → 0 ≤ R (7 + 3 * j + 1))
def rwf (G : Gm) (r : Int) : Int → Int := fun j => G (132 + 16 * r + j).toNat
def IVr (k : Int) (G : Gm) (r : Int) : Prop := RW k (G 4) (rwf G r)
def IVp (k : Int) (G : Gm) : Prop := (∀ a b : Int, 0 ≤ a → a < 6 → 0 ≤ b → b < 6 → ((G (60 + 6 * a + b).toNat) = 0 ∨ (G (60 + 6 * a + b).toNat) = 1) ∧ 0 ≤ (G (96 + 6 * a + b).toNat) ∧ (G (96 + 6 * a + b).toNat) ≤ 100 * k) ∧ ∀ a : Int, 0 ≤ a → a < 6 → (G (60 + 6 * a + a).toNat) = 0 ∧ (G (96 + 6 * a + a).toNat) = 0
def IV (k : Int) (G : Gm) : Prop := (0 ≤ k ∧ k ≤ 1000) ∧ IVt k G ∧ (∀ w, 0 ≤ w → w < G 4 → IVw k G w) ∧ (∀ r, 0 ≤ r → r < G 5 → IVr k G r) ∧ IVp k G
theorem IV.gi {k : Int} {G : Gm} (h : IV k G) : GI G := by
  refine ⟨h.2.1.2.2.2.2.1, h.2.1.2.2.2.2.2, fun r r0 r1 => ⟨?_, (h.2.2.2.1 r r0 r1).1.2.2.2.2.2, fun j j0 j1 => ?_⟩⟩
  · have := h.2.1.2.2.2.2.2
    omega
  · have h9 := (h.2.2.2.1 r r0 r1).2.1 j j0 j1
    have h8 := h.2.1.2.2.2.2.1
    exact ⟨h9.1.1, Int.lt_of_lt_of_le h9.1.2.1 h8.2⟩
theorem IV.gv {k : Int} {G : Gm} (h : IV k G) : GV G := by
  obtain ⟨hk, ⟨a0, a1, a2, a3, a4, a5⟩, hw, hr, hp⟩ := h
  refine ⟨a0, a1, a2, by omega, fun w w0 w1 => ?_, fun r r0 r1 => ?_, fun a b x0 x1 y0 y1 => ?_⟩
  · obtain ⟨b0, b1, b2, b3, b4, b5, b6, b7, b8⟩ := hw w w0 w1
    exact ⟨b1, b2, b3, ⟨b4.1, by omega⟩, ⟨b5.1, by omega⟩, ⟨b6.1, by omega⟩, ⟨b7.1, by omega⟩, b8.1, by omega⟩
  · obtain ⟨⟨b0, b1, b2, b3, b4, b6⟩, b7, -⟩ := hr r r0 r1
    refine ⟨b0, b1, b2, b3, b4, fun j j0 j1 => ?_⟩
    have h9 := b7 j j0 j1
    exact ⟨h9.2.1, h9.2.2.1, Int.le_trans h9.2.2.2 (by omega)⟩
  · have h9 := (hp.1 a b x0 x1 y0 y1).2
    exact ⟨h9.1, by omega⟩
theorem IV.gx {k : Int} {G : Gm} (h : IV k G) : GX G := by
  obtain ⟨hk, ht, hw, hr, hp⟩ := h
  refine ⟨fun r r0 r1 => ?_, hp.2, fun a b x0 x1 y0 y1 => (hp.1 a b x0 x1 y0 y1).1, fun w w0 w1 => (hw w w0 w1).1.1⟩
  obtain ⟨-, b1, b2, b3, b4, b5, b6, b7⟩ := hr r r0 r1
  refine ⟨fun j j0 j1 => ⟨(b1 j j0 j1).1.2.1, (b1 j j0 j1).1.2.2⟩, b2, b3, fun z => (b4 z).1, b5, b6, b7⟩
theorem IV.nm {k : Int} {G : Gm} (h : IV k G) : GNm G := fun w w0 w1 => (h.2.2.1 w w0 w1).1.2
theorem IV.by {k : Int} {G : Gm} (h : IV k G) {r : Int} (r0 : 0 ≤ r) (r1 : r < G 5) (h2 : (G (132 + 16 * r + 1).toNat) = 2) : ∃ p q : Int, BYp G r p q := by
  obtain ⟨p, q, a, b, c, d⟩ := ((h.2.2.2.1 r r0 r1).2.2.2.2.1 h2).2
  exact ⟨p, q, a, b, c, d⟩
theorem RW.up {k k' m m' : Int} {R R' : Int → Int} (h : RW k m R) (hk : k ≤ k') (hm : m ≤ m') (e : ∀ j, 0 ≤ j → j < 16 → R' j = R j) : RW k' m' R' := by
  obtain ⟨⟨b0, b1, b2, b3, b4, b6⟩, c1, c2, c3, c4, c5, c6, c7⟩ := h
  have e0 := e 0 (by decide) (by decide)
  have e1 := e 1 (by decide) (by decide)
  have e2 := e 2 (by decide) (by decide)
  have e3 := e 3 (by decide) (by decide)
  have e4 := e 4 (by decide) (by decide)
  have e5 := e 5 (by decide) (by decide)
  have e6 := e 6 (by decide) (by decide)
  have e8 := e 8 (by decide) (by decide)
  have e11 := e 11 (by decide) (by decide)
  have e14 := e 14 (by decide) (by decide)
  unfold RW
  rw [e0, e1, e2, e3, e4, e5, e6, e8, e11, e14]
  refine ⟨⟨b0, b1, b2, b3, b4, b6⟩, fun j j0 j1 => ?_, fun j l j0 j1 l1 => ?_, c3, fun z => ?_, c5, c6, fun z j j0 j1 => ?_⟩
  · rw [e (7 + 3 * j + 0) (by omega) (by omega), e (7 + 3 * j + 1) (by omega) (by omega), e (7 + 3 * j + 2) (by omega) (by omega)]
    have h9 := c1 j j0 j1
    exact ⟨⟨h9.1.1, Int.lt_of_lt_of_le h9.1.2.1 hm, h9.1.2.2⟩, h9.2.1, h9.2.2.1, by have := h9.2.2.2; omega⟩
  · rw [e (7 + 3 * j + 0) (by omega) (by omega), e (7 + 3 * l + 0) (by omega) (by omega)]
    exact c2 j l j0 j1 l1
  · obtain ⟨d1, p, q, d2, d3, d4, d5⟩ := c4 z
    exact ⟨d1, p, q, d2, d3, by omega, d5⟩
  · rw [e (7 + 3 * j + 1) (by omega) (by omega)]
    exact c7 z j j0 j1
theorem IVr.up {k k' : Int} {G G' : Gm} {r : Int} (h : IVr k G r) (hk : k ≤ k') (hm : G 4 ≤ G' 4) (e : ∀ j : Int, 0 ≤ j → j < 16 → G' (132 + 16 * r + j).toNat = G (132 + 16 * r + j).toNat) : IVr k' G' r := RW.up h hk hm e
theorem IVw.up {k k' : Int} {G G' : Gm} {w : Int} (h : IVw k G w) (hk : k ≤ k') (e : ∀ j : Int, 0 ≤ j → j < 9 → G' (6 + 9 * w + j).toNat = G (6 + 9 * w + j).toNat) : IVw k' G' w := by
  unfold IVw at h ⊢
  rw [e 0 (by decide) (by decide), e 1 (by decide) (by decide), e 2 (by decide) (by decide), e 3 (by decide) (by decide), e 4 (by decide) (by decide), e 5 (by decide) (by decide), e 6 (by decide) (by decide), e 7 (by decide) (by decide), e 8 (by decide) (by decide)]
  omega
theorem IVp.up {k k' : Int} {G G' : Gm} (h : IVp k G) (hk : k ≤ k') (e : ∀ j : Nat, 60 ≤ j → j < 132 → G' j = G j) : IVp k' G' := by
  refine ⟨fun a b a0 a1 c0 c1 => ?_, fun a a0 a1 => ?_⟩
  · rw [e _ (by omega) (by omega), e _ (by omega) (by omega)]
    have h9 := h.1 a b a0 a1 c0 c1
    exact ⟨h9.1, h9.2.1, by omega⟩
  · rw [e _ (by omega) (by omega), e _ (by omega) (by omega)]
    exact h.2 a a0 a1
theorem IVt.up {k k' : Int} {G G' : Gm} (h : IVt k G) (hk : k ≤ k') (e : ∀ j : Nat, j < 6 → G' j = G j) : IVt k' G' := by
  unfold IVt at h ⊢
  rw [e 0 (by decide), e 1 (by decide), e 2 (by decide), e 3 (by decide), e 4 (by decide), e 5 (by decide)]
  omega
theorem IV.up {k k' : Int} {G : Gm} (h : IV k G) (hk : k ≤ k') (hk' : k' ≤ 1000) : IV k' G := ⟨⟨by have := h.1; omega, hk'⟩, h.2.1.up hk (fun _ _ => rfl), fun w w0 w1 => (h.2.2.1 w w0 w1).up hk (fun _ _ _ => rfl), fun r r0 r1 => (h.2.2.2.1 r r0 r1).up hk (Int.le_refl _) (fun _ _ _ => rfl), h.2.2.2.2.up hk (fun _ _ _ => rfl)⟩
def DZ (G : Gm) : Prop := (∀ w j : Int, G 4 ≤ w → w < 6 → 0 ≤ j → j < 9 → G (6 + 9 * w + j).toNat = 0) ∧ ∀ a b : Int, 0 ≤ a → a < 6 → 0 ≤ b → b < 6 → (G (96 + 6 * a + b).toNat) = 0
def DI (G : Gm) : Prop := IV 0 G ∧ DZ G
theorem RW_new {k m size : Int} {R : Int → Int} (hs : 1 ≤ size ∧ size ≤ 9) (h0 : R 0 = size) (h2 : R 2 = -1) (h3 : R 3 = -1) (hz : ∀ j, 0 < j → j < 16 → j ≠ 2 → j ≠ 3 → R j = 0) : RW k m R := by
  have e1 := hz 1 (by decide) (by decide) (by decide) (by decide)
  have e4 := hz 4 (by decide) (by decide) (by decide) (by decide)
  have e5 := hz 5 (by decide) (by decide) (by decide) (by decide)
  have e6 := hz 6 (by decide) (by decide) (by decide) (by decide)
  unfold RW
  rw [h0, h2, h3, e1, e4, e5, e6]
  refine ⟨⟨hs, by decide, by decide, by decide, by decide, by decide⟩, fun j j0 j1 => by omega, fun j l j0 j1 l1 => by omega, fun _ => ⟨rfl, rfl, rfl⟩, fun z => absurd z (by decide), fun _ => ⟨by decide, fun z => absurd z (by decide)⟩, fun z => absurd z (by decide), fun z => absurd z (by decide)⟩
theorem IV.row1 {k : Int} {G : Gm} {size : Int} (h : IV k G) (h5 : G 5 < 24) (hs : 1 ≤ size ∧ size ≤ 9) : IV k (fRow1 G size) := by
  have g5 := h.2.1.2.2.2.2.2.1
  have h4 := h.2.1.2.2.2.2.1
  have hn : ∀ j : Nat, (j : Int) < 132 + 16 * G 5 → j ≠ 5 → fRow1 G size j = G j := fun j a b => fRow1_n g5 (Or.inl a) b
  have e5 := fRow1_5 (g := G) (size := size) g5
  have e4 : fRow1 G size 4 = G 4 := hn 4 (by omega) (by decide)
  refine ⟨h.1, ?_, fun w w0 w1 => ?_, fun r r0 r1 => ?_, h.2.2.2.2.up (Int.le_refl _) (fun j j0 j1 => hn j (by omega) (by omega))⟩
  · have ht := h.2.1
    unfold IVt at ht ⊢
    rw [hn 0 (by omega) (by decide), hn 1 (by omega) (by decide), hn 2 (by omega) (by decide), hn 3 (by omega) (by decide), e4, e5]
    omega
  · rw [e4] at w1
    exact (h.2.2.1 w w0 w1).up (Int.le_refl _) (fun j j0 j1 => hn _ (by omega) (by omega))
  · rw [e5] at r1
    by_cases q : r = G 5
    · subst q
      exact RW_new hs (fRow1_0 g5) (fRow1_2 g5) fRow1_3 (fun j a b c d => fRow1_z g5 ⟨a, b⟩ c d)
    · exact (h.2.2.2.1 r r0 (by omega)).up (Int.le_refl _) (Int.le_of_eq e4.symm) (fun j j0 j1 => hn _ (by omega) (by omega))
theorem IV.rows {k : Int} {G : Gm} {size : Int} (h : IV k G) (hs : 1 ≤ size ∧ size ≤ 9) : ∀ i, 0 ≤ i → i ≤ 24 → G 5 + i ≤ 24 → IV k (fRows G i size) ∧ ∀ j : Nat, (j : Int) < 132 + 16 * G 5 → j ≠ 5 → fRows G i size j = G j := by
  have g5 := h.2.1.2.2.2.2.2.1
  refine zup (n := 24) (fun i => G 5 + i ≤ 24 → IV k (fRows G i size) ∧ ∀ j : Nat, (j : Int) < 132 + 16 * G 5 → j ≠ 5 → fRows G i size j = G j) (fun _ => ⟨h, fun _ _ _ => rfl⟩) (fun i i0 i1 ih hi => ?_)
  obtain ⟨a, b⟩ := ih (by omega)
  have e5 := fRows_5 (size := size) g5 i i0 (by omega)
  rw [fRows_s i0]
  refine ⟨a.row1 (by omega) hs, fun j j0 j1 => ?_⟩
  rw [fRow1_n (by omega) (Or.inl (by omega)) j1]
  exact b j j0 j1
theorem DI.rows {G : Gm} {many size : Int} (h : DI G) (hm : 0 ≤ many ∧ G 5 + many ≤ 24) (hs : 1 ≤ size ∧ size ≤ 9) : DI (fRows G many size) := by
  have g5 := h.1.2.1.2.2.2.2.2.1
  have h4 := h.1.2.1.2.2.2.2.1
  obtain ⟨a, b⟩ := h.1.rows hs many hm.1 (by omega) hm.2
  refine ⟨a, fun w j w0 w1 j0 j1 => ?_, fun p q p0 p1 q0 q1 => ?_⟩
  · rw [b 4 (by omega) (by decide)] at w0
    rw [b _ (by omega) (by omega)]
    exact h.2.1 w j w0 w1 j0 j1
  · rw [b _ (by omega) (by omega)]
    exact h.2.2 p q p0 p1 q0 q1
/-- a worker more -/
def F_wk (G : Gm) (nm tm qo tr : Int) : Gm := gU (gU (gU (gU (gU G (6 + 9 * G 4 + 0) nm) (6 + 9 * G 4 + 1) tm) (6 + 9 * G 4 + 2) qo) (6 + 9 * G 4 + 3) tr) 4 (G 4 + 1)
theorem F_wk_n {G : Gm} {nm tm qo tr : Int} (h4 : 0 ≤ G 4) {k : Nat} (hk : k ≠ 4) (hk2 : (k : Int) < 6 + 9 * G 4 ∨ 6 + 9 * G 4 + 4 ≤ (k : Int)) : F_wk G nm tm qo tr k = G k := by
  unfold F_wk
  rw [gU_n _ (by omega), gU_n _ (by omega), gU_n _ (by omega), gU_n _ (by omega), gU_n _ (by omega)]
theorem F_wk_4 {G : Gm} {nm tm qo tr : Int} : F_wk G nm tm qo tr 4 = G 4 + 1 := gU_s _ 4 _
theorem F_wk_c {G : Gm} {nm tm qo tr : Int} (h4 : 0 ≤ G 4) : F_wk G nm tm qo tr (6 + 9 * G 4 + 0).toNat = nm ∧ F_wk G nm tm qo tr (6 + 9 * G 4 + 1).toNat = tm ∧ F_wk G nm tm qo tr (6 + 9 * G 4 + 2).toNat = qo ∧ F_wk G nm tm qo tr (6 + 9 * G 4 + 3).toNat = tr := by
  unfold F_wk
  refine ⟨?_, ?_, ?_, ?_⟩
  · rw [gU_n _ (by omega), gU_n _ (by omega), gU_n _ (by omega), gU_n _ (by omega), gU_s]
  · rw [gU_n _ (by omega), gU_n _ (by omega), gU_n _ (by omega), gU_s]
  · rw [gU_n _ (by omega), gU_n _ (by omega), gU_s]
  · rw [gU_n _ (by omega), gU_s]
theorem DI.wk {G : Gm} {nm tm qo tr : Int} (h : DI G) (h6 : G 4 < 6) (hn : 1 ≤ nm ∧ nm < 387420489) (ht : 0 ≤ tm ∧ tm ≤ 5) (hq : 1 ≤ qo ∧ qo ≤ 5) (hr : 0 ≤ tr ∧ tr ≤ 20) : DI (F_wk G nm tm qo tr) := by
  have h4 := h.1.2.1.2.2.2.2.1
  have g5 := h.1.2.1.2.2.2.2.2
  have e4 := F_wk_4 (G := G) (nm := nm) (tm := tm) (qo := qo) (tr := tr)
  obtain ⟨c0, c1, c2, c3⟩ := F_wk_c (nm := nm) (tm := tm) (qo := qo) (tr := tr) h4.1
  have e : ∀ {k : Nat}, k ≠ 4 → (k : Int) < 6 + 9 * G 4 ∨ 6 + 9 * G 4 + 4 ≤ (k : Int) → F_wk G nm tm qo tr k = G k := fun a b => F_wk_n h4.1 a b
  have e5 : F_wk G nm tm qo tr 5 = G 5 := e (by decide) (by omega)
  refine ⟨⟨h.1.1, ?_, fun w w0 w1 => ?_, fun r r0 r1 => ?_, h.1.2.2.2.2.up (Int.le_refl _) (fun j j0 j1 => e (by omega) (by omega))⟩, fun w j w0 w1 j0 j1 => ?_, fun p q p0 p1 q0 q1 => ?_⟩
  · have ht := h.1.2.1
    unfold IVt at ht ⊢
    rw [e (k := 0) (by decide) (by omega), e (k := 1) (by decide) (by omega), e (k := 2) (by decide) (by omega), e (k := 3) (by decide) (by omega), e4, e5]
    omega
  · rw [e4] at w1
    by_cases q : w = G 4
    · subst q
      unfold IVw
      rw [c0, c1, c2, c3]
      rw [e (k := (6 + 9 * G 4 + 4).toNat) (by omega) (by omega), e (k := (6 + 9 * G 4 + 5).toNat) (by omega) (by omega), e (k := (6 + 9 * G 4 + 6).toNat) (by omega) (by omega), e (k := (6 + 9 * G 4 + 7).toNat) (by omega) (by omega), e (k := (6 + 9 * G 4 + 8).toNat) (by omega) (by omega)]
      rw [h.2.1 (G 4) 4 (Int.le_refl _) h6 (by decide) (by decide), h.2.1 (G 4) 5 (Int.le_refl _) h6 (by decide) (by decide), h.2.1 (G 4) 6 (Int.le_refl _) h6 (by decide) (by decide), h.2.1 (G 4) 7 (Int.le_refl _) h6 (by decide) (by decide), h.2.1 (G 4) 8 (Int.le_refl _) h6 (by decide) (by decide)]
      omega
    · exact (h.1.2.2.1 w w0 (by omega)).up (Int.le_refl _) (fun j j0 j1 => e (by omega) (by omega))
  · rw [e5] at r1
    exact (h.1.2.2.2.1 r r0 r1).up (Int.le_refl _) (by rw [e4]; omega) (fun j j0 j1 => e (by omega) (by omega))
  · rw [e4] at w0
    rw [e (by omega) (by omega)]
    exact h.2.1 w j (by omega) w1 j0 j1
  · rw [e (by omega) (by omega)]
    exact h.2.2 p q p0 p1 q0 q1
theorem DI.bar {G : Gm} {a b : Int} (h : DI G) (ha : 0 ≤ a ∧ a < 6) (hb : 0 ≤ b ∧ b < 6) (hne : a ≠ b) : DI (gU (gU G (60 + 6 * a + b) 1) (60 + 6 * b + a) 1) := by
  have h4 := h.1.2.1.2.2.2.2.1
  have g5 := h.1.2.1.2.2.2.2.2
  have e : ∀ {k : Nat}, k < 60 ∨ 96 ≤ k → gU (gU G (60 + 6 * a + b) 1) (60 + 6 * b + a) 1 k = G k := fun z => by rw [gU_n _ (by omega), gU_n _ (by omega)]
  have hB : ∀ p q : Int, 0 ≤ p → p < 6 → 0 ≤ q → q < 6 → (gU (gU G (60 + 6 * a + b) 1) (60 + 6 * b + a) 1 (60 + 6 * p + q).toNat = G (60 + 6 * p + q).toNat ∨ (gU (gU G (60 + 6 * a + b) 1) (60 + 6 * b + a) 1 (60 + 6 * p + q).toNat = 1 ∧ p ≠ q)) := fun p q p0 p1 q0 q1 => by
    by_cases z : 60 + 6 * p + q = 60 + 6 * b + a
    · refine Or.inr ⟨by rw [z]; exact gU_s _ _ _, by omega⟩
    · rw [gU_n _ (by omega)]
      by_cases y : 60 + 6 * p + q = 60 + 6 * a + b
      · refine Or.inr ⟨by rw [y]; exact gU_s _ _ _, by omega⟩
      · exact Or.inl (gU_n _ (by omega))
  refine ⟨⟨h.1.1, h.1.2.1.up (Int.le_refl _) (fun j hj => e (by omega)), fun w w0 w1 => ?_, fun r r0 r1 => ?_, fun p q p0 p1 q0 q1 => ?_, fun p p0 p1 => ?_⟩, fun w j w0 w1 j0 j1 => ?_, fun p q p0 p1 q0 q1 => ?_⟩
  · rw [e (by omega)] at w1
    exact (h.1.2.2.1 w w0 w1).up (Int.le_refl _) (fun j j0 j1 => e (by omega))
  · rw [e (by omega)] at r1
    exact (h.1.2.2.2.1 r r0 r1).up (Int.le_refl _) (by rw [e (k := 4) (by omega)]; exact Int.le_refl _) (fun j j0 j1 => e (by omega))
  · have h9 := h.1.2.2.2.2.1 p q p0 p1 q0 q1
    rw [e (k := (96 + 6 * p + q).toNat) (by omega)]
    refine ⟨?_, h9.2⟩
    rcases hB p q p0 p1 q0 q1 with z | z
    · rw [z]; exact h9.1
    · exact Or.inr z.1
  · have h9 := h.1.2.2.2.2.2 p p0 p1
    rw [e (k := (96 + 6 * p + p).toNat) (by omega)]
    refine ⟨?_, h9.2⟩
    rcases hB p p p0 p1 p0 p1 with z | z
    · rw [z]; exact h9.1
    · exact absurd rfl z.2
  · rw [e (k := 4) (by omega)] at w0
    rw [e (by omega)]
    exact h.2.1 w j w0 w1 j0 j1
  · rw [e (by omega)]
    exact h.2.2 p q p0 p1 q0 q1
def gZ : Gm := fun _ => 0
theorem DI.tab {a b c : Int} (ha : 0 ≤ a ∧ a ≤ 20) (hb : 1 ≤ b ∧ b ≤ 50) (hc : 0 ≤ c ∧ c ≤ 19) : DI (gU (gU (gU gZ 0 a) 1 b) 2 c) := by
  have e : ∀ {k : Nat}, 3 ≤ k → gU (gU (gU gZ 0 a) 1 b) 2 c k = 0 := fun {k} z => by
    rw [gU_n _ (by show k ≠ 2; omega), gU_n _ (by show k ≠ 1; omega), gU_n _ (by show k ≠ 0; omega)]
    rfl
  have e0 : gU (gU (gU gZ 0 a) 1 b) 2 c 0 = a := by rw [gU_n _ (by decide), gU_n _ (by decide)]; exact gU_s _ 0 _
  have e1 : gU (gU (gU gZ 0 a) 1 b) 2 c 1 = b := by rw [gU_n _ (by decide)]; exact gU_s _ 1 _
  have e2 : gU (gU (gU gZ 0 a) 1 b) 2 c 2 = c := gU_s _ 2 _
  refine ⟨⟨by decide, ?_, fun w w0 w1 => ?_, fun r r0 r1 => ?_, fun p q p0 p1 q0 q1 => ?_, fun p p0 p1 => ?_⟩, fun w j w0 w1 j0 j1 => by rw [e (k := 4) (by decide)] at w0; exact e (by omega), fun p q p0 p1 q0 q1 => e (by omega)⟩
  · unfold IVt
    rw [e0, e1, e2, e (by decide), e (by decide), e (by decide)]
    omega
  · rw [e (by decide)] at w1
    omega
  · rw [e (by decide)] at r1
    omega
  · rw [e (by omega), e (by omega)]
    exact ⟨Or.inl rfl, by decide, by decide⟩
  · rw [e (by omega), e (by omega)]
    exact ⟨rfl, rfl⟩
