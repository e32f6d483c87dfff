def Fr (S : Nat → Prop) (M M' : ZM) : Prop := zN M ≤ zN M' ∧ (∀ j, j < zN M → zK M' j = zK M j ∧ zLn M' j = zLn M j ∧ (¬ S j → zI M' j = zI M j ∧ zR M' j = zR M j) ∧ ∀ k, zK M j ≠ 10 → zK M j ≠ 1 → zR M' j k = zR M j k) ∧ ∀ s l, zTx M s l → zTx M' s l
theorem Fr.n {S : Nat → Prop} {M M' : ZM} (h : Fr S M M') : zN M ≤ zN M' := h.1
theorem Fr.rf {S : Nat → Prop} {M : ZM} : Fr S M M := ⟨Nat.le_refl _, fun _ _ => ⟨rfl, rfl, fun _ => ⟨rfl, rfl⟩, fun _ _ _ => rfl⟩, fun _ _ h => h⟩
theorem Fr.tr {S : Nat → Prop} {M M' M2 : ZM} (h : Fr S M M') (h2 : Fr S M' M2) : Fr S M M2 := by
  refine ⟨Nat.le_trans h.1 h2.1, fun j hj => ?_, fun s l q => h2.2.2 s l (h.2.2 s l q)⟩
  obtain ⟨a1, a2, a3, a4⟩ := h.2.1 j hj
  obtain ⟨b1, b2, b3, b4⟩ := h2.2.1 j (Nat.lt_of_lt_of_le hj h.1)
  exact ⟨b1.trans a1, b2.trans a2, fun q => ⟨(b3 q).1.trans (a3 q).1, (b3 q).2.trans (a3 q).2⟩, fun k q1 q2 => (b4 k (by rw [a1]; exact q1) (by rw [a1]; exact q2)).trans (a4 k q1 q2)⟩
theorem Fr.mono {S T : Nat → Prop} {M M' : ZM} (h : Fr S M M') (hs : ∀ j, S j → T j) : Fr T M M' := ⟨h.1, fun j hj => ⟨(h.2.1 j hj).1, (h.2.1 j hj).2.1, fun q => (h.2.1 j hj).2.2.1 (fun z => q (hs j z)), (h.2.1 j hj).2.2.2⟩, h.2.2⟩
theorem zW.fr {S : Nat → Prop} {M M' : ZM} {j κ : Nat} (h : zW M j κ) (f : Fr S M M') : zW M' j κ := ⟨(f.2.1 j h.2.2).1.trans h.1, h.2.1, Nat.lt_of_lt_of_le h.2.2 f.1⟩
theorem zO.fr {S : Nat → Prop} {M M' : ZM} {j κ : Nat} (h : zO M j κ) (f : Fr S M M') : zO M' j κ := ⟨(f.2.1 j h.2).1.trans h.1, Nat.lt_of_lt_of_le h.2 f.1⟩
theorem Fr.ln {S : Nat → Prop} {M M' : ZM} {j κ n : Nat} (f : Fr S M M') (h : zW M j κ) (e : zLn M j = n) : zLn M' j = n := (f.2.1 j h.2.2).2.1.trans e
theorem Fr.r {S : Nat → Prop} {M M' : ZM} {j κ k : Nat} {x : Option Nat} (f : Fr S M M') (h : zW M j κ) (h1 : κ ≠ 10) (h2 : κ ≠ 1) (e : zR M j k = x) : zR M' j k = x := ((f.2.1 j h.2.2).2.2.2 k (by rw [h.1]; exact h1) (by rw [h.1]; exact h2)).trans e
theorem Fr.i {S : Nat → Prop} {M M' : ZM} {j κ : Nat} (f : Fr S M M') (h : zW M j κ) (hs : ¬ S j) : zI M' j = zI M j := ((f.2.1 j h.2.2).2.2.1 hs).1
theorem Fr.rr {S : Nat → Prop} {M M' : ZM} {j κ : Nat} (f : Fr S M M') (h : zW M j κ) (hs : ¬ S j) : zR M' j = zR M j := ((f.2.1 j h.2.2).2.2.1 hs).2
theorem LRow.fr {S : Nat → Prop} {M M' : ZM} {j : Nat} (h : LRow M j) (f : Fr S M M') : LRow M' j := ⟨h.w.fr f, f.r h.w (by decide) (by decide) h.r9, h.a9.fr f, f.ln h.a9 h.l9⟩
theorem LTab.fr {S : Nat → Prop} {M M' : ZM} {t : Nat} (h : LTab M t) (f : Fr S M M') : LTab M' t := ⟨h.w.fr f, ⟨f.r h.w (by decide) (by decide) h.r6, h.aTwk.fr f, f.ln h.aTwk h.lTwk⟩, ⟨f.r h.w (by decide) (by decide) h.r7, h.aTrow.fr f, f.ln h.aTrow h.lTrow⟩, ⟨f.r h.w (by decide) (by decide) h.r8, h.aTst.fr f, f.ln h.aTst h.lTst⟩, ⟨f.r h.w (by decide) (by decide) h.r9, h.aTtold.fr f, f.ln h.aTtold h.lTtold⟩, fun i h0 h1 => ⟨f.r h.aTwk (by decide) (by decide) (h.wk h0 h1).1, (h.wk h0 h1).2.fr f⟩, fun i h0 h1 => ⟨f.r h.aTrow (by decide) (by decide) (h.row h0 h1).1, (h.row h0 h1).2.fr f⟩⟩
theorem LV.fr {S : Nat → Prop} {M M' : ZM} (h : LV M) (f : Fr S M M') : LV M' := ⟨h.w.fr f, f.r h.w (by decide) (by decide) h.r0, f.r h.w (by decide) (by decide) h.r1, f.r h.w (by decide) (by decide) h.r2, f.r h.w (by decide) (by decide) h.r3, f.r h.w (by decide) (by decide) h.r4, f.r h.w (by decide) (by decide) h.r5, f.r h.w (by decide) (by decide) h.r6, f.r h.w (by decide) (by decide) h.r7, h.wP.fr f, f.r h.wP (by decide) (by decide) h.p2, f.r h.wP (by decide) (by decide) h.p3, h.wI.fr f, f.r h.wI (by decide) (by decide) h.i0, h.a_bytes.fr f, f.ln h.a_bytes h.l_bytes, f.r h.wI (by decide) (by decide) h.i2, h.wTB.fr f, h.a_tb.fr f, f.ln h.a_tb h.l_tb, h.draft.fr f, h.tab.fr f, h.wH.fr f, f.r h.wH (by decide) (by decide) h.h2, h.a_htab.fr f, f.ln h.a_htab h.l_htab, fun i h0 h1 => ⟨f.r h.a_htab (by decide) (by decide) (h.hh i h0 h1).1, (h.hh i h0 h1).2.fr f⟩, h.a_slots.fr f, f.ln h.a_slots h.l_slots, fun i h0 h1 => ⟨f.r h.a_slots (by decide) (by decide) (h.ss i h0 h1).1, (h.ss i h0 h1).2.fr f⟩, h.a_filled.fr f, f.ln h.a_filled h.l_filled, h.wVd.fr f, f.r h.wVd (by decide) (by decide) h.d4, h.a_Vd4.fr f, f.ln h.a_Vd4 h.l_Vd4, f.r h.wVd (by decide) (by decide) h.d5, h.a_Vd5.fr f, f.ln h.a_Vd5 h.l_Vd5, f.r h.wVd (by decide) (by decide) h.d6, h.a_Vd6.fr f, f.ln h.a_Vd6 h.l_Vd6, h.wSB.fr f⟩
theorem LY.fr {S : Nat → Prop} {M M' : ZM} (h : LY M) (f : Fr S M M') : LY M' := ⟨h.w.fr f, f.r h.w (by decide) (by decide) h.r1, h.a1.fr f, f.ln h.a1 h.l1, f.r h.w (by decide) (by decide) h.r2, h.a2.fr f, f.ln h.a2 h.l2, f.r h.w (by decide) (by decide) h.r4, h.a4.fr f, f.ln h.a4 h.l4, f.r h.w (by decide) (by decide) h.r5, h.a5.fr f, f.ln h.a5 h.l5, f.r h.w (by decide) (by decide) h.r14, h.a14.fr f, f.ln h.a14 h.l14, f.r h.w (by decide) (by decide) h.r15, h.a15.fr f, f.ln h.a15 h.l15, f.r h.w (by decide) (by decide) h.r16, h.a16.fr f, f.ln h.a16 h.l16, f.r h.w (by decide) (by decide) h.r17, h.a17.fr f, f.ln h.a17 h.l17, f.r h.w (by decide) (by decide) h.r18, h.a18.fr f, f.ln h.a18 h.l18, f.r h.w (by decide) (by decide) h.r20, h.a20.fr f, f.ln h.a20 h.l20⟩
theorem MA.fr {S : Nat → Prop} {M M' : ZM} {A : Nat} (hy : LY M) (h : MA M A) (f : Fr S M M') : MA M' A := ⟨f.r hy.w (by decide) (by decide) h.1, h.2.1.fr f, f.ln h.2.1 h.2.2⟩
theorem zTx_I {M : ZM} {j κ k : Nat} {v : Int} (hw : zW M j κ) (h0 : κ ≠ 0) (h1 : κ ≠ 21) {s : Nat} {l : List Int} (h : zTx M s l) : zTx (zsI M j k v) s l := by
  obtain ⟨a1, a2, u, a3, a4, a5, a7, a6⟩ := h
  have e1 : s ≠ j := fun e => by have h8 := a1.1; have h9 := hw.1; rw [e] at h8; omega
  have e2 : u ≠ j := fun e => by have h8 := a4.1; have h9 := hw.1; rw [e] at h8; omega
  exact ⟨a1, by rw [zI_In M k v e1]; exact a2, u, a3, a4, a5, a7, fun i hi => by rw [zI_In M k v e2]; exact a6 i hi⟩
theorem Fr_I {M : ZM} {S : Nat → Prop} {j κ k : Nat} {v : Int} (hw : zW M j κ) (h0 : κ ≠ 0) (h1 : κ ≠ 21) (hs : S j) : Fr S M (zsI M j k v) := ⟨Nat.le_refl _, fun x _ => ⟨rfl, rfl, fun q => ⟨zI_In M k v (fun e => q (e ▸ hs)), rfl⟩, fun _ _ _ => rfl⟩, fun _ _ h => zTx_I hw h0 h1 h⟩
theorem zTx_A {M : ZM} {j κ : Nat} {g : Nat → Int} (hw : zW M j κ) (h0 : κ ≠ 0) (h1 : κ ≠ 21) {s : Nat} {l : List Int} (h : zTx M s l) : zTx (zsA M j g) s l := by
  obtain ⟨a1, a2, u, a3, a4, a5, a7, a6⟩ := h
  have e1 : s ≠ j := fun e => by have h8 := a1.1; have h9 := hw.1; rw [e] at h8; omega
  have e2 : u ≠ j := fun e => by have h8 := a4.1; have h9 := hw.1; rw [e] at h8; omega
  exact ⟨a1, by rw [zI_An M g e1]; exact a2, u, a3, a4, a5, a7, fun i hi => by rw [zI_An M g e2]; exact a6 i hi⟩
theorem Fr_A {M : ZM} {S : Nat → Prop} {j κ : Nat} {g : Nat → Int} (hw : zW M j κ) (h0 : κ ≠ 0) (h1 : κ ≠ 21) (hs : S j) : Fr S M (zsA M j g) := ⟨Nat.le_refl _, fun x _ => ⟨rfl, rfl, fun q => ⟨zI_An M g (fun e => q (e ▸ hs)), rfl⟩, fun _ _ _ => rfl⟩, fun _ _ h => zTx_A hw h0 h1 h⟩
theorem zTx_Ab {M : ZM} {j : Nat} {g : Nat → Int} (hw : zW M j 21) (hj : j < 670) {s : Nat} {l : List Int} (h : zTx M s l) : zTx (zsA M j g) s l := by
  obtain ⟨a1, a2, u, a3, a4, a5, a7, a6⟩ := h
  have e1 : s ≠ j := fun e => by have h8 := a1.1; have h9 := hw.1; rw [e] at h8; omega
  have e2 : u ≠ j := fun e => by have h8 := a7.1; have h9 : 64 ≤ j := hw.2.1; omega
  exact ⟨a1, by rw [zI_An M g e1]; exact a2, u, a3, a4, a5, a7, fun i hi => by rw [zI_An M g e2]; exact a6 i hi⟩
theorem Fr_Ab {M : ZM} {S : Nat → Prop} {j : Nat} {g : Nat → Int} (hw : zW M j 21) (hj : j < 670) (hs : S j) : Fr S M (zsA M j g) := ⟨Nat.le_refl _, fun x _ => ⟨rfl, rfl, fun q => ⟨zI_An M g (fun e => q (e ▸ hs)), rfl⟩, fun _ _ _ => rfl⟩, fun _ _ h => zTx_Ab hw hj h⟩
/-- the memory anew at a place of the walk -/
theorem zMr {Ψ : ZPhi} {pc : Nat} {L : List (Option ZV)} {st : List ZV} {M M' : ZM} {k n : Nat} (e : M = M') (h : Ψ pc L st M' k n) : Ψ pc L st M k n := e ▸ h
def gU (g : Gm) (i v : Int) : Gm := upd1 g i.toNat v
theorem gU_s (g : Gm) (i v : Int) : gU g i v i.toNat = v := upd1_s _ _ _
theorem gU_n (g : Gm) {i v : Int} {k : Nat} (h : k ≠ i.toNat) : gU g i v k = g k := upd1_n _ _ h
theorem gU_if (g : Gm) (i v : Int) (k : Nat) : gU g i v k = if k = i.toNat then v else g k := rfl
theorem zsI_gU (M : ZM) (A : Nat) (g : Gm) (i v : Int) : zsI (zsA M A g) A i.toNat v = zsA M A (gU g i v) := zsI_sA _ _ _ _ _
theorem zsI_g0 (M : ZM) (A : Nat) (i v : Int) : zsI M A i.toNat v = zsA M A (gU (zI M A) i v) := zsI_A _ _ _ _
theorem zIa (M : ZM) (A : Nat) (g : Gm) (k : Nat) : zI (zsA M A g) A k = g k := congrFun (zI_A M A g) k
theorem zsA_F (M : ZM) (A : Nat) (g : Gm) (F : Gm → Gm) : zsA (zsA M A g) A (F (zI (zsA M A g) A)) = zsA M A (F g) := by rw [zI_A, zsA_A]
/-- the numbers of a table: all but names, finishers, counts in work -/
def TRc (M : ZM) (t : Nat) (G : Gm) : Prop := (∀ k : Nat, k < 6 → zI M t k = G k) ∧ (∀ w : Int, 0 ≤ w → w < G 4 → zI M (t + 5 + w.toNat) 1 = (G (6 + 9 * w + 1).toNat) ∧ zI M (t + 5 + w.toNat) 2 = (G (6 + 9 * w + 2).toNat) ∧ zI M (t + 5 + w.toNat) 3 = (G (6 + 9 * w + 3).toNat) ∧ zI M (t + 5 + w.toNat) 5 = (G (6 + 9 * w + 4).toNat) ∧ zI M (t + 5 + w.toNat) 6 = (G (6 + 9 * w + 5).toNat) ∧ zI M (t + 5 + w.toNat) 7 = (G (6 + 9 * w + 6).toNat) ∧ zI M (t + 5 + w.toNat) 8 = (G (6 + 9 * w + 7).toNat) ∧ zI M (t + 5 + w.toNat) 9 = (G (6 + 9 * w + 8).toNat)) ∧ (∀ r : Int, 0 ≤ r → r < G 5 → (zI M (t + 11 + 2 * r.toNat) 0 = (G (132 + 16 * r + 0).toNat) ∧ zI M (t + 11 + 2 * r.toNat) 1 = (G (132 + 16 * r + 1).toNat) ∧ zI M (t + 11 + 2 * r.toNat) 2 = (G (132 + 16 * r + 2).toNat) ∧ zI M (t + 11 + 2 * r.toNat) 3 = b2i (decide ((G (132 + 16 * r + 3).toNat) ≠ -1)) ∧ zI M (t + 11 + 2 * r.toNat) 4 = (G (132 + 16 * r + 3).toNat) ∧ zI M (t + 11 + 2 * r.toNat) 5 = (G (132 + 16 * r + 4).toNat) ∧ zI M (t + 11 + 2 * r.toNat) 8 = (G (132 + 16 * r + 6).toNat)) ∧ ∀ k : Int, 0 ≤ k → k < (G (132 + 16 * r + 6).toNat) → zI M (t + 11 + 2 * r.toNat + 1) (k * 3).toNat = (G (132 + 16 * r + (7 + 3 * k + 0)).toNat) ∧ zI M (t + 11 + 2 * r.toNat + 1) (k * 3 + 1).toNat = (G (132 + 16 * r + (7 + 3 * k + 1)).toNat) ∧ zI M (t + 11 + 2 * r.toNat + 1) (k * 3 + 2).toNat = (G (132 + 16 * r + (7 + 3 * k + 2)).toNat)) ∧ ∀ a b : Int, 0 ≤ a → a < 6 → 0 ≤ b → b < 6 → zI M (t + 3) (fPix a b).toNat = (G (96 + 6 * a + b).toNat) ∧ zI M (t + 4) (fPix a b).toNat = (G (60 + 6 * a + b).toNat)
def TRf (M : ZM) (t : Nat) (G : Gm) : Prop := ∀ r : Int, 0 ≤ r → r < G 5 → (G (132 + 16 * r + 1).toNat) = 2 → (0 ≤ zI M (t + 11 + 2 * r.toNat) 6 ∧ zI M (t + 11 + 2 * r.toNat) 6 < 6) ∧ (0 ≤ zI M (t + 11 + 2 * r.toNat) 7 ∧ zI M (t + 11 + 2 * r.toNat) 7 < 6) ∧ zI M (t + 11 + 2 * r.toNat) 6 ≠ zI M (t + 11 + 2 * r.toNat) 7 ∧ zI M (t + 11 + 2 * r.toNat) 6 < G 4 ∧ zI M (t + 11 + 2 * r.toNat) 7 < G 4 ∧ (G (132 + 16 * r + 5).toNat) = zor (zshl 1 (zI M (t + 11 + 2 * r.toNat) 6)) (zshl 1 (zI M (t + 11 + 2 * r.toNat) 7))
def TRn (M : ZM) (t : Nat) (G : Gm) : Prop := ∀ w : Int, 0 ≤ w → w < G 4 → WRn M (t + 5 + w.toNat) (G (6 + 9 * w + 0).toNat)
theorem TR_iff {M : ZM} {t : Nat} {G : Gm} : TR M t G ↔ TRc M t G ∧ TRf M t G ∧ TRn M t G ∧ TRi M t G := by
  constructor
  · intro h
    refine ⟨⟨fun k hk => ?_, fun w h0 h1 => ⟨h.w1 h0 h1, h.w2 h0 h1, h.w3 h0 h1, h.w5 h0 h1, h.w6 h0 h1, h.w7 h0 h1, h.w8 h0 h1, h.w9 h0 h1⟩, fun r h0 h1 => ⟨⟨h.r0 h0 h1, h.r1 h0 h1, h.r2 h0 h1, h.r3 h0 h1, h.r4 h0 h1, h.r5 h0 h1, h.r8 h0 h1⟩, fun k h2 h3 => ⟨h.k0 h0 h1 h2 h3, h.k1 h0 h1 h2 h3, h.k2 h0 h1 h2 h3⟩⟩, fun a b h0 h1 h2 h3 => ⟨h.st h0 h1 h2 h3, h.to h0 h1 h2 h3⟩⟩, fun r h0 h1 h2 => h.rf h0 h1 h2, fun w h0 h1 => h.wn h0 h1, h.2⟩
    rcases k with _ | _ | _ | _ | _ | _ | k
    · exact h.t0
    · exact h.t1
    · exact h.t2
    · exact h.t3
    · exact h.t4
    · exact h.t5
    · omega
  · rintro ⟨⟨c1, c2, c3, c4⟩, hf, hn, hi⟩
    refine ⟨⟨⟨c1 0 (by decide), c1 1 (by decide), c1 2 (by decide), c1 3 (by decide), c1 4 (by decide), c1 5 (by decide)⟩, fun w h0 h1 => ?_, fun r h0 h1 => ?_, c4⟩, hi⟩
    · obtain ⟨d1, d2, d3, d4, d5, d6, d7, d8⟩ := c2 w h0 h1
      exact ⟨d1, d2, d3, d4, d5, d6, d7, d8, hn w h0 h1⟩
    · obtain ⟨⟨d1, d2, d3, d4, d5, d6, d7⟩, d8⟩ := c3 r h0 h1
      exact ⟨d1, d2, d3, d4, d5, d6, d7, hf r h0 h1, d8⟩
