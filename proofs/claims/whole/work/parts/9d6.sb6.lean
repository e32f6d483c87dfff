/-! the invariant of the law's loop -/
/-- the reference's slots -/
def RS (M : ZM) (Q : Int → Gm) (b : Int → Int) : Prop := ∀ s : Int, 0 ≤ s → s < 2 → zI M 678 s.toNat = b s ∧ (b s ≠ 0 → ∀ j : Nat, j < 516 → zI M 677 (516 * s.toNat + j) = Q s j)
/-- what both sides share: constants, the cells for answers, the script -/
def CMd (S : Nat × (Nat → Int)) (M : ZM) : Prop := KC M ∧ KD M ∧ 683 ≤ zN M ∧ (zW M 681 23 ∧ zLn M 681 = 1) ∧ (zW M 682 24 ∧ zLn M 682 = 1) ∧ (zO M 62 20 ∧ zLn M 62 = S.1) ∧ (∀ j, zI M 62 j = S.2 j) ∧ zW M 64 11 ∧ zW M 670 12
/-- the class's side -/
def CSd (M : ZM) (G B : Gm) (n : Int) (P : Int → Gm) (c : Int) (Q : Int → Gm) (b : Int → Int) (o : List Int) (e8 e9 : Int) : Prop :=
  LV M ∧ (TR M 129 G ∧ GI G) ∧ CIn M B n ∧ RQ M P c ∧ SQ M Q b ∧ (∃ cap, SB M 668 cap o) ∧ (vu M 668 = 669 ∨ 683 ≤ vu M 668) ∧ zI M 64 8 = e8 ∧ zI M 64 9 = e9
/-- the reference's side -/
def RSd (M : ZM) (G B : Gm) (n : Int) (P : Int → Gm) (c : Int) (Q : Int → Gm) (b : Int → Int) (o : List Int) (e8 e9 : Int) : Prop :=
  LY M ∧ MA M 671 ∧ zI M 671 = G ∧ RIn M B n ∧ RH M P c ∧ RS M Q b ∧ ROut M o ∧ zI M 670 12 = e8 ∧ zI M 670 13 = e9
def IVd (k : Int) (G : Gm) (P : Int → Gm) (c : Int) (Q : Int → Gm) (b : Int → Int) (o : List Int) : Prop := IV k G ∧ HI k P c ∧ (∀ s : Int, 0 ≤ s → s < 2 → b s ≠ 0 → IV k (Q s)) ∧ ∀ x ∈ o, 0 ≤ x ∧ x < 128
def INV (S : Nat × (Nat → Int)) (k : Int) (M : ZM) : Prop := ∃ (G B : Gm) (n : Int) (P : Int → Gm) (c : Int) (Q : Int → Gm) (b : Int → Int) (o : List Int) (e8 e9 : Int), CMd S M ∧ CSd M G B n P c Q b o e8 e9 ∧ RSd M G B n P c Q b o e8 e9 ∧ IVd k G P c Q b o
theorem IVd.up {k k' : Int} {G : Gm} {P : Int → Gm} {c : Int} {Q : Int → Gm} {b : Int → Int} {o : List Int} (h : IVd k G P c Q b o) (hk : k ≤ k') (hk' : k' ≤ 1000) : IVd k' G P c Q b o := ⟨h.1.up hk hk', h.2.1.up hk hk', fun s s0 s1 q => (h.2.2.1 s s0 s1 q).up hk hk', h.2.2.2⟩
theorem zO.fr9 {T : Nat → Prop} {M M' : ZM} {j κ : Nat} (h : zO M j κ) (f : Fr T M M') : zO M' j κ := ⟨(f.2.1 j h.2).1.trans h.1, Nat.lt_of_lt_of_le h.2 f.1⟩
theorem CMd.fr {T : Nat → Prop} {S : Nat × (Nat → Int)} {M M' : ZM} (h : CMd S M) (f : Fr T M M') (h59 : ¬ T 59) (h60 : ¬ T 60) (h62 : ¬ T 62) : CMd S M' := by
  obtain ⟨a1, a2, a3, ⟨a4, a5⟩, ⟨a6, a7⟩, ⟨a8, a9⟩, aA, aB, aC⟩ := h
  refine ⟨a1.fr f, a2.fr f h59 h60, Nat.le_trans a3 f.1, ⟨a4.fr f, f.ln a4 a5⟩, ⟨a6.fr f, f.ln a6 a7⟩, ⟨a8.fr9 f, (f.2.1 62 a8.2).2.1.trans a9⟩, fun j => ?_, aB.fr f, aC.fr f⟩
  rw [((f.2.1 62 a8.2).2.2.1 h62).1]
  exact aA j
theorem SB.fr9 {T : Nat → Prop} {M M' : ZM} {b c : Nat} {o : List Int} (h : SB M b c o) (f : Fr T M M') (hb : ¬ T b) (hv : ¬ T (vu M b)) : SB M' b c o ∧ vu M' b = vu M b := by
  have eb := f.2.1 b h.w.2.2
  have ev := f.2.1 _ h.a.2.2
  have er : zR M' b = zR M b := (eb.2.2.1 hb).2
  have ei : zI M' b = zI M b := (eb.2.2.1 hb).1
  have ea : zI M' (vu M b) = zI M (vu M b) := (ev.2.2.1 hv).1
  have e : vu M' b = vu M b := by unfold vu; rw [er]
  obtain ⟨q1, ⟨q2, q3, q4⟩, q5, q6, q7, q8⟩ := h
  refine ⟨⟨q1.fr f, ⟨by rw [er, e]; exact q2, by rw [e]; exact q3.fr f, by rw [e]; exact ev.2.1.trans q4⟩, by rw [ei]; exact q5, q6, by rw [e, ea]; exact q7, by rw [e, ea]; exact q8⟩, e⟩
theorem CSd.fr {T : Nat → Prop} {M M' : ZM} {G B : Gm} {n : Int} {P : Int → Gm} {c : Int} {Q : Int → Gm} {b : Int → Int} {o : List Int} {e8 e9 : Int} (h : CSd M G B n P c Q b o e8 e9) (f : Fr T M M') (hs : ∀ j, (64 ≤ j ∧ j < 664) ∨ (668 ≤ j ∧ j < 670) ∨ 683 ≤ j → ¬ T j) : CSd M' G B n P c Q b o e8 e9 := by
  obtain ⟨hL, ⟨hT, hG⟩, hI, hR, hQ, ⟨cap, hS⟩, hv, h8, h9⟩ := h
  have hu : ¬ T (vu M 668) := hs _ (by omega)
  have s9 := hS.fr9 f (hs _ (by omega)) hu
  have e64 : zI M' 64 = zI M 64 := f.i hL.w (hs _ (by omega))
  exact ⟨hL.fr f, ⟨hT.fr9 hL.tab f hG (fun j j0 j1 => hs j (by omega)), hG⟩, hI.fr hL f (hs _ (by omega)) ⟨hs _ (by omega), hs _ (by omega), hs _ (by omega)⟩, hR.fr hL f (fun j j0 j1 => hs j (by omega)), hQ.fr hL f (fun j j0 j1 => hs j (by omega)), ⟨cap, s9.1⟩, by rw [s9.2]; exact hv, by rw [e64]; exact h8, by rw [e64]; exact h9⟩
theorem RSd.fr {T : Nat → Prop} {M M' : ZM} {G B : Gm} {n : Int} {P : Int → Gm} {c : Int} {Q : Int → Gm} {b : Int → Int} {o : List Int} {e8 e9 : Int} (h : RSd M G B n P c Q b o e8 e9) (f : Fr T M M') (hs : ∀ j, 670 ≤ j → j ≤ 680 → ¬ T j) : RSd M' G B n P c Q b o e8 e9 := by
  obtain ⟨hY, hA, hg, hI, hH, hS, hO, h8, h9⟩ := h
  have e48 : zI M' 670 = zI M 670 := f.i hY.w (hs _ (by omega) (by omega))
  have e49 : zI M' 671 = zI M 671 := f.i hY.a1 (hs _ (by omega) (by omega))
  have e52 : zI M' 674 = zI M 674 := f.i hY.a5 (hs _ (by omega) (by omega))
  have e55 : zI M' 677 = zI M 677 := f.i hY.a16 (hs _ (by omega) (by omega))
  have e56 : zI M' 678 = zI M 678 := f.i hY.a17 (hs _ (by omega) (by omega))
  have e57 : zI M' 679 = zI M 679 := f.i hY.a18 (hs _ (by omega) (by omega))
  have e58 : zI M' 680 = zI M 680 := f.i hY.a20 (hs _ (by omega) (by omega))
  refine ⟨hY.fr f, hA.fr hY f, e49.trans hg, ?_, ?_, ?_, ?_, by rw [e48]; exact h8, by rw [e48]; exact h9⟩
  · unfold RIn at hI ⊢; rw [e48, e52]; exact hI
  · unfold RH at hH ⊢; rw [e48, e57]; exact hH
  · unfold RS at hS ⊢; rw [e55, e56]; exact hS
  · unfold ROut at hO ⊢; rw [e48, e58]; exact hO
/-- the field that says what was thrown stands for itself -/
theorem RSd.thr {M : ZM} {G B : Gm} {n : Int} {P : Int → Gm} {c : Int} {Q : Int → Gm} {b : Int → Int} {o : List Int} {e8 e9 x : Int} (h : RSd M G B n P c Q b o e8 e9) : RSd (zsI M 670 0 x) G B n P c Q b o e8 e9 := by
  obtain ⟨hY, hA, hg, hI, hH, hS, hO, h8, h9⟩ := h
  have e : ∀ f, f ≠ 0 → zI (zsI M 670 0 x) 670 f = zI M 670 f := fun f hf => up2_m _ _ _ _ _ hf
  have e0 : ∀ j, j ≠ 670 → zI (zsI M 670 0 x) j = zI M j := fun j hj => zI_In _ _ _ hj
  refine ⟨hY, hA, (e0 _ (by decide)).trans hg, ?_, ?_, ?_, ?_, (e 12 (by decide)).trans h8, (e 13 (by decide)).trans h9⟩
  · unfold RIn at hI ⊢; rw [e 6 (by decide), e0 674 (by decide)]; exact hI
  · unfold RH at hH ⊢; rw [e 19 (by decide), e0 679 (by decide)]; exact hH
  · unfold RS at hS ⊢; rw [e0 677 (by decide), e0 678 (by decide)]; exact hS
  · unfold ROut at hO ⊢; rw [e 21 (by decide), e0 680 (by decide)]; exact hO
theorem INV.up {S : Nat × (Nat → Int)} {k k' : Int} {M : ZM} (h : INV S k M) (hk : k ≤ k') (hk' : k' ≤ 1000) : INV S k' M := by
  obtain ⟨G, B, n, P, c, Q, b, o, e8, e9, h1, h2, h3, h4⟩ := h
  exact ⟨G, B, n, P, c, Q, b, o, e8, e9, h1, h2, h3, h4.up hk hk'⟩
theorem Fr_out {M : ZM} {S : Nat × (Nat → Int)} (h : CMd S M) (v : Int) : Fr (fun j => j = 681) M (zsI M 681 0 v) := Fr_I h.2.2.2.1.1 (by decide) (by decide) rfl
theorem Fr_outd {M : ZM} {S : Nat × (Nat → Int)} (h : CMd S M) (v : Int) : Fr (fun j => j = 682) M (zsI M 682 0 v) := Fr_I h.2.2.2.2.1.1 (by decide) (by decide) rfl
theorem Fr_thr {M : ZM} (h : LY M) (v : Int) : Fr (fun j => j = 670) M (zsI M 670 0 v) := Fr_I h.w (by decide) (by decide) rfl
/-- an answer laid down, what was thrown noted: the invariant stands -/
theorem INV.out {S : Nat × (Nat → Int)} {k v : Int} {M : ZM} (h : INV S k M) : INV S k (zsI M 681 0 v) := by
  obtain ⟨G, B, n, P, c, Q, b, o, e8, e9, h1, h2, h3, h4⟩ := h
  have f := Fr_out h1 v
  exact ⟨G, B, n, P, c, Q, b, o, e8, e9, h1.fr f (by decide) (by decide) (by decide), h2.fr f (fun j hj => by show ¬ j = 681; omega), h3.fr f (fun j h0 h1 => by show ¬ j = 681; omega), h4⟩
theorem INV.outd {S : Nat × (Nat → Int)} {k v : Int} {M : ZM} (h : INV S k M) : INV S k (zsI M 682 0 v) := by
  obtain ⟨G, B, n, P, c, Q, b, o, e8, e9, h1, h2, h3, h4⟩ := h
  have f := Fr_outd h1 v
  exact ⟨G, B, n, P, c, Q, b, o, e8, e9, h1.fr f (by decide) (by decide) (by decide), h2.fr f (fun j hj => by show ¬ j = 682; omega), h3.fr f (fun j h0 h1 => by show ¬ j = 682; omega), h4⟩
theorem INV.thr {S : Nat × (Nat → Int)} {k v : Int} {M : ZM} (h : INV S k M) : INV S k (zsI M 670 0 v) := by
  obtain ⟨G, B, n, P, c, Q, b, o, e8, e9, h1, h2, h3, h4⟩ := h
  have f := Fr_thr h3.1 v
  exact ⟨G, B, n, P, c, Q, b, o, e8, e9, h1.fr f (by decide) (by decide) (by decide), h2.fr f (fun j hj => by show ¬ j = 670; omega), h3.thr, h4⟩
/-- a pair of calls, first of the class (by its wrapper), then of the reference, which agree -/
def PAIR (S : Nat × (Nat → Int)) (k : Int) (M : ZM) (TL TRf : ZM → ZRet → Prop) : Prop := ∀ K1 : ZRet, (∀ (c : Int) (M1 : ZM), CMd S M1 → (∀ K2 : ZRet, (∀ (v : Int) (M2 : ZM), CMd S M2 → LY M2 → (c = 0 → zI M2 681 0 = v) → zI M2 670 0 = c → INV S (k + 1) M2 → K2 (some (zi v)) M2) → TRf M1 K2) → K1 (some (zi c)) M1) → TL M K1
theorem INV.cm {S : Nat × (Nat → Int)} {k : Int} {M : ZM} (h : INV S k M) : CMd S M := by
  obtain ⟨G, B, n, P, c, Q, b, o, e8, e9, h1, h2, h3, h4⟩ := h
  exact h1
theorem INV.ly {S : Nat × (Nat → Int)} {k : Int} {M : ZM} (h : INV S k M) : LY M := by
  obtain ⟨G, B, n, P, c, Q, b, o, e8, e9, h1, h2, h3, h4⟩ := h
  exact h3.1
/-- for calls that change nothing -/
theorem PAIR.rd {S : Nat × (Nat → Int)} {k c v : Int} {M : ZM} {TL TRf : ZM → ZRet → Prop} (h : INV S k M) (hk : k + 1 ≤ 1000) (hc : 0 ≤ c)
    (h1 : ∀ K : ZRet, (c = 0 → K (some (zi 0)) (zsI M 681 0 v)) → (c ≠ 0 → K (some (zi c)) M) → TL M K)
    (h2 : ∀ (M1 : ZM) (K : ZRet), INV S k M1 → zI M1 671 = zI M 671 → K (some (zi v)) (zsI M1 670 0 c) → TRf M1 K) : PAIR S k M TL TRf := by
  intro K1 hK
  have fin : ∀ M1 : ZM, INV S k M1 → zI M1 671 = zI M 671 → (c = 0 → zI M1 681 0 = v) → K1 (some (zi c)) M1 := fun M1 i1 e1 eo => by
    refine hK c M1 i1.cm (fun K2 hK2 => ?_)
    refine h2 M1 K2 i1 e1 ?_
    have i2 : INV S k (zsI M1 670 0 c) := i1.thr
    refine hK2 v _ i2.cm i2.ly (fun q => ?_) (zI_Is _ _ _ _) (i2.up (by omega) hk)
    exact (congrFun (zI_In M1 0 c (show 681 ≠ 670 by decide)) 0).trans (eo q)
  refine h1 K1 (fun q => ?_) (fun q => fin M h rfl (fun q' => absurd q' q))
  have h9 := fin (zsI M 681 0 v) h.out (zI_In M 0 v (show 671 ≠ 681 by decide)) (fun _ => zI_Is _ _ _ _)
  rw [q] at h9
  exact h9
/-- .. of calls that never throw -/
def PAIR0 (S : Nat × (Nat → Int)) (k : Int) (M : ZM) (TL TRf : ZM → ZRet → Prop) : Prop := ∀ K1 : ZRet, (∀ (v : Int) (M1 : ZM), CMd S M1 → LY M1 → (∀ K2 : ZRet, (∀ M2 : ZM, INV S (k + 1) M2 → K2 (some (zi v)) M2) → TRf M1 K2) → K1 (some (zi v)) M1) → TL M K1
theorem PAIR0.rd {S : Nat × (Nat → Int)} {k x v : Int} {M : ZM} {TL TRf : ZM → ZRet → Prop} (h : INV S k M) (hk : k + 1 ≤ 1000)
    (h1 : ∀ K : ZRet, K (some (zi v)) M → TL M K) (h2 : ∀ K : ZRet, K (some (zi v)) (zsI M 670 0 x) → TRf M K) : PAIR0 S k M TL TRf := by
  intro K1 hK
  refine h1 K1 (hK v M h.cm h.ly (fun K2 hK2 => h2 K2 (hK2 _ ?_)))
  exact (h.thr).up (by omega) hk
/-- a change on the class's side, one on the reference's side: put together -/
theorem INV.mk {S : Nat × (Nat → Int)} {k : Int} {M : ZM} {G B : Gm} {n : Int} {P : Int → Gm} {c : Int} {Q : Int → Gm} {b : Int → Int} {o : List Int} {e8 e9 : Int} (h1 : CMd S M) (h2 : CSd M G B n P c Q b o e8 e9) (h3 : RSd M G B n P c Q b o e8 e9) (h4 : IVd k G P c Q b o) : INV S k M := ⟨G, B, n, P, c, Q, b, o, e8, e9, h1, h2, h3, h4⟩
