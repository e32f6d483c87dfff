theorem gU_lo {g : Gm} {i v : Int} {k : Nat} (hk : k < 6) (h : 6 ≤ i) : gU g i v k = g k := gU_n _ (by omega)
theorem fCmp_lo {g : Gm} {r : Int} {k : Nat} (hk : k < 6) (h : DB g r 2) : fCmp g r k = g k := by
  have w0 := (h.2.2.2.1 0 (by omega) (by omega)).1
  have w1 := (h.2.2.2.1 1 (by omega) (by omega)).1
  unfold fCmp
  split
  · exact fFin_nt _ h.1 hk w0 w1
  · exact gU_lo hk (by have := h.1; omega)
theorem fDec_lo {g : Gm} {r : Int} {k : Nat} (hk : k < 6) (h : DB g r 3) : fDec g r k = g k := by
  have w0 := (h.2.2.2.1 0 (by omega) (by omega)).1
  have w1 := (h.2.2.2.1 1 (by omega) (by omega)).1
  have w2 := (h.2.2.2.1 2 (by omega) (by omega)).1
  have hn : fNear g r = 0 ∨ fNear g r = 1 := by unfold fNear; split <;> omega
  have hr := h.1
  unfold fDec fAside
  rcases hn with hn | hn <;> rw [hn]
  · split
    · rw [gU_lo hk (by omega), gU_lo hk (by omega), gU_lo hk (by omega), gU_lo hk (by omega)]
    · split
      · rw [gU_lo hk (by simp only [Int.sub_zero]; omega)]; exact fFin_nt _ hr hk w0 w2
      · exact fFin_nt _ hr hk w0 w2
  · split
    · rw [gU_lo hk (by omega), gU_lo hk (by omega), gU_lo hk (by omega), gU_lo hk (by omega)]
    · split
      · rw [gU_lo hk (by simp only [Int.sub_self]; omega)]; exact fFin_nt _ hr hk w1 w2
      · exact fFin_nt _ hr hk w1 w2
theorem fDel_lo {G : Gm} {w r x : Int} (hG : GI G) (hV : GV G) (hX : GX G) (hw : 0 ≤ w ∧ w < G 4) (hr : 0 ≤ r ∧ r < G 5) (hx : 0 ≤ x ∧ x ≤ 99) (ht : fTakingOf G w r ≠ -1) {k : Nat} (hk : k < 6) : fDel G w r x k = G k := by
  have hRr := hG.2.2 r hr.1 hr.2
  have hw5 := hG.1
  have hr5 := hG.2.1
  have htk := fTakingOf_r G w r hRr.2.1.1
  have hm := hRr.2.1
  have h1 : fDel1 G w r x k = G k := by
    unfold fDel1
    rw [gU_lo hk (by omega), gU_lo hk (by omega)]
  unfold fDel fDel2
  split
  · next q => rw [fCmp_lo hk (fDel_DB hG hV hX hw hr hx ht (by decide) q.2)]; exact h1
  · split
    · next q => rw [fDec_lo hk (fDel_DB hG hV hX hw hr hx ht (by decide) q.2)]; exact h1
    · exact h1
theorem gVV_fr {S : Nat → Prop} {M M' : ZM} {G : Gm} {r k x : Int} (h : gVV M G r k x) (hL : LV M) (f : Fr S M M') (h1 : ¬ S 664) (h2 : ¬ S 665) : gVV M' G r k x := by
  unfold gVV VV at h ⊢
  rw [f.i hL.wVd h1, f.i hL.a_Vd4 h2]
  exact h
def T_X8_deliver : ZTf := fun av M K KX => ∃ (G : Gm) (P : Int → Gm) (c : Int) (w r x : Int), av = [zo 64, zi w, zi r, zi x] ∧ (LV M) ∧ (TR M 129 G) ∧ (GI G) ∧ (GV G) ∧ (GX G) ∧ (RQ M P c) ∧  ((c_deliver G w r x = 0) → (∀ M' : ZM, (Fr SCw M M') → (TR M' 129 (F_deliver G w r x)) → (RQ M' (pushP P G c) (pushC c)) → K (some (zi (v_deliver G w r x))) M')) ∧ ((c_deliver G w r x = 1) → KX 0 M) ∧ ((c_deliver G w r x = 2) → KX 1 M) ∧ ((c_deliver G w r x = 3) → KX 2 M)
set_option maxRecDepth 100000 in
set_option maxHeartbeats 4000000 in
theorem bd_X8_deliver : zBd (cd_X8_deliver T_X8_requireWorker T_X8_requireRow T_X8_requireRange T_X8_requireInWork T_X0_remember T_X6_judge T_X5_enterResult T_X5_settle) 5 4 24 T_X8_deliver := by
  rintro av M K KX hA0 hM ⟨G, P, c, w, r, x, rfl, hL, hT, hG, hV9, hX9, hq, hK, hX0, hX1, hX2⟩
  obtain ⟨hw5, hr5, hR5⟩ := id hG
  simp only [c_deliver, v_deliver] at hK hX0 hX1 hX2
  have hw9 : ∀ z, fWorksAt G w r = true → z = fTakingOf G w r → z ≠ -1 := fun z h e => e ▸ fWorksAt_k h
  refine ⟨rfl, fun Φ hΦ => ?_⟩
  refine zGoR hΦ [] 400 (fun hL9 _ hM _ _ => ?_)
  obtain ⟨qL1, qL2, qL3, _⟩ : zrg w ∧ zrg r ∧ zrg x ∧ True := hL9
  refine ⟨⟨(by decide), (by decide)⟩, ⟨⟨rfl, rfl⟩, hL.w.rcv⟩, ⟨G, w, rfl, hL, hT, fun (qc3 : 0 ≤ w ∧ w < G 4) => fun qg1 qm2 => ⟨⟨(by decide), (by decide)⟩, ⟨⟨rfl, rfl⟩, hL.w.rcv⟩, ⟨G, r, rfl, hL, hT, fun (qc6 : 0 ≤ r ∧ r < G 5) => fun qg4 qm5 => ⟨⟨(by decide), (by decide)⟩, ⟨⟨rfl, rfl⟩, trivial⟩, ⟨x, 0, 99, rfl, fun (qc9 : 0 ≤ x ∧ x ≤ 99) => fun qg7 qm8 => ⟨⟨(by decide), (by decide)⟩, ⟨⟨rfl, rfl⟩, hL.w.rcv⟩, ⟨G, w, r, rfl, hL, hT, (by omega), hG, fun (qc12 : fWorksAt G w r = true) => fun (qg10 : zrg (fTakingOf G w r)) qm11 => ⟨hL.w, _, hL.r3, ⟨hL.w, _, hL.r2, ⟨⟨⟨rfl, rfl⟩, hL.wH.rcv⟩, ⟨G, P, c, rfl, hL, hT, hG, hq, fun M1 hf1 hq91 => (have hL1 := LV.fr (M := M) hL hf1; have hT1 := hT.fr9 hL.tab hf1 hG (fun j j0 j1 => by unfold SRg; omega); fun qg13 qm14 => ⟨hL1.w, _, hL1.r6, ⟨hL1.w, _, hL1.r2, ⟨hL1.w, _, hL1.r2, ⟨hL1.tab.w, _, hL1.tab.r7, ⟨zixW hL1.tab.aTrow hL1.tab.lTrow (i := r) (by omega) (by decide), _, (hL1.tab.row (by omega) (by omega)).1, ⟨⟨⟨rfl, rfl⟩, hL1.wVd.rcv⟩, ⟨G, r, (fTakingOf G w r), x, rfl, hL1, hT1, hG, hV9, hX9, (by omega), (DLp.of hG (by omega) (by omega) (by omega) (by assumption)).2.2.2.2.1, (by omega), fun M2 hf2 hv2 => (have hL2 := LV.fr (M := M1) hL1 hf2; have hT2 := hT1.fr9 hL1.tab hf2 hG (fun j j0 j1 => by unfold SVd; omega); fun qg15 qm16 => ⟨hL2.w, _, hL2.r2, ⟨⟨⟨rfl, rfl⟩, hL2.tab.w.rcv⟩, ⟨129, G, w, r, (fTakingOf G w r), x, rfl, hL2.tab, hT2, hG, hV9, hX9, (DLp.of hG (by omega) (by omega) (by omega) (by assumption)), fun M3 hf3 hT3 => (have hL3 := LV.fr (M := M2) hL2 hf3; have hv3 := gVV_fr hv2 hL2 hf3 (by unfold STb; omega) (by unfold STb; omega); fun qg17 qm18 => ⟨hL3.w, _, hL3.r2, ⟨hL3.w, _, hL3.r6, ⟨⟨⟨rfl, rfl⟩, hL3.tab.w.rcv⟩, ⟨G, w, r, (fTakingOf G w r), x, rfl, hL3, hT3, hv3, hG, hV9, hX9, (DLp.of hG (by omega) (by omega) (by omega) (by assumption)), fun M4 hf4 hT4 => (have hL4 := LV.fr (M := M3) hL3 hf4; have hdn : fDel G w r x 5 = G 5 := fDel_lo hG hV9 hX9 (by omega) (by omega) (by omega) (fWorksAt_k (by assumption)) (by omega); fun qg19 qm20 => ⟨hL4.w, _, hL4.r2, ⟨hL4.tab.w, _, hL4.tab.r7, ⟨zixW hL4.tab.aTrow hL4.tab.lTrow (i := r) (by omega) (by decide), _, (hL4.tab.row (by omega) (by omega)).1, ⟨(hL4.tab.row (by omega) (by omega)).2.w, zIr ((hT4.r1 (r := r) (by omega) (by omega))) (⟨trivial, (show K (some (zi ((fDel G w r x) (132 + 16 * r + 1).toNat))) M4 from ?g284l1)⟩)⟩⟩⟩⟩)⟩⟩⟩⟩)⟩⟩⟩)⟩⟩⟩⟩⟩⟩⟩)⟩⟩⟩⟩, fun (qc21 : fWorksAt G w r = false) => (show KX 2 M from ?g284l2)⟩⟩, fun (qc22 : ¬(0 ≤ x ∧ x ≤ 99)) => (show KX 1 M from ?g284l3)⟩⟩, fun (qc23 : ¬(0 ≤ r ∧ r < G 5)) => (show KX 0 M from ?g284l4)⟩⟩, fun (qc24 : ¬(0 ≤ w ∧ w < G 4)) => (show KX 0 M from ?g284l5)⟩⟩
  case g284l1 =>
    refine zKi (hK (by first | omega | ((repeat' split) <;> first | omega | (exfalso; simp_all))) _ ((((hf1.mono (fun j z => by unfold SRg at z; unfold SCw; omega)).tr (hf2.mono (fun j z => by unfold SVd at z; unfold SCw; omega))).tr (hf3.mono (fun j z => by unfold STb at z; unfold SCw; omega))).tr (hf4.mono (fun j z => by unfold STb at z; unfold SCw; omega))) hT4 ((((hq91.fr hL1 hf2 (fun j j0 j1 => by unfold SVd; omega)).fr hL2 hf3 (fun j j0 j1 => by unfold STb; omega)).fr hL3 hf4 (fun j j0 j1 => by unfold STb; omega)))) ?_
    first | rfl | (simp only [↓reduceIte, decide_eq_true_eq, decide_eq_false_iff_not, decide_true, decide_false, ne_eq, not_true_eq_false, not_false_eq_true, and_true, true_and, and_false, false_and, or_true, true_or, or_false, false_or, and_self, or_self, Bool.true_and, Bool.and_true, Bool.false_and, Bool.and_false, b2i, Bool.false_eq_true, reduceCtorEq, gt_iff_lt, ge_iff_le, qc3, qc6, qc9, qc12]; done) | (simp only [↓reduceIte, decide_eq_true_eq, decide_eq_false_iff_not, decide_true, decide_false, ne_eq, not_true_eq_false, not_false_eq_true, and_true, true_and, and_false, false_and, or_true, true_or, or_false, false_or, and_self, or_self, Bool.true_and, Bool.and_true, Bool.false_and, Bool.and_false, b2i, Bool.false_eq_true, reduceCtorEq, gt_iff_lt, ge_iff_le, qc3, qc6, qc9, qc12]; rfl) | (simp [qc3, qc6, qc9, qc12]; done) | omega
  case g284l2 => first | (exfalso; omega) | (exact (hX2 (by first | omega | ((repeat' split) <;> first | omega | (exfalso; simp_all))))) | (exact (hX2 (by first | omega | ((repeat' split) <;> first | omega | (exfalso; simp_all)))) (by omega)) | (refine (hX2 (by first | omega | ((repeat' split) <;> first | omega | (exfalso; simp_all)))) ?_; simp [qc3, qc6, qc9, qc21]) | (simpa [qc3, qc6, qc9, qc21] using (hX2 (by first | omega | ((repeat' split) <;> first | omega | (exfalso; simp_all)))))
  case g284l3 => first | (exfalso; omega) | (exact (hX1 (by first | omega | ((repeat' split) <;> first | omega | (exfalso; simp_all))))) | (exact (hX1 (by first | omega | ((repeat' split) <;> first | omega | (exfalso; simp_all)))) (by omega)) | (refine (hX1 (by first | omega | ((repeat' split) <;> first | omega | (exfalso; simp_all)))) ?_; simp [qc3, qc6, qc22]) | (simpa [qc3, qc6, qc22] using (hX1 (by first | omega | ((repeat' split) <;> first | omega | (exfalso; simp_all)))))
  case g284l4 => first | (exfalso; omega) | (exact (hX0 (by first | omega | ((repeat' split) <;> first | omega | (exfalso; simp_all))))) | (exact (hX0 (by first | omega | ((repeat' split) <;> first | omega | (exfalso; simp_all)))) (by omega)) | (refine (hX0 (by first | omega | ((repeat' split) <;> first | omega | (exfalso; simp_all)))) ?_; simp [qc3, qc23]) | (simpa [qc3, qc23] using (hX0 (by first | omega | ((repeat' split) <;> first | omega | (exfalso; simp_all)))))
  case g284l5 => first | (exfalso; omega) | (exact (hX0 (by first | omega | ((repeat' split) <;> first | omega | (exfalso; simp_all))))) | (exact (hX0 (by first | omega | ((repeat' split) <;> first | omega | (exfalso; simp_all)))) (by omega)) | (refine (hX0 (by first | omega | ((repeat' split) <;> first | omega | (exfalso; simp_all)))) ?_; simp [qc24]) | (simpa [qc24] using (hX0 (by first | omega | ((repeat' split) <;> first | omega | (exfalso; simp_all)))))
theorem M_X8_deliver {l : Launch} (hl : l.stackTraces = false) : zMet l yX8_deliver (Cond.code yX8_deliver cX8_deliver 5 (Option.some Jvm.ClassFile.FieldType.int) :: zG) rm_X8_deliver 4 24 T_X8_deliver := met_X8_deliver hl (M_X8_requireWorker hl) (M_X8_requireRow hl) (M_X8_requireRange hl) (M_X8_requireInWork hl) (M_X0_remember hl) (M_X6_judge hl) (M_X5_enterResult hl) (M_X5_settle hl) bd_X8_deliver
