def T_X8_setAside : ZTf := fun av M K KX => ∃ (G g : Gm) (P : Int → Gm) (c n : Int) (r : Int), av = [zo 64, zi r] ∧ (LV M) ∧ (TR M 129 G) ∧ (GI G) ∧ (GV G) ∧ (GX G) ∧ (RQ M P c) ∧ (c_setAside G r = 0 → SetA G r g n) ∧  ((c_setAside G r = 0) → (∀ M' : ZM, (Fr SCw M M') → (TR M' 129 (g)) → (RQ M' (pushP P G c) (pushC c)) → K (some (zi (n))) M')) ∧ ((c_setAside G r = 1) → KX 0 M) ∧ ((c_setAside G r = 2) → KX 2 M)
set_option maxRecDepth 100000 in
set_option maxHeartbeats 4000000 in
theorem bd_X8_setAside : zBd (cd_X8_setAside T_X8_requireRow T_X4_isClosed T_X0_remember T_X5_giveUp) 2 2 12 T_X8_setAside := by
  rintro av M K KX hA0 hM ⟨G, g, P, c, n, r, rfl, hL, hT, hG, hV9, hX9, hq, hsa0, hK, hX0, hX2⟩
  obtain ⟨hw5, hr5, hR5⟩ := id hG
  simp only [c_setAside] at hK hX0 hX2 hsa0
  have hs9 := fun (a : 0 ≤ r) (b : r < G 5) => (hV9.2.2.2.2.2.1 r a b).2.1
  have hs8 := fun (a : 0 ≤ r) (b : r < G 5) => (hV9.2.2.2.2.2.1 r a b).2.2.2.1
  refine ⟨rfl, fun Φ hΦ => ?_⟩
  refine zGoR hΦ [] 400 (fun hL9 _ hM _ _ => ?_)
  obtain ⟨qL1, _⟩ : zrg r ∧ True := hL9
  refine ⟨⟨(by decide), (by decide)⟩, ⟨⟨rfl, rfl⟩, hL.w.rcv⟩, ⟨G, r, rfl, hL, hT, fun (qc3 : 0 ≤ r ∧ r < G 5) => fun qg1 qm2 => ⟨hL.w, _, hL.r2, ⟨hL.tab.w, _, hL.tab.r7, ⟨zixW hL.tab.aTrow hL.tab.lTrow (i := r) (by omega) (by decide), _, (hL.tab.row (by omega) (by omega)).1, ⟨⟨⟨rfl, rfl⟩, (hL.tab.row (by omega) (by omega)).2.w.rcv⟩, ⟨rfl, ⟨(hL.tab.row (by omega) (by omega)).2.w, zIr ((hT.r1 (r := r) (by omega) (by omega))) (⟨fun (qc4 : (G (132 + 16 * r + 1).toNat) = 2) => ⟨(Or.inr rfl), fun _ _ => ⟨fun (h : (1 : Int) = 0) => absurd h (by decide), fun _ => ⟨⟨(by decide), (by decide)⟩, (Nat.le_of_ble_eq_true rfl), (show KX 2 M from ?g280l1)⟩⟩⟩, fun (qc6 : (G (132 + 16 * r + 1).toNat) ≠ 2) => ⟨(hL.tab.row (by omega) (by omega)).2.w, zIr ((hT.r1 (r := r) (by omega) (by omega))) (⟨fun (qc7 : (G (132 + 16 * r + 1).toNat) ≠ 3) => ⟨(Or.inl rfl), fun _ _ => ⟨fun _ => ⟨hL.w, _, hL.r3, ⟨hL.w, _, hL.r2, ⟨⟨⟨rfl, rfl⟩, hL.wH.rcv⟩, ⟨G, P, c, rfl, hL, hT, hG, hq, fun M1 hf1 hq91 => (have hL1 := LV.fr (M := M) hL hf1; have hT1 := hT.fr9 hL.tab hf1 hG (fun j j0 j1 => by unfold SRg; omega); fun qg9 qm10 => ⟨hL1.w, _, hL1.r2, ⟨hL1.w, _, hL1.r2, ⟨hL1.tab.w, _, hL1.tab.r7, ⟨zixW hL1.tab.aTrow hL1.tab.lTrow (i := r) (by omega) (by decide), _, (hL1.tab.row (by omega) (by omega)).1, ⟨⟨⟨rfl, rfl⟩, hL1.tab.w.rcv⟩, ⟨129, G, g, n, r, rfl, hL1.tab, hT1, hG, hV9, hX9, (by omega), (hsa0 (by first | omega | (repeat' split) <;> omega)), fun M2 hf2 hT2 => (have hL2 := LV.fr (M := M1) hL1 hf2; fun (qg11 : zrg (n)) qm12 => ⟨trivial, (show K (some (zi n)) M2 from ?g280l2)⟩)⟩⟩⟩⟩⟩⟩)⟩⟩⟩⟩, fun (h : (0 : Int) ≠ 0) => absurd h (by decide)⟩⟩, fun (qc13 : (G (132 + 16 * r + 1).toNat) = 3) => ⟨(Or.inr rfl), fun _ _ => ⟨fun (h : (1 : Int) = 0) => absurd h (by decide), fun _ => ⟨⟨(by decide), (by decide)⟩, (Nat.le_of_ble_eq_true rfl), (show KX 2 M from ?g280l3)⟩⟩⟩⟩)⟩⟩)⟩⟩⟩⟩⟩⟩, fun (qc15 : ¬(0 ≤ r ∧ r < G 5)) => (show KX 0 M from ?g280l4)⟩⟩
  case g280l1 => first | (exfalso; omega) | (exact (hX2 (by first | omega | (repeat' split) <;> omega))) | (exact (hX2 (by first | omega | (repeat' split) <;> omega)) (by omega)) | (refine (hX2 (by first | omega | (repeat' split) <;> omega)) ?_; simp [qc3, qc4]) | (simpa [qc3, qc4] using (hX2 (by first | omega | (repeat' split) <;> omega)))
  case g280l2 =>
    refine zKi (hK (by first | omega | (repeat' split) <;> omega) _ ((hf1.mono (fun j z => by unfold SRg at z; unfold SCw; omega)).tr (hf2.mono (fun j z => by unfold STb at z; unfold SCw; omega))) hT2 (hq91.fr hL1 hf2 (fun j j0 j1 => by unfold STb; omega))) ?_
    first | rfl | (simp only [↓reduceIte, decide_eq_true_eq, decide_eq_false_iff_not, decide_true, decide_false, ne_eq, not_true_eq_false, not_false_eq_true, and_true, true_and, and_false, false_and, or_true, true_or, or_false, false_or, and_self, or_self, Bool.true_and, Bool.and_true, Bool.false_and, Bool.and_false, b2i, Bool.false_eq_true, reduceCtorEq, gt_iff_lt, ge_iff_le, qc3, qc6, qc7]; done) | (simp only [↓reduceIte, decide_eq_true_eq, decide_eq_false_iff_not, decide_true, decide_false, ne_eq, not_true_eq_false, not_false_eq_true, and_true, true_and, and_false, false_and, or_true, true_or, or_false, false_or, and_self, or_self, Bool.true_and, Bool.and_true, Bool.false_and, Bool.and_false, b2i, Bool.false_eq_true, reduceCtorEq, gt_iff_lt, ge_iff_le, qc3, qc6, qc7]; rfl) | (simp [qc3, qc6, qc7]; done) | omega
  case g280l3 => first | (exfalso; omega) | (exact (hX2 (by first | omega | (repeat' split) <;> omega))) | (exact (hX2 (by first | omega | (repeat' split) <;> omega)) (by omega)) | (refine (hX2 (by first | omega | (repeat' split) <;> omega)) ?_; simp [qc3, qc6, qc13]) | (simpa [qc3, qc6, qc13] using (hX2 (by first | omega | (repeat' split) <;> omega)))
  case g280l4 => first | (exfalso; omega) | (exact (hX0 (by first | omega | (repeat' split) <;> omega))) | (exact (hX0 (by first | omega | (repeat' split) <;> omega)) (by omega)) | (refine (hX0 (by first | omega | (repeat' split) <;> omega)) ?_; simp [qc15]) | (simpa [qc15] using (hX0 (by first | omega | (repeat' split) <;> omega)))
theorem M_X8_setAside {l : Launch} (hl : l.stackTraces = false) : zMet l yX8_setAside (Cond.code yX8_setAside cX8_setAside 2 (Option.some Jvm.ClassFile.FieldType.int) :: zG) rm_X8_setAside 2 12 T_X8_setAside := met_X8_setAside hl (M_X8_requireRow hl) (M_X4_isClosed hl) (M_X0_remember hl) (M_X5_giveUp hl) bd_X8_setAside
def T_X8_pass : ZTf := fun av M K KX => ∃ (G : Gm) (P : Int → Gm) (c : Int) (ticks : Int), av = [zo 64, zi ticks] ∧ (LV M) ∧ (TR M 129 G) ∧ (GI G) ∧ (GV G) ∧ (GX G) ∧ (RQ M P c) ∧  ((c_pass ticks = 0) → (∀ M' : ZM, (Fr SCw M M') → (∃ g, LvR (G 3 + ticks) G g (sumI (fun q => LN (G 3 + ticks) (TK G q)) (G 5)) ∧ TR M' 129 g) → (RQ M' (pushP P G c) (pushC c)) → K (some (zi (sumI (fun q => LN (G 3 + ticks) (TK G q)) (G 5)))) M')) ∧ ((c_pass ticks = 1) → KX 1 M)
set_option maxRecDepth 100000 in
set_option maxHeartbeats 4000000 in
theorem bd_X8_pass : zBd (cd_X8_pass T_X8_requireRange T_X0_remember T_X5_letPass) 2 1 6 T_X8_pass := by
  rintro av M K KX hA0 hM ⟨G, P, c, ticks, rfl, hL, hT, hG, hV9, hX9, hq, hK, hX1⟩
  obtain ⟨hw5, hr5, hR5⟩ := id hG
  simp only [c_pass] at hK hX1
  refine ⟨rfl, fun Φ hΦ => ?_⟩
  refine zGoR hΦ [] 400 (fun hL9 _ hM _ _ => ?_)
  obtain ⟨qL1, _⟩ : zrg ticks ∧ True := hL9
  refine ⟨⟨(by decide), (by decide)⟩, ⟨⟨rfl, rfl⟩, trivial⟩, ⟨ticks, 1, 99, rfl, fun (qc3 : 1 ≤ ticks ∧ ticks ≤ 99) => fun qg1 qm2 => ⟨hL.w, _, hL.r3, ⟨hL.w, _, hL.r2, ⟨⟨⟨rfl, rfl⟩, hL.wH.rcv⟩, ⟨G, P, c, rfl, hL, hT, hG, hq, fun M1 hf1 hq91 => (have hL1 := LV.fr (M := M) hL hf1; have hT1 := hT.fr9 hL.tab hf1 hG (fun j j0 j1 => by unfold SRg; omega); fun qg4 qm5 => ⟨hL1.w, _, hL1.r2, ⟨⟨⟨rfl, rfl⟩, hL1.tab.w.rcv⟩, ⟨129, G, ticks, rfl, hL1.tab, hT1, hG, hV9, hX9, (by omega), fun M2 hf2 hT2 => (have hL2 := LV.fr (M := M1) hL1 hf2; fun (qg6 : zrg (sumI (fun q => LN (G 3 + ticks) (TK G q)) (G 5))) qm7 => ⟨trivial, (show K (some (zi (sumI (fun q => LN (G 3 + ticks) (TK G q)) (G 5)))) M2 from ?g281l1)⟩)⟩⟩⟩)⟩⟩⟩⟩, fun (qc8 : ¬(1 ≤ ticks ∧ ticks ≤ 99)) => (show KX 1 M from ?g281l2)⟩⟩
  case g281l1 =>
    refine zKi (hK (by first | omega | (repeat' split) <;> omega) _ ((hf1.mono (fun j z => by unfold SRg at z; unfold SCw; omega)).tr (hf2.mono (fun j z => by unfold STb at z; unfold SCw; omega))) hT2 (hq91.fr hL1 hf2 (fun j j0 j1 => by unfold STb; omega))) ?_
    first | rfl | (simp only [↓reduceIte, decide_eq_true_eq, decide_eq_false_iff_not, decide_true, decide_false, ne_eq, not_true_eq_false, not_false_eq_true, and_true, true_and, and_false, false_and, or_true, true_or, or_false, false_or, and_self, or_self, Bool.true_and, Bool.and_true, Bool.false_and, Bool.and_false, b2i, Bool.false_eq_true, reduceCtorEq, gt_iff_lt, ge_iff_le, qc3]; done) | (simp only [↓reduceIte, decide_eq_true_eq, decide_eq_false_iff_not, decide_true, decide_false, ne_eq, not_true_eq_false, not_false_eq_true, and_true, true_and, and_false, false_and, or_true, true_or, or_false, false_or, and_self, or_self, Bool.true_and, Bool.and_true, Bool.false_and, Bool.and_false, b2i, Bool.false_eq_true, reduceCtorEq, gt_iff_lt, ge_iff_le, qc3]; rfl) | (simp [qc3]; done) | omega
  case g281l2 => first | (exfalso; omega) | (exact (hX1 (by first | omega | (repeat' split) <;> omega))) | (exact (hX1 (by first | omega | (repeat' split) <;> omega)) (by omega)) | (refine (hX1 (by first | omega | (repeat' split) <;> omega)) ?_; simp [qc8]) | (simpa [qc8] using (hX1 (by first | omega | (repeat' split) <;> omega)))
theorem M_X8_pass {l : Launch} (hl : l.stackTraces = false) : zMet l yX8_pass (Cond.code yX8_pass cX8_pass 2 (Option.some Jvm.ClassFile.FieldType.int) :: zG) rm_X8_pass 1 6 T_X8_pass := met_X8_pass hl (M_X8_requireRange hl) (M_X0_remember hl) (M_X5_letPass hl) bd_X8_pass
def T_X8_audit : ZTf := fun av M K KX => ∃ (G : Gm) (P : Int → Gm) (c p q : Int) (r x : Int), av = [zo 64, zi r, zi x] ∧ (LV M) ∧ (TR M 129 G) ∧ (GI G) ∧ (GV G) ∧ (GX G) ∧ (RQ M P c) ∧ (0 ≤ r → r < G 5 → (G (132 + 16 * r + 1).toNat) = 2 → BYp G r p q) ∧  ((c_audit G r x = 0) → (∀ M' : ZM, (Fr SCw M M') → (TR M' 129 (F_audit G r x p q)) → (RQ M' (pushP P G c) (pushC c)) → K (some (zi (b2i (v_audit G r x)))) M')) ∧ ((c_audit G r x = 1) → KX 0 M) ∧ ((c_audit G r x = 2) → KX 1 M) ∧ ((c_audit G r x = 3) → KX 2 M)
set_option maxRecDepth 100000 in
set_option maxHeartbeats 4000000 in
theorem bd_X8_audit : zBd (cd_X8_audit T_X8_requireRow T_X8_requireRange T_X0_remember T_X5_examine) 4 3 18 T_X8_audit := by
  rintro av M K KX hA0 hM ⟨G, P, c, p, q, r, x, rfl, hL, hT, hG, hV9, hX9, hq, hBy0, hK, hX0, hX1, hX2⟩
  obtain ⟨hw5, hr5, hR5⟩ := id hG
  simp only [c_audit, v_audit] at hK hX0 hX1 hX2
  have hs9 := fun (a : 0 ≤ r) (b : r < G 5) => (hV9.2.2.2.2.2.1 r a b).2.1
  have hs8 := fun (a : 0 ≤ r) (b : r < G 5) => (hV9.2.2.2.2.2.1 r a b).2.2.2.1
  have hb9 : ((G (132 + 16 * r + 3).toNat) ≠ -1 ∧ b2i (decide ((G (132 + 16 * r + 3).toNat) ≠ -1)) = 1) ∨ ((G (132 + 16 * r + 3).toNat) = -1 ∧ b2i (decide ((G (132 + 16 * r + 3).toNat) ≠ -1)) = 0) := by
    by_cases z : (G (132 + 16 * r + 3).toNat) = -1
    · exact Or.inr ⟨z, by rw [decide_eq_false (by omega)]; rfl⟩
    · exact Or.inl ⟨z, by rw [decide_eq_true z]; rfl⟩
  refine ⟨rfl, fun Φ hΦ => ?_⟩
  refine zGoR hΦ [] 400 (fun hL9 _ hM _ _ => ?_)
  obtain ⟨qL1, qL2, _⟩ : zrg r ∧ zrg x ∧ True := hL9
  refine ⟨⟨(by decide), (by decide)⟩, ⟨⟨rfl, rfl⟩, hL.w.rcv⟩, ⟨G, r, rfl, hL, hT, fun (qc3 : 0 ≤ r ∧ r < G 5) => fun qg1 qm2 => ⟨⟨(by decide), (by decide)⟩, ⟨⟨rfl, rfl⟩, trivial⟩, ⟨x, 0, 99, rfl, fun (qc6 : 0 ≤ x ∧ x ≤ 99) => fun qg4 qm5 => ⟨hL.w, _, hL.r2, ⟨hL.tab.w, _, hL.tab.r7, ⟨zixW hL.tab.aTrow hL.tab.lTrow (i := r) (by omega) (by decide), _, (hL.tab.row (by omega) (by omega)).1, ⟨(hL.tab.row (by omega) (by omega)).2.w, zIr ((hT.r1 (r := r) (by omega) (by omega))) (⟨fun (qc7 : (G (132 + 16 * r + 1).toNat) ≠ 2) => ⟨⟨(by decide), (by decide)⟩, (Nat.le_of_ble_eq_true rfl), (show KX 2 M from ?g282l1)⟩, fun (qc8 : (G (132 + 16 * r + 1).toNat) = 2) => ⟨(hL.tab.row (by omega) (by omega)).2.w, zIr ((hT.r3 (r := r) (by omega) (by omega))) (⟨fun h => (have qc9 : (decide ((G (132 + 16 * r + 3).toNat) ≠ -1)) = false := b2i_e0 h; ⟨hL.w, _, hL.r3, ⟨hL.w, _, hL.r2, ⟨⟨⟨rfl, rfl⟩, hL.wH.rcv⟩, ⟨G, P, c, rfl, hL, hT, hG, hq, fun M1 hf1 hq91 => (have hL1 := LV.fr (M := M) hL hf1; have hT1 := hT.fr9 hL.tab hf1 hG (fun j j0 j1 => by unfold SRg; omega); fun qg10 qm11 => ⟨hL1.w, _, hL1.r2, ⟨⟨⟨rfl, rfl⟩, hL1.tab.w.rcv⟩, ⟨129, G, r, x, p, q, rfl, hL1.tab, hT1, hG, hV9, hX9, (by omega), (by omega), (by omega), (hBy0 (by omega) (by omega) (by omega)), fun M2 hf2 hT2 => (have hL2 := LV.fr (M := M1) hL1 hf2; fun (qg12 : zrg (b2i (fAgree G (G (132 + 16 * r + 2).toNat) x))) qm13 => ⟨(b2i_z _), (show K (some (zi (b2i (fAgree G (G (132 + 16 * r + 2).toNat) x)))) M2 from ?g282l2)⟩)⟩⟩⟩)⟩⟩⟩⟩), fun h => (have qc14 : (decide ((G (132 + 16 * r + 3).toNat) ≠ -1)) = true := b2i_n0 h; ⟨⟨(by decide), (by decide)⟩, (Nat.le_of_ble_eq_true rfl), (show KX 2 M from ?g282l3)⟩)⟩)⟩⟩)⟩⟩⟩⟩, fun (qc15 : ¬(0 ≤ x ∧ x ≤ 99)) => (show KX 1 M from ?g282l4)⟩⟩, fun (qc16 : ¬(0 ≤ r ∧ r < G 5)) => (show KX 0 M from ?g282l5)⟩⟩
  case g282l1 => first | (exfalso; omega) | (exact (hX2 (by first | omega | (repeat' split) <;> omega))) | (exact (hX2 (by first | omega | (repeat' split) <;> omega)) (by omega)) | (refine (hX2 (by first | omega | (repeat' split) <;> omega)) ?_; simp [qc3, qc6, qc7]) | (simpa [qc3, qc6, qc7] using (hX2 (by first | omega | (repeat' split) <;> omega)))
  case g282l2 =>
    refine zKi (hK (by first | omega | (repeat' split) <;> omega) _ ((hf1.mono (fun j z => by unfold SRg at z; unfold SCw; omega)).tr (hf2.mono (fun j z => by unfold STb at z; unfold SCw; omega))) hT2 (hq91.fr hL1 hf2 (fun j j0 j1 => by unfold STb; omega))) ?_
    first | rfl | (simp only [↓reduceIte, decide_eq_true_eq, decide_eq_false_iff_not, decide_true, decide_false, ne_eq, not_true_eq_false, not_false_eq_true, and_true, true_and, and_false, false_and, or_true, true_or, or_false, false_or, and_self, or_self, Bool.true_and, Bool.and_true, Bool.false_and, Bool.and_false, b2i, Bool.false_eq_true, reduceCtorEq, gt_iff_lt, ge_iff_le, qc3, qc6, qc8, qc9, of_decide_eq_false qc9]; done) | (simp only [↓reduceIte, decide_eq_true_eq, decide_eq_false_iff_not, decide_true, decide_false, ne_eq, not_true_eq_false, not_false_eq_true, and_true, true_and, and_false, false_and, or_true, true_or, or_false, false_or, and_self, or_self, Bool.true_and, Bool.and_true, Bool.false_and, Bool.and_false, b2i, Bool.false_eq_true, reduceCtorEq, gt_iff_lt, ge_iff_le, qc3, qc6, qc8, qc9, of_decide_eq_false qc9]; rfl) | (simp [qc3, qc6, qc8, qc9, of_decide_eq_false qc9]; done) | omega
  case g282l3 => first | (exfalso; omega) | (exact (hX2 (by first | omega | (repeat' split) <;> omega))) | (exact (hX2 (by first | omega | (repeat' split) <;> omega)) (by omega)) | (refine (hX2 (by first | omega | (repeat' split) <;> omega)) ?_; simp [qc3, qc6, qc8, qc14, of_decide_eq_true qc14]) | (simpa [qc3, qc6, qc8, qc14, of_decide_eq_true qc14] using (hX2 (by first | omega | (repeat' split) <;> omega)))
  case g282l4 => first | (exfalso; omega) | (exact (hX1 (by first | omega | (repeat' split) <;> omega))) | (exact (hX1 (by first | omega | (repeat' split) <;> omega)) (by omega)) | (refine (hX1 (by first | omega | (repeat' split) <;> omega)) ?_; simp [qc3, qc15]) | (simpa [qc3, qc15] using (hX1 (by first | omega | (repeat' split) <;> omega)))
  case g282l5 => first | (exfalso; omega) | (exact (hX0 (by first | omega | (repeat' split) <;> omega))) | (exact (hX0 (by first | omega | (repeat' split) <;> omega)) (by omega)) | (refine (hX0 (by first | omega | (repeat' split) <;> omega)) ?_; simp [qc16]) | (simpa [qc16] using (hX0 (by first | omega | (repeat' split) <;> omega)))
theorem M_X8_audit {l : Launch} (hl : l.stackTraces = false) : zMet l yX8_audit (Cond.code yX8_audit cX8_audit 4 (Option.some Jvm.ClassFile.FieldType.boolean) :: zG) rm_X8_audit 3 18 T_X8_audit := met_X8_audit hl (M_X8_requireRow hl) (M_X8_requireRange hl) (M_X0_remember hl) (M_X5_examine hl) bd_X8_audit
def T_X8_requireSetting : ZTf := zInl (cd_X8_requireSetting T_X8_requireRange) 2 3 18 400
theorem M_X8_requireSetting {l : Launch} (hl : l.stackTraces = false) : zMet l yX8_requireSetting (Cond.code yX8_requireSetting cX8_requireSetting 2 (Option.none : Option Jvm.ClassFile.FieldType) :: zG) rm_X8_requireSetting 3 18 T_X8_requireSetting := met_X8_requireSetting hl (M_X8_requireRange hl) zInl_bd
def T_X8_setTable : ZTf := fun av M K KX => ∃ (G : Gm) (P : Int → Gm) (c : Int) (what v : Int), av = [zo 64, zi what, zi v] ∧ (LV M) ∧ (TR M 129 G) ∧ (GI G) ∧ (GV G) ∧ (GX G) ∧ (RQ M P c) ∧  ((c_setTable G what v = 0) → (∀ M' : ZM, (Fr SCw M M') → (TR M' 129 (F_setTable G what v)) → (RQ M' (pushP P G c) (pushC c)) → K (some (zi (v_setTable G what v))) M')) ∧ ((c_setTable G what v = 1) → KX 1 M)
set_option maxRecDepth 100000 in
set_option maxHeartbeats 4000000 in
theorem bd_X8_setTable : zBd (cd_X8_setTable T_X8_requireRange T_X8_requireSetting T_X8_property T_X0_remember) 4 5 30 T_X8_setTable := by
  rintro av M K KX hA0 hM ⟨G, P, c, what, v, rfl, hL, hT, hG, hV9, hX9, hq, hK, hX1⟩
  obtain ⟨hw5, hr5, hR5⟩ := id hG
  simp only [c_setTable, v_setTable] at hK hX1
  refine ⟨rfl, fun Φ hΦ => ?_⟩
  refine zGoR hΦ [] 400 (fun hL9 _ hM _ _ => ?_)
  obtain ⟨qL1, qL2, _⟩ : zrg what ∧ zrg v ∧ True := hL9
  refine ⟨⟨(by decide), (by decide)⟩, ⟨⟨rfl, rfl⟩, trivial⟩, ⟨what, 0, 2, rfl, fun (qc3 : 0 ≤ what ∧ what ≤ 2) => fun qg1 qm2 => ⟨⟨(by decide), (by decide)⟩, ⟨⟨rfl, rfl⟩, trivial⟩, ⟨rfl, ⟨fun (qc4 : what = 0) => ⟨⟨(by decide), (by decide)⟩, ⟨⟨rfl, rfl⟩, trivial⟩, ⟨v, 0, 20, rfl, fun (qc7 : 0 ≤ v ∧ v ≤ 20) => fun qg5 qm6 => fun _ _ => ⟨(zrgI (x := 3 + what) (by omega)), ⟨⟨(by decide), (by decide)⟩, ⟨⟨rfl, rfl⟩, hL.w.rcv⟩, ⟨G, (3 + what), rfl, hL, hT, hG, hV9, hX9, fun (qc11 : c_property G (3 + what) = 0) => fun (qg9 : zrg (v_property G (3 + what))) qm10 => ⟨hL.w, _, hL.r3, ⟨hL.w, _, hL.r2, ⟨⟨⟨rfl, rfl⟩, hL.wH.rcv⟩, ⟨G, P, c, rfl, hL, hT, hG, hq, fun M1 hf1 hq91 => (have hL1 := LV.fr (M := M) hL hf1; have hT1 := hT.fr9 hL.tab hf1 hG (fun j j0 j1 => by unfold SRg; omega); fun qg12 qm13 => ⟨fun (qc14 : what = 0) => ⟨hL1.w, _, hL1.r2, ⟨⟨hL1.tab.w, trivial⟩, ⟨trivial, (show K (some (zi (v_property G (3 + what)))) (zsI M1 129 0 v) from ?g283l1)⟩⟩⟩, fun (qc14 : what ≠ 0) => ⟨fun (qc15 : what = 1) => ⟨hL1.w, _, hL1.r2, ⟨⟨hL1.tab.w, trivial⟩, ⟨trivial, (show K (some (zi (v_property G (3 + what)))) (zsI M1 129 1 v) from ?g283l2)⟩⟩⟩, fun (qc15 : what ≠ 1) => ⟨hL1.w, _, hL1.r2, ⟨⟨hL1.tab.w, trivial⟩, ⟨trivial, (show K (some (zi (v_property G (3 + what)))) (zsI M1 129 2 v) from ?g283l3)⟩⟩⟩⟩⟩)⟩⟩⟩⟩, fun (qc16 : c_property G (3 + what) = 1) => (show KX 1 M from ?g283l4)⟩⟩⟩, fun (qc17 : ¬(0 ≤ v ∧ v ≤ 20)) => (show KX 1 M from ?g283l5)⟩⟩, fun (qc4 : what ≠ 0) => ⟨fun (qc18 : what = 1) => ⟨⟨(by decide), (by decide)⟩, ⟨⟨rfl, rfl⟩, trivial⟩, ⟨v, 1, 50, rfl, fun (qc21 : 1 ≤ v ∧ v ≤ 50) => fun qg19 qm20 => fun _ _ => ⟨(zrgI (x := 3 + what) (by omega)), ⟨⟨(by decide), (by decide)⟩, ⟨⟨rfl, rfl⟩, hL.w.rcv⟩, ⟨G, (3 + what), rfl, hL, hT, hG, hV9, hX9, fun (qc25 : c_property G (3 + what) = 0) => fun (qg23 : zrg (v_property G (3 + what))) qm24 => ⟨hL.w, _, hL.r3, ⟨hL.w, _, hL.r2, ⟨⟨⟨rfl, rfl⟩, hL.wH.rcv⟩, ⟨G, P, c, rfl, hL, hT, hG, hq, fun M2 hf2 hq92 => (have hL2 := LV.fr (M := M) hL hf2; have hT2 := hT.fr9 hL.tab hf2 hG (fun j j0 j1 => by unfold SRg; omega); fun qg26 qm27 => ⟨fun (qc28 : what = 0) => ⟨hL2.w, _, hL2.r2, ⟨⟨hL2.tab.w, trivial⟩, ⟨trivial, (show K (some (zi (v_property G (3 + what)))) (zsI M2 129 0 v) from ?g283l6)⟩⟩⟩, fun (qc28 : what ≠ 0) => ⟨fun (qc29 : what = 1) => ⟨hL2.w, _, hL2.r2, ⟨⟨hL2.tab.w, trivial⟩, ⟨trivial, (show K (some (zi (v_property G (3 + what)))) (zsI M2 129 1 v) from ?g283l7)⟩⟩⟩, fun (qc29 : what ≠ 1) => ⟨hL2.w, _, hL2.r2, ⟨⟨hL2.tab.w, trivial⟩, ⟨trivial, (show K (some (zi (v_property G (3 + what)))) (zsI M2 129 2 v) from ?g283l8)⟩⟩⟩⟩⟩)⟩⟩⟩⟩, fun (qc30 : c_property G (3 + what) = 1) => (show KX 1 M from ?g283l9)⟩⟩⟩, fun (qc31 : ¬(1 ≤ v ∧ v ≤ 50)) => (show KX 1 M from ?g283l10)⟩⟩, fun (qc18 : what ≠ 1) => ⟨⟨(by decide), (by decide)⟩, ⟨⟨rfl, rfl⟩, trivial⟩, ⟨v, 0, 19, rfl, fun (qc34 : 0 ≤ v ∧ v ≤ 19) => fun qg32 qm33 => fun _ _ => ⟨(zrgI (x := 3 + what) (by omega)), ⟨⟨(by decide), (by decide)⟩, ⟨⟨rfl, rfl⟩, hL.w.rcv⟩, ⟨G, (3 + what), rfl, hL, hT, hG, hV9, hX9, fun (qc38 : c_property G (3 + what) = 0) => fun (qg36 : zrg (v_property G (3 + what))) qm37 => ⟨hL.w, _, hL.r3, ⟨hL.w, _, hL.r2, ⟨⟨⟨rfl, rfl⟩, hL.wH.rcv⟩, ⟨G, P, c, rfl, hL, hT, hG, hq, fun M3 hf3 hq93 => (have hL3 := LV.fr (M := M) hL hf3; have hT3 := hT.fr9 hL.tab hf3 hG (fun j j0 j1 => by unfold SRg; omega); fun qg39 qm40 => ⟨fun (qc41 : what = 0) => ⟨hL3.w, _, hL3.r2, ⟨⟨hL3.tab.w, trivial⟩, ⟨trivial, (show K (some (zi (v_property G (3 + what)))) (zsI M3 129 0 v) from ?g283l11)⟩⟩⟩, fun (qc41 : what ≠ 0) => ⟨fun (qc42 : what = 1) => ⟨hL3.w, _, hL3.r2, ⟨⟨hL3.tab.w, trivial⟩, ⟨trivial, (show K (some (zi (v_property G (3 + what)))) (zsI M3 129 1 v) from ?g283l12)⟩⟩⟩, fun (qc42 : what ≠ 1) => ⟨hL3.w, _, hL3.r2, ⟨⟨hL3.tab.w, trivial⟩, ⟨trivial, (show K (some (zi (v_property G (3 + what)))) (zsI M3 129 2 v) from ?g283l13)⟩⟩⟩⟩⟩)⟩⟩⟩⟩, fun (qc43 : c_property G (3 + what) = 1) => (show KX 1 M from ?g283l14)⟩⟩⟩, fun (qc44 : ¬(0 ≤ v ∧ v ≤ 19)) => (show KX 1 M from ?g283l15)⟩⟩⟩⟩⟩⟩, fun (qc45 : ¬(0 ≤ what ∧ what ≤ 2)) => (show KX 1 M from ?g283l16)⟩⟩
  case g283l1 =>
    have e9 : what = 0 := by omega
    subst e9
    have zf : Fr (STb 129) M1 (zsI M1 129 0 v) := Fr_I hL1.tab.w (by decide) (by decide) (by unfold STb; omega)
    have zT : TR (zsI M1 129 0 v) 129 (F_setTable G 0 v) := hT1.s3 hL1.tab hG (i := 0) (v := v) (by omega)
    refine zKi (hK (by first | omega | (repeat' split) <;> omega) _ ((hf1.mono (fun j z => by unfold SRg at z; unfold SCw; omega)).tr (zf.mono (fun j z => by unfold STb at z; unfold SCw; omega))) zT (hq91.fr hL1 zf (fun j j0 j1 => by unfold STb; omega))) ?_
    rfl
  case g283l2 =>
    have e9 : what = 1 := by omega
    subst e9
    have zf : Fr (STb 129) M1 (zsI M1 129 1 v) := Fr_I hL1.tab.w (by decide) (by decide) (by unfold STb; omega)
    have zT : TR (zsI M1 129 1 v) 129 (F_setTable G 1 v) := hT1.s3 hL1.tab hG (i := 1) (v := v) (by omega)
    refine zKi (hK (by first | omega | (repeat' split) <;> omega) _ ((hf1.mono (fun j z => by unfold SRg at z; unfold SCw; omega)).tr (zf.mono (fun j z => by unfold STb at z; unfold SCw; omega))) zT (hq91.fr hL1 zf (fun j j0 j1 => by unfold STb; omega))) ?_
    rfl
  case g283l3 =>
    have e9 : what = 2 := by omega
    subst e9
    have zf : Fr (STb 129) M1 (zsI M1 129 2 v) := Fr_I hL1.tab.w (by decide) (by decide) (by unfold STb; omega)
    have zT : TR (zsI M1 129 2 v) 129 (F_setTable G 2 v) := hT1.s3 hL1.tab hG (i := 2) (v := v) (by omega)
    refine zKi (hK (by first | omega | (repeat' split) <;> omega) _ ((hf1.mono (fun j z => by unfold SRg at z; unfold SCw; omega)).tr (zf.mono (fun j z => by unfold STb at z; unfold SCw; omega))) zT (hq91.fr hL1 zf (fun j j0 j1 => by unfold STb; omega))) ?_
    rfl
  case g283l4 =>
    exfalso
    have h9 := qc16
    unfold c_property at h9
    rw [if_pos (by omega)] at h9
    omega
  case g283l5 => first | (exfalso; omega) | (exact (hX1 (by first | omega | (repeat' split) <;> omega))) | (exact (hX1 (by first | omega | (repeat' split) <;> omega)) (by omega)) | (refine (hX1 (by first | omega | (repeat' split) <;> omega)) ?_; simp [qc3, qc4, qc17]) | (simpa [qc3, qc4, qc17] using (hX1 (by first | omega | (repeat' split) <;> omega)))
  case g283l6 =>
    have e9 : what = 0 := by omega
    subst e9
    have zf : Fr (STb 129) M2 (zsI M2 129 0 v) := Fr_I hL2.tab.w (by decide) (by decide) (by unfold STb; omega)
    have zT : TR (zsI M2 129 0 v) 129 (F_setTable G 0 v) := hT2.s3 hL2.tab hG (i := 0) (v := v) (by omega)
    refine zKi (hK (by first | omega | (repeat' split) <;> omega) _ ((hf2.mono (fun j z => by unfold SRg at z; unfold SCw; omega)).tr (zf.mono (fun j z => by unfold STb at z; unfold SCw; omega))) zT (hq92.fr hL2 zf (fun j j0 j1 => by unfold STb; omega))) ?_
    rfl
  case g283l7 =>
    have e9 : what = 1 := by omega
    subst e9
    have zf : Fr (STb 129) M2 (zsI M2 129 1 v) := Fr_I hL2.tab.w (by decide) (by decide) (by unfold STb; omega)
    have zT : TR (zsI M2 129 1 v) 129 (F_setTable G 1 v) := hT2.s3 hL2.tab hG (i := 1) (v := v) (by omega)
    refine zKi (hK (by first | omega | (repeat' split) <;> omega) _ ((hf2.mono (fun j z => by unfold SRg at z; unfold SCw; omega)).tr (zf.mono (fun j z => by unfold STb at z; unfold SCw; omega))) zT (hq92.fr hL2 zf (fun j j0 j1 => by unfold STb; omega))) ?_
    rfl
  case g283l8 =>
    have e9 : what = 2 := by omega
    subst e9
    have zf : Fr (STb 129) M2 (zsI M2 129 2 v) := Fr_I hL2.tab.w (by decide) (by decide) (by unfold STb; omega)
    have zT : TR (zsI M2 129 2 v) 129 (F_setTable G 2 v) := hT2.s3 hL2.tab hG (i := 2) (v := v) (by omega)
    refine zKi (hK (by first | omega | (repeat' split) <;> omega) _ ((hf2.mono (fun j z => by unfold SRg at z; unfold SCw; omega)).tr (zf.mono (fun j z => by unfold STb at z; unfold SCw; omega))) zT (hq92.fr hL2 zf (fun j j0 j1 => by unfold STb; omega))) ?_
    rfl
  case g283l9 =>
    exfalso
    have h9 := qc30
    unfold c_property at h9
    rw [if_pos (by omega)] at h9
    omega
  case g283l10 => first | (exfalso; omega) | (exact (hX1 (by first | omega | (repeat' split) <;> omega))) | (exact (hX1 (by first | omega | (repeat' split) <;> omega)) (by omega)) | (refine (hX1 (by first | omega | (repeat' split) <;> omega)) ?_; simp [qc3, qc4, qc18, qc31]) | (simpa [qc3, qc4, qc18, qc31] using (hX1 (by first | omega | (repeat' split) <;> omega)))
  case g283l11 =>
    have e9 : what = 0 := by omega
    subst e9
    have zf : Fr (STb 129) M3 (zsI M3 129 0 v) := Fr_I hL3.tab.w (by decide) (by decide) (by unfold STb; omega)
    have zT : TR (zsI M3 129 0 v) 129 (F_setTable G 0 v) := hT3.s3 hL3.tab hG (i := 0) (v := v) (by omega)
    refine zKi (hK (by first | omega | (repeat' split) <;> omega) _ ((hf3.mono (fun j z => by unfold SRg at z; unfold SCw; omega)).tr (zf.mono (fun j z => by unfold STb at z; unfold SCw; omega))) zT (hq93.fr hL3 zf (fun j j0 j1 => by unfold STb; omega))) ?_
    rfl
  case g283l12 =>
    have e9 : what = 1 := by omega
    subst e9
    have zf : Fr (STb 129) M3 (zsI M3 129 1 v) := Fr_I hL3.tab.w (by decide) (by decide) (by unfold STb; omega)
    have zT : TR (zsI M3 129 1 v) 129 (F_setTable G 1 v) := hT3.s3 hL3.tab hG (i := 1) (v := v) (by omega)
    refine zKi (hK (by first | omega | (repeat' split) <;> omega) _ ((hf3.mono (fun j z => by unfold SRg at z; unfold SCw; omega)).tr (zf.mono (fun j z => by unfold STb at z; unfold SCw; omega))) zT (hq93.fr hL3 zf (fun j j0 j1 => by unfold STb; omega))) ?_
    rfl
  case g283l13 =>
    have e9 : what = 2 := by omega
    subst e9
    have zf : Fr (STb 129) M3 (zsI M3 129 2 v) := Fr_I hL3.tab.w (by decide) (by decide) (by unfold STb; omega)
    have zT : TR (zsI M3 129 2 v) 129 (F_setTable G 2 v) := hT3.s3 hL3.tab hG (i := 2) (v := v) (by omega)
    refine zKi (hK (by first | omega | (repeat' split) <;> omega) _ ((hf3.mono (fun j z => by unfold SRg at z; unfold SCw; omega)).tr (zf.mono (fun j z => by unfold STb at z; unfold SCw; omega))) zT (hq93.fr hL3 zf (fun j j0 j1 => by unfold STb; omega))) ?_
    rfl
  case g283l14 =>
    exfalso
    have h9 := qc43
    unfold c_property at h9
    rw [if_pos (by omega)] at h9
    omega
  case g283l15 => first | (exfalso; omega) | (exact (hX1 (by first | omega | (repeat' split) <;> omega))) | (exact (hX1 (by first | omega | (repeat' split) <;> omega)) (by omega)) | (refine (hX1 (by first | omega | (repeat' split) <;> omega)) ?_; simp [qc3, qc4, qc18, qc44]) | (simpa [qc3, qc4, qc18, qc44] using (hX1 (by first | omega | (repeat' split) <;> omega)))
  case g283l16 => first | (exfalso; omega) | (exact (hX1 (by first | omega | (repeat' split) <;> omega))) | (exact (hX1 (by first | omega | (repeat' split) <;> omega)) (by omega)) | (refine (hX1 (by first | omega | (repeat' split) <;> omega)) ?_; simp [qc45]) | (simpa [qc45] using (hX1 (by first | omega | (repeat' split) <;> omega)))
theorem M_X8_setTable {l : Launch} (hl : l.stackTraces = false) : zMet l yX8_setTable (Cond.code yX8_setTable cX8_setTable 4 (Option.some Jvm.ClassFile.FieldType.int) :: zG) rm_X8_setTable 5 30 T_X8_setTable := met_X8_setTable hl (M_X8_requireRange hl) (M_X8_requireSetting hl) (M_X8_property hl) (M_X0_remember hl) bd_X8_setTable
