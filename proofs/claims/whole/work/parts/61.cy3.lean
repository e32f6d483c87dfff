/-! the class: what would be, asked -/

def T_X8_stateIf : ZTf := fun av M K KX => ∃ (G : Gm) (w r x : Int), av = [zo 64, zi w, zi r, zi x] ∧ (LV M) ∧ (TR M 129 G) ∧ (GI G) ∧ (GV G) ∧ (GX G) ∧  ((c_stateIf G w r x = 0) → (∀ M' : ZM, (Fr SVd M M') → K (some (zi (v_stateIf G w r x))) M')) ∧ ((c_stateIf G w r x = 1) → KX 0 M) ∧ ((c_stateIf G w r x = 2) → KX 1 M) ∧ ((c_stateIf G w r x = 3) → KX 2 M)
set_option maxRecDepth 100000 in
set_option maxHeartbeats 4000000 in
theorem bd_X8_stateIf : zBd (cd_X8_stateIf T_X8_requireWorker T_X8_requireRow T_X8_requireRange T_X8_requireInWork T_X6_judge) 5 4 24 T_X8_stateIf := by
  rintro av M K KX hA0 hM ⟨G, w, r, x, rfl, hL, hT, hG, hV9, hX9, hK, hX0, hX1, hX2⟩
  obtain ⟨hw5, hr5, hR5⟩ := id hG
  simp only [c_stateIf, v_stateIf] at hK hX0 hX1 hX2
  refine ⟨rfl, fun Φ hΦ => ?_⟩
  refine zGoR hΦ [] 400 (fun hL9 _ hM _ _ => ?_)
  obtain ⟨qL1, qL2, qL3, _⟩ : zrg w ∧ zrg r ∧ zrg x ∧ True := hL9
  refine ⟨⟨(by decide), (by decide)⟩, ⟨⟨rfl, rfl⟩, hL.w.rcv⟩, ⟨G, w, rfl, hL, hT, fun (qc3 : 0 ≤ w ∧ w < G 4) => fun qg1 qm2 => ⟨⟨(by decide), (by decide)⟩, ⟨⟨rfl, rfl⟩, hL.w.rcv⟩, ⟨G, r, rfl, hL, hT, fun (qc6 : 0 ≤ r ∧ r < G 5) => fun qg4 qm5 => ⟨⟨(by decide), (by decide)⟩, ⟨⟨rfl, rfl⟩, trivial⟩, ⟨x, 0, 99, rfl, fun (qc9 : 0 ≤ x ∧ x ≤ 99) => fun qg7 qm8 => ⟨⟨(by decide), (by decide)⟩, ⟨⟨rfl, rfl⟩, hL.w.rcv⟩, ⟨G, w, r, rfl, hL, hT, (by omega), hG, fun (qc12 : fWorksAt G w r = true) => fun (qg10 : zrg (fTakingOf G w r)) qm11 => ⟨hL.w, _, hL.r6, ⟨hL.w, _, hL.r2, ⟨hL.w, _, hL.r2, ⟨hL.tab.w, _, hL.tab.r7, ⟨zixW hL.tab.aTrow hL.tab.lTrow (i := r) (by omega) (by decide), _, (hL.tab.row (by omega) (by omega)).1, ⟨⟨⟨rfl, rfl⟩, hL.wVd.rcv⟩, ⟨G, r, (fTakingOf G w r), x, rfl, hL, hT, hG, hV9, hX9, (by omega), (DLp.of hG (by omega) (by omega) (x := 0) (by omega) (by assumption)).2.2.2.2.1, (by omega), fun M1 hf1 hv1 => (have hL1 := LV.fr (M := M) hL hf1; have hT1 := hT.fr9 hL.tab hf1 hG (fun j j0 j1 => by unfold SVd; omega); fun qg13 qm14 => ⟨hL1.w, _, hL1.r6, ⟨hL1.wVd, zIr (hv1.1) (⟨trivial, (show K (some (zi (vSt (G (132 + 16 * r + 1).toNat) (gKd G r (fTakingOf G w r) x)))) M1 from ?g289l1)⟩)⟩⟩)⟩⟩⟩⟩⟩⟩⟩, fun (qc15 : fWorksAt G w r = false) => (show KX 2 M from ?g289l2)⟩⟩, fun (qc16 : ¬(0 ≤ x ∧ x ≤ 99)) => (show KX 1 M from ?g289l3)⟩⟩, fun (qc17 : ¬(0 ≤ r ∧ r < G 5)) => (show KX 0 M from ?g289l4)⟩⟩, fun (qc18 : ¬(0 ≤ w ∧ w < G 4)) => (show KX 0 M from ?g289l5)⟩⟩
  case g289l1 =>
    refine zKi (hK (by first | omega | ((repeat' split) <;> first | omega | (exfalso; simp_all))) _ hf1) ?_
    exact fDel_st hG hV9 hX9 (DLp.of hG (by omega) (by omega) (by omega) (by assumption))
  case g289l2 => first | (exfalso; omega) | (exact (hX2 (by first | omega | ((repeat' split) <;> first | omega | (exfalso; simp_all))))) | (exact (hX2 (by first | omega | ((repeat' split) <;> first | omega | (exfalso; simp_all)))) (by omega)) | (refine (hX2 (by first | omega | ((repeat' split) <;> first | omega | (exfalso; simp_all)))) ?_; simp [qc3, qc6, qc9, qc15]) | (simpa [qc3, qc6, qc9, qc15] using (hX2 (by first | omega | ((repeat' split) <;> first | omega | (exfalso; simp_all)))))
  case g289l3 => first | (exfalso; omega) | (exact (hX1 (by first | omega | ((repeat' split) <;> first | omega | (exfalso; simp_all))))) | (exact (hX1 (by first | omega | ((repeat' split) <;> first | omega | (exfalso; simp_all)))) (by omega)) | (refine (hX1 (by first | omega | ((repeat' split) <;> first | omega | (exfalso; simp_all)))) ?_; simp [qc3, qc6, qc16]) | (simpa [qc3, qc6, qc16] using (hX1 (by first | omega | ((repeat' split) <;> first | omega | (exfalso; simp_all)))))
  case g289l4 => first | (exfalso; omega) | (exact (hX0 (by first | omega | ((repeat' split) <;> first | omega | (exfalso; simp_all))))) | (exact (hX0 (by first | omega | ((repeat' split) <;> first | omega | (exfalso; simp_all)))) (by omega)) | (refine (hX0 (by first | omega | ((repeat' split) <;> first | omega | (exfalso; simp_all)))) ?_; simp [qc3, qc17]) | (simpa [qc3, qc17] using (hX0 (by first | omega | ((repeat' split) <;> first | omega | (exfalso; simp_all)))))
  case g289l5 => first | (exfalso; omega) | (exact (hX0 (by first | omega | ((repeat' split) <;> first | omega | (exfalso; simp_all))))) | (exact (hX0 (by first | omega | ((repeat' split) <;> first | omega | (exfalso; simp_all)))) (by omega)) | (refine (hX0 (by first | omega | ((repeat' split) <;> first | omega | (exfalso; simp_all)))) ?_; simp [qc18]) | (simpa [qc18] using (hX0 (by first | omega | ((repeat' split) <;> first | omega | (exfalso; simp_all)))))
theorem M_X8_stateIf {l : Launch} (hl : l.stackTraces = false) : zMet l yX8_stateIf (Cond.code yX8_stateIf cX8_stateIf 5 (Option.some Jvm.ClassFile.FieldType.int) :: zG) rm_X8_stateIf 4 24 T_X8_stateIf := met_X8_stateIf hl (M_X8_requireWorker hl) (M_X8_requireRow hl) (M_X8_requireRange hl) (M_X8_requireInWork hl) (M_X6_judge hl) bd_X8_stateIf

theorem gVV_c {M : ZM} {G : Gm} {r k x i : Int} (h : gVV M G r k x) (hi : 0 ≤ i ∧ i < 3) : zI M 665 i.toNat = cvf (vc0 (G 0) (yv G r k x 0) (yv G r k x 1) (yv G r k x 2) (gKd G r k x)) (vc1 (G 0) (yv G r k x 0) (yv G r k x 1) (yv G r k x 2) (gKd G r k x)) (vc2 (gKd G r k x)) i := by
  obtain ⟨-, -, -, -, h4, h5, h6⟩ := h
  have h9 : i = 0 ∨ i = 1 ∨ i = 2 := by omega
  rcases h9 with z | z | z <;> subst z
  · exact h4
  · exact h5
  · exact h6
