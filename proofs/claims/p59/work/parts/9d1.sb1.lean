def T_X8_finishers : ZTf := fun av M K KX => ∃ (G : Gm) (r : Int), av = [zo 64, zi r] ∧ (LV M) ∧ (TR M 129 G) ∧ (GI G) ∧ (GV G) ∧ (GX G) ∧ (0 ≤ r → r < G 5 → (G (132 + 16 * r + 1).toNat) ≠ 2 → (G (132 + 16 * r + 5).toNat) = 0) ∧  ((c_finishers G r = 0) → K (some (zi (v_finishers G r))) M) ∧ ((c_finishers G r = 1) → KX 0 M)
set_option maxRecDepth 100000 in
set_option maxHeartbeats 1500000 in
theorem bd_X8_finishers : zBd (cd_X8_finishers T_X8_requireRow) 3 1 6 T_X8_finishers := by
  rintro av M K KX hA0 hM ⟨G, r, rfl, hL, hT, hG, hV9, hX9, hf5, hK, hX0⟩
  obtain ⟨hw5, hr5, hR5⟩ := id hG
  simp only [c_finishers, v_finishers, Int.le_sub_one_iff] at hK hX0
  obtain ⟨f1, hf1⟩ : ∃ f1, zI M (129 + 11 + 2 * r.toNat) 6 = f1 := ⟨_, rfl⟩
  obtain ⟨f2, hf2⟩ : ∃ f2, zI M (129 + 11 + 2 * r.toNat) 7 = f2 := ⟨_, rfl⟩
  have hcf : 0 ≤ r → r < G 5 → (G (132 + 16 * r + 1).toNat) = 2 → (G (132 + 16 * r + 5).toNat) = zor (zshl 1 f1) (zshl 1 f2) := fun r0 r1 q => by
    have h9 := (hT.1.2.2.1 r r0 r1).2.2.2.2.2.2.2.1 q
    rw [← hf1, ← hf2]
    exact h9.2.2.2.2.2
  refine ⟨rfl, fun Φ hΦ => ?_⟩
  refine zGoR hΦ [] 400 (fun hL9 _ hM _ _ => ?_)
  obtain ⟨qL1, _⟩ : zrg r ∧ True := hL9
  refine ⟨⟨(by decide), (by decide)⟩, ⟨⟨rfl, rfl⟩, hL.w.rcv⟩, ⟨G, r, rfl, hL, hT, fun (qc3 : 0 ≤ r ∧ r < G 5) => fun qg1 qm2 => ⟨hL.w, _, hL.r2, ⟨hL.tab.w, _, hL.tab.r7, ⟨zixW hL.tab.aTrow hL.tab.lTrow (i := r) (by omega) (by decide), _, (hL.tab.row (by omega) (by omega)).1, ⟨(hL.tab.row (by omega) (by omega)).2.w, zIr ((hT.r1 (r := r) (by omega) (by omega))) (⟨fun (qc4 : (G (132 + 16 * r + 1).toNat) = 2) => ⟨(hL.tab.row (by omega) (by omega)).2.w, zIr (hf1) (⟨(hL.tab.row (by omega) (by omega)).2.w, zIr (hf2) (⟨trivial, (show K (some (zi (zor (zshl 1 f1) (zshl 1 f2)))) M from ?g497l1)⟩)⟩)⟩, fun (qc5 : (G (132 + 16 * r + 1).toNat) ≠ 2) => ⟨trivial, (show K (some (zi 0)) M from ?g497l2)⟩⟩)⟩⟩⟩⟩, fun (qc6 : ¬(0 ≤ r ∧ r < G 5)) => (show KX 0 M from ?g497l3)⟩⟩
  case g497l1 =>
    have h9 := hK (if_pos ⟨by omega, by omega⟩)
    rw [if_pos ⟨by omega, by omega⟩, hcf (by omega) (by omega) (by omega)] at h9
    exact h9
  case g497l2 =>
    have h9 := hK (if_pos ⟨by omega, by omega⟩)
    rw [if_pos ⟨by omega, by omega⟩, hf5 (by omega) (by omega) (by omega)] at h9
    exact h9
  case g497l3 => exact hX0 (by rw [if_neg (by omega)])
theorem M_X8_finishers {l : Launch} (hl : l.stackTraces = false) : zMet l yX8_finishers (Cond.code yX8_finishers cX8_finishers 3 (Option.some Jvm.ClassFile.FieldType.int) :: zG) rm_X8_finishers 1 6 T_X8_finishers := met_X8_finishers hl (M_X8_requireRow hl) bd_X8_finishers
