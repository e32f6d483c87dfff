/-! the class: how many results would finish a row -/

def T_X8_finishing : ZTf := fun av M K KX => ∃ (G : Gm) (w r : Int), av = [zo 64, zi w, zi r] ∧ (LV M) ∧ (TR M 129 G) ∧ (GI G) ∧ (GV G) ∧ (GX G) ∧  ((c_finishing G w r = 0) → (∀ M' : ZM, (Fr SVd M M') → K (some (zi (v_finishing G w r))) M')) ∧ ((c_finishing G w r = 1) → KX 0 M) ∧ ((c_finishing G w r = 2) → KX 2 M)
set_option maxRecDepth 100000 in
set_option maxHeartbeats 4000000 in
theorem bd_X8_finishing : zBd (cd_X8_finishing T_X8_requireWorker T_X8_requireRow T_X8_requireInWork T_X6_judge) 6 3 18 T_X8_finishing := by
  rintro av M K KX hA0 hM ⟨G, w, r, rfl, hL, hT, hG, hV9, hX9, hK, hX0, hX2⟩
  obtain ⟨hw5, hr5, hR5⟩ := id hG
  simp only [c_finishing, v_finishing] at hK hX0 hX2
  refine ⟨rfl, fun Φ hΦ => ?_⟩
  have loop : (0 ≤ w ∧ w < G 4) → (0 ≤ r ∧ r < G 5) → fWorksAt G w r = true → ∀ i, 0 ≤ i → i ≤ 100 → ∀ M90 : ZM, Fr SVd M M90 → Φ 23 [some (zo 64), some (zi w), some (zi r), some (zi (fTakingOf G w r)), some (zi (cntI (fun x => decide (((fDel G w r x) (132 + 16 * r + 1).toNat) = 2)) i)), some (zi i)] [] M90 3 18 := fun hw hr hwk => by
    refine zdown (n := 100) (P := fun i => ∀ M90 : ZM, Fr SVd M M90 → Φ 23 [some (zo 64), some (zi w), some (zi r), some (zi (fTakingOf G w r)), some (zi (cntI (fun x => decide (((fDel G w r x) (132 + 16 * r + 1).toNat) = 2)) i)), some (zi i)] [] M90 3 18) (fun i h0 h1 ih M90 f9 => ?_)
    have hL90 := hL.fr f9
    have hT90 := hT.fr9 hL.tab f9 hG (fun j j0 j1 => by unfold SVd; omega)
    have hcr := cntI_r (fun x => decide (((fDel G w r x) (132 + 16 * r + 1).toNat) = 2)) i h0
    have hcs : cntI (fun x => decide (((fDel G w r x) (132 + 16 * r + 1).toNat) = 2)) (i + 1) = _ := cntI_s (p := fun x => decide (((fDel G w r x) (132 + 16 * r + 1).toNat) = 2)) h0
    obtain ⟨cn, hcn⟩ : ∃ z, (cntI (fun x => decide (((fDel G w r x) (132 + 16 * r + 1).toNat) = 2)) i) = z := ⟨_, rfl⟩
    rw [hcn] at hcr hcs
    rw [hcn]
    refine zGoR hΦ [23] 400 (fun hL9 _ hM _ _ => ?_)
    obtain ⟨qL1, qL2, qL3, qL4, qL5, _⟩ : zrg w ∧ zrg r ∧ zrg (fTakingOf G w r) ∧ zrg cn ∧ zrg i ∧ True := hL9
    refine ⟨fun (qc1 : i > 99) => ⟨trivial, (show K (some (zi cn)) M90 from ?g292l1)⟩, fun (qc2 : i ≤ 99) => ⟨hL90.w, _, hL90.r6, ⟨hL90.w, _, hL90.r2, ⟨hL90.w, _, hL90.r2, ⟨hL90.tab.w, _, hL90.tab.r7, ⟨zixW hL90.tab.aTrow hL90.tab.lTrow (i := r) (by omega) (by decide), _, (hL90.tab.row (by omega) (by omega)).1, ⟨⟨⟨rfl, rfl⟩, hL90.wVd.rcv⟩, ⟨G, r, (fTakingOf G w r), i, rfl, hL90, hT90, hG, hV9, hX9, (by omega), (DLp.of hG (by omega) (by omega) (x := i) (by omega) (by assumption)).2.2.2.2.1, (by omega), fun M1 hf1 hv1 => (have hL1 := LV.fr (M := M90) hL90 hf1; fun qg3 qm4 => ⟨hL1.w, _, hL1.r6, ⟨hL1.wVd, zIr (hv1.1) (⟨fun (qc5 : (vSt (G (132 + 16 * r + 1).toNat) (gKd G r (fTakingOf G w r) i)) ≠ 2) => ⟨(zrgI (x := i + 1) (by omega)), (show Φ 23 [some (zo 64), some (zi w), some (zi r), some (zi (fTakingOf G w r)), some (zi cn), some (zi (i + 1))] [] M1 (3) (18) from ?g292l2)⟩, fun (qc6 : (vSt (G (132 + 16 * r + 1).toNat) (gKd G r (fTakingOf G w r) i)) = 2) => ⟨(zrgI (x := cn + 1) (by omega)), ⟨(zrgI (x := i + 1) (by omega)), (show Φ 23 [some (zo 64), some (zi w), some (zi r), some (zi (fTakingOf G w r)), some (zi (cn + 1)), some (zi (i + 1))] [] M1 (3) (18) from ?g292l3)⟩⟩⟩)⟩⟩)⟩⟩⟩⟩⟩⟩⟩⟩
    case g292l1 =>
      have e9 : i = 100 := (by omega)
      subst e9
      refine zKi (hK (by first | omega | ((repeat' split) <;> first | omega | (exfalso; simp_all))) _ f9) ?_
      exact hcn
    case g292l2 =>
      have e9 := fDel_st hG hV9 hX9 (DLp.of hG (by omega) (by omega) (x := i) (by omega) (by assumption))
      have h9 := ih (by omega) M1 (f9.tr hf1)
      rw [hcs, if_neg (by rw [decide_eq_true_eq, e9]; exact qc5)] at h9
      exact h9
    case g292l3 =>
      have e9 := fDel_st hG hV9 hX9 (DLp.of hG (by omega) (by omega) (x := i) (by omega) (by assumption))
      have h9 := ih (by omega) M1 (f9.tr hf1)
      rw [hcs, if_pos (decide_eq_true (e9.trans qc6))] at h9
      exact h9
  refine zGoR hΦ [23] 400 (fun hL9 _ hM _ _ => ?_)
  obtain ⟨qL1, qL2, _⟩ : zrg w ∧ zrg r ∧ True := hL9
  refine ⟨⟨(by decide), (by decide)⟩, ⟨⟨rfl, rfl⟩, hL.w.rcv⟩, ⟨G, w, rfl, hL, hT, fun (qc3 : 0 ≤ w ∧ w < G 4) => fun qg1 qm2 => ⟨⟨(by decide), (by decide)⟩, ⟨⟨rfl, rfl⟩, hL.w.rcv⟩, ⟨G, r, rfl, hL, hT, fun (qc6 : 0 ≤ r ∧ r < G 5) => fun qg4 qm5 => ⟨⟨(by decide), (by decide)⟩, ⟨⟨rfl, rfl⟩, hL.w.rcv⟩, ⟨G, w, r, rfl, hL, hT, (by omega), hG, fun (qc9 : fWorksAt G w r = true) => fun (qg7 : zrg (fTakingOf G w r)) qm8 => (show Φ 23 [some (zo 64), some (zi w), some (zi r), some (zi (fTakingOf G w r)), some (zi 0), some (zi 0)] [] M (0 + 1 + 1 + 1) (0 + 6 + 6 + 6) from ?g293l1), fun (qc10 : fWorksAt G w r = false) => (show KX 2 M from ?g293l2)⟩⟩, fun (qc11 : ¬(0 ≤ r ∧ r < G 5)) => (show KX 0 M from ?g293l3)⟩⟩, fun (qc12 : ¬(0 ≤ w ∧ w < G 4)) => (show KX 0 M from ?g293l4)⟩⟩
  case g293l1 => exact loop (by omega) (by omega) (by assumption) 0 (by omega) (by omega) _ Fr.rf
  case g293l2 => first | (exfalso; omega) | (exact (hX2 (by first | omega | ((repeat' split) <;> first | omega | (exfalso; simp_all))))) | (exact (hX2 (by first | omega | ((repeat' split) <;> first | omega | (exfalso; simp_all)))) (by omega)) | (refine (hX2 (by first | omega | ((repeat' split) <;> first | omega | (exfalso; simp_all)))) ?_; simp [qc3, qc6, qc10]) | (simpa [qc3, qc6, qc10] using (hX2 (by first | omega | ((repeat' split) <;> first | omega | (exfalso; simp_all)))))
  case g293l3 => first | (exfalso; omega) | (exact (hX0 (by first | omega | ((repeat' split) <;> first | omega | (exfalso; simp_all))))) | (exact (hX0 (by first | omega | ((repeat' split) <;> first | omega | (exfalso; simp_all)))) (by omega)) | (refine (hX0 (by first | omega | ((repeat' split) <;> first | omega | (exfalso; simp_all)))) ?_; simp [qc3, qc11]) | (simpa [qc3, qc11] using (hX0 (by first | omega | ((repeat' split) <;> first | omega | (exfalso; simp_all)))))
  case g293l4 => first | (exfalso; omega) | (exact (hX0 (by first | omega | ((repeat' split) <;> first | omega | (exfalso; simp_all))))) | (exact (hX0 (by first | omega | ((repeat' split) <;> first | omega | (exfalso; simp_all)))) (by omega)) | (refine (hX0 (by first | omega | ((repeat' split) <;> first | omega | (exfalso; simp_all)))) ?_; simp [qc12]) | (simpa [qc12] using (hX0 (by first | omega | ((repeat' split) <;> first | omega | (exfalso; simp_all)))))
theorem M_X8_finishing {l : Launch} (hl : l.stackTraces = false) : zMet l yX8_finishing (Cond.code yX8_finishing cX8_finishing 6 (Option.some Jvm.ClassFile.FieldType.int) :: zG) rm_X8_finishing 3 18 T_X8_finishing := met_X8_finishing hl (M_X8_requireWorker hl) (M_X8_requireRow hl) (M_X8_requireInWork hl) (M_X6_judge hl) bd_X8_finishing
