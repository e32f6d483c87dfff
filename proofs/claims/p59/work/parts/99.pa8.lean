theorem fNamed_r {B G : Gm} {n a e : Int} (h : 0 ≤ G 4 ∧ G 4 ≤ 6) : -1 ≤ fNamed G B n a e ∧ fNamed G B n a e < 6 := by
  unfold fNamed
  split
  · rcases fWith_r G (nmv (bl B a (e - a).toNat)) h.1 with y | y <;> omega
  · omega
def T_X3_readBarStatement : ZTf := fun av M K KX => ∃ (B : Gm) (n : Int) (G : Gm) (e : E3), av = [zo 65] ∧ (LV M) ∧ (CIn M B n) ∧ (PE M B n e) ∧ (e.1 = 0) ∧ (KC M) ∧ (TR M 70 G) ∧ (DI G) ∧  (∀ M' : ZM, (Fr S5d M M') → (PE M' B n (eSemi B n (ePB B n G e))) → ((eSemi B n (ePB B n G e)).1 = 0 → TR M' 70 (gPB B n G e)) → K (some (zi (b2i (decide ((eSemi B n (ePB B n G e)).1 = 0))))) M')
set_option maxRecDepth 100000 in
set_option maxHeartbeats 1500000 in
theorem bd_X3_readBarStatement : zBd (cd_X3_readBarStatement T_X3_nextToken T_X3_readKnownName T_X3_isAtName T_X3_fail T_X5_workerNamed T_X5_areKeptApart T_X5_tellApart T_X3_readSemicolon) 3 0 0 T_X3_readBarStatement := by
  rintro av M K KX hA0 hM ⟨B, n, G, e, rfl, hL, hI, hP, h0, kc, hT, hDI, hK⟩
  have hz : Fr S5d M M := Fr.rf
  have hok := hP.2.2
  have hkr := tkK_r B n e.2.2
  have her := tkE_r B hok.2
  unfold eOK at hok
  have hn5 := hI.2.1
  have hG := hDI.1.gi
  obtain ⟨hw5, hr5, hR5⟩ := id hG
  have hw4 := hw5
  have hnm9 := fun q : (eName B n (eGo B n (eTold B n G (eGo B n e)))).1 = 0 => (eName_v q).2.2.1
  have hvr9 := vTold_r (B := B) (n := n) (e := eGo B n e) hw5
  have hfn9 := fNamed_r (B := B) (n := n) (a := ((eGo B n (eTold B n G (eGo B n e)))).2.2) (e := tkE B n ((eGo B n (eTold B n G (eGo B n e)))).2.2) hw5
  refine ⟨rfl, fun Φ hΦ => ?_⟩
  refine zGoR hΦ [] 400 (fun hL9 _ hM _ _ => ?_)
  obtain ⟨_⟩ : True := hL9
  refine ⟨⟨⟨rfl, rfl⟩, hL.wP.rcv⟩, ⟨B, n, (tkE B n e.2.2), rfl, hL, hI, hP.1.2.2.1, (by have h9 := hP.2.2; have h8 := tkE_r B h9.2; unfold eOK at h9; omega), fun M1 hf1 h01 hk1 => (have hL1 := hL.fr hf1; have hI1 := hI.f5 hL hf1; have hz1 := hz.tr hf1.d5; have hP1 := PE.go hP (by omega) h01 hk1; have hj1 : ((eGo B n e)).1 = 0 → (e).1 = 0 := fun q => eGo_i q; have hg1 : ((eGo B n e)).1 = 0 := eGo_0 (by omega); have hT1 := hT.fr9 hL.draft hf1 hG (fun j j0 j1 => by unfold S65; omega); fun qg1 qm2 => ⟨⟨⟨rfl, rfl⟩, hL1.wP.rcv⟩, ⟨B, n, G, (eGo B n e), rfl, hL1, hI1, hP1, (by omega), (kc.fr hz1), hT1, hw4, fun M2 hf2 hP2 ha2 => (have hL2 := hL1.fr hf2; have hI2 := hI1.f5 hL1 hf2; have hz2 := hz1.tr hf2.d5; have hj2 : ((eGo B n (eTold B n G (eGo B n e)))).1 = 0 → ((eGo B n e)).1 = 0 := fun q => eTold_i (eGo_i q); have hT2 := hT1.fr9 hL1.draft hf2 hG (fun j j0 j1 => by unfold S65; omega); fun (qg3 : zrg (b2i (decide ((eGo B n (eTold B n G (eGo B n e))).1 = 0)))) qm4 => ⟨fun h => (have qc5 : (eGo B n (eTold B n G (eGo B n e))).1 = 0 := of_decide_eq_true (b2i_n0 h); ⟨hL2.wP, ⟨⟨⟨rfl, rfl⟩, hL2.wP.rcv⟩, ⟨B, n, (eGo B n (eTold B n G (eGo B n e))), rfl, hL2, hI2, hP2, (by omega), (kc.fr hz2), fun (qg6 : zrg (b2i (decide ((eName B n (eGo B n (eTold B n G (eGo B n e)))).1 = 0)))) qm7 => ⟨fun h => (have qc8 : (eName B n (eGo B n (eTold B n G (eGo B n e)))).1 = 0 := of_decide_eq_true (b2i_n0 h); ⟨hL2.wP, _, hL2.p3, ⟨hL2.wP, _, hL2.p2, ⟨hL2.wP, zIr (hP2.1.2.1) (⟨hL2.wP, zIr (hP2.1.2.2.1) (⟨⟨⟨rfl, rfl⟩, hL2.draft.w.rcv⟩, ⟨70, G, B, n, ((eGo B n (eTold B n G (eGo B n e))).2.2), (tkE B n (eGo B n (eTold B n G (eGo B n e))).2.2), rfl, hL2.draft, hT2, hw4, hL2, hI2, (by have h9 := hP2.2.2; have h8 := tkE_r B h9.2; unfold eOK at h9; omega), fun (qg9 : zrg (fNamed G B n ((eGo B n (eTold B n G (eGo B n e))).2.2) (tkE B n (eGo B n (eTold B n G (eGo B n e))).2.2))) qm10 => ⟨fun (qc11 : fNamed G B n ((eGo B n (eTold B n G (eGo B n e))).2.2) (tkE B n (eGo B n (eTold B n G (eGo B n e))).2.2) = (-1)) => ⟨⟨⟨rfl, rfl⟩, hL2.wP.rcv⟩, ⟨B, n, (eGo B n (eTold B n G (eGo B n e))), 3, rfl, hL2, hI2, hP2, (by omega), fun M3 hf3 hP3 => (have hL3 := hL2.fr hf3; have hI3 := hI2.f5 hL2 hf3; have hz3 := hz2.tr hf3.d5; have hn3 : ((eErr 3 (eGo B n (eTold B n G (eGo B n e))))).1 ≠ 0 := eErr_n (by decide); have hT3 := hT2.fr9 hL2.draft hf3 hG (fun j j0 j1 => by unfold S65; omega); fun (qg12 : zrg (0)) qm13 => ⟨(Or.inl rfl), (show K (some (zi 0)) M3 from ?g432l1)⟩)⟩⟩, fun (qc14 : fNamed G B n ((eGo B n (eTold B n G (eGo B n e))).2.2) (tkE B n (eGo B n (eTold B n G (eGo B n e))).2.2) ≠ (-1)) => ⟨fun (qc15 : fNamed G B n ((eGo B n (eTold B n G (eGo B n e))).2.2) (tkE B n (eGo B n (eTold B n G (eGo B n e))).2.2) = zI M2 65 8) => ⟨⟨⟨rfl, rfl⟩, hL2.wP.rcv⟩, ⟨B, n, (eGo B n (eTold B n G (eGo B n e))), 3, rfl, hL2, hI2, hP2, (by omega), fun M4 hf4 hP4 => (have hL4 := hL2.fr hf4; have hI4 := hI2.f5 hL2 hf4; have hz4 := hz2.tr hf4.d5; have hn4 : ((eErr 3 (eGo B n (eTold B n G (eGo B n e))))).1 ≠ 0 := eErr_n (by decide); have hT4 := hT2.fr9 hL2.draft hf4 hG (fun j j0 j1 => by unfold S65; omega); fun (qg16 : zrg (0)) qm17 => ⟨(Or.inl rfl), (show K (some (zi 0)) M4 from ?g432l2)⟩)⟩⟩, fun (qc18 : fNamed G B n ((eGo B n (eTold B n G (eGo B n e))).2.2) (tkE B n (eGo B n (eTold B n G (eGo B n e))).2.2) ≠ zI M2 65 8) => ⟨hL2.wP, _, hL2.p3, ⟨⟨⟨rfl, rfl⟩, hL2.draft.w.rcv⟩, ⟨70, G, (zI M2 65 8), (fNamed G B n ((eGo B n (eTold B n G (eGo B n e))).2.2) (tkE B n (eGo B n (eTold B n G (eGo B n e))).2.2)), rfl, hL2.draft, hT2, hG, (by omega), (by omega), hDI.1.gx, fun (qg19 : zrg (b2i (fFoes G (zI M2 65 8) (fNamed G B n ((eGo B n (eTold B n G (eGo B n e))).2.2) (tkE B n (eGo B n (eTold B n G (eGo B n e))).2.2))))) qm20 => ⟨fun h => (have qc21 : (fFoes G (zI M2 65 8) (fNamed G B n ((eGo B n (eTold B n G (eGo B n e))).2.2) (tkE B n (eGo B n (eTold B n G (eGo B n e))).2.2))) = false := b2i_e0 h; ⟨⟨⟨rfl, rfl⟩, hL2.wP.rcv⟩, ⟨B, n, (tkE B n (eGo B n (eTold B n G (eGo B n e))).2.2), rfl, hL2, hI2, hP2.1.2.2.1, (by have h9 := hP2.2.2; have h8 := tkE_r B h9.2; unfold eOK at h9; omega), fun M5 hf5 h05 hk5 => (have hL5 := hL2.fr hf5; have hI5 := hI2.f5 hL2 hf5; have hz5 := hz2.tr hf5.d5; have hP5 := PE.go hP2 (by omega) h05 hk5; have hj5 : ((eGo B n (eGo B n (eTold B n G (eGo B n e))))).1 = 0 → ((eGo B n (eTold B n G (eGo B n e)))).1 = 0 := fun q => eGo_i q; have hg5 : ((eGo B n (eGo B n (eTold B n G (eGo B n e))))).1 = 0 := eGo_0 (by omega); have hT5 := hT2.fr9 hL2.draft hf5 hG (fun j j0 j1 => by unfold S65; omega); fun qg22 qm23 => ⟨hL5.wP, _, hL5.p3, ⟨⟨⟨rfl, rfl⟩, hL5.draft.w.rcv⟩, ⟨70, G, (zI M2 65 8), (fNamed G B n ((eGo B n (eTold B n G (eGo B n e))).2.2) (tkE B n (eGo B n (eTold B n G (eGo B n e))).2.2)), 1, rfl, hL5.draft, hT5, hG, (by omega), (by omega), fun M6 hf6 hT6 => (have hL6 := hL5.fr hf6; have hI6 := hI5.fr hL5 hf6 (by unfold STb; omega) (by unfold STb; omega); have hP6 := hP5.fr hL5 hf6 (by unfold STb; omega); have hz6 := hz5.tr hf6.t5; fun qg24 qm25 => ⟨⟨⟨rfl, rfl⟩, hL6.wP.rcv⟩, ⟨B, n, (eGo B n (eGo B n (eTold B n G (eGo B n e)))), rfl, hL6, hI6, hP6, (by omega), fun M7 hf7 hP7 => (have hL7 := hL6.fr hf7; have hI7 := hI6.f5 hL6 hf7; have hz7 := hz6.tr hf7.d5; have hj7 : ((eSemi B n (eGo B n (eGo B n (eTold B n G (eGo B n e)))))).1 = 0 → ((eGo B n (eGo B n (eTold B n G (eGo B n e))))).1 = 0 := fun q => eSemi_i q; fun (qg26 : zrg (b2i (decide ((eSemi B n (eGo B n (eGo B n (eTold B n G (eGo B n e))))).1 = 0)))) qm27 => ⟨(b2i_z _), (show K (some (zi (b2i (decide ((eSemi B n (eGo B n (eGo B n (eTold B n G (eGo B n e))))).1 = 0))))) M7 from ?g432l3)⟩)⟩⟩)⟩⟩⟩)⟩⟩), fun h => (have qc28 : (fFoes G (zI M2 65 8) (fNamed G B n ((eGo B n (eTold B n G (eGo B n e))).2.2) (tkE B n (eGo B n (eTold B n G (eGo B n e))).2.2))) = true := b2i_n0 h; ⟨⟨⟨rfl, rfl⟩, hL2.wP.rcv⟩, ⟨B, n, (eGo B n (eTold B n G (eGo B n e))), 3, rfl, hL2, hI2, hP2, (by omega), fun M8 hf8 hP8 => (have hL8 := hL2.fr hf8; have hI8 := hI2.f5 hL2 hf8; have hz8 := hz2.tr hf8.d5; have hn8 : ((eErr 3 (eGo B n (eTold B n G (eGo B n e))))).1 ≠ 0 := eErr_n (by decide); have hT8 := hT2.fr9 hL2.draft hf8 hG (fun j j0 j1 => by unfold S65; omega); fun (qg29 : zrg (0)) qm30 => ⟨(Or.inl rfl), (show K (some (zi 0)) M8 from ?g432l4)⟩)⟩⟩)⟩⟩⟩⟩⟩⟩⟩⟩)⟩)⟩⟩⟩), fun h => (have qc31 : (eName B n (eGo B n (eTold B n G (eGo B n e)))).1 ≠ 0 := of_decide_eq_false (b2i_e0 h); ⟨⟨⟨rfl, rfl⟩, hL2.wP.rcv⟩, ⟨B, n, (eGo B n (eTold B n G (eGo B n e))), 1, rfl, hL2, hI2, hP2, (by omega), fun M9 hf9 hP9 => (have hL9 := hL2.fr hf9; have hI9 := hI2.f5 hL2 hf9; have hz9 := hz2.tr hf9.d5; have hn9 : ((eErr 1 (eGo B n (eTold B n G (eGo B n e))))).1 ≠ 0 := eErr_n (by decide); have hT9 := hT2.fr9 hL2.draft hf9 hG (fun j j0 j1 => by unfold S65; omega); fun (qg32 : zrg (0)) qm33 => ⟨(Or.inl rfl), (show K (some (zi 0)) M9 from ?g432l5)⟩)⟩⟩)⟩⟩⟩⟩), fun h => (have qc34 : (eGo B n (eTold B n G (eGo B n e))).1 ≠ 0 := of_decide_eq_false (b2i_e0 h); ⟨(Or.inl rfl), (show K (some (zi 0)) M2 from ?g432l6)⟩)⟩)⟩⟩)⟩⟩
  case g432l1 =>
    first
    | (exfalso; omega)
    | skip
      have hok2 := hP2.2.2
      have hnm : (eName B n (eGo B n (eTold B n G (eGo B n e)))).1 = 0 := by omega
      have hE1 : ((eGo B n (eTold B n G (eGo B n e)))).1 = 0 := by omega
      have hfw := fNamed_w (G := G) hok2 hnm
      have hen := (eName_v hnm).2.2.2.2
      have htw : toldW B n G (eGo B n (eTold B n G (eGo B n e))) = fWith G (eNm B n (eGo B n (eTold B n G (eGo B n e)))) := by unfold toldW; rw [if_pos hnm]
      have ha9 := ha2 (by omega)
      have hba : ba B n G e = vTold B n G (eGo B n e) := rfl
      have hvr := vTold_r (B := B) (n := n) (e := eGo B n e) hw5
      by_cases hm1 : fWith G (eNm B n (eGo B n (eTold B n G (eGo B n e)))) = -1
      · have h3 : b2 B n G e = eErr 3 (eGo B n (eTold B n G (eGo B n e))) := by
          unfold b2 b1
          unfold eTold
          have h1 : toldW B n G (eGo B n (eTold B n G (eGo B n e))) = -1 := by rw [htw]; exact hm1
          unfold eTold at h1 hen
          rw [if_pos h1, hen]
        have e9 : eSemi B n (ePB B n G e) = (eErr 3 (eGo B n (eTold B n G (eGo B n e)))) := by
          have hb9 : ((eErr 3 (eGo B n (eTold B n G (eGo B n e))))).1 ≠ 0 := by omega
          unfold ePB
          rw [h3, if_neg (fun z => hb9 z.1), eGo_b hb9, eSemi_b hb9]
        rw [e9] at hK
        have h8 := hK _ hz3 hP3 (fun q => absurd q (by omega))
        rw [decide_eq_false (show ¬ ((eErr 3 (eGo B n (eTold B n G (eGo B n e))))).1 = 0 by omega)] at h8
        exact h8
      · have h3 : b2 B n G e = (eGo B n (eTold B n G (eGo B n e))) := by
          unfold b2 b1
          unfold eTold
          have h1 : ¬ toldW B n G (eGo B n (eTold B n G (eGo B n e))) = -1 := by rw [htw]; exact hm1
          unfold eTold at h1 hen
          rw [if_neg h1, hen]
        have hbb : bb B n G e = fWith G (eNm B n (eGo B n (eTold B n G (eGo B n e)))) := by
          unfold bb b1 vTold
          have h1 : eTold B n G (eGo B n (eTold B n G (eGo B n e))) = (eGo B n (eTold B n G (eGo B n e))) := h3
          rw [h1, if_pos hE1, htw]
        have e9 : eSemi B n (ePB B n G e) = (eErr 3 (eGo B n (eTold B n G (eGo B n e)))) := by
          have hb9 : ((eErr 3 (eGo B n (eTold B n G (eGo B n e))))).1 ≠ 0 := by omega
          unfold ePB
          rw [h3, if_pos ⟨hE1, by rw [hba, hbb]; first | exact Or.inl (by omega) | (refine Or.inr ?_; rw [← ha9, ← hfw]; assumption)⟩, eGo_b hb9, eSemi_b hb9]
        rw [e9] at hK
        have h8 := hK _ hz3 hP3 (fun q => absurd q (by omega))
        rw [decide_eq_false (show ¬ ((eErr 3 (eGo B n (eTold B n G (eGo B n e))))).1 = 0 by omega)] at h8
        exact h8
  case g432l2 =>
    first
    | (exfalso; omega)
    | skip
      have hok2 := hP2.2.2
      have hnm : (eName B n (eGo B n (eTold B n G (eGo B n e)))).1 = 0 := by omega
      have hE1 : ((eGo B n (eTold B n G (eGo B n e)))).1 = 0 := by omega
      have hfw := fNamed_w (G := G) hok2 hnm
      have hen := (eName_v hnm).2.2.2.2
      have htw : toldW B n G (eGo B n (eTold B n G (eGo B n e))) = fWith G (eNm B n (eGo B n (eTold B n G (eGo B n e)))) := by unfold toldW; rw [if_pos hnm]
      have ha9 := ha2 (by omega)
      have hba : ba B n G e = vTold B n G (eGo B n e) := rfl
      have hvr := vTold_r (B := B) (n := n) (e := eGo B n e) hw5
      by_cases hm1 : fWith G (eNm B n (eGo B n (eTold B n G (eGo B n e)))) = -1
      · have h3 : b2 B n G e = eErr 3 (eGo B n (eTold B n G (eGo B n e))) := by
          unfold b2 b1
          unfold eTold
          have h1 : toldW B n G (eGo B n (eTold B n G (eGo B n e))) = -1 := by rw [htw]; exact hm1
          unfold eTold at h1 hen
          rw [if_pos h1, hen]
        have e9 : eSemi B n (ePB B n G e) = (eErr 3 (eGo B n (eTold B n G (eGo B n e)))) := by
          have hb9 : ((eErr 3 (eGo B n (eTold B n G (eGo B n e))))).1 ≠ 0 := by omega
          unfold ePB
          rw [h3, if_neg (fun z => hb9 z.1), eGo_b hb9, eSemi_b hb9]
        rw [e9] at hK
        have h8 := hK _ hz4 hP4 (fun q => absurd q (by omega))
        rw [decide_eq_false (show ¬ ((eErr 3 (eGo B n (eTold B n G (eGo B n e))))).1 = 0 by omega)] at h8
        exact h8
      · have h3 : b2 B n G e = (eGo B n (eTold B n G (eGo B n e))) := by
          unfold b2 b1
          unfold eTold
          have h1 : ¬ toldW B n G (eGo B n (eTold B n G (eGo B n e))) = -1 := by rw [htw]; exact hm1
          unfold eTold at h1 hen
          rw [if_neg h1, hen]
        have hbb : bb B n G e = fWith G (eNm B n (eGo B n (eTold B n G (eGo B n e)))) := by
          unfold bb b1 vTold
          have h1 : eTold B n G (eGo B n (eTold B n G (eGo B n e))) = (eGo B n (eTold B n G (eGo B n e))) := h3
          rw [h1, if_pos hE1, htw]
        have e9 : eSemi B n (ePB B n G e) = (eErr 3 (eGo B n (eTold B n G (eGo B n e)))) := by
          have hb9 : ((eErr 3 (eGo B n (eTold B n G (eGo B n e))))).1 ≠ 0 := by omega
          unfold ePB
          rw [h3, if_pos ⟨hE1, by rw [hba, hbb]; first | exact Or.inl (by omega) | (refine Or.inr ?_; rw [← ha9, ← hfw]; assumption)⟩, eGo_b hb9, eSemi_b hb9]
        rw [e9] at hK
        have h8 := hK _ hz4 hP4 (fun q => absurd q (by omega))
        rw [decide_eq_false (show ¬ ((eErr 3 (eGo B n (eTold B n G (eGo B n e))))).1 = 0 by omega)] at h8
        exact h8
  case g432l3 =>
    first
    | (exfalso; omega)
    | skip
      have hok2 := hP2.2.2
      have hnm : (eName B n (eGo B n (eTold B n G (eGo B n e)))).1 = 0 := by omega
      have hE1 : ((eGo B n (eTold B n G (eGo B n e)))).1 = 0 := by omega
      have hfw := fNamed_w (G := G) hok2 hnm
      have hen := (eName_v hnm).2.2.2.2
      have htw : toldW B n G (eGo B n (eTold B n G (eGo B n e))) = fWith G (eNm B n (eGo B n (eTold B n G (eGo B n e)))) := by unfold toldW; rw [if_pos hnm]
      have ha9 := ha2 (by omega)
      have hba : ba B n G e = vTold B n G (eGo B n e) := rfl
      have hvr := vTold_r (B := B) (n := n) (e := eGo B n e) hw5
      have hm1 : ¬ fWith G (eNm B n (eGo B n (eTold B n G (eGo B n e)))) = -1 := by omega
      have h3 : b2 B n G e = (eGo B n (eTold B n G (eGo B n e))) := by
        unfold b2 b1
        unfold eTold
        have h1 : ¬ toldW B n G (eGo B n (eTold B n G (eGo B n e))) = -1 := by rw [htw]; exact hm1
        unfold eTold at h1 hen
        rw [if_neg h1, hen]
      have hbb : bb B n G e = fWith G (eNm B n (eGo B n (eTold B n G (eGo B n e)))) := by
        unfold bb b1 vTold
        have h1 : eTold B n G (eGo B n (eTold B n G (eGo B n e))) = (eGo B n (eTold B n G (eGo B n e))) := h3
        rw [h1, if_pos hE1, htw]
      have hfo : fFoes G (ba B n G e) (bb B n G e) = false := by rw [hba, hbb, ← ha9, ← hfw]; assumption
      have hne : ba B n G e ≠ bb B n G e := by rw [hba, hbb]; omega
      have e8 : ePB B n G e = eGo B n (eGo B n (eTold B n G (eGo B n e))) := by
        unfold ePB
        rw [h3, if_neg (fun z => by rcases z.2 with y | y; exact hne y; rw [hfo] at y; exact Bool.false_ne_true y)]
      have h7 := hP7
      rw [← e8] at h7
      have h8 := hK _ hz7 h7 (fun q => by
        have hpr := eSemi_i q
        unfold gPB
        rw [if_pos hpr, hba, hbb, ← ha9, ← hfw]
        have hb8 : 0 ≤ fNamed G B n ((eGo B n (eTold B n G (eGo B n e)))).2.2 (tkE B n ((eGo B n (eTold B n G (eGo B n e)))).2.2) ∧ fNamed G B n ((eGo B n (eTold B n G (eGo B n e)))).2.2 (tkE B n ((eGo B n (eTold B n G (eGo B n e)))).2.2) < 6 := by
          rw [hfw]
          rcases fWith_r G (eNm B n (eGo B n (eTold B n G (eGo B n e)))) hw5.1 with y | y
          · exact absurd y hm1
          · omega
        have hTT := hT6
        have hFB : F_bar G (zI M2 65 8) (fNamed G B n ((eGo B n (eTold B n G (eGo B n e)))).2.2 (tkE B n ((eGo B n (eTold B n G (eGo B n e)))).2.2)) 1 = gU (gU G (60 + 6 * zI M2 65 8 + fNamed G B n ((eGo B n (eTold B n G (eGo B n e)))).2.2 (tkE B n ((eGo B n (eTold B n G (eGo B n e)))).2.2)) 1) (60 + 6 * fNamed G B n ((eGo B n (eTold B n G (eGo B n e)))).2.2 (tkE B n ((eGo B n (eTold B n G (eGo B n e)))).2.2) + zI M2 65 8) 1 := by
          unfold F_bar
          rw [if_pos (by decide)]
          rw [gU_z (i := 96 + 6 * zI M2 65 8 + fNamed G B n ((eGo B n (eTold B n G (eGo B n e)))).2.2 (tkE B n ((eGo B n (eTold B n G (eGo B n e)))).2.2)) (by rw [gU_n _ (by omega), gU_n _ (by omega)]; exact hDI.2.2 _ _ (by omega) (by omega) hb8.1 hb8.2)]
          rw [gU_z (by rw [gU_n _ (by omega), gU_n _ (by omega)]; exact hDI.2.2 _ _ hb8.1 hb8.2 (by omega) (by omega))]
        rw [hFB] at hTT
        have hgi : GI (gU (gU G (60 + 6 * zI M2 65 8 + fNamed G B n ((eGo B n (eTold B n G (eGo B n e)))).2.2 (tkE B n ((eGo B n (eTold B n G (eGo B n e)))).2.2)) 1) (60 + 6 * fNamed G B n ((eGo B n (eTold B n G (eGo B n e)))).2.2 (tkE B n ((eGo B n (eTold B n G (eGo B n e)))).2.2) + zI M2 65 8) 1) := (hDI.bar (by omega) hb8 (by omega)).1.gi
        exact hTT.fr9 hL6.draft hf7 hgi (fun j j0 j1 => by unfold S65; omega))
      rw [e8] at h8
      exact h8
  case g432l4 =>
    first
    | (exfalso; omega)
    | skip
      have hok2 := hP2.2.2
      have hnm : (eName B n (eGo B n (eTold B n G (eGo B n e)))).1 = 0 := by omega
      have hE1 : ((eGo B n (eTold B n G (eGo B n e)))).1 = 0 := by omega
      have hfw := fNamed_w (G := G) hok2 hnm
      have hen := (eName_v hnm).2.2.2.2
      have htw : toldW B n G (eGo B n (eTold B n G (eGo B n e))) = fWith G (eNm B n (eGo B n (eTold B n G (eGo B n e)))) := by unfold toldW; rw [if_pos hnm]
      have ha9 := ha2 (by omega)
      have hba : ba B n G e = vTold B n G (eGo B n e) := rfl
      have hvr := vTold_r (B := B) (n := n) (e := eGo B n e) hw5
      by_cases hm1 : fWith G (eNm B n (eGo B n (eTold B n G (eGo B n e)))) = -1
      · have h3 : b2 B n G e = eErr 3 (eGo B n (eTold B n G (eGo B n e))) := by
          unfold b2 b1
          unfold eTold
          have h1 : toldW B n G (eGo B n (eTold B n G (eGo B n e))) = -1 := by rw [htw]; exact hm1
          unfold eTold at h1 hen
          rw [if_pos h1, hen]
        have e9 : eSemi B n (ePB B n G e) = (eErr 3 (eGo B n (eTold B n G (eGo B n e)))) := by
          have hb9 : ((eErr 3 (eGo B n (eTold B n G (eGo B n e))))).1 ≠ 0 := by omega
          unfold ePB
          rw [h3, if_neg (fun z => hb9 z.1), eGo_b hb9, eSemi_b hb9]
        rw [e9] at hK
        have h8 := hK _ hz8 hP8 (fun q => absurd q (by omega))
        rw [decide_eq_false (show ¬ ((eErr 3 (eGo B n (eTold B n G (eGo B n e))))).1 = 0 by omega)] at h8
        exact h8
      · have h3 : b2 B n G e = (eGo B n (eTold B n G (eGo B n e))) := by
          unfold b2 b1
          unfold eTold
          have h1 : ¬ toldW B n G (eGo B n (eTold B n G (eGo B n e))) = -1 := by rw [htw]; exact hm1
          unfold eTold at h1 hen
          rw [if_neg h1, hen]
        have hbb : bb B n G e = fWith G (eNm B n (eGo B n (eTold B n G (eGo B n e)))) := by
          unfold bb b1 vTold
          have h1 : eTold B n G (eGo B n (eTold B n G (eGo B n e))) = (eGo B n (eTold B n G (eGo B n e))) := h3
          rw [h1, if_pos hE1, htw]
        have e9 : eSemi B n (ePB B n G e) = (eErr 3 (eGo B n (eTold B n G (eGo B n e)))) := by
          have hb9 : ((eErr 3 (eGo B n (eTold B n G (eGo B n e))))).1 ≠ 0 := by omega
          unfold ePB
          rw [h3, if_pos ⟨hE1, by rw [hba, hbb]; first | exact Or.inl (by omega) | (refine Or.inr ?_; rw [← ha9, ← hfw]; assumption)⟩, eGo_b hb9, eSemi_b hb9]
        rw [e9] at hK
        have h8 := hK _ hz8 hP8 (fun q => absurd q (by omega))
        rw [decide_eq_false (show ¬ ((eErr 3 (eGo B n (eTold B n G (eGo B n e))))).1 = 0 by omega)] at h8
        exact h8
  case g432l5 =>
    first
    | (exfalso; omega)
    | skip
      have hnm : ¬ (eName B n (eGo B n (eTold B n G (eGo B n e)))).1 = 0 := by omega
      have hE1 : ((eGo B n (eTold B n G (eGo B n e)))).1 = 0 := by omega
      have h2 : eName B n (eGo B n (eTold B n G (eGo B n e))) = eErr 1 (eGo B n (eTold B n G (eGo B n e))) := by
        by_cases z : ((eGo B n (eTold B n G (eGo B n e)))).1 = 0 ∧ (tkK B n ((eGo B n (eTold B n G (eGo B n e)))).2.2 ≠ 0 ∨ 6 < tkE B n ((eGo B n (eTold B n G (eGo B n e)))).2.2 - ((eGo B n (eTold B n G (eGo B n e)))).2.2 ∨ isKey B n (eGo B n (eTold B n G (eGo B n e))) = true)
        · exact if_pos z
        · exact absurd (show (eName B n (eGo B n (eTold B n G (eGo B n e)))).1 = 0 by rw [show eName B n (eGo B n (eTold B n G (eGo B n e))) = (eGo B n (eTold B n G (eGo B n e))) from if_neg z]; exact hE1) hnm
      have h3 : b2 B n G e = eErr 1 (eGo B n (eTold B n G (eGo B n e))) := by
        unfold b2 b1 eTold
        have h1 : toldW B n G (eGo B n (eTold B n G (eGo B n e))) = -1 := by unfold toldW; rw [if_neg hnm]
        unfold eTold at h1
        rw [if_pos h1]
        unfold eTold at h2
        rw [h2]
        exact eErr_b (eErr_n (by decide))
      have e9 : eSemi B n (ePB B n G e) = (eErr 1 (eGo B n (eTold B n G (eGo B n e)))) := by
        have hb9 : ((eErr 1 (eGo B n (eTold B n G (eGo B n e))))).1 ≠ 0 := by omega
        unfold ePB
        rw [h3, if_neg (fun z => hb9 z.1), eGo_b hb9, eSemi_b hb9]
      rw [e9] at hK
      have h8 := hK _ hz9 hP9 (fun q => absurd q (by omega))
      rw [decide_eq_false (show ¬ ((eErr 1 (eGo B n (eTold B n G (eGo B n e))))).1 = 0 by omega)] at h8
      exact h8
  case g432l6 =>
    first
    | (exfalso; omega)
    | skip
      have e9 : eSemi B n (ePB B n G e) = (eGo B n (eTold B n G (eGo B n e))) := by
        have hb9 : ((eGo B n (eTold B n G (eGo B n e)))).1 ≠ 0 := by omega
        have hc9 : (eTold B n G (eGo B n e)).1 ≠ 0 := fun z => hb9 (eGo_0 z)
        unfold ePB b2 b1
        rw [eGo_b hc9, eTold_b hc9, if_neg (fun z => hc9 z.1), eGo_b hc9, eSemi_b hc9]
      rw [e9] at hK
      have h8 := hK _ hz2 hP2 (fun q => absurd q (by omega))
      rw [decide_eq_false (show ¬ ((eGo B n (eTold B n G (eGo B n e)))).1 = 0 by omega)] at h8
      exact h8
theorem M_X3_readBarStatement {l : Launch} (hl : l.stackTraces = false) : zMet l yX3_readBarStatement (Cond.code yX3_readBarStatement cX3_readBarStatement 3 (Option.some Jvm.ClassFile.FieldType.boolean) :: zG) rm_X3_readBarStatement 0 0 T_X3_readBarStatement := met_X3_readBarStatement hl (M_X3_nextToken hl) (M_X3_readKnownName hl) (M_X3_isAtName hl) (M_X3_fail hl) (M_X5_workerNamed hl) (M_X5_areKeptApart hl) (M_X5_tellApart hl) (M_X3_readSemicolon hl) bd_X3_readBarStatement
