def S5d (j : Nat) : Prop := j = 65 ∨ (70 ≤ j ∧ j < 129)
theorem Fr.d5 {M M' : ZM} (h : Fr S65 M M') : Fr S5d M M' := h.mono (fun j z => Or.inl z)
theorem Fr.t5 {M M' : ZM} (h : Fr (STb 70) M M') : Fr S5d M M' := h.mono (fun j z => by unfold STb at z; unfold S5d; omega)
theorem Fr.n5 {M M' : ZM} (h : Fr Sno M M') : Fr S5d M M' := h.mono (fun j z => absurd z (fun y => y))
/-- statements that cut names out -/
def S5e (j : Nat) : Prop := j = 65 ∨ (68 ≤ j ∧ j < 129)
theorem Fr.d5e {M M' : ZM} (h : Fr S65 M M') : Fr S5e M M' := h.mono (fun j z => Or.inl z)
theorem Fr.t5e {M M' : ZM} (h : Fr (STb 70) M M') : Fr S5e M M' := h.mono (fun j z => by unfold STb at z; unfold S5e; omega)
theorem Fr.b5e {M M' : ZM} (h : Fr Stb M M') : Fr S5e M M' := h.mono (fun j z => by unfold Stb at z; unfold S5e; omega)
theorem Fr.e5 {M M' : ZM} (h : Fr S5d M M') : Fr S5e M M' := h.mono (fun j z => by unfold S5d at z; unfold S5e; omega)
theorem PE.val {M : ZM} {B : Gm} {n lo hi : Int} {e : E3} (h : PE M B n (eLook B n lo hi e)) (h0 : (eLook B n lo hi e).1 = 0) (hh : hi ≤ 900) : zI M 65 7 = tkV B e.2.2 (tkE B n e.2.2) ∧ (lo ≤ tkV B e.2.2 (tkE B n e.2.2) ∧ tkV B e.2.2 (tkE B n e.2.2) ≤ hi) := by
  obtain ⟨a1, a2, a3, a4⟩ := eLook_v h0
  rw [a4] at h
  have h9 := h.1.2.2.2 a2
  unfold VRc at h9
  omega
theorem gU_z {G : Gm} {i : Int} (h : G i.toNat = 0) : gU G i 0 = G := funext (fun y => by
  rw [gU_if]
  split
  · next q => rw [q, h]
  · rfl)
def T_X3_readKnownName : ZTf := fun av M K KX => ∃ (B : Gm) (n : Int) (G : Gm) (e : E3), av = [zo 65] ∧ (LV M) ∧ (CIn M B n) ∧ (PE M B n e) ∧ (e.1 = 0) ∧ (KC M) ∧ (TR M 70 G) ∧ (0 ≤ G 4 ∧ G 4 ≤ 6) ∧  (∀ M' : ZM, (Fr S65 M M') → (PE M' B n (eGo B n (eTold B n G e))) → ((eGo B n (eTold B n G e)).1 = 0 → zI M' 65 8 = vTold B n G e) → K (some (zi (b2i (decide ((eGo B n (eTold B n G e)).1 = 0))))) M')
set_option maxRecDepth 100000 in
set_option maxHeartbeats 1500000 in
theorem bd_X3_readKnownName : zBd (cd_X3_readKnownName T_X3_isAtName T_X3_fail T_X5_workerNamed T_X3_nextToken) 1 0 0 T_X3_readKnownName := by
  rintro av M K KX hA0 hM ⟨B, n, G, e, rfl, hL, hI, hP, h0, kc, hT, hw4, hK⟩
  have hz : Fr S65 M M := Fr.rf
  have hok := hP.2.2
  have hkr := tkK_r B n e.2.2
  have her := tkE_r B hok.2
  unfold eOK at hok
  have hn5 := hI.2.1
  have hnm := fun q : (eName B n e).1 = 0 => (eName_v q).2.2.1
  refine ⟨rfl, fun Φ hΦ => ?_⟩
  refine zGoR hΦ [] 400 (fun hL9 _ hM _ _ => ?_)
  obtain ⟨_⟩ : True := hL9
  refine ⟨⟨⟨rfl, rfl⟩, hL.wP.rcv⟩, ⟨B, n, e, rfl, hL, hI, hP, (by omega), (kc.fr hz), fun (qg1 : zrg (b2i (decide ((eName B n e).1 = 0)))) qm2 => ⟨fun h => (have qc3 : (eName B n e).1 = 0 := of_decide_eq_true (b2i_n0 h); ⟨hL.wP, _, hL.p3, ⟨hL.wP, _, hL.p2, ⟨hL.wP, zIr (hP.1.2.1) (⟨hL.wP, zIr (hP.1.2.2.1) (⟨⟨⟨rfl, rfl⟩, hL.draft.w.rcv⟩, ⟨70, G, B, n, e.2.2, (tkE B n e.2.2), rfl, hL.draft, hT, hw4, hL, hI, (by omega), fun (qg4 : zrg (fNamed G B n e.2.2 (tkE B n e.2.2))) qm5 => ⟨⟨hL.wP, trivial⟩, ⟨hL.wP, zIr ((zIs _ _ _ _)) (⟨fun (qc6 : fNamed G B n e.2.2 (tkE B n e.2.2) ≠ (-1)) => ⟨⟨⟨rfl, rfl⟩, hL.wP.rcv⟩, ⟨B, n, (tkE B n e.2.2), rfl, hL, hI.p, (PE.acc (v := fNamed G B n e.2.2 (tkE B n e.2.2)) hP).1.2.2.1, (by have h9 := hP.2.2; have h8 := tkE_r B h9.2; unfold eOK at h9; omega), fun M1 hf1 h01 hk1 => (have hf1a := (Fr5 (M := M) (f := 8) (v := fNamed G B n e.2.2 (tkE B n e.2.2)) hL).tr hf1; have hL1 := hL.fr hf1a; have hI1 := hI.f5 hL hf1a; have hz1 := hz.tr hf1a; have hP1 := PE.go (PE.acc (v := fNamed G B n e.2.2 (tkE B n e.2.2)) hP) (by omega) h01 hk1; have hv81 := (h01 8 (by omega)).trans (zI_Is _ _ _ _); have hj1 : ((eGo B n e)).1 = 0 → (e).1 = 0 := fun q => eGo_i q; have hg1 : ((eGo B n e)).1 = 0 := eGo_0 (by omega); fun qg7 qm8 => ⟨(Or.inr rfl), (show K (some (zi 1)) M1 from ?g430l1)⟩)⟩⟩, fun (qc9 : fNamed G B n e.2.2 (tkE B n e.2.2) = (-1)) => ⟨⟨⟨rfl, rfl⟩, hL.wP.rcv⟩, ⟨B, n, e, 3, rfl, hL, hI.p, (PE.acc (v := fNamed G B n e.2.2 (tkE B n e.2.2)) hP), (by omega), fun M2 hf2 hP2 => (have hf2a := (Fr5 (M := M) (f := 8) (v := fNamed G B n e.2.2 (tkE B n e.2.2)) hL).tr hf2; have hL2 := hL.fr hf2a; have hI2 := hI.f5 hL hf2a; have hz2 := hz.tr hf2a; have hn2 : ((eErr 3 e)).1 ≠ 0 := eErr_n (by decide); fun (qg10 : zrg (0)) qm11 => ⟨(Or.inl rfl), (show K (some (zi 0)) M2 from ?g430l2)⟩)⟩⟩⟩)⟩⟩⟩⟩)⟩)⟩⟩⟩), fun h => (have qc12 : (eName B n e).1 ≠ 0 := of_decide_eq_false (b2i_e0 h); ⟨⟨⟨rfl, rfl⟩, hL.wP.rcv⟩, ⟨B, n, e, 1, rfl, hL, hI, hP, (by omega), fun M3 hf3 hP3 => (have hL3 := hL.fr hf3; have hI3 := hI.f5 hL hf3; have hz3 := hz.tr hf3; have hn3 : ((eErr 1 e)).1 ≠ 0 := eErr_n (by decide); fun (qg13 : zrg (0)) qm14 => ⟨(Or.inl rfl), (show K (some (zi 0)) M3 from ?g430l3)⟩)⟩⟩)⟩⟩⟩
  case g430l1 =>
    have hnm : (eName B n e).1 = 0 := by omega
    have hfw := fNamed_w (G := G) hP.2.2 hnm
    have hen := (eName_v hnm).2.2.2.2
    have htw : toldW B n G e = fWith G (eNm B n e) := by unfold toldW; rw [if_pos hnm]
    first
    | (have h9 : eTold B n G e = eErr 3 e := by
         unfold eTold
         rw [htw, if_pos (by omega), hen]
       rw [h9, eGo_b (eErr_n (by decide))] at hK
       have h8 := hK _ hz1 hP1 (fun q => absurd q (eErr_n (by decide)))
       rw [decide_eq_false (eErr_n (by decide))] at h8
       exact h8)
    | (have h9 : eTold B n G e = e := by
         unfold eTold
         rw [htw, if_neg (by omega), hen]
       have hvt : vTold B n G e = fWith G (eNm B n e) := by
         unfold vTold
         rw [h9, if_pos h0, htw]
       rw [h9] at hK
       have h8 := hK _ hz1 hP1 (fun q => by rw [hv81, hvt, hfw])
       rw [decide_eq_true (eGo_0 h0)] at h8
       exact h8)
  case g430l2 =>
    have hnm : (eName B n e).1 = 0 := by omega
    have hfw := fNamed_w (G := G) hP.2.2 hnm
    have hen := (eName_v hnm).2.2.2.2
    have htw : toldW B n G e = fWith G (eNm B n e) := by unfold toldW; rw [if_pos hnm]
    first
    | (have h9 : eTold B n G e = eErr 3 e := by
         unfold eTold
         rw [htw, if_pos (by omega), hen]
       rw [h9, eGo_b (eErr_n (by decide))] at hK
       have h8 := hK _ hz2 hP2 (fun q => absurd q (eErr_n (by decide)))
       rw [decide_eq_false (eErr_n (by decide))] at h8
       exact h8)
    | (have h9 : eTold B n G e = e := by
         unfold eTold
         rw [htw, if_neg (by omega), hen]
       have hvt : vTold B n G e = fWith G (eNm B n e) := by
         unfold vTold
         rw [h9, if_pos h0, htw]
       rw [h9] at hK
       have h8 := hK _ hz2 hP2 (fun q => by rw [hv82, hvt, hfw])
       rw [decide_eq_true (eGo_0 h0)] at h8
       exact h8)
  case g430l3 =>
    have h9 : eTold B n G e = eErr 1 e := by
      have h1 : toldW B n G e = -1 := by unfold toldW; rw [if_neg (by omega)]
      have h2 : eName B n e = eErr 1 e := by
        by_cases z : e.1 = 0 ∧ (tkK B n e.2.2 ≠ 0 ∨ 6 < tkE B n e.2.2 - e.2.2 ∨ isKey B n e = true)
        · exact if_pos z
        · have h3 : eName B n e = e := if_neg z
          have h4 : (eName B n e).1 ≠ 0 := by omega
          rw [h3] at h4
          exact absurd h0 h4
      unfold eTold
      rw [if_pos h1, h2, eErr_b (eErr_n (by decide))]
    rw [h9, eGo_b (eErr_n (by decide))] at hK
    have h8 := hK _ hz3 hP3 (fun q => absurd q (eErr_n (by decide)))
    rw [decide_eq_false (eErr_n (by decide))] at h8
    exact h8
theorem M_X3_readKnownName {l : Launch} (hl : l.stackTraces = false) : zMet l yX3_readKnownName (Cond.code yX3_readKnownName cX3_readKnownName 1 (Option.some Jvm.ClassFile.FieldType.boolean) :: zG) rm_X3_readKnownName 0 0 T_X3_readKnownName := met_X3_readKnownName hl (M_X3_isAtName hl) (M_X3_fail hl) (M_X5_workerNamed hl) (M_X3_nextToken hl) bd_X3_readKnownName
def T_X3_readRowsStatement : ZTf := fun av M K KX => ∃ (B : Gm) (n : Int) (G : Gm) (e : E3), av = [zo 65] ∧ (LV M) ∧ (CIn M B n) ∧ (PE M B n e) ∧ (e.1 = 0) ∧ (KC M) ∧ (TR M 70 G) ∧ (DI G) ∧  (∀ M' : ZM, (Fr S5d M M') → (PE M' B n (eSemi B n (ePR B n G e))) → ((eSemi B n (ePR B n G e)).1 = 0 → TR M' 70 (gPR B n G e)) → K (some (zi (b2i (decide ((eSemi B n (ePR B n G e)).1 = 0))))) M')
set_option maxRecDepth 100000 in
set_option maxHeartbeats 1500000 in
theorem bd_X3_readRowsStatement : zBd (cd_X3_readRowsStatement T_X3_nextToken T_X3_isAtNumber T_X5_hasRoomFor T_X3_fail T_X3_readKeyword T_X3_readNumber T_X5_putRows T_X3_readSemicolon) 2 0 0 T_X3_readRowsStatement := by
  rintro av M K KX hA0 hM ⟨B, n, G, e, rfl, hL, hI, hP, h0, kc, hT, hDI, hK⟩
  have hz : Fr S5d M M := Fr.rf
  have hok := hP.2.2
  have hkr := tkK_r B n e.2.2
  have her := tkE_r B hok.2
  unfold eOK at hok
  have hn5 := hI.2.1
  have hG := hDI.1.gi
  obtain ⟨hw5, hr5, hR5⟩ := id hG
  have hw4 := hw5
  refine ⟨rfl, fun Φ hΦ => ?_⟩
  refine zGoR hΦ [] 400 (fun hL9 _ hM _ _ => ?_)
  obtain ⟨_⟩ : True := hL9
  refine ⟨⟨⟨rfl, rfl⟩, hL.wP.rcv⟩, ⟨B, n, (tkE B n e.2.2), rfl, hL, hI, hP.1.2.2.1, (by have h9 := hP.2.2; have h8 := tkE_r B h9.2; unfold eOK at h9; omega), fun M1 hf1 h01 hk1 => (have hL1 := hL.fr hf1; have hI1 := hI.f5 hL hf1; have hz1 := hz.tr hf1.d5; have hP1 := PE.go hP (by omega) h01 hk1; have hj1 : ((eGo B n e)).1 = 0 → (e).1 = 0 := fun q => eGo_i q; have hg1 : ((eGo B n e)).1 = 0 := eGo_0 (by omega); have hT1 := hT.fr9 hL.draft hf1 hG (fun j j0 j1 => by unfold S65; omega); fun qg1 qm2 => ⟨⟨⟨rfl, rfl⟩, hL1.wP.rcv⟩, ⟨B, n, (eGo B n e), 1, 24, rfl, hL1, hI1, hP1, (by omega), (by decide), fun M2 hf2 hP2 => (have hL2 := hL1.fr hf2; have hI2 := hI1.f5 hL1 hf2; have hz2 := hz1.tr hf2.d5; have hj2 : ((eLook B n 1 24 (eGo B n e))).1 = 0 → ((eGo B n e)).1 = 0 := fun q => eLook_i q; have hw2 : ((eLook B n 1 24 (eGo B n e))).1 = 0 → zI M2 65 7 = tkV B ((eGo B n e)).2.2 (tkE B n ((eGo B n e)).2.2) ∧ (1 ≤ tkV B ((eGo B n e)).2.2 (tkE B n ((eGo B n e)).2.2) ∧ tkV B ((eGo B n e)).2.2 (tkE B n ((eGo B n e)).2.2) ≤ 24) := fun q => PE.val hP2 q (by decide); have hT2 := hT1.fr9 hL1.draft hf2 hG (fun j j0 j1 => by unfold S65; omega); fun (qg3 : zrg (b2i (decide ((eLook B n 1 24 (eGo B n e)).1 = 0)))) qm4 => ⟨fun h => (have qc5 : (eLook B n 1 24 (eGo B n e)).1 = 0 := of_decide_eq_true (b2i_n0 h); ⟨hL2.wP, _, hL2.p3, ⟨hL2.wP, ⟨⟨⟨rfl, rfl⟩, hL2.draft.w.rcv⟩, ⟨rfl, ⟨hL2.draft.w, zIr (hT2.t5) (⟨(zrgI (x := 24 - (G 5)) (by omega)), ⟨fun (qc6 : zI M2 65 7 > 24 - (G 5)) => ⟨(Or.inl rfl), fun _ _ => ⟨fun (h : (0 : Int) ≠ 0) => absurd h (by decide), fun _ => ⟨⟨⟨rfl, rfl⟩, hL2.wP.rcv⟩, ⟨B, n, (eLook B n 1 24 (eGo B n e)), 4, rfl, hL2, hI2, hP2, (by omega), fun M3 hf3 hP3 => (have hL3 := hL2.fr hf3; have hI3 := hI2.f5 hL2 hf3; have hz3 := hz2.tr hf3.d5; have hn3 : ((eErr 4 (eLook B n 1 24 (eGo B n e)))).1 ≠ 0 := eErr_n (by decide); have hT3 := hT2.fr9 hL2.draft hf3 hG (fun j j0 j1 => by unfold S65; omega); fun (qg8 : zrg (0)) qm9 => ⟨(Or.inl rfl), (show K (some (zi 0)) M3 from ?g431l1)⟩)⟩⟩⟩⟩, fun (qc10 : zI M2 65 7 ≤ 24 - (G 5)) => ⟨(Or.inr rfl), fun _ _ => ⟨fun _ => ⟨hL2.wP, ⟨⟨⟨rfl, rfl⟩, hL2.wP.rcv⟩, ⟨B, n, (tkE B n (eLook B n 1 24 (eGo B n e)).2.2), rfl, hL2, hI2, hP2.1.2.2.1, (by have h9 := hP2.2.2; have h8 := tkE_r B h9.2; unfold eOK at h9; omega), fun M4 hf4 h04 hk4 => (have hL4 := hL2.fr hf4; have hI4 := hI2.f5 hL2 hf4; have hz4 := hz2.tr hf4.d5; have hP4 := PE.go hP2 (by omega) h04 hk4; have hj4 : ((eGo B n (eLook B n 1 24 (eGo B n e)))).1 = 0 → ((eLook B n 1 24 (eGo B n e))).1 = 0 := fun q => eGo_i q; have hg4 : ((eGo B n (eLook B n 1 24 (eGo B n e)))).1 = 0 := eGo_0 (by omega); have hT4 := hT2.fr9 hL2.draft hf4 hG (fun j j0 j1 => by unfold S65; omega); fun qg12 qm13 => ⟨⟨⟨rfl, rfl⟩, hL4.wP.rcv⟩, ⟨B, n, (eGo B n (eLook B n 1 24 (eGo B n e))), 9, rfl, hL4, hI4, hP4, (by omega), (kc.fr hz4), (by decide), fun M5 hf5 hP5 => (have hL5 := hL4.fr hf5; have hI5 := hI4.f5 hL4 hf5; have hz5 := hz4.tr hf5.d5; have hj5 : ((eKw B n (kwT 9) (eGo B n (eLook B n 1 24 (eGo B n e))))).1 = 0 → ((eGo B n (eLook B n 1 24 (eGo B n e)))).1 = 0 := fun q => eKw_i q; have hT5 := hT4.fr9 hL4.draft hf5 hG (fun j j0 j1 => by unfold S65; omega); fun (qg14 : zrg (b2i (decide ((eKw B n (kwT 9) (eGo B n (eLook B n 1 24 (eGo B n e)))).1 = 0)))) qm15 => ⟨fun h => (have qc16 : (eKw B n (kwT 9) (eGo B n (eLook B n 1 24 (eGo B n e)))).1 ≠ 0 := of_decide_eq_false (b2i_e0 h); ⟨(Or.inl rfl), (show K (some (zi 0)) M5 from ?g431l2)⟩), fun h => (have qc17 : (eKw B n (kwT 9) (eGo B n (eLook B n 1 24 (eGo B n e)))).1 = 0 := of_decide_eq_true (b2i_n0 h); ⟨⟨⟨rfl, rfl⟩, hL5.wP.rcv⟩, ⟨B, n, (eKw B n (kwT 9) (eGo B n (eLook B n 1 24 (eGo B n e)))), 1, 9, rfl, hL5, hI5, hP5, (by omega), (by decide), fun M6 hf6 hP6 ha6 => (have hL6 := hL5.fr hf6; have hI6 := hI5.f5 hL5 hf6; have hz6 := hz5.tr hf6.d5; have hj6 : ((eNum B n 1 9 (eKw B n (kwT 9) (eGo B n (eLook B n 1 24 (eGo B n e)))))).1 = 0 → ((eKw B n (kwT 9) (eGo B n (eLook B n 1 24 (eGo B n e))))).1 = 0 := fun q => eNum_i q; have hev6 := eVal_r (B := B) (n := n) (lo := 1) (hi := 9) (eKw B n (kwT 9) (eGo B n (eLook B n 1 24 (eGo B n e)))) (by decide); have hT6 := hT5.fr9 hL5.draft hf6 hG (fun j j0 j1 => by unfold S65; omega); fun (qg18 : zrg (b2i (decide ((eNum B n 1 9 (eKw B n (kwT 9) (eGo B n (eLook B n 1 24 (eGo B n e))))).1 = 0)))) qm19 => ⟨fun h => (have qc20 : (eNum B n 1 9 (eKw B n (kwT 9) (eGo B n (eLook B n 1 24 (eGo B n e))))).1 = 0 := of_decide_eq_true (b2i_n0 h); ⟨hL6.wP, _, hL6.p3, ⟨hL6.wP, ⟨⟨⟨rfl, rfl⟩, hL6.draft.w.rcv⟩, ⟨70, G, (zI M2 65 7), (zI M6 65 8), rfl, hL6.draft, hT6, hG, (by omega), fun M7 hf7 hT7 => (have hL7 := hL6.fr hf7; have hI7 := hI6.fr hL6 hf7 (by unfold STb; omega) (by unfold STb; omega); have hP7 := hP6.fr hL6 hf7 (by unfold STb; omega); have hz7 := hz6.tr hf7.t5; fun qg21 qm22 => ⟨⟨⟨rfl, rfl⟩, hL7.wP.rcv⟩, ⟨B, n, (eNum B n 1 9 (eKw B n (kwT 9) (eGo B n (eLook B n 1 24 (eGo B n e))))), rfl, hL7, hI7, hP7, (by omega), fun M8 hf8 hP8 => (have hL8 := hL7.fr hf8; have hI8 := hI7.f5 hL7 hf8; have hz8 := hz7.tr hf8.d5; have hj8 : ((eSemi B n (eNum B n 1 9 (eKw B n (kwT 9) (eGo B n (eLook B n 1 24 (eGo B n e))))))).1 = 0 → ((eNum B n 1 9 (eKw B n (kwT 9) (eGo B n (eLook B n 1 24 (eGo B n e)))))).1 = 0 := fun q => eSemi_i q; fun (qg23 : zrg (b2i (decide ((eSemi B n (eNum B n 1 9 (eKw B n (kwT 9) (eGo B n (eLook B n 1 24 (eGo B n e)))))).1 = 0)))) qm24 => ⟨(b2i_z _), (show K (some (zi (b2i (decide ((eSemi B n (eNum B n 1 9 (eKw B n (kwT 9) (eGo B n (eLook B n 1 24 (eGo B n e)))))).1 = 0))))) M8 from ?g431l3)⟩)⟩⟩)⟩⟩⟩⟩), fun h => (have qc25 : (eNum B n 1 9 (eKw B n (kwT 9) (eGo B n (eLook B n 1 24 (eGo B n e))))).1 ≠ 0 := of_decide_eq_false (b2i_e0 h); ⟨(Or.inl rfl), (show K (some (zi 0)) M6 from ?g431l4)⟩)⟩)⟩⟩)⟩)⟩⟩)⟩⟩⟩, fun (h : (1 : Int) = 0) => absurd h (by decide)⟩⟩⟩⟩)⟩⟩⟩⟩⟩), fun h => (have qc26 : (eLook B n 1 24 (eGo B n e)).1 ≠ 0 := of_decide_eq_false (b2i_e0 h); ⟨(Or.inl rfl), (show K (some (zi 0)) M2 from ?g431l5)⟩)⟩)⟩⟩)⟩⟩
  case g431l1 =>
    first
    | (exfalso; omega)
    | skip
      have e9 : eSemi B n (ePR B n G e) = (eErr 4 (eLook B n 1 24 (eGo B n e))) := by
        have hb9 : ((eErr 4 (eLook B n 1 24 (eGo B n e)))).1 ≠ 0 := by omega
        unfold ePR r3 r2 r1
        rw [if_pos (show ((eLook B n 1 24 (eGo B n e))).1 = 0 ∧ 24 < G 5 + tkV B (eGo B n e).2.2 (tkE B n (eGo B n e).2.2) by omega), eNum_b hb9, eKw_b hb9, eNum_b hb9, eSemi_b hb9]
      rw [e9] at hK
      have h8 := hK _ hz3 hP3 (fun q => absurd q (by omega))
      rw [decide_eq_false (show ¬ ((eErr 4 (eLook B n 1 24 (eGo B n e)))).1 = 0 by omega)] at h8
      exact h8
  case g431l2 =>
    first
    | (exfalso; omega)
    | skip
      have hx1 : ((eLook B n 1 24 (eGo B n e))).1 = 0 := by omega
      have hx3 := (eLook_v hx1).2.2.2
      have hx2 : eNum B n 1 24 (eLook B n 1 24 (eGo B n e)) = eGo B n (eLook B n 1 24 (eGo B n e)) := by
        unfold eNum
        rw [hx3, hx3]
      have e9 : eSemi B n (ePR B n G e) = (eKw B n (kwT 9) (eGo B n (eLook B n 1 24 (eGo B n e)))) := by
        have hb9 : ((eKw B n (kwT 9) (eGo B n (eLook B n 1 24 (eGo B n e))))).1 ≠ 0 := by omega
        unfold ePR r3 r2 r1
        rw [if_neg (show ¬ (((eLook B n 1 24 (eGo B n e))).1 = 0 ∧ 24 < G 5 + tkV B (eGo B n e).2.2 (tkE B n (eGo B n e).2.2)) by omega), hx2]
        first
        | rw [eSemi_b hb9]
        | rw [eNum_b hb9, eSemi_b hb9]
      rw [e9] at hK
      have h8 := hK _ hz5 hP5 (fun q => absurd q (by omega))
      rw [decide_eq_false (show ¬ ((eKw B n (kwT 9) (eGo B n (eLook B n 1 24 (eGo B n e))))).1 = 0 by omega)] at h8
      exact h8
  case g431l3 =>
    first
    | (exfalso; omega)
    | skip
      have hx1 : ((eLook B n 1 24 (eGo B n e))).1 = 0 := by omega
      have hx3 := (eLook_v hx1).2.2.2
      have hx2 : eNum B n 1 24 (eLook B n 1 24 (eGo B n e)) = eGo B n (eLook B n 1 24 (eGo B n e)) := by
        unfold eNum
        rw [hx3, hx3]
      have e8 : ePR B n G e = eNum B n 1 9 (eKw B n (kwT 9) (eGo B n (eLook B n 1 24 (eGo B n e)))) := by
        unfold ePR r3 r2 r1
        rw [if_neg (show ¬ (((eLook B n 1 24 (eGo B n e))).1 = 0 ∧ 24 < G 5 + tkV B (eGo B n e).2.2 (tkE B n (eGo B n e).2.2)) by omega), hx2]
      have e7 : r2 B n G e = (eLook B n 1 24 (eGo B n e)) := by
        unfold r2 r1
        rw [if_neg (show ¬ (((eLook B n 1 24 (eGo B n e))).1 = 0 ∧ 24 < G 5 + tkV B (eGo B n e).2.2 (tkE B n (eGo B n e).2.2)) by omega)]
      rw [← e8] at hP8
      have hmv : zI M2 65 7 = eVal B n 1 24 (r2 B n G e) := by
        rw [e7]
        unfold eVal
        rw [hx3, if_pos hx1]
        exact (hw2 hx1).1
      have h8 := hK _ hz8 hP8 (fun q => by
        have hpr := eSemi_i q
        unfold gPR
        rw [if_pos hpr]
        unfold r3
        rw [e7, hx2, ← e7, ← hmv, e7]
        have ha9 := ha6 (by omega)
        rw [ha9] at hT7
        exact hT7.fr9 hL7.draft hf8 (fRows_gi hG _ (by omega) (by omega) (by omega)) (fun j j0 j1 => by unfold S65; omega))
      rw [e8] at h8
      exact h8
  case g431l4 =>
    first
    | (exfalso; omega)
    | skip
      have hx1 : ((eLook B n 1 24 (eGo B n e))).1 = 0 := by omega
      have hx3 := (eLook_v hx1).2.2.2
      have hx2 : eNum B n 1 24 (eLook B n 1 24 (eGo B n e)) = eGo B n (eLook B n 1 24 (eGo B n e)) := by
        unfold eNum
        rw [hx3, hx3]
      have e9 : eSemi B n (ePR B n G e) = (eNum B n 1 9 (eKw B n (kwT 9) (eGo B n (eLook B n 1 24 (eGo B n e))))) := by
        have hb9 : ((eNum B n 1 9 (eKw B n (kwT 9) (eGo B n (eLook B n 1 24 (eGo B n e)))))).1 ≠ 0 := by omega
        unfold ePR r3 r2 r1
        rw [if_neg (show ¬ (((eLook B n 1 24 (eGo B n e))).1 = 0 ∧ 24 < G 5 + tkV B (eGo B n e).2.2 (tkE B n (eGo B n e).2.2)) by omega), hx2]
        first
        | rw [eSemi_b hb9]
        | rw [eNum_b hb9, eSemi_b hb9]
      rw [e9] at hK
      have h8 := hK _ hz6 hP6 (fun q => absurd q (by omega))
      rw [decide_eq_false (show ¬ ((eNum B n 1 9 (eKw B n (kwT 9) (eGo B n (eLook B n 1 24 (eGo B n e)))))).1 = 0 by omega)] at h8
      exact h8
  case g431l5 =>
    first
    | (exfalso; omega)
    | skip
      have e9 : eSemi B n (ePR B n G e) = (eLook B n 1 24 (eGo B n e)) := by
        have hb9 : ((eLook B n 1 24 (eGo B n e))).1 ≠ 0 := by omega
        unfold ePR r3 r2 r1
        rw [if_neg (show ¬ (((eLook B n 1 24 (eGo B n e))).1 = 0 ∧ 24 < G 5 + tkV B (eGo B n e).2.2 (tkE B n (eGo B n e).2.2)) by omega), eNum_b hb9, eKw_b hb9, eNum_b hb9, eSemi_b hb9]
      rw [e9] at hK
      have h8 := hK _ hz2 hP2 (fun q => absurd q (by omega))
      rw [decide_eq_false (show ¬ ((eLook B n 1 24 (eGo B n e))).1 = 0 by omega)] at h8
      exact h8
theorem M_X3_readRowsStatement {l : Launch} (hl : l.stackTraces = false) : zMet l yX3_readRowsStatement (Cond.code yX3_readRowsStatement cX3_readRowsStatement 2 (Option.some Jvm.ClassFile.FieldType.boolean) :: zG) rm_X3_readRowsStatement 0 0 T_X3_readRowsStatement := met_X3_readRowsStatement hl (M_X3_nextToken hl) (M_X3_isAtNumber hl) (M_X5_hasRoomFor hl) (M_X3_fail hl) (M_X3_readKeyword hl) (M_X3_readNumber hl) (M_X5_putRows hl) (M_X3_readSemicolon hl) bd_X3_readRowsStatement
