def T_X3_readStatement : ZTf := fun av M K KX => ∃ (B : Gm) (n : Int) (G : Gm) (e : E3), av = [zo 65] ∧ (LV M) ∧ (CIn M B n) ∧ (PE M B n e) ∧ (e.1 = 0) ∧ (KC M) ∧ (TR M 70 G) ∧ (DI G) ∧ (OX M) ∧  (∀ M' : ZM, (Fr S5e M M') → (PE M' B n (eST B n G e)) → (CIn M' B n) → ((eST B n G e).1 = 0 → TR M' 70 (gST B n G e)) → K (some (zi (b2i (decide ((eST B n G e).1 = 0))))) M')
set_option maxRecDepth 100000 in
set_option maxHeartbeats 1500000 in
theorem bd_X3_readStatement : zBd (cd_X3_readStatement T_X3_isAt T_X3_readWorkerStatement T_X3_readRowsStatement T_X3_readBarStatement T_X3_fail) 1 4 30 T_X3_readStatement := by
  rintro av M K KX hA0 hM ⟨B, n, G, e, rfl, hL, hI, hP, h0, kc, hT, hDI, hOX, hK⟩
  have hz : Fr S5e M M := Fr.rf
  have hok := hP.2.2
  have hkr := tkK_r B n e.2.2
  have her := tkE_r B hok.2
  unfold eOK at hok
  have hn5 := hI.2.1
  have hG := hDI.1.gi
  obtain ⟨hw5, hr5, hR5⟩ := id hG
  have hw4 := hw5
  refine ⟨rfl, fun Φ hΦ => ?_⟩
  refine zGoR hΦ [] 400 (fun hL9 _ hM _ _ => ?_)
  obtain ⟨_⟩ : True := hL9
  refine ⟨⟨⟨rfl, rfl⟩, hL.wP.rcv⟩, ⟨B, n, e, 4, rfl, hL, hI, hP, (by omega), (kc.fr hz), (by decide), fun (qg1 : zrg (b2i (eIs B n (kwT 4) e))) qm2 => ⟨fun h => (have qc3 : (eIs B n (kwT 4) e) = false := b2i_e0 h; ⟨⟨⟨rfl, rfl⟩, hL.wP.rcv⟩, ⟨B, n, e, 8, rfl, hL, hI, hP, (by omega), (kc.fr hz), (by decide), fun (qg4 : zrg (b2i (eIs B n (kwT 8) e))) qm5 => ⟨fun h => (have qc6 : (eIs B n (kwT 8) e) = false := b2i_e0 h; ⟨⟨⟨rfl, rfl⟩, hL.wP.rcv⟩, ⟨B, n, e, 10, rfl, hL, hI, hP, (by omega), (kc.fr hz), (by decide), fun (qg7 : zrg (b2i (eIs B n (kwT 10) e))) qm8 => ⟨fun h => (have qc9 : (eIs B n (kwT 10) e) = false := b2i_e0 h; ⟨⟨⟨rfl, rfl⟩, hL.wP.rcv⟩, ⟨B, n, e, 1, rfl, hL, hI, hP, (by omega), fun M1 hf1 hP1 => (have hL1 := hL.fr hf1; have hI1 := hI.f5 hL hf1; have hz1 := hz.tr hf1.d5e; have hn1 : ((eErr 1 e)).1 ≠ 0 := eErr_n (by decide); have hT1 := hT.fr9 hL.draft hf1 hG (fun j j0 j1 => by unfold S65; omega); fun (qg10 : zrg (0)) qm11 => ⟨(Or.inl rfl), (show K (some (zi 0)) M1 from ?g438l1)⟩)⟩⟩), fun h => (have qc12 : (eIs B n (kwT 10) e) = true := b2i_n0 h; ⟨⟨⟨rfl, rfl⟩, hL.wP.rcv⟩, ⟨B, n, G, e, rfl, hL, hI, hP, h0, kc, hT, hDI, fun M2 hf2 hP2 hT2 => (have hz2 := hz.tr hf2.e5; have hI2 := hI.fr hL hf2 (by unfold S5d; omega) (by unfold S5d; omega); fun (qg13 : zrg (b2i (decide ((eSemi B n (ePB B n G e)).1 = 0)))) qm14 => ⟨(b2i_z _), (show K (some (zi (b2i (decide ((eSemi B n (ePB B n G e)).1 = 0))))) M2 from ?g438l2)⟩)⟩⟩)⟩⟩⟩), fun h => (have qc15 : (eIs B n (kwT 8) e) = true := b2i_n0 h; ⟨⟨⟨rfl, rfl⟩, hL.wP.rcv⟩, ⟨B, n, G, e, rfl, hL, hI, hP, h0, kc, hT, hDI, fun M3 hf3 hP3 hT3 => (have hz3 := hz.tr hf3.e5; have hI3 := hI.fr hL hf3 (by unfold S5d; omega) (by unfold S5d; omega); fun (qg16 : zrg (b2i (decide ((eSemi B n (ePR B n G e)).1 = 0)))) qm17 => ⟨(b2i_z _), (show K (some (zi (b2i (decide ((eSemi B n (ePR B n G e)).1 = 0))))) M3 from ?g438l3)⟩)⟩⟩)⟩⟩⟩), fun h => (have qc18 : (eIs B n (kwT 4) e) = true := b2i_n0 h; ⟨⟨(by decide), (by decide)⟩, ⟨⟨rfl, rfl⟩, hL.wP.rcv⟩, ⟨B, n, G, e, rfl, hL, hI, hP, h0, kc, hT, hDI, hOX, fun M4 hf4 hP4 hI4 hT4 => (have hz4 := hz.tr hf4; fun (qg19 : zrg (b2i (decide ((eSemi B n (ePW B n G e)).1 = 0)))) qm20 => ⟨(b2i_z _), (show K (some (zi (b2i (decide ((eSemi B n (ePW B n G e)).1 = 0))))) M4 from ?g438l4)⟩)⟩⟩)⟩⟩⟩
  case g438l1 =>
    have hb9 : ((eErr 1 e)).1 ≠ 0 := by omega
    have e8 : eST B n G e = (eErr 1 e) := by unfold eST; rw [if_neg (show ¬ eIs B n (kwT 4) e = true by rw [show eIs B n (kwT 4) e = false by assumption]; exact Bool.false_ne_true), if_neg (show ¬ eIs B n (kwT 8) e = true by rw [show eIs B n (kwT 8) e = false by assumption]; exact Bool.false_ne_true), if_neg (show ¬ eIs B n (kwT 10) e = true by rw [show eIs B n (kwT 10) e = false by assumption]; exact Bool.false_ne_true), eSemi_b hb9]
    rw [e8] at hK
    have h8 := hK _ hz1 hP1 hI1 (fun q => absurd q hb9)
    rw [decide_eq_false hb9] at h8
    exact h8
  case g438l2 =>
    have e8 : eST B n G e = eSemi B n (ePB B n G e) := by unfold eST; rw [if_neg (show ¬ eIs B n (kwT 4) e = true by rw [show eIs B n (kwT 4) e = false by assumption]; exact Bool.false_ne_true), if_neg (show ¬ eIs B n (kwT 8) e = true by rw [show eIs B n (kwT 8) e = false by assumption]; exact Bool.false_ne_true), if_pos (show eIs B n (kwT 10) e = true by assumption)]
    have e7 : gST B n G e = gPB B n G e := by unfold gST; rw [if_neg (show ¬ eIs B n (kwT 4) e = true by rw [show eIs B n (kwT 4) e = false by assumption]; exact Bool.false_ne_true), if_neg (show ¬ eIs B n (kwT 8) e = true by rw [show eIs B n (kwT 8) e = false by assumption]; exact Bool.false_ne_true), if_pos (show eIs B n (kwT 10) e = true by assumption)]
    rw [e8, e7] at hK
    exact hK _ hz2 hP2 hI2 hT2
  case g438l3 =>
    have e8 : eST B n G e = eSemi B n (ePR B n G e) := by unfold eST; rw [if_neg (show ¬ eIs B n (kwT 4) e = true by rw [show eIs B n (kwT 4) e = false by assumption]; exact Bool.false_ne_true), if_pos (show eIs B n (kwT 8) e = true by assumption)]
    have e7 : gST B n G e = gPR B n G e := by unfold gST; rw [if_neg (show ¬ eIs B n (kwT 4) e = true by rw [show eIs B n (kwT 4) e = false by assumption]; exact Bool.false_ne_true), if_pos (show eIs B n (kwT 8) e = true by assumption)]
    rw [e8, e7] at hK
    exact hK _ hz3 hP3 hI3 hT3
  case g438l4 =>
    have e8 : eST B n G e = eSemi B n (ePW B n G e) := by unfold eST; rw [if_pos (show eIs B n (kwT 4) e = true by assumption)]
    have e7 : gST B n G e = gPW B n G e := by unfold gST; rw [if_pos (show eIs B n (kwT 4) e = true by assumption)]
    rw [e8, e7] at hK
    exact hK _ hz4 hP4 hI4 hT4
theorem M_X3_readStatement {l : Launch} (hl : l.stackTraces = false) : zMet l yX3_readStatement (Cond.code yX3_readStatement cX3_readStatement 1 (Option.some Jvm.ClassFile.FieldType.boolean) :: zG) rm_X3_readStatement 4 30 T_X3_readStatement := met_X3_readStatement hl (M_X3_isAt hl) (M_X3_readWorkerStatement hl) (M_X3_readRowsStatement hl) (M_X3_readBarStatement hl) (M_X3_fail hl) bd_X3_readStatement
