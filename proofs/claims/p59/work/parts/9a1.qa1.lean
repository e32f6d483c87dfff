theorem OX.fr {S : Nat → Prop} {M M' : ZM} (h : OX M) (f : Fr S M M') (hs : ¬ S 668) : OX M' := by
  obtain ⟨h1, x, h2, h3⟩ := h
  refine ⟨Nat.le_trans h1 f.1, x, ?_, Nat.lt_of_lt_of_le h3 f.1⟩
  rw [((f.2.1 668 (by omega)).2.2.1 hs).2]
  exact h2
theorem nmOK_tk {B : Gm} {n : Int} {e : E3} (hok : eOK n e) (h : (eName B n e).1 = 0) : nmOK (bl B e.2.2 (tkE B n e.2.2 - e.2.2).toNat) := by
  obtain ⟨a1, a2, a3, a4, a5⟩ := eName_v h
  have hk := ((tkK_r B n e.2.2).2.2.2.1).mp a2
  have he := tkE_r B hok.2
  have hl := tk_let hok.2 a2
  unfold eOK at hok
  have h1 := he.2.2.1 hk.1
  refine ⟨by rw [bl_len]; omega, by rw [bl_len]; omega, bl_ltr (fun k hk => hl _ (by omega) (by omega))⟩
theorem eNm_tk {B : Gm} {n : Int} {e : E3} (hok : eOK n e) (h : (eName B n e).1 = 0) : nmv (bl B e.2.2 (tkE B n e.2.2 - e.2.2).toNat) = eNm B n e := by
  obtain ⟨a1, a2, a3, a4, a5⟩ := eName_v h
  have he := tkE_r B hok.2
  unfold eOK at hok
  have h2 := fNm_bl B e.2.2 (tkE B n e.2.2 - e.2.2).toNat
  rw [show e.2.2 + (((tkE B n e.2.2 - e.2.2).toNat : Nat) : Int) = tkE B n e.2.2 by omega] at h2
  unfold eNm
  rw [if_pos h, h2]
theorem eKw_t {B : Gm} {n : Int} {w : List Int} {e : E3} (h : eIs B n w e = true) : eKw B n w e = eGo B n e := by
  unfold eKw
  rw [if_pos h]
theorem ePW_b4 {B : Gm} {n : Int} {G : Gm} {e x : E3} (h : w4 B n G e = x) (hb : x.1 ≠ 0) : ePW B n G e = x := by
  unfold ePW
  rw [h]
  split
  · rw [eKw_b hb, eNum_b hb]
  · rfl
theorem ePW_b1 {B : Gm} {n : Int} {G : Gm} {e x : E3} (h : w1 B n G e = x) (hb : x.1 ≠ 0) : ePW B n G e = x := by
  refine ePW_b4 ?_ hb
  unfold w4 w3 w2
  rw [h, eGo_b hb, eKw_b hb, eNum_b hb, eKw_b hb, eNum_b hb]
def T_X3_readWorkerStatement : ZTf := fun av M K KX => ∃ (B : Gm) (n : Int) (G : Gm) (e : E3), av = [zo 65] ∧ (LV M) ∧ (CIn M B n) ∧ (PE M B n e) ∧ (e.1 = 0) ∧ (KC M) ∧ (TR M 70 G) ∧ (DI G) ∧ (OX M) ∧  (∀ M' : ZM, (Fr S5e M M') → (PE M' B n (eSemi B n (ePW B n G e))) → (CIn M' B n) → ((eSemi B n (ePW B n G e)).1 = 0 → TR M' 70 (gPW B n G e)) → K (some (zi (b2i (decide ((eSemi B n (ePW B n G e)).1 = 0))))) M')
set_option maxRecDepth 100000 in
set_option maxHeartbeats 1500000 in
theorem bd_X3_readWorkerStatement : zBd (cd_X3_readWorkerStatement T_X3_fail T_X3_nextToken T_X3_isAtName T_X5_workerNamed T_X1_textBetween T_X3_readKeyword T_X3_readNumber T_X3_isAt T_X5_putWorker T_X3_readSemicolon) 5 4 30 T_X3_readWorkerStatement := by
  rintro av M K KX hA0 hM ⟨B, n, G, e, rfl, hL, hI, hP, h0, kc, hT, hDI, hOX, hK⟩
  have hz : Fr S5e M M := Fr.rf
  have hok := hP.2.2
  have hkr := tkK_r B n e.2.2
  have her := tkE_r B hok.2
  unfold eOK at hok
  have hn5 := hI.2.1
  have hG := hDI.1.gi
  obtain ⟨hw5, hr5, hR5⟩ := id hG
  have hw4 := hw5
  have hok0 : eOK n (eGo B n e) := eGo_ok hP.2.2
  have hnm9 := fun q : (eName B n (eGo B n e)).1 = 0 => (eName_v q).2.2.1
  have hfn9 := fNamed_r (B := B) (n := n) (a := (eGo B n e).2.2) (e := tkE B n (eGo B n e).2.2) hw5
  refine ⟨rfl, fun Φ hΦ => ?_⟩
  refine zGoR hΦ [] 400 (fun hL9 _ hM _ _ => ?_)
  obtain ⟨_⟩ : True := hL9
  refine ⟨hL.wP, _, hL.p3, ⟨hL.draft.w, zIr (hT.t4) (⟨fun (qc1 : G 4 < 6) => ⟨⟨⟨rfl, rfl⟩, hL.wP.rcv⟩, ⟨B, n, (tkE B n e.2.2), rfl, hL, hI, hP.1.2.2.1, (by have h9 := hP.2.2; have h8 := tkE_r B h9.2; unfold eOK at h9; omega), fun M1 hf1 h01 hk1 => (have hL1 := hL.fr hf1; have hI1 := hI.f5 hL hf1; have hz1 := hz.tr hf1.d5e; have hP1 := PE.go hP (by omega) h01 hk1; have hj1 : ((eGo B n e)).1 = 0 → (e).1 = 0 := fun q => eGo_i q; have hg1 : ((eGo B n e)).1 = 0 := eGo_0 (by omega); have hT1 := hT.fr9 hL.draft hf1 hG (fun j j0 j1 => by unfold S65; omega); fun qg2 qm3 => ⟨⟨⟨rfl, rfl⟩, hL1.wP.rcv⟩, ⟨B, n, (eGo B n e), rfl, hL1, hI1, hP1, (by omega), (kc.fr hz1), fun (qg4 : zrg (b2i (decide ((eName B n (eGo B n e)).1 = 0)))) qm5 => ⟨fun h => (have qc6 : (eName B n (eGo B n e)).1 = 0 := of_decide_eq_true (b2i_n0 h); ⟨hL1.wP, _, hL1.p3, ⟨hL1.wP, _, hL1.p2, ⟨hL1.wP, zIr (hP1.1.2.1) (⟨hL1.wP, zIr (hP1.1.2.2.1) (⟨⟨⟨rfl, rfl⟩, hL1.draft.w.rcv⟩, ⟨70, G, B, n, ((eGo B n e).2.2), (tkE B n (eGo B n e).2.2), rfl, hL1.draft, hT1, hw4, hL1, hI1, (by have h9 := hP1.2.2; have h8 := tkE_r B h9.2; unfold eOK at h9; omega), fun (qg7 : zrg (fNamed G B n ((eGo B n e).2.2) (tkE B n (eGo B n e).2.2))) qm8 => ⟨fun (qc9 : fNamed G B n ((eGo B n e).2.2) (tkE B n (eGo B n e).2.2) = (-1)) => ⟨hL1.wP, _, hL1.p2, ⟨hL1.wP, zIr (hP1.1.2.1) (⟨hL1.wP, zIr (hP1.1.2.2.1) (⟨⟨(by decide), (by decide)⟩, ⟨⟨rfl, rfl⟩, hL1.wI.rcv⟩, ⟨B, n, ((eGo B n e).2.2), (tkE B n (eGo B n e).2.2), rfl, hL1, hI1, (hOX.fr hz1 (by unfold S5e; omega)), (by have h9 := hP1.2.2; have h8 := tkE_r B h9.2; have h7 := (eName_v (show (eName B n (eGo B n e)).1 = 0 by omega)).2.2.1; unfold eOK at h9; omega), (fun k k0 k1 => by have h9 := tk_let hP1.2.2.2 (eName_v (show (eName B n (eGo B n e)).1 = 0 by omega)).2.1 k k0 k1; omega), fun M2 s2 hf2 hI2 hq2 hs64_2 => (have hL2 := hL1.fr hf2; have hP2 := hP1.fr hL1 hf2 (by unfold Stb; omega); have hz2 := hz1.tr hf2.b5e; have hT2 := hT1.fr9 hL1.draft hf2 hG (fun j j0 j1 => by unfold Stb; omega); fun qg10 qm11 => ⟨⟨⟨rfl, rfl⟩, hL2.wP.rcv⟩, ⟨B, n, (tkE B n (eGo B n e).2.2), rfl, hL2, hI2, hP2.1.2.2.1, (by have h9 := hP2.2.2; have h8 := tkE_r B h9.2; unfold eOK at h9; omega), fun M3 hf3 h03 hk3 => (have hL3 := hL2.fr hf3; have hI3 := hI2.f5 hL2 hf3; have hz3 := hz2.tr hf3.d5e; have hP3 := PE.go hP2 (by omega) h03 hk3; have hj3 : ((eGo B n (eGo B n e))).1 = 0 → ((eGo B n e)).1 = 0 := fun q => eGo_i q; have hg3 : ((eGo B n (eGo B n e))).1 = 0 := eGo_0 (by omega); have hT3 := hT2.fr9 hL2.draft hf3 hG (fun j j0 j1 => by unfold S65; omega); have hq3 := hf3.2.2 _ _ hq2; fun qg12 qm13 => ⟨⟨⟨rfl, rfl⟩, hL3.wP.rcv⟩, ⟨B, n, (eGo B n (eGo B n e)), 5, rfl, hL3, hI3, hP3, (by omega), (kc.fr hz3), (by decide), fun M4 hf4 hP4 => (have hL4 := hL3.fr hf4; have hI4 := hI3.f5 hL3 hf4; have hz4 := hz3.tr hf4.d5e; have hj4 : ((eKw B n (kwT 5) (eGo B n (eGo B n e)))).1 = 0 → ((eGo B n (eGo B n e))).1 = 0 := fun q => eKw_i q; have hT4 := hT3.fr9 hL3.draft hf4 hG (fun j j0 j1 => by unfold S65; omega); have hq4 := hf4.2.2 _ _ hq3; fun (qg14 : zrg (b2i (decide ((eKw B n (kwT 5) (eGo B n (eGo B n e))).1 = 0)))) qm15 => ⟨fun h => (have qc16 : (eKw B n (kwT 5) (eGo B n (eGo B n e))).1 ≠ 0 := of_decide_eq_false (b2i_e0 h); ⟨(Or.inl rfl), (show K (some (zi 0)) M4 from ?g437l1)⟩), fun h => (have qc17 : (eKw B n (kwT 5) (eGo B n (eGo B n e))).1 = 0 := of_decide_eq_true (b2i_n0 h); ⟨⟨⟨rfl, rfl⟩, hL4.wP.rcv⟩, ⟨B, n, (eKw B n (kwT 5) (eGo B n (eGo B n e))), 0, 5, rfl, hL4, hI4, hP4, (by omega), (by decide), fun M5 hf5 hP5 ha5 => (have hL5 := hL4.fr hf5; have hI5 := hI4.f5 hL4 hf5; have hz5 := hz4.tr hf5.d5e; have hj5 : ((eNum B n 0 5 (eKw B n (kwT 5) (eGo B n (eGo B n e))))).1 = 0 → ((eKw B n (kwT 5) (eGo B n (eGo B n e)))).1 = 0 := fun q => eNum_i q; have hev5 := eVal_r (B := B) (n := n) (lo := 0) (hi := 5) (eKw B n (kwT 5) (eGo B n (eGo B n e))) (by decide); have hT5 := hT4.fr9 hL4.draft hf5 hG (fun j j0 j1 => by unfold S65; omega); have hq5 := hf5.2.2 _ _ hq4; fun (qg18 : zrg (b2i (decide ((eNum B n 0 5 (eKw B n (kwT 5) (eGo B n (eGo B n e)))).1 = 0)))) qm19 => ⟨fun h => (have qc20 : (eNum B n 0 5 (eKw B n (kwT 5) (eGo B n (eGo B n e)))).1 = 0 := of_decide_eq_true (b2i_n0 h); ⟨hL5.wP, ⟨⟨⟨rfl, rfl⟩, hL5.wP.rcv⟩, ⟨B, n, (eNum B n 0 5 (eKw B n (kwT 5) (eGo B n (eGo B n e)))), 6, rfl, hL5, hI5, hP5, (by omega), (kc.fr hz5), (by decide), fun M6 hf6 hP6 => (have hL6 := hL5.fr hf6; have hI6 := hI5.f5 hL5 hf6; have hz6 := hz5.tr hf6.d5e; have hj6 : ((eKw B n (kwT 6) (eNum B n 0 5 (eKw B n (kwT 5) (eGo B n (eGo B n e)))))).1 = 0 → ((eNum B n 0 5 (eKw B n (kwT 5) (eGo B n (eGo B n e))))).1 = 0 := fun q => eKw_i q; have hT6 := hT5.fr9 hL5.draft hf6 hG (fun j j0 j1 => by unfold S65; omega); have hq6 := hf6.2.2 _ _ hq5; fun (qg21 : zrg (b2i (decide ((eKw B n (kwT 6) (eNum B n 0 5 (eKw B n (kwT 5) (eGo B n (eGo B n e))))).1 = 0)))) qm22 => ⟨fun h => (have qc23 : (eKw B n (kwT 6) (eNum B n 0 5 (eKw B n (kwT 5) (eGo B n (eGo B n e))))).1 ≠ 0 := of_decide_eq_false (b2i_e0 h); ⟨(Or.inl rfl), (show K (some (zi 0)) M6 from ?g437l2)⟩), fun h => (have qc24 : (eKw B n (kwT 6) (eNum B n 0 5 (eKw B n (kwT 5) (eGo B n (eGo B n e))))).1 = 0 := of_decide_eq_true (b2i_n0 h); ⟨⟨⟨rfl, rfl⟩, hL6.wP.rcv⟩, ⟨B, n, (eKw B n (kwT 6) (eNum B n 0 5 (eKw B n (kwT 5) (eGo B n (eGo B n e))))), 1, 5, rfl, hL6, hI6, hP6, (by omega), (by decide), fun M7 hf7 hP7 ha7 => (have hL7 := hL6.fr hf7; have hI7 := hI6.f5 hL6 hf7; have hz7 := hz6.tr hf7.d5e; have hj7 : ((eNum B n 1 5 (eKw B n (kwT 6) (eNum B n 0 5 (eKw B n (kwT 5) (eGo B n (eGo B n e))))))).1 = 0 → ((eKw B n (kwT 6) (eNum B n 0 5 (eKw B n (kwT 5) (eGo B n (eGo B n e)))))).1 = 0 := fun q => eNum_i q; have hev7 := eVal_r (B := B) (n := n) (lo := 1) (hi := 5) (eKw B n (kwT 6) (eNum B n 0 5 (eKw B n (kwT 5) (eGo B n (eGo B n e))))) (by decide); have hT7 := hT6.fr9 hL6.draft hf7 hG (fun j j0 j1 => by unfold S65; omega); have hq7 := hf7.2.2 _ _ hq6; fun (qg25 : zrg (b2i (decide ((eNum B n 1 5 (eKw B n (kwT 6) (eNum B n 0 5 (eKw B n (kwT 5) (eGo B n (eGo B n e)))))).1 = 0)))) qm26 => ⟨fun h => (have qc27 : (eNum B n 1 5 (eKw B n (kwT 6) (eNum B n 0 5 (eKw B n (kwT 5) (eGo B n (eGo B n e)))))).1 = 0 := of_decide_eq_true (b2i_n0 h); ⟨hL7.wP, ⟨⟨⟨rfl, rfl⟩, hL7.wP.rcv⟩, ⟨B, n, (eNum B n 1 5 (eKw B n (kwT 6) (eNum B n 0 5 (eKw B n (kwT 5) (eGo B n (eGo B n e)))))), 7, rfl, hL7, hI7, hP7, (by omega), (kc.fr hz7), (by decide), fun (qg28 : zrg (b2i (eIs B n (kwT 7) (eNum B n 1 5 (eKw B n (kwT 6) (eNum B n 0 5 (eKw B n (kwT 5) (eGo B n (eGo B n e))))))))) qm29 => ⟨fun h => (have qc30 : (eIs B n (kwT 7) (eNum B n 1 5 (eKw B n (kwT 6) (eNum B n 0 5 (eKw B n (kwT 5) (eGo B n (eGo B n e))))))) = false := b2i_e0 h; ⟨hL7.wP, _, hL7.p3, ⟨⟨⟨rfl, rfl⟩, hL7.draft.w.rcv⟩, ⟨70, s2, G, (bl B (eGo B n e).2.2 (tkE B n (eGo B n e).2.2 - (eGo B n e).2.2).toNat), (zI M5 65 8), (zI M7 65 8), 10, rfl, hL7.draft, hT7, hG, hDI.1.gx, hDI.2, (by omega), (by decide), hq7, (nmOK_tk hok0 (by omega)), hs64_2, fun M8 hf8 hT8 => (have hL8 := hL7.fr hf8; have hI8 := hI7.fr hL7 hf8 (by unfold STb; omega) (by unfold STb; omega); have hP8 := hP7.fr hL7 hf8 (by unfold STb; omega); have hz8 := hz7.tr hf8.t5e; fun qg31 qm32 => ⟨⟨⟨rfl, rfl⟩, hL8.wP.rcv⟩, ⟨B, n, (eNum B n 1 5 (eKw B n (kwT 6) (eNum B n 0 5 (eKw B n (kwT 5) (eGo B n (eGo B n e)))))), rfl, hL8, hI8, hP8, (by omega), fun M9 hf9 hP9 => (have hL9 := hL8.fr hf9; have hI9 := hI8.f5 hL8 hf9; have hz9 := hz8.tr hf9.d5e; have hj9 : ((eSemi B n (eNum B n 1 5 (eKw B n (kwT 6) (eNum B n 0 5 (eKw B n (kwT 5) (eGo B n (eGo B n e)))))))).1 = 0 → ((eNum B n 1 5 (eKw B n (kwT 6) (eNum B n 0 5 (eKw B n (kwT 5) (eGo B n (eGo B n e))))))).1 = 0 := fun q => eSemi_i q; fun (qg33 : zrg (b2i (decide ((eSemi B n (eNum B n 1 5 (eKw B n (kwT 6) (eNum B n 0 5 (eKw B n (kwT 5) (eGo B n (eGo B n e))))))).1 = 0)))) qm34 => ⟨(b2i_z _), (show K (some (zi (b2i (decide ((eSemi B n (eNum B n 1 5 (eKw B n (kwT 6) (eNum B n 0 5 (eKw B n (kwT 5) (eGo B n (eGo B n e))))))).1 = 0))))) M9 from ?g437l3)⟩)⟩⟩)⟩⟩⟩), fun h => (have qc35 : (eIs B n (kwT 7) (eNum B n 1 5 (eKw B n (kwT 6) (eNum B n 0 5 (eKw B n (kwT 5) (eGo B n (eGo B n e))))))) = true := b2i_n0 h; ⟨⟨⟨rfl, rfl⟩, hL7.wP.rcv⟩, ⟨B, n, (tkE B n (eNum B n 1 5 (eKw B n (kwT 6) (eNum B n 0 5 (eKw B n (kwT 5) (eGo B n (eGo B n e)))))).2.2), rfl, hL7, hI7, hP7.1.2.2.1, (by have h9 := hP7.2.2; have h8 := tkE_r B h9.2; unfold eOK at h9; omega), fun M10 hf10 h010 hk10 => (have hL10 := hL7.fr hf10; have hI10 := hI7.f5 hL7 hf10; have hz10 := hz7.tr hf10.d5e; have hP10 := PE.go hP7 (by omega) h010 hk10; have hj10 : ((eGo B n (eNum B n 1 5 (eKw B n (kwT 6) (eNum B n 0 5 (eKw B n (kwT 5) (eGo B n (eGo B n e)))))))).1 = 0 → ((eNum B n 1 5 (eKw B n (kwT 6) (eNum B n 0 5 (eKw B n (kwT 5) (eGo B n (eGo B n e))))))).1 = 0 := fun q => eGo_i q; have hg10 : ((eGo B n (eNum B n 1 5 (eKw B n (kwT 6) (eNum B n 0 5 (eKw B n (kwT 5) (eGo B n (eGo B n e)))))))).1 = 0 := eGo_0 (by omega); have hT10 := hT7.fr9 hL7.draft hf10 hG (fun j j0 j1 => by unfold S65; omega); have hq10 := hf10.2.2 _ _ hq7; fun qg36 qm37 => ⟨⟨⟨rfl, rfl⟩, hL10.wP.rcv⟩, ⟨B, n, (eGo B n (eNum B n 1 5 (eKw B n (kwT 6) (eNum B n 0 5 (eKw B n (kwT 5) (eGo B n (eGo B n e))))))), 0, 20, rfl, hL10, hI10, hP10, (by omega), (by decide), fun M11 hf11 hP11 ha11 => (have hL11 := hL10.fr hf11; have hI11 := hI10.f5 hL10 hf11; have hz11 := hz10.tr hf11.d5e; have hj11 : ((eNum B n 0 20 (eGo B n (eNum B n 1 5 (eKw B n (kwT 6) (eNum B n 0 5 (eKw B n (kwT 5) (eGo B n (eGo B n e))))))))).1 = 0 → ((eGo B n (eNum B n 1 5 (eKw B n (kwT 6) (eNum B n 0 5 (eKw B n (kwT 5) (eGo B n (eGo B n e)))))))).1 = 0 := fun q => eNum_i q; have hev11 := eVal_r (B := B) (n := n) (lo := 0) (hi := 20) (eGo B n (eNum B n 1 5 (eKw B n (kwT 6) (eNum B n 0 5 (eKw B n (kwT 5) (eGo B n (eGo B n e))))))) (by decide); have hT11 := hT10.fr9 hL10.draft hf11 hG (fun j j0 j1 => by unfold S65; omega); have hq11 := hf11.2.2 _ _ hq10; fun (qg38 : zrg (b2i (decide ((eNum B n 0 20 (eGo B n (eNum B n 1 5 (eKw B n (kwT 6) (eNum B n 0 5 (eKw B n (kwT 5) (eGo B n (eGo B n e)))))))).1 = 0)))) qm39 => ⟨fun h => (have qc40 : (eNum B n 0 20 (eGo B n (eNum B n 1 5 (eKw B n (kwT 6) (eNum B n 0 5 (eKw B n (kwT 5) (eGo B n (eGo B n e)))))))).1 = 0 := of_decide_eq_true (b2i_n0 h); ⟨hL11.wP, ⟨hL11.wP, _, hL11.p3, ⟨⟨⟨rfl, rfl⟩, hL11.draft.w.rcv⟩, ⟨70, s2, G, (bl B (eGo B n e).2.2 (tkE B n (eGo B n e).2.2 - (eGo B n e).2.2).toNat), (zI M5 65 8), (zI M7 65 8), (zI M11 65 8), rfl, hL11.draft, hT11, hG, hDI.1.gx, hDI.2, (by omega), (by decide), hq11, (nmOK_tk hok0 (by omega)), hs64_2, fun M12 hf12 hT12 => (have hL12 := hL11.fr hf12; have hI12 := hI11.fr hL11 hf12 (by unfold STb; omega) (by unfold STb; omega); have hP12 := hP11.fr hL11 hf12 (by unfold STb; omega); have hz12 := hz11.tr hf12.t5e; fun qg41 qm42 => ⟨⟨⟨rfl, rfl⟩, hL12.wP.rcv⟩, ⟨B, n, (eNum B n 0 20 (eGo B n (eNum B n 1 5 (eKw B n (kwT 6) (eNum B n 0 5 (eKw B n (kwT 5) (eGo B n (eGo B n e)))))))), rfl, hL12, hI12, hP12, (by omega), fun M13 hf13 hP13 => (have hL13 := hL12.fr hf13; have hI13 := hI12.f5 hL12 hf13; have hz13 := hz12.tr hf13.d5e; have hj13 : ((eSemi B n (eNum B n 0 20 (eGo B n (eNum B n 1 5 (eKw B n (kwT 6) (eNum B n 0 5 (eKw B n (kwT 5) (eGo B n (eGo B n e)))))))))).1 = 0 → ((eNum B n 0 20 (eGo B n (eNum B n 1 5 (eKw B n (kwT 6) (eNum B n 0 5 (eKw B n (kwT 5) (eGo B n (eGo B n e))))))))).1 = 0 := fun q => eSemi_i q; fun (qg43 : zrg (b2i (decide ((eSemi B n (eNum B n 0 20 (eGo B n (eNum B n 1 5 (eKw B n (kwT 6) (eNum B n 0 5 (eKw B n (kwT 5) (eGo B n (eGo B n e))))))))).1 = 0)))) qm44 => ⟨(b2i_z _), (show K (some (zi (b2i (decide ((eSemi B n (eNum B n 0 20 (eGo B n (eNum B n 1 5 (eKw B n (kwT 6) (eNum B n 0 5 (eKw B n (kwT 5) (eGo B n (eGo B n e))))))))).1 = 0))))) M13 from ?g437l4)⟩)⟩⟩)⟩⟩⟩⟩), fun h => (have qc45 : (eNum B n 0 20 (eGo B n (eNum B n 1 5 (eKw B n (kwT 6) (eNum B n 0 5 (eKw B n (kwT 5) (eGo B n (eGo B n e)))))))).1 ≠ 0 := of_decide_eq_false (b2i_e0 h); ⟨(Or.inl rfl), (show K (some (zi 0)) M11 from ?g437l5)⟩)⟩)⟩⟩)⟩⟩)⟩⟩⟩⟩), fun h => (have qc46 : (eNum B n 1 5 (eKw B n (kwT 6) (eNum B n 0 5 (eKw B n (kwT 5) (eGo B n (eGo B n e)))))).1 ≠ 0 := of_decide_eq_false (b2i_e0 h); ⟨(Or.inl rfl), (show K (some (zi 0)) M7 from ?g437l6)⟩)⟩)⟩⟩)⟩)⟩⟩⟩), fun h => (have qc47 : (eNum B n 0 5 (eKw B n (kwT 5) (eGo B n (eGo B n e)))).1 ≠ 0 := of_decide_eq_false (b2i_e0 h); ⟨(Or.inl rfl), (show K (some (zi 0)) M5 from ?g437l7)⟩)⟩)⟩⟩)⟩)⟩⟩)⟩⟩)⟩⟩)⟩)⟩⟩, fun (qc48 : fNamed G B n ((eGo B n e).2.2) (tkE B n (eGo B n e).2.2) ≠ (-1)) => ⟨⟨⟨rfl, rfl⟩, hL1.wP.rcv⟩, ⟨B, n, (eGo B n e), 3, rfl, hL1, hI1, hP1, (by omega), fun M14 hf14 hP14 => (have hL14 := hL1.fr hf14; have hI14 := hI1.f5 hL1 hf14; have hz14 := hz1.tr hf14.d5e; have hn14 : ((eErr 3 (eGo B n e))).1 ≠ 0 := eErr_n (by decide); have hT14 := hT1.fr9 hL1.draft hf14 hG (fun j j0 j1 => by unfold S65; omega); fun (qg49 : zrg (0)) qm50 => ⟨(Or.inl rfl), (show K (some (zi 0)) M14 from ?g437l8)⟩)⟩⟩⟩⟩⟩)⟩)⟩⟩⟩), fun h => (have qc51 : (eName B n (eGo B n e)).1 ≠ 0 := of_decide_eq_false (b2i_e0 h); ⟨⟨⟨rfl, rfl⟩, hL1.wP.rcv⟩, ⟨B, n, (eGo B n e), 1, rfl, hL1, hI1, hP1, (by omega), fun M15 hf15 hP15 => (have hL15 := hL1.fr hf15; have hI15 := hI1.f5 hL1 hf15; have hz15 := hz1.tr hf15.d5e; have hn15 : ((eErr 1 (eGo B n e))).1 ≠ 0 := eErr_n (by decide); have hT15 := hT1.fr9 hL1.draft hf15 hG (fun j j0 j1 => by unfold S65; omega); fun (qg52 : zrg (0)) qm53 => ⟨(Or.inl rfl), (show K (some (zi 0)) M15 from ?g437l9)⟩)⟩⟩)⟩⟩⟩)⟩⟩, fun (qc54 : G 4 ≥ 6) => ⟨⟨⟨rfl, rfl⟩, hL.wP.rcv⟩, ⟨B, n, e, 4, rfl, hL, hI, hP, (by omega), fun M16 hf16 hP16 => (have hL16 := hL.fr hf16; have hI16 := hI.f5 hL hf16; have hz16 := hz.tr hf16.d5e; have hn16 : ((eErr 4 e)).1 ≠ 0 := eErr_n (by decide); have hT16 := hT.fr9 hL.draft hf16 hG (fun j j0 j1 => by unfold S65; omega); fun (qg55 : zrg (0)) qm56 => ⟨(Or.inl rfl), (show K (some (zi 0)) M16 from ?g437l10)⟩)⟩⟩⟩)⟩⟩
  case g437l1 =>
    first
    | (exfalso; omega)
    | skip
      have h0 : w0 B n G e = (eGo B n e) := by unfold w0; rw [if_neg (show ¬ G 4 = 6 by omega)]
      have hnm : (eName B n (eGo B n e)).1 = 0 := by omega
      have hfw := fNamed_w (G := G) hok0 hnm
      have hen := (eName_v hnm).2.2.2.2
      have h1 : w1 B n G e = (eGo B n e) := by unfold w1; rw [h0, if_neg (show ¬ ((eName B n (eGo B n e)).1 = 0 ∧ fWith G (eNm B n (eGo B n e)) ≠ -1) by omega), hen]
      have e9 : eSemi B n (ePW B n G e) = (eKw B n (kwT 5) (eGo B n (eGo B n e))) := by
        have hb9 : ((eKw B n (kwT 5) (eGo B n (eGo B n e)))).1 ≠ 0 := by omega
        have h4 : w4 B n G e = (eKw B n (kwT 5) (eGo B n (eGo B n e))) := by
          unfold w4 w3 w2
          first
          | (rw [h1]; done)
          | (rw [h1]; simp only [eKw_b hb9, eNum_b hb9])
        rw [ePW_b4 h4 hb9, eSemi_b hb9]
      rw [e9] at hK
      have h8 := hK _ hz4 hP4 hI4 (fun q => absurd q (by omega))
      rw [decide_eq_false (show ¬ ((eKw B n (kwT 5) (eGo B n (eGo B n e)))).1 = 0 by omega)] at h8
      exact h8
  case g437l2 =>
    first
    | (exfalso; omega)
    | skip
      have h0 : w0 B n G e = (eGo B n e) := by unfold w0; rw [if_neg (show ¬ G 4 = 6 by omega)]
      have hnm : (eName B n (eGo B n e)).1 = 0 := by omega
      have hfw := fNamed_w (G := G) hok0 hnm
      have hen := (eName_v hnm).2.2.2.2
      have h1 : w1 B n G e = (eGo B n e) := by unfold w1; rw [h0, if_neg (show ¬ ((eName B n (eGo B n e)).1 = 0 ∧ fWith G (eNm B n (eGo B n e)) ≠ -1) by omega), hen]
      have e9 : eSemi B n (ePW B n G e) = (eKw B n (kwT 6) (eNum B n 0 5 (eKw B n (kwT 5) (eGo B n (eGo B n e))))) := by
        have hb9 : ((eKw B n (kwT 6) (eNum B n 0 5 (eKw B n (kwT 5) (eGo B n (eGo B n e)))))).1 ≠ 0 := by omega
        have h4 : w4 B n G e = (eKw B n (kwT 6) (eNum B n 0 5 (eKw B n (kwT 5) (eGo B n (eGo B n e))))) := by
          unfold w4 w3 w2
          first
          | (rw [h1]; done)
          | (rw [h1]; simp only [eKw_b hb9, eNum_b hb9])
        rw [ePW_b4 h4 hb9, eSemi_b hb9]
      rw [e9] at hK
      have h8 := hK _ hz6 hP6 hI6 (fun q => absurd q (by omega))
      rw [decide_eq_false (show ¬ ((eKw B n (kwT 6) (eNum B n 0 5 (eKw B n (kwT 5) (eGo B n (eGo B n e)))))).1 = 0 by omega)] at h8
      exact h8
  case g437l3 =>
    first
    | (exfalso; omega)
    | skip
      have h0 : w0 B n G e = (eGo B n e) := by unfold w0; rw [if_neg (show ¬ G 4 = 6 by omega)]
      have hnm : (eName B n (eGo B n e)).1 = 0 := by omega
      have hfw := fNamed_w (G := G) hok0 hnm
      have hen := (eName_v hnm).2.2.2.2
      have h1 : w1 B n G e = (eGo B n e) := by unfold w1; rw [h0, if_neg (show ¬ ((eName B n (eGo B n e)).1 = 0 ∧ fWith G (eNm B n (eGo B n e)) ≠ -1) by omega), hen]
      have h4 : w4 B n G e = (eNum B n 1 5 (eKw B n (kwT 6) (eNum B n 0 5 (eKw B n (kwT 5) (eGo B n (eGo B n e)))))) := by unfold w4 w3 w2; rw [h1]
      have hi7 : ¬ eIs B n (kwT 7) (eNum B n 1 5 (eKw B n (kwT 6) (eNum B n 0 5 (eKw B n (kwT 5) (eGo B n (eGo B n e)))))) = true := by rw [show eIs B n (kwT 7) (eNum B n 1 5 (eKw B n (kwT 6) (eNum B n 0 5 (eKw B n (kwT 5) (eGo B n (eGo B n e)))))) = false by assumption]; exact Bool.false_ne_true
      have h5 : ePW B n G e = (eNum B n 1 5 (eKw B n (kwT 6) (eNum B n 0 5 (eKw B n (kwT 5) (eGo B n (eGo B n e)))))) := by unfold ePW; rw [h4, if_neg hi7]
      have h6 : tPW B n G e = 10 := by unfold tPW; rw [h4, if_neg hi7]
      have hva := ha5 (by omega)
      have hvb := ha7 (by omega)
      rw [← h5] at hP9
      have h8 := hK _ hz9 hP9 hI9 (fun q => by
        have hpr := eSemi_i q
        unfold gPW
        rw [if_pos hpr, h6, h0]
        unfold w3 w2
        rw [h1]
        have hTT := hT8
        rw [eNm_tk hok0 hnm, hva, hvb] at hTT
        exact hTT.fr9 hL8.draft hf9 (DI.wk hDI (by omega) (eNm_r hok0 hnm) (eVal_r _ (by decide)) (eVal_r _ (by decide)) (by decide)).1.gi (fun j j0 j1 => by unfold S65; omega))
      rw [h5] at h8
      exact h8
  case g437l4 =>
    first
    | (exfalso; omega)
    | skip
      have h0 : w0 B n G e = (eGo B n e) := by unfold w0; rw [if_neg (show ¬ G 4 = 6 by omega)]
      have hnm : (eName B n (eGo B n e)).1 = 0 := by omega
      have hfw := fNamed_w (G := G) hok0 hnm
      have hen := (eName_v hnm).2.2.2.2
      have h1 : w1 B n G e = (eGo B n e) := by unfold w1; rw [h0, if_neg (show ¬ ((eName B n (eGo B n e)).1 = 0 ∧ fWith G (eNm B n (eGo B n e)) ≠ -1) by omega), hen]
      have h4 : w4 B n G e = (eNum B n 1 5 (eKw B n (kwT 6) (eNum B n 0 5 (eKw B n (kwT 5) (eGo B n (eGo B n e)))))) := by unfold w4 w3 w2; rw [h1]
      have hi7 : eIs B n (kwT 7) (eNum B n 1 5 (eKw B n (kwT 6) (eNum B n 0 5 (eKw B n (kwT 5) (eGo B n (eGo B n e)))))) = true := by assumption
      have h7 : eKw B n (kwT 7) (eNum B n 1 5 (eKw B n (kwT 6) (eNum B n 0 5 (eKw B n (kwT 5) (eGo B n (eGo B n e)))))) = eGo B n (eNum B n 1 5 (eKw B n (kwT 6) (eNum B n 0 5 (eKw B n (kwT 5) (eGo B n (eGo B n e)))))) := eKw_t hi7
      have h5 : ePW B n G e = (eNum B n 0 20 (eGo B n (eNum B n 1 5 (eKw B n (kwT 6) (eNum B n 0 5 (eKw B n (kwT 5) (eGo B n (eGo B n e)))))))) := by unfold ePW; rw [h4, if_pos hi7, h7]
      have h6 : tPW B n G e = eVal B n 0 20 (eGo B n (eNum B n 1 5 (eKw B n (kwT 6) (eNum B n 0 5 (eKw B n (kwT 5) (eGo B n (eGo B n e))))))) := by unfold tPW; rw [h4, if_pos hi7, h7]
      have hva := ha5 (by omega)
      have hvb := ha7 (by omega)
      have hvc := ha11 (by omega)
      rw [← h5] at hP13
      have h8 := hK _ hz13 hP13 hI13 (fun q => by
        have hpr := eSemi_i q
        unfold gPW
        rw [if_pos hpr, h6, h0]
        unfold w3 w2
        rw [h1]
        have hTT := hT12
        rw [eNm_tk hok0 hnm, hva, hvb, hvc] at hTT
        exact hTT.fr9 hL12.draft hf13 (DI.wk hDI (by omega) (eNm_r hok0 hnm) (eVal_r _ (by decide)) (eVal_r _ (by decide)) (eVal_r _ (by decide))).1.gi (fun j j0 j1 => by unfold S65; omega))
      rw [h5] at h8
      exact h8
  case g437l5 =>
    first
    | (exfalso; omega)
    | skip
      have h0 : w0 B n G e = (eGo B n e) := by unfold w0; rw [if_neg (show ¬ G 4 = 6 by omega)]
      have hnm : (eName B n (eGo B n e)).1 = 0 := by omega
      have hfw := fNamed_w (G := G) hok0 hnm
      have hen := (eName_v hnm).2.2.2.2
      have h1 : w1 B n G e = (eGo B n e) := by unfold w1; rw [h0, if_neg (show ¬ ((eName B n (eGo B n e)).1 = 0 ∧ fWith G (eNm B n (eGo B n e)) ≠ -1) by omega), hen]
      have h4 : w4 B n G e = (eNum B n 1 5 (eKw B n (kwT 6) (eNum B n 0 5 (eKw B n (kwT 5) (eGo B n (eGo B n e)))))) := by unfold w4 w3 w2; rw [h1]
      have hi7 : eIs B n (kwT 7) (eNum B n 1 5 (eKw B n (kwT 6) (eNum B n 0 5 (eKw B n (kwT 5) (eGo B n (eGo B n e)))))) = true := by assumption
      have h7 : eKw B n (kwT 7) (eNum B n 1 5 (eKw B n (kwT 6) (eNum B n 0 5 (eKw B n (kwT 5) (eGo B n (eGo B n e)))))) = eGo B n (eNum B n 1 5 (eKw B n (kwT 6) (eNum B n 0 5 (eKw B n (kwT 5) (eGo B n (eGo B n e)))))) := eKw_t hi7
      have h5 : ePW B n G e = (eNum B n 0 20 (eGo B n (eNum B n 1 5 (eKw B n (kwT 6) (eNum B n 0 5 (eKw B n (kwT 5) (eGo B n (eGo B n e)))))))) := by unfold ePW; rw [h4, if_pos hi7, h7]
      have h6 : tPW B n G e = eVal B n 0 20 (eGo B n (eNum B n 1 5 (eKw B n (kwT 6) (eNum B n 0 5 (eKw B n (kwT 5) (eGo B n (eGo B n e))))))) := by unfold tPW; rw [h4, if_pos hi7, h7]
      have e9 : eSemi B n (ePW B n G e) = (eNum B n 0 20 (eGo B n (eNum B n 1 5 (eKw B n (kwT 6) (eNum B n 0 5 (eKw B n (kwT 5) (eGo B n (eGo B n e)))))))) := by
        have hb9 : ((eNum B n 0 20 (eGo B n (eNum B n 1 5 (eKw B n (kwT 6) (eNum B n 0 5 (eKw B n (kwT 5) (eGo B n (eGo B n e))))))))).1 ≠ 0 := by omega
        rw [h5, eSemi_b hb9]
      rw [e9] at hK
      have h8 := hK _ hz11 hP11 hI11 (fun q => absurd q (by omega))
      rw [decide_eq_false (show ¬ ((eNum B n 0 20 (eGo B n (eNum B n 1 5 (eKw B n (kwT 6) (eNum B n 0 5 (eKw B n (kwT 5) (eGo B n (eGo B n e))))))))).1 = 0 by omega)] at h8
      exact h8
  case g437l6 =>
    first
    | (exfalso; omega)
    | skip
      have h0 : w0 B n G e = (eGo B n e) := by unfold w0; rw [if_neg (show ¬ G 4 = 6 by omega)]
      have hnm : (eName B n (eGo B n e)).1 = 0 := by omega
      have hfw := fNamed_w (G := G) hok0 hnm
      have hen := (eName_v hnm).2.2.2.2
      have h1 : w1 B n G e = (eGo B n e) := by unfold w1; rw [h0, if_neg (show ¬ ((eName B n (eGo B n e)).1 = 0 ∧ fWith G (eNm B n (eGo B n e)) ≠ -1) by omega), hen]
      have e9 : eSemi B n (ePW B n G e) = (eNum B n 1 5 (eKw B n (kwT 6) (eNum B n 0 5 (eKw B n (kwT 5) (eGo B n (eGo B n e)))))) := by
        have hb9 : ((eNum B n 1 5 (eKw B n (kwT 6) (eNum B n 0 5 (eKw B n (kwT 5) (eGo B n (eGo B n e))))))).1 ≠ 0 := by omega
        have h4 : w4 B n G e = (eNum B n 1 5 (eKw B n (kwT 6) (eNum B n 0 5 (eKw B n (kwT 5) (eGo B n (eGo B n e)))))) := by
          unfold w4 w3 w2
          first
          | (rw [h1]; done)
          | (rw [h1]; simp only [eKw_b hb9, eNum_b hb9])
        rw [ePW_b4 h4 hb9, eSemi_b hb9]
      rw [e9] at hK
      have h8 := hK _ hz7 hP7 hI7 (fun q => absurd q (by omega))
      rw [decide_eq_false (show ¬ ((eNum B n 1 5 (eKw B n (kwT 6) (eNum B n 0 5 (eKw B n (kwT 5) (eGo B n (eGo B n e))))))).1 = 0 by omega)] at h8
      exact h8
  case g437l7 =>
    first
    | (exfalso; omega)
    | skip
      have h0 : w0 B n G e = (eGo B n e) := by unfold w0; rw [if_neg (show ¬ G 4 = 6 by omega)]
      have hnm : (eName B n (eGo B n e)).1 = 0 := by omega
      have hfw := fNamed_w (G := G) hok0 hnm
      have hen := (eName_v hnm).2.2.2.2
      have h1 : w1 B n G e = (eGo B n e) := by unfold w1; rw [h0, if_neg (show ¬ ((eName B n (eGo B n e)).1 = 0 ∧ fWith G (eNm B n (eGo B n e)) ≠ -1) by omega), hen]
      have e9 : eSemi B n (ePW B n G e) = (eNum B n 0 5 (eKw B n (kwT 5) (eGo B n (eGo B n e)))) := by
        have hb9 : ((eNum B n 0 5 (eKw B n (kwT 5) (eGo B n (eGo B n e))))).1 ≠ 0 := by omega
        have h4 : w4 B n G e = (eNum B n 0 5 (eKw B n (kwT 5) (eGo B n (eGo B n e)))) := by
          unfold w4 w3 w2
          first
          | (rw [h1]; done)
          | (rw [h1]; simp only [eKw_b hb9, eNum_b hb9])
        rw [ePW_b4 h4 hb9, eSemi_b hb9]
      rw [e9] at hK
      have h8 := hK _ hz5 hP5 hI5 (fun q => absurd q (by omega))
      rw [decide_eq_false (show ¬ ((eNum B n 0 5 (eKw B n (kwT 5) (eGo B n (eGo B n e))))).1 = 0 by omega)] at h8
      exact h8
  case g437l8 =>
    first
    | (exfalso; omega)
    | skip
      have h0 : w0 B n G e = (eGo B n e) := by unfold w0; rw [if_neg (show ¬ G 4 = 6 by omega)]
      have hnm : (eName B n (eGo B n e)).1 = 0 := by omega
      have hfw := fNamed_w (G := G) hok0 hnm
      have hen := (eName_v hnm).2.2.2.2
      have h1 : w1 B n G e = (eErr 3 (eGo B n e)) := by unfold w1; rw [h0, if_pos (show (eName B n (eGo B n e)).1 = 0 ∧ fWith G (eNm B n (eGo B n e)) ≠ -1 by omega), hen]
      have e9 : eSemi B n (ePW B n G e) = (eErr 3 (eGo B n e)) := by
        have hb9 : ((eErr 3 (eGo B n e))).1 ≠ 0 := by omega
        rw [ePW_b1 h1 hb9, eSemi_b hb9]
      rw [e9] at hK
      have h8 := hK _ hz14 hP14 hI14 (fun q => absurd q (by omega))
      rw [decide_eq_false (show ¬ ((eErr 3 (eGo B n e))).1 = 0 by omega)] at h8
      exact h8
  case g437l9 =>
    first
    | (exfalso; omega)
    | skip
      have h0 : w0 B n G e = (eGo B n e) := by unfold w0; rw [if_neg (show ¬ G 4 = 6 by omega)]
      have hnm : ¬ (eName B n (eGo B n e)).1 = 0 := by omega
      have hE1 : ((eGo B n e)).1 = 0 := by omega
      have h2 : eName B n (eGo B n e) = eErr 1 (eGo B n e) := by
        by_cases z : ((eGo B n e)).1 = 0 ∧ (tkK B n ((eGo B n e)).2.2 ≠ 0 ∨ 6 < tkE B n ((eGo B n e)).2.2 - ((eGo B n e)).2.2 ∨ isKey B n (eGo B n e) = true)
        · exact if_pos z
        · exact absurd (show (eName B n (eGo B n e)).1 = 0 by rw [show eName B n (eGo B n e) = (eGo B n e) from if_neg z]; exact hE1) hnm
      have h1 : w1 B n G e = (eErr 1 (eGo B n e)) := by unfold w1; rw [h0, if_neg (fun z => hnm z.1), h2]
      have e9 : eSemi B n (ePW B n G e) = (eErr 1 (eGo B n e)) := by
        have hb9 : ((eErr 1 (eGo B n e))).1 ≠ 0 := by omega
        rw [ePW_b1 h1 hb9, eSemi_b hb9]
      rw [e9] at hK
      have h8 := hK _ hz15 hP15 hI15 (fun q => absurd q (by omega))
      rw [decide_eq_false (show ¬ ((eErr 1 (eGo B n e))).1 = 0 by omega)] at h8
      exact h8
  case g437l10 =>
    first
    | (exfalso; omega)
    | skip
      have e9 : eSemi B n (ePW B n G e) = (eErr 4 e) := by
        have hb9 : ((eErr 4 e)).1 ≠ 0 := by omega
        have h0 : w0 B n G e = (eErr 4 e) := by unfold w0; rw [if_pos (show G 4 = 6 by omega), eGo_b hb9]
        have h1 : w1 B n G e = (eErr 4 e) := by unfold w1; rw [h0, eName_b hb9, if_neg (fun z => hb9 z.1)]
        rw [ePW_b1 h1 hb9, eSemi_b hb9]
      rw [e9] at hK
      have h8 := hK _ hz16 hP16 hI16 (fun q => absurd q (by omega))
      rw [decide_eq_false (show ¬ ((eErr 4 e)).1 = 0 by omega)] at h8
      exact h8
theorem M_X3_readWorkerStatement {l : Launch} (hl : l.stackTraces = false) : zMet l yX3_readWorkerStatement (Cond.code yX3_readWorkerStatement cX3_readWorkerStatement 5 (Option.some Jvm.ClassFile.FieldType.boolean) :: zG) rm_X3_readWorkerStatement 4 30 T_X3_readWorkerStatement := met_X3_readWorkerStatement hl (M_X3_fail hl) (M_X3_nextToken hl) (M_X3_isAtName hl) (M_X5_workerNamed hl) (M_X1_textBetween hl) (M_X3_readKeyword hl) (M_X3_readNumber hl) (M_X3_isAt hl) (M_X5_putWorker hl) (M_X3_readSemicolon hl) bd_X3_readWorkerStatement
