theorem GI.u3 {G : Gm} {i v : Int} (h : GI G) (hi : 0 ≤ i ∧ i < 4) : GI (gU G i v) := by
  have e : ∀ {k : Nat}, 4 ≤ k → gU G i v k = G k := fun z => gU_n _ (by omega)
  refine ⟨by rw [e (by decide)]; exact h.1, by rw [e (by decide)]; exact h.2.1, fun r r0 r1 => ?_⟩
  rw [e (by decide)] at r1
  exact (h.2.2 r r0 r1).cg (fun j j0 j1 => Or.inr (e (by omega)))
theorem Fr.u68 {M : ZM} {k : Nat} {v : Int} (hL : LV M) : Fr S5d M (zsI M 70 k v) := Fr_I hL.draft.w (by decide) (by decide) (by unfold S5d; omega)
theorem Fr.u68b {M : ZM} {k : Nat} {v : Int} (hL : LV M) : Fr (STb 70) M (zsI M 70 k v) := Fr_I hL.draft.w (by decide) (by decide) (by unfold STb; omega)
def T_X3_readTableStatement : ZTf := fun av M K KX => ∃ (B : Gm) (n : Int) (G : Gm) (e : E3), av = [zo 65] ∧ (LV M) ∧ (CIn M B n) ∧ (PE M B n e) ∧ (e.1 = 0) ∧ (KC M) ∧ (TR M 70 G) ∧ (GI G) ∧  (∀ M' : ZM, (Fr S5d M M') → (PE M' B n (eSemi B n (ePT B n e))) → ((eSemi B n (ePT B n e)).1 = 0 → TR M' 70 (gPT B n G e)) → K (some (zi (b2i (decide ((eSemi B n (ePT B n e)).1 = 0))))) M')
set_option maxRecDepth 100000 in
set_option maxHeartbeats 1500000 in
theorem bd_X3_readTableStatement : zBd (cd_X3_readTableStatement T_X3_readKeyword T_X3_readNumber T_X3_readSemicolon) 1 0 0 T_X3_readTableStatement := by
  rintro av M K KX hA0 hM ⟨B, n, G, e, rfl, hL, hI, hP, h0, kc, hT, hG, hK⟩
  have hz : Fr S5d M M := Fr.rf
  have hok := hP.2.2
  have hkr := tkK_r B n e.2.2
  have her := tkE_r B hok.2
  unfold eOK at hok
  have hn5 := hI.2.1
  have hG0 := hG
  have hG1 : GI (gU G 0 (eVal B n 0 20 (eKw B n (kwT 1) (eKw B n (kwT 0) e)))) := hG0.u3 (by decide)
  have hG2 : GI (gU (gU G 0 (eVal B n 0 20 (eKw B n (kwT 1) (eKw B n (kwT 0) e)))) 1 (eVal B n 1 50 (eKw B n (kwT 2) (eNum B n 0 20 (eKw B n (kwT 1) (eKw B n (kwT 0) e)))))) := hG1.u3 (by decide)
  have hG3 : GI (gU (gU (gU G 0 (eVal B n 0 20 (eKw B n (kwT 1) (eKw B n (kwT 0) e)))) 1 (eVal B n 1 50 (eKw B n (kwT 2) (eNum B n 0 20 (eKw B n (kwT 1) (eKw B n (kwT 0) e)))))) 2 (eVal B n 0 19 (eKw B n (kwT 3) (eNum B n 1 50 (eKw B n (kwT 2) (eNum B n 0 20 (eKw B n (kwT 1) (eKw B n (kwT 0) e)))))))) := hG2.u3 (by decide)
  refine ⟨rfl, fun Φ hΦ => ?_⟩
  have s3 : ∀ (M90 : ZM), Fr S5d M M90 → PE M90 B n (eNum B n 0 19 (eKw B n (kwT 3) (eNum B n 1 50 (eKw B n (kwT 2) (eNum B n 0 20 (eKw B n (kwT 1) (eKw B n (kwT 0) e))))))) → (eNum B n 0 19 (eKw B n (kwT 3) (eNum B n 1 50 (eKw B n (kwT 2) (eNum B n 0 20 (eKw B n (kwT 1) (eKw B n (kwT 0) e))))))).1 = 0 → TR M90 70 (gU (gU (gU G 0 (eVal B n 0 20 (eKw B n (kwT 1) (eKw B n (kwT 0) e)))) 1 (eVal B n 1 50 (eKw B n (kwT 2) (eNum B n 0 20 (eKw B n (kwT 1) (eKw B n (kwT 0) e)))))) 2 (eVal B n 0 19 (eKw B n (kwT 3) (eNum B n 1 50 (eKw B n (kwT 2) (eNum B n 0 20 (eKw B n (kwT 1) (eKw B n (kwT 0) e)))))))) → Φ 109 [some (zo 65)] [] M90 0 0 := by
    intro M90 hz90 hP90 h90 hT90
    have hL90 := hL.fr hz90
    have hI90 := hI.fr hL hz90 (by unfold S5d; omega) (by unfold S5d; omega)
    refine zGoR hΦ [] 400 (fun hL9 _ hM _ _ => ?_)
    obtain ⟨_⟩ : True := hL9
    refine ⟨⟨⟨rfl, rfl⟩, hL90.wP.rcv⟩, ⟨B, n, (eNum B n 0 19 (eKw B n (kwT 3) (eNum B n 1 50 (eKw B n (kwT 2) (eNum B n 0 20 (eKw B n (kwT 1) (eKw B n (kwT 0) e))))))), rfl, hL90, hI90, hP90, (by omega), fun M1 hf1 hP1 => (have hL1 := hL90.fr hf1; have hI1 := hI90.f5 hL90 hf1; have hz1 := hz90.tr hf1.d5; have hj1 : ((eSemi B n (eNum B n 0 19 (eKw B n (kwT 3) (eNum B n 1 50 (eKw B n (kwT 2) (eNum B n 0 20 (eKw B n (kwT 1) (eKw B n (kwT 0) e))))))))).1 = 0 → ((eNum B n 0 19 (eKw B n (kwT 3) (eNum B n 1 50 (eKw B n (kwT 2) (eNum B n 0 20 (eKw B n (kwT 1) (eKw B n (kwT 0) e)))))))).1 = 0 := fun q => eSemi_i q; have hT1 := hT90.fr9 hL90.draft hf1 hG3 (fun j j0 j1 => by unfold S65; omega); fun (qg1 : zrg (b2i (decide ((eSemi B n (eNum B n 0 19 (eKw B n (kwT 3) (eNum B n 1 50 (eKw B n (kwT 2) (eNum B n 0 20 (eKw B n (kwT 1) (eKw B n (kwT 0) e)))))))).1 = 0)))) qm2 => ⟨(b2i_z _), (show K (some (zi (b2i (decide ((eSemi B n (eNum B n 0 19 (eKw B n (kwT 3) (eNum B n 1 50 (eKw B n (kwT 2) (eNum B n 0 20 (eKw B n (kwT 1) (eKw B n (kwT 0) e)))))))).1 = 0))))) M1 from ?g433l1)⟩)⟩⟩
    case g433l1 =>
      first
      | (exfalso; omega)
      | skip
        exact hK _ hz1 hP1 (fun _ => hT1)
  have s2 : ∀ (M90 : ZM), Fr S5d M M90 → PE M90 B n (eNum B n 1 50 (eKw B n (kwT 2) (eNum B n 0 20 (eKw B n (kwT 1) (eKw B n (kwT 0) e))))) → (eNum B n 1 50 (eKw B n (kwT 2) (eNum B n 0 20 (eKw B n (kwT 1) (eKw B n (kwT 0) e))))).1 = 0 → TR M90 70 (gU (gU G 0 (eVal B n 0 20 (eKw B n (kwT 1) (eKw B n (kwT 0) e)))) 1 (eVal B n 1 50 (eKw B n (kwT 2) (eNum B n 0 20 (eKw B n (kwT 1) (eKw B n (kwT 0) e)))))) → Φ 76 [some (zo 65)] [] M90 0 0 := by
    intro M90 hz90 hP90 h90 hT90
    have hL90 := hL.fr hz90
    have hI90 := hI.fr hL hz90 (by unfold S5d; omega) (by unfold S5d; omega)
    refine zGoR hΦ [109] 400 (fun hL9 _ hM _ _ => ?_)
    obtain ⟨_⟩ : True := hL9
    refine ⟨⟨⟨rfl, rfl⟩, hL90.wP.rcv⟩, ⟨B, n, (eNum B n 1 50 (eKw B n (kwT 2) (eNum B n 0 20 (eKw B n (kwT 1) (eKw B n (kwT 0) e))))), 3, rfl, hL90, hI90, hP90, (by omega), (kc.fr hz90), (by decide), fun M1 hf1 hP1 => (have hL1 := hL90.fr hf1; have hI1 := hI90.f5 hL90 hf1; have hz1 := hz90.tr hf1.d5; have hj1 : ((eKw B n (kwT 3) (eNum B n 1 50 (eKw B n (kwT 2) (eNum B n 0 20 (eKw B n (kwT 1) (eKw B n (kwT 0) e))))))).1 = 0 → ((eNum B n 1 50 (eKw B n (kwT 2) (eNum B n 0 20 (eKw B n (kwT 1) (eKw B n (kwT 0) e)))))).1 = 0 := fun q => eKw_i q; have hT1 := hT90.fr9 hL90.draft hf1 hG2 (fun j j0 j1 => by unfold S65; omega); fun (qg1 : zrg (b2i (decide ((eKw B n (kwT 3) (eNum B n 1 50 (eKw B n (kwT 2) (eNum B n 0 20 (eKw B n (kwT 1) (eKw B n (kwT 0) e)))))).1 = 0)))) qm2 => ⟨fun h => (have qc3 : (eKw B n (kwT 3) (eNum B n 1 50 (eKw B n (kwT 2) (eNum B n 0 20 (eKw B n (kwT 1) (eKw B n (kwT 0) e)))))).1 ≠ 0 := of_decide_eq_false (b2i_e0 h); ⟨(Or.inl rfl), (show K (some (zi 0)) M1 from ?g434l1)⟩), fun h => (have qc4 : (eKw B n (kwT 3) (eNum B n 1 50 (eKw B n (kwT 2) (eNum B n 0 20 (eKw B n (kwT 1) (eKw B n (kwT 0) e)))))).1 = 0 := of_decide_eq_true (b2i_n0 h); ⟨⟨⟨rfl, rfl⟩, hL1.wP.rcv⟩, ⟨B, n, (eKw B n (kwT 3) (eNum B n 1 50 (eKw B n (kwT 2) (eNum B n 0 20 (eKw B n (kwT 1) (eKw B n (kwT 0) e)))))), 0, 19, rfl, hL1, hI1, hP1, (by omega), (by decide), fun M2 hf2 hP2 ha2 => (have hL2 := hL1.fr hf2; have hI2 := hI1.f5 hL1 hf2; have hz2 := hz1.tr hf2.d5; have hj2 : ((eNum B n 0 19 (eKw B n (kwT 3) (eNum B n 1 50 (eKw B n (kwT 2) (eNum B n 0 20 (eKw B n (kwT 1) (eKw B n (kwT 0) e)))))))).1 = 0 → ((eKw B n (kwT 3) (eNum B n 1 50 (eKw B n (kwT 2) (eNum B n 0 20 (eKw B n (kwT 1) (eKw B n (kwT 0) e))))))).1 = 0 := fun q => eNum_i q; have hev2 := eVal_r (B := B) (n := n) (lo := 0) (hi := 19) (eKw B n (kwT 3) (eNum B n 1 50 (eKw B n (kwT 2) (eNum B n 0 20 (eKw B n (kwT 1) (eKw B n (kwT 0) e)))))) (by decide); have hT2 := hT1.fr9 hL1.draft hf2 hG2 (fun j j0 j1 => by unfold S65; omega); fun (qg5 : zrg (b2i (decide ((eNum B n 0 19 (eKw B n (kwT 3) (eNum B n 1 50 (eKw B n (kwT 2) (eNum B n 0 20 (eKw B n (kwT 1) (eKw B n (kwT 0) e))))))).1 = 0)))) qm6 => ⟨fun h => (have qc7 : (eNum B n 0 19 (eKw B n (kwT 3) (eNum B n 1 50 (eKw B n (kwT 2) (eNum B n 0 20 (eKw B n (kwT 1) (eKw B n (kwT 0) e))))))).1 = 0 := of_decide_eq_true (b2i_n0 h); ⟨hL2.wP, _, hL2.p3, ⟨hL2.wP, ⟨⟨hL2.draft.w, trivial⟩, (show Φ 109 [some (zo 65)] [] (zsI M2 70 2 (zI M2 65 8)) (0) (0) from ?g434l2)⟩⟩⟩), fun h => (have qc8 : (eNum B n 0 19 (eKw B n (kwT 3) (eNum B n 1 50 (eKw B n (kwT 2) (eNum B n 0 20 (eKw B n (kwT 1) (eKw B n (kwT 0) e))))))).1 ≠ 0 := of_decide_eq_false (b2i_e0 h); ⟨(Or.inl rfl), (show K (some (zi 0)) M2 from ?g434l3)⟩)⟩)⟩⟩)⟩)⟩⟩
    case g434l1 =>
      first
      | (exfalso; omega)
      | skip
        have e9 : eSemi B n (ePT B n e) = (eKw B n (kwT 3) (eNum B n 1 50 (eKw B n (kwT 2) (eNum B n 0 20 (eKw B n (kwT 1) (eKw B n (kwT 0) e)))))) := by
          have hb9 : ((eKw B n (kwT 3) (eNum B n 1 50 (eKw B n (kwT 2) (eNum B n 0 20 (eKw B n (kwT 1) (eKw B n (kwT 0) e))))))).1 ≠ 0 := by omega
          unfold ePT
          simp only [eKw_b hb9, eNum_b hb9, eSemi_b hb9]
        rw [e9] at hK
        have h8 := hK _ hz1 hP1 (fun q => absurd q (by omega))
        rw [decide_eq_false (show ¬ ((eKw B n (kwT 3) (eNum B n 1 50 (eKw B n (kwT 2) (eNum B n 0 20 (eKw B n (kwT 1) (eKw B n (kwT 0) e))))))).1 = 0 by omega)] at h8
        exact h8
    case g434l2 =>
      first
      | (exfalso; omega)
      | skip
        have h0q : (eNum B n 0 19 (eKw B n (kwT 3) (eNum B n 1 50 (eKw B n (kwT 2) (eNum B n 0 20 (eKw B n (kwT 1) (eKw B n (kwT 0) e))))))).1 = 0 := by omega
        have hv9 := ha2 h0q
        have hTq := hT2.s3 (i := 2) (v := zI M2 65 8) hL2.draft hG2 (by decide)
        rw [hv9] at hTq ⊢
        exact s3 _ (hz2.tr (Fr.u68 hL2)) (hP2.fr hL2 (Fr.u68b hL2) (by unfold STb; omega)) h0q hTq
    case g434l3 =>
      first
      | (exfalso; omega)
      | skip
        have e9 : eSemi B n (ePT B n e) = (eNum B n 0 19 (eKw B n (kwT 3) (eNum B n 1 50 (eKw B n (kwT 2) (eNum B n 0 20 (eKw B n (kwT 1) (eKw B n (kwT 0) e))))))) := by
          have hb9 : ((eNum B n 0 19 (eKw B n (kwT 3) (eNum B n 1 50 (eKw B n (kwT 2) (eNum B n 0 20 (eKw B n (kwT 1) (eKw B n (kwT 0) e)))))))).1 ≠ 0 := by omega
          unfold ePT
          simp only [eKw_b hb9, eNum_b hb9, eSemi_b hb9]
        rw [e9] at hK
        have h8 := hK _ hz2 hP2 (fun q => absurd q (by omega))
        rw [decide_eq_false (show ¬ ((eNum B n 0 19 (eKw B n (kwT 3) (eNum B n 1 50 (eKw B n (kwT 2) (eNum B n 0 20 (eKw B n (kwT 1) (eKw B n (kwT 0) e)))))))).1 = 0 by omega)] at h8
        exact h8
  have s1 : ∀ (M90 : ZM), Fr S5d M M90 → PE M90 B n (eNum B n 0 20 (eKw B n (kwT 1) (eKw B n (kwT 0) e))) → (eNum B n 0 20 (eKw B n (kwT 1) (eKw B n (kwT 0) e))).1 = 0 → TR M90 70 (gU G 0 (eVal B n 0 20 (eKw B n (kwT 1) (eKw B n (kwT 0) e)))) → Φ 43 [some (zo 65)] [] M90 0 0 := by
    intro M90 hz90 hP90 h90 hT90
    have hL90 := hL.fr hz90
    have hI90 := hI.fr hL hz90 (by unfold S5d; omega) (by unfold S5d; omega)
    refine zGoR hΦ [76] 400 (fun hL9 _ hM _ _ => ?_)
    obtain ⟨_⟩ : True := hL9
    refine ⟨⟨⟨rfl, rfl⟩, hL90.wP.rcv⟩, ⟨B, n, (eNum B n 0 20 (eKw B n (kwT 1) (eKw B n (kwT 0) e))), 2, rfl, hL90, hI90, hP90, (by omega), (kc.fr hz90), (by decide), fun M1 hf1 hP1 => (have hL1 := hL90.fr hf1; have hI1 := hI90.f5 hL90 hf1; have hz1 := hz90.tr hf1.d5; have hj1 : ((eKw B n (kwT 2) (eNum B n 0 20 (eKw B n (kwT 1) (eKw B n (kwT 0) e))))).1 = 0 → ((eNum B n 0 20 (eKw B n (kwT 1) (eKw B n (kwT 0) e)))).1 = 0 := fun q => eKw_i q; have hT1 := hT90.fr9 hL90.draft hf1 hG1 (fun j j0 j1 => by unfold S65; omega); fun (qg1 : zrg (b2i (decide ((eKw B n (kwT 2) (eNum B n 0 20 (eKw B n (kwT 1) (eKw B n (kwT 0) e)))).1 = 0)))) qm2 => ⟨fun h => (have qc3 : (eKw B n (kwT 2) (eNum B n 0 20 (eKw B n (kwT 1) (eKw B n (kwT 0) e)))).1 ≠ 0 := of_decide_eq_false (b2i_e0 h); ⟨(Or.inl rfl), (show K (some (zi 0)) M1 from ?g435l1)⟩), fun h => (have qc4 : (eKw B n (kwT 2) (eNum B n 0 20 (eKw B n (kwT 1) (eKw B n (kwT 0) e)))).1 = 0 := of_decide_eq_true (b2i_n0 h); ⟨⟨⟨rfl, rfl⟩, hL1.wP.rcv⟩, ⟨B, n, (eKw B n (kwT 2) (eNum B n 0 20 (eKw B n (kwT 1) (eKw B n (kwT 0) e)))), 1, 50, rfl, hL1, hI1, hP1, (by omega), (by decide), fun M2 hf2 hP2 ha2 => (have hL2 := hL1.fr hf2; have hI2 := hI1.f5 hL1 hf2; have hz2 := hz1.tr hf2.d5; have hj2 : ((eNum B n 1 50 (eKw B n (kwT 2) (eNum B n 0 20 (eKw B n (kwT 1) (eKw B n (kwT 0) e)))))).1 = 0 → ((eKw B n (kwT 2) (eNum B n 0 20 (eKw B n (kwT 1) (eKw B n (kwT 0) e))))).1 = 0 := fun q => eNum_i q; have hev2 := eVal_r (B := B) (n := n) (lo := 1) (hi := 50) (eKw B n (kwT 2) (eNum B n 0 20 (eKw B n (kwT 1) (eKw B n (kwT 0) e)))) (by decide); have hT2 := hT1.fr9 hL1.draft hf2 hG1 (fun j j0 j1 => by unfold S65; omega); fun (qg5 : zrg (b2i (decide ((eNum B n 1 50 (eKw B n (kwT 2) (eNum B n 0 20 (eKw B n (kwT 1) (eKw B n (kwT 0) e))))).1 = 0)))) qm6 => ⟨fun h => (have qc7 : (eNum B n 1 50 (eKw B n (kwT 2) (eNum B n 0 20 (eKw B n (kwT 1) (eKw B n (kwT 0) e))))).1 = 0 := of_decide_eq_true (b2i_n0 h); ⟨hL2.wP, _, hL2.p3, ⟨hL2.wP, ⟨⟨hL2.draft.w, trivial⟩, (show Φ 76 [some (zo 65)] [] (zsI M2 70 1 (zI M2 65 8)) (0) (0) from ?g435l2)⟩⟩⟩), fun h => (have qc8 : (eNum B n 1 50 (eKw B n (kwT 2) (eNum B n 0 20 (eKw B n (kwT 1) (eKw B n (kwT 0) e))))).1 ≠ 0 := of_decide_eq_false (b2i_e0 h); ⟨(Or.inl rfl), (show K (some (zi 0)) M2 from ?g435l3)⟩)⟩)⟩⟩)⟩)⟩⟩
    case g435l1 =>
      first
      | (exfalso; omega)
      | skip
        have e9 : eSemi B n (ePT B n e) = (eKw B n (kwT 2) (eNum B n 0 20 (eKw B n (kwT 1) (eKw B n (kwT 0) e)))) := by
          have hb9 : ((eKw B n (kwT 2) (eNum B n 0 20 (eKw B n (kwT 1) (eKw B n (kwT 0) e))))).1 ≠ 0 := by omega
          unfold ePT
          simp only [eKw_b hb9, eNum_b hb9, eSemi_b hb9]
        rw [e9] at hK
        have h8 := hK _ hz1 hP1 (fun q => absurd q (by omega))
        rw [decide_eq_false (show ¬ ((eKw B n (kwT 2) (eNum B n 0 20 (eKw B n (kwT 1) (eKw B n (kwT 0) e))))).1 = 0 by omega)] at h8
        exact h8
    case g435l2 =>
      first
      | (exfalso; omega)
      | skip
        have h0q : (eNum B n 1 50 (eKw B n (kwT 2) (eNum B n 0 20 (eKw B n (kwT 1) (eKw B n (kwT 0) e))))).1 = 0 := by omega
        have hv9 := ha2 h0q
        have hTq := hT2.s3 (i := 1) (v := zI M2 65 8) hL2.draft hG1 (by decide)
        rw [hv9] at hTq ⊢
        exact s2 _ (hz2.tr (Fr.u68 hL2)) (hP2.fr hL2 (Fr.u68b hL2) (by unfold STb; omega)) h0q hTq
    case g435l3 =>
      first
      | (exfalso; omega)
      | skip
        have e9 : eSemi B n (ePT B n e) = (eNum B n 1 50 (eKw B n (kwT 2) (eNum B n 0 20 (eKw B n (kwT 1) (eKw B n (kwT 0) e))))) := by
          have hb9 : ((eNum B n 1 50 (eKw B n (kwT 2) (eNum B n 0 20 (eKw B n (kwT 1) (eKw B n (kwT 0) e)))))).1 ≠ 0 := by omega
          unfold ePT
          simp only [eKw_b hb9, eNum_b hb9, eSemi_b hb9]
        rw [e9] at hK
        have h8 := hK _ hz2 hP2 (fun q => absurd q (by omega))
        rw [decide_eq_false (show ¬ ((eNum B n 1 50 (eKw B n (kwT 2) (eNum B n 0 20 (eKw B n (kwT 1) (eKw B n (kwT 0) e)))))).1 = 0 by omega)] at h8
        exact h8
  refine zGoR hΦ [43] 400 (fun hL9 _ hM _ _ => ?_)
  obtain ⟨_⟩ : True := hL9
  refine ⟨⟨⟨rfl, rfl⟩, hL.wP.rcv⟩, ⟨B, n, e, 0, rfl, hL, hI, hP, (by omega), (kc.fr hz), (by decide), fun M1 hf1 hP1 => (have hL1 := hL.fr hf1; have hI1 := hI.f5 hL hf1; have hz1 := hz.tr hf1.d5; have hj1 : ((eKw B n (kwT 0) e)).1 = 0 → (e).1 = 0 := fun q => eKw_i q; have hT1 := hT.fr9 hL.draft hf1 hG0 (fun j j0 j1 => by unfold S65; omega); fun (qg1 : zrg (b2i (decide ((eKw B n (kwT 0) e).1 = 0)))) qm2 => ⟨fun h => (have qc3 : (eKw B n (kwT 0) e).1 ≠ 0 := of_decide_eq_false (b2i_e0 h); ⟨(Or.inl rfl), (show K (some (zi 0)) M1 from ?g436l1)⟩), fun h => (have qc4 : (eKw B n (kwT 0) e).1 = 0 := of_decide_eq_true (b2i_n0 h); ⟨⟨⟨rfl, rfl⟩, hL1.wP.rcv⟩, ⟨B, n, (eKw B n (kwT 0) e), 1, rfl, hL1, hI1, hP1, (by omega), (kc.fr hz1), (by decide), fun M2 hf2 hP2 => (have hL2 := hL1.fr hf2; have hI2 := hI1.f5 hL1 hf2; have hz2 := hz1.tr hf2.d5; have hj2 : ((eKw B n (kwT 1) (eKw B n (kwT 0) e))).1 = 0 → ((eKw B n (kwT 0) e)).1 = 0 := fun q => eKw_i q; have hT2 := hT1.fr9 hL1.draft hf2 hG0 (fun j j0 j1 => by unfold S65; omega); fun (qg5 : zrg (b2i (decide ((eKw B n (kwT 1) (eKw B n (kwT 0) e)).1 = 0)))) qm6 => ⟨fun h => (have qc7 : (eKw B n (kwT 1) (eKw B n (kwT 0) e)).1 ≠ 0 := of_decide_eq_false (b2i_e0 h); ⟨(Or.inl rfl), (show K (some (zi 0)) M2 from ?g436l2)⟩), fun h => (have qc8 : (eKw B n (kwT 1) (eKw B n (kwT 0) e)).1 = 0 := of_decide_eq_true (b2i_n0 h); ⟨⟨⟨rfl, rfl⟩, hL2.wP.rcv⟩, ⟨B, n, (eKw B n (kwT 1) (eKw B n (kwT 0) e)), 0, 20, rfl, hL2, hI2, hP2, (by omega), (by decide), fun M3 hf3 hP3 ha3 => (have hL3 := hL2.fr hf3; have hI3 := hI2.f5 hL2 hf3; have hz3 := hz2.tr hf3.d5; have hj3 : ((eNum B n 0 20 (eKw B n (kwT 1) (eKw B n (kwT 0) e)))).1 = 0 → ((eKw B n (kwT 1) (eKw B n (kwT 0) e))).1 = 0 := fun q => eNum_i q; have hev3 := eVal_r (B := B) (n := n) (lo := 0) (hi := 20) (eKw B n (kwT 1) (eKw B n (kwT 0) e)) (by decide); have hT3 := hT2.fr9 hL2.draft hf3 hG0 (fun j j0 j1 => by unfold S65; omega); fun (qg9 : zrg (b2i (decide ((eNum B n 0 20 (eKw B n (kwT 1) (eKw B n (kwT 0) e))).1 = 0)))) qm10 => ⟨fun h => (have qc11 : (eNum B n 0 20 (eKw B n (kwT 1) (eKw B n (kwT 0) e))).1 = 0 := of_decide_eq_true (b2i_n0 h); ⟨hL3.wP, _, hL3.p3, ⟨hL3.wP, ⟨⟨hL3.draft.w, trivial⟩, (show Φ 43 [some (zo 65)] [] (zsI M3 70 0 (zI M3 65 8)) (0) (0) from ?g436l3)⟩⟩⟩), fun h => (have qc12 : (eNum B n 0 20 (eKw B n (kwT 1) (eKw B n (kwT 0) e))).1 ≠ 0 := of_decide_eq_false (b2i_e0 h); ⟨(Or.inl rfl), (show K (some (zi 0)) M3 from ?g436l4)⟩)⟩)⟩⟩)⟩)⟩⟩)⟩)⟩⟩
  case g436l1 =>
    first
    | (exfalso; omega)
    | skip
      have e9 : eSemi B n (ePT B n e) = (eKw B n (kwT 0) e) := by
        have hb9 : ((eKw B n (kwT 0) e)).1 ≠ 0 := by omega
        unfold ePT
        simp only [eKw_b hb9, eNum_b hb9, eSemi_b hb9]
      rw [e9] at hK
      have h8 := hK _ hz1 hP1 (fun q => absurd q (by omega))
      rw [decide_eq_false (show ¬ ((eKw B n (kwT 0) e)).1 = 0 by omega)] at h8
      exact h8
  case g436l2 =>
    first
    | (exfalso; omega)
    | skip
      have e9 : eSemi B n (ePT B n e) = (eKw B n (kwT 1) (eKw B n (kwT 0) e)) := by
        have hb9 : ((eKw B n (kwT 1) (eKw B n (kwT 0) e))).1 ≠ 0 := by omega
        unfold ePT
        simp only [eKw_b hb9, eNum_b hb9, eSemi_b hb9]
      rw [e9] at hK
      have h8 := hK _ hz2 hP2 (fun q => absurd q (by omega))
      rw [decide_eq_false (show ¬ ((eKw B n (kwT 1) (eKw B n (kwT 0) e))).1 = 0 by omega)] at h8
      exact h8
  case g436l3 =>
    first
    | (exfalso; omega)
    | skip
      have h0q : (eNum B n 0 20 (eKw B n (kwT 1) (eKw B n (kwT 0) e))).1 = 0 := by omega
      have hv9 := ha3 h0q
      have hTq := hT3.s3 (i := 0) (v := zI M3 65 8) hL3.draft hG0 (by decide)
      rw [hv9] at hTq ⊢
      exact s1 _ (hz3.tr (Fr.u68 hL3)) (hP3.fr hL3 (Fr.u68b hL3) (by unfold STb; omega)) h0q hTq
  case g436l4 =>
    first
    | (exfalso; omega)
    | skip
      have e9 : eSemi B n (ePT B n e) = (eNum B n 0 20 (eKw B n (kwT 1) (eKw B n (kwT 0) e))) := by
        have hb9 : ((eNum B n 0 20 (eKw B n (kwT 1) (eKw B n (kwT 0) e)))).1 ≠ 0 := by omega
        unfold ePT
        simp only [eKw_b hb9, eNum_b hb9, eSemi_b hb9]
      rw [e9] at hK
      have h8 := hK _ hz3 hP3 (fun q => absurd q (by omega))
      rw [decide_eq_false (show ¬ ((eNum B n 0 20 (eKw B n (kwT 1) (eKw B n (kwT 0) e)))).1 = 0 by omega)] at h8
      exact h8
theorem M_X3_readTableStatement {l : Launch} (hl : l.stackTraces = false) : zMet l yX3_readTableStatement (Cond.code yX3_readTableStatement cX3_readTableStatement 1 (Option.some Jvm.ClassFile.FieldType.boolean) :: zG) rm_X3_readTableStatement 0 0 T_X3_readTableStatement := met_X3_readTableStatement hl (M_X3_readKeyword hl) (M_X3_readNumber hl) (M_X3_readSemicolon hl) bd_X3_readTableStatement
