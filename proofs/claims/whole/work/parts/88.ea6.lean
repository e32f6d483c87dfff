/-! the reference: its statements -/

def T_X9_parseTable : ZTf := fun av M K KX => ∃ (B : Gm) (n : Int) (G : Gm) (e : E3), av = [zo 670] ∧ (LY M) ∧ (RP M B n e) ∧ (MA M 672) ∧ (E516 (zI M 672) G) ∧ (GI G) ∧ (KC M) ∧  (∀ M' : ZM, (RXd M M') → (RP M' B n (ePT B n e)) → (E516 (zI M' 672) (gPT B n G e)) → K none M')
set_option maxRecDepth 100000 in
set_option maxHeartbeats 8000000 in
theorem bd_X9_parseTable : zBd (cd_X9_parseTable T_X9_isWord T_X9_errs T_X9_goOn T_X9_numberBehind) 1 0 0 T_X9_parseTable := by
  rintro av M K KX hA0 hM ⟨B, n, G, e, rfl, hY, hP, hA, hg, hG, kc, hK⟩
  have hz : RXd M M := RXd.rf
  have hok := hP.2.2.2
  have hkr := tkK_r B n e.2.2
  have hrt := rtk_r (tkK B n e.2.2) ⟨hkr.1, hkr.2.1⟩
  have her := tkE_r B hok.2
  unfold eOK at hok
  have hn5 := hP.1.2.1
  obtain ⟨hw5, hr5, hR5⟩ := id hG
  refine ⟨rfl, fun Φ hΦ => ?_⟩
  have s2 : ∀ (M90 : ZM), LY M90 → MA M90 672 → RXd M M90 → RP M90 B n (eNum B n 1 50 (eKw B n (kwT 2) (eNum B n 0 20 (eKw B n (kwT 1) (eKw B n (kwT 0) e))))) → E516 (zI M90 672) (gU (gU G 0 (eVal B n 0 20 (eKw B n (kwT 1) (eKw B n (kwT 0) e)))) 1 (eVal B n 1 50 (eKw B n (kwT 2) (eNum B n 0 20 (eKw B n (kwT 1) (eKw B n (kwT 0) e)))))) → Φ 49 [some (zo 670)] [] M90 0 0 := by
    intro M90 hY90 hA90 hz90 hP90 hg90
    refine zGoR hΦ [] 400 (fun hL9 _ hM _ _ => ?_)
    obtain ⟨_⟩ : True := hL9
    refine ⟨hY90.w, _, hA90.1, ⟨⟨⟨rfl, rfl⟩, hY90.w.rcv⟩, ⟨B, n, (eNum B n 1 50 (eKw B n (kwT 2) (eNum B n 0 20 (eKw B n (kwT 1) (eKw B n (kwT 0) e))))), 38, (kwT 3), 0, 19, rfl, hY90, hP90, (show zTx _ 38 (kwT 3) from (kc.fr hz90.1).w 3 (by decide)), (by have := kwT_r (i := 3) (by decide); omega), (fun k hk => by have := (kwT_r (i := 3) (by decide)).2 k hk; omega), (by decide), fun M1 hx1 hP1 => (have hY1 := LY.fr hY90 hx1.1; have hz1 := hz90.tr hx1.d; have hg1 := E516.of (hx1.1.i hY90.a2 (by unfold S48; omega)) hg90; have hA1 := MA.fr hY90 hA90 hx1.1; fun (qg1 : zrg (eVal B n 0 19 (eKw B n (kwT 3) (eNum B n 1 50 (eKw B n (kwT 2) (eNum B n 0 20 (eKw B n (kwT 1) (eKw B n (kwT 0) e)))))))) qm2 => ⟨⟨zixW hA1.2.1 hA1.2.2 (i := 2) (by decide) (by decide), trivial⟩, zMr (zsI_g0 _ _ 2 _) ((show K none (zsA M1 672 (gU (zI M1 672) 2 (eVal B n 0 19 (eKw B n (kwT 3) (eNum B n 1 50 (eKw B n (kwT 2) (eNum B n 0 20 (eKw B n (kwT 1) (eKw B n (kwT 0) e))))))))) from ?g374l1))⟩)⟩⟩⟩
    case g374l1 =>
      exact hK _ (hz1.tr (RXd.a hY1)) (RP.a hP1) (E516.of (zI_A _ _ _) (hg1.u _ _))
  have s1 : ∀ (M90 : ZM), LY M90 → MA M90 672 → RXd M M90 → RP M90 B n (eNum B n 0 20 (eKw B n (kwT 1) (eKw B n (kwT 0) e))) → E516 (zI M90 672) (gU G 0 (eVal B n 0 20 (eKw B n (kwT 1) (eKw B n (kwT 0) e)))) → Φ 33 [some (zo 670)] [] M90 0 0 := by
    intro M90 hY90 hA90 hz90 hP90 hg90
    refine zGoR hΦ [33, 49] 400 (fun hL9 _ hM _ _ => ?_)
    obtain ⟨_⟩ : True := hL9
    refine ⟨hY90.w, _, hA90.1, ⟨⟨⟨rfl, rfl⟩, hY90.w.rcv⟩, ⟨B, n, (eNum B n 0 20 (eKw B n (kwT 1) (eKw B n (kwT 0) e))), 37, (kwT 2), 1, 50, rfl, hY90, hP90, (show zTx _ 37 (kwT 2) from (kc.fr hz90.1).w 2 (by decide)), (by have := kwT_r (i := 2) (by decide); omega), (fun k hk => by have := (kwT_r (i := 2) (by decide)).2 k hk; omega), (by decide), fun M1 hx1 hP1 => (have hY1 := LY.fr hY90 hx1.1; have hz1 := hz90.tr hx1.d; have hg1 := E516.of (hx1.1.i hY90.a2 (by unfold S48; omega)) hg90; have hA1 := MA.fr hY90 hA90 hx1.1; fun (qg1 : zrg (eVal B n 1 50 (eKw B n (kwT 2) (eNum B n 0 20 (eKw B n (kwT 1) (eKw B n (kwT 0) e)))))) qm2 => ⟨⟨zixW hA1.2.1 hA1.2.2 (i := 1) (by decide) (by decide), trivial⟩, zMr (zsI_g0 _ _ 1 _) ((show Φ 49 [some (zo 670)] [] (zsA M1 672 (gU (zI M1 672) 1 (eVal B n 1 50 (eKw B n (kwT 2) (eNum B n 0 20 (eKw B n (kwT 1) (eKw B n (kwT 0) e))))))) (0) (0) from ?g375l1))⟩)⟩⟩⟩
    case g375l1 =>
      exact s2 _ hY1 hA1 (hz1.tr (RXd.a hY1)) (RP.a hP1) (E516.of (zI_A _ _ _) (hg1.u _ _))
  refine zGoR hΦ [33] 400 (fun hL9 _ hM _ _ => ?_)
  obtain ⟨_⟩ : True := hL9
  refine ⟨⟨⟨rfl, rfl⟩, hY.w.rcv⟩, ⟨B, n, e, 35, (kwT 0), rfl, hY, hP, (show zTx _ 35 (kwT 0) from (kc.fr hz.1).w 0 (by decide)), (by have := kwT_r (i := 0) (by decide); omega), (fun k hk => by have := (kwT_r (i := 0) (by decide)).2 k hk; omega), fun (qg1 : zrg (b2i (eIs B n (kwT 0) e))) qm2 => ⟨fun h => (have qc3 : (eIs B n (kwT 0) e) = true := b2i_n0 h; ⟨⟨⟨rfl, rfl⟩, hY.w.rcv⟩, ⟨B, n, e, rfl, hY, hP, fun M1 hx1 hP1 => (have hY1 := LY.fr hY hx1.1; have hz1 := hz.tr hx1.d; have hg1 := E516.of (hx1.1.i hY.a2 (by unfold S48; omega)) hg; have hA1 := MA.fr hY hA hx1.1; fun qg4 qm5 => ⟨hY1.w, _, hA1.1, ⟨⟨⟨rfl, rfl⟩, hY1.w.rcv⟩, ⟨B, n, (eGo B n e), 36, (kwT 1), 0, 20, rfl, hY1, hP1, (show zTx _ 36 (kwT 1) from (kc.fr hz1.1).w 1 (by decide)), (by have := kwT_r (i := 1) (by decide); omega), (fun k hk => by have := (kwT_r (i := 1) (by decide)).2 k hk; omega), (by decide), fun M2 hx2 hP2 => (have hY2 := LY.fr hY1 hx2.1; have hz2 := hz1.tr hx2.d; have hg2 := E516.of (hx2.1.i hY1.a2 (by unfold S48; omega)) hg1; have hA2 := MA.fr hY1 hA1 hx2.1; fun (qg6 : zrg (eVal B n 0 20 (eKw B n (kwT 1) (eGo B n e)))) qm7 => ⟨⟨zixW hA2.2.1 hA2.2.2 (i := 0) (by decide) (by decide), trivial⟩, zMr (zsI_g0 _ _ 0 _) ((show Φ 33 [some (zo 670)] [] (zsA M2 672 (gU (zI M2 672) 0 (eVal B n 0 20 (eKw B n (kwT 1) (eGo B n e))))) (0) (0) from ?g376l1))⟩)⟩⟩⟩)⟩⟩), fun h => (have qc8 : (eIs B n (kwT 0) e) = false := b2i_e0 h; ⟨⟨⟨rfl, rfl⟩, hY.w.rcv⟩, ⟨B, n, e, 1, rfl, hY, hP, (by decide), fun M3 hx3 hP3 => (have hY3 := LY.fr hY hx3.1; have hz3 := hz.tr hx3.d; have hn3 : ((eErr 1 e)).1 ≠ 0 := eErr_n (by decide); have hg3 := E516.of (hx3.1.i hY.a2 (by unfold S48; omega)) hg; have hA3 := MA.fr hY hA hx3.1; fun qg9 qm10 => ⟨⟨⟨rfl, rfl⟩, hY3.w.rcv⟩, ⟨B, n, (eErr 1 e), rfl, hY3, hP3, fun M4 hx4 hP4 => (have hY4 := LY.fr hY3 hx4.1; have hz4 := hz3.tr hx4.d; have hg4 := E516.of (hx4.1.i hY3.a2 (by unfold S48; omega)) hg3; have hA4 := MA.fr hY3 hA3 hx4.1; fun qg11 qm12 => ⟨hY4.w, _, hA4.1, ⟨⟨⟨rfl, rfl⟩, hY4.w.rcv⟩, ⟨B, n, (eGo B n (eErr 1 e)), 36, (kwT 1), 0, 20, rfl, hY4, hP4, (show zTx _ 36 (kwT 1) from (kc.fr hz4.1).w 1 (by decide)), (by have := kwT_r (i := 1) (by decide); omega), (fun k hk => by have := (kwT_r (i := 1) (by decide)).2 k hk; omega), (by decide), fun M5 hx5 hP5 => (have hY5 := LY.fr hY4 hx5.1; have hz5 := hz4.tr hx5.d; have hg5 := E516.of (hx5.1.i hY4.a2 (by unfold S48; omega)) hg4; have hA5 := MA.fr hY4 hA4 hx5.1; fun (qg13 : zrg (eVal B n 0 20 (eKw B n (kwT 1) (eGo B n (eErr 1 e))))) qm14 => ⟨⟨zixW hA5.2.1 hA5.2.2 (i := 0) (by decide) (by decide), trivial⟩, zMr (zsI_g0 _ _ 0 _) ((show Φ 33 [some (zo 670)] [] (zsA M5 672 (gU (zI M5 672) 0 (eVal B n 0 20 (eKw B n (kwT 1) (eGo B n (eErr 1 e)))))) (0) (0) from ?g376l2))⟩)⟩⟩⟩)⟩⟩)⟩⟩)⟩⟩⟩
  case g376l1 =>
    have hkw : eKw B n (kwT 0) e = eGo B n e := by
      unfold eKw
      first
      | rw [if_pos (show eIs B n (kwT 0) e = true by assumption)]
      | rw [if_neg (show ¬ eIs B n (kwT 0) e = true by rw [show eIs B n (kwT 0) e = false by assumption]; exact Bool.false_ne_true)]
    have h9 := hP2
    rw [← hkw] at h9 ⊢
    exact s1 _ hY2 hA2 (hz2.tr (RXd.a hY2)) (RP.a h9) (E516.of (zI_A _ _ _) (hg2.u _ _))
  case g376l2 =>
    have hkw : eKw B n (kwT 0) e = eGo B n (eErr 1 e) := by
      unfold eKw
      first
      | rw [if_pos (show eIs B n (kwT 0) e = true by assumption)]
      | rw [if_neg (show ¬ eIs B n (kwT 0) e = true by rw [show eIs B n (kwT 0) e = false by assumption]; exact Bool.false_ne_true)]
    have h9 := hP5
    rw [← hkw] at h9 ⊢
    exact s1 _ hY5 hA5 (hz5.tr (RXd.a hY5)) (RP.a h9) (E516.of (zI_A _ _ _) (hg5.u _ _))
theorem M_X9_parseTable {l : Launch} (hl : l.stackTraces = false) : zMet l yX9_parseTable (Cond.code yX9_parseTable cX9_parseTable 1 (Option.none : Option Jvm.ClassFile.FieldType) :: zG) rm_X9_parseTable 0 0 T_X9_parseTable := met_X9_parseTable hl (M_X9_isWord hl) (M_X9_errs hl) (M_X9_goOn hl) (M_X9_numberBehind hl) bd_X9_parseTable

theorem F_wk_z {g G : Gm} {nm tm qo tr : Int} (hg : E516 g G) (h : (∀ w j : Int, G 4 ≤ w → w < 6 → 0 ≤ j → j < 9 → G (6 + 9 * w + j).toNat = 0)) (h4 : 0 ≤ G 4 ∧ G 4 < 6) : E516 (gU (gU (gU (gU (gU g (6 + 9 * (G 4) + 0) (G (6 + 9 * (G 4) + 0).toNat + nm)) (6 + 9 * (G 4) + 1) (G (6 + 9 * (G 4) + 1).toNat + tm)) (6 + 9 * (G 4) + 2) (G (6 + 9 * (G 4) + 2).toNat + qo)) (6 + 9 * (G 4) + 3) (G (6 + 9 * (G 4) + 3).toNat + tr)) 4 (G 4 + 1)) (F_wk G nm tm qo tr) := by
  unfold F_wk
  rw [h (G 4) 0 (Int.le_refl _) h4.2 (by decide) (by decide), h (G 4) 1 (Int.le_refl _) h4.2 (by decide) (by decide), h (G 4) 2 (Int.le_refl _) h4.2 (by decide) (by decide), h (G 4) 3 (Int.le_refl _) h4.2 (by decide) (by decide), Int.zero_add, Int.zero_add, Int.zero_add, Int.zero_add]
  exact ((((hg.u _ _).u _ _).u _ _).u _ _).u _ _

def T_X9_parseWorker : ZTf := fun av M K KX => ∃ (B : Gm) (n : Int) (G : Gm) (e : E3), av = [zo 670] ∧ (LY M) ∧ (RP M B n e) ∧ (MA M 672) ∧ (E516 (zI M 672) G) ∧ (GI G) ∧ (KC M) ∧ (DZ G) ∧  (∀ M' : ZM, (RXd M M') → (RP M' B n (ePW B n G e)) → (E516 (zI M' 672) (gPW B n G e)) → K none M')
set_option maxRecDepth 100000 in
set_option maxHeartbeats 8000000 in
theorem bd_X9_parseWorker : zBd (cd_X9_parseWorker T_X9_workers T_X9_errs T_X9_goOn T_X9_nameHere T_X9_good T_X9_withName T_X9_numberBehind T_X9_isWord T_X9_add) 6 0 0 T_X9_parseWorker := by
  rintro av M K KX hA0 hM ⟨B, n, G, e, rfl, hY, hP, hA, hg, hG, kc, hDZ, hK⟩
  have hz : RXd M M := RXd.rf
  have hok := hP.2.2.2
  have hkr := tkK_r B n e.2.2
  have hrt := rtk_r (tkK B n e.2.2) ⟨hkr.1, hkr.2.1⟩
  have her := tkE_r B hok.2
  unfold eOK at hok
  have hn5 := hP.1.2.1
  obtain ⟨hw5, hr5, hR5⟩ := id hG
  have hd0 : G 4 ≠ 6 → G (6 + 9 * (G 4) + 0).toNat = 0 := fun q => hDZ.1 (G 4) 0 (Int.le_refl _) (by omega) (by decide) (by decide)
  have hd1 : G 4 ≠ 6 → G (6 + 9 * (G 4) + 1).toNat = 0 := fun q => hDZ.1 (G 4) 1 (Int.le_refl _) (by omega) (by decide) (by decide)
  have hd2 : G 4 ≠ 6 → G (6 + 9 * (G 4) + 2).toNat = 0 := fun q => hDZ.1 (G 4) 2 (Int.le_refl _) (by omega) (by decide) (by decide)
  have hd3 : G 4 ≠ 6 → G (6 + 9 * (G 4) + 3).toNat = 0 := fun q => hDZ.1 (G 4) 3 (Int.le_refl _) (by omega) (by decide) (by decide)
  refine ⟨rfl, fun Φ hΦ => ?_⟩
  refine zGoR hΦ [47, 76, 99] 400 (fun hL9 _ hM _ _ => ?_)
  obtain ⟨_⟩ : True := hL9
  refine ⟨⟨⟨rfl, rfl⟩, hY.w.rcv⟩, ⟨rfl, ⟨hY.w, _, hA.1, ⟨zixO hA.2.1 hA.2.2 (i := 4) (by decide) (by decide), zIr (hg _ (by omega)) (⟨trivial, fun (qg1 : zrg (G 4)) _ => ⟨fun (qc2 : G 4 ≠ 6) => ⟨⟨⟨rfl, rfl⟩, hY.w.rcv⟩, ⟨B, n, e, rfl, hY, hP, fun M1 hx1 hP1 => (have hY1 := LY.fr hY hx1.1; have hz1 := hz.tr hx1.d; have hi1 : ((eGo B n e)).1 = 0 → (e).1 = 0 := fun q => eGo_i q; have hg1 := E516.of (hx1.1.i hY.a2 (by unfold S48; omega)) hg; have hA1 := MA.fr hY hA hx1.1; fun qg3 qm4 => ⟨⟨⟨rfl, rfl⟩, hY1.w.rcv⟩, ⟨B, n, (eGo B n e), rfl, hY1, hP1, (kc.fr hz1.1), fun M2 hx2 hP2 => (have hY2 := LY.fr hY1 hx2.1; have hz2 := hz1.tr hx2.d; have hi2 : ((eName B n (eGo B n e))).1 = 0 → ((eGo B n e)).1 = 0 := fun q => eName_i q; have hg2 := E516.of (hx2.1.i hY1.a2 (by unfold S48; omega)) hg1; have hA2 := MA.fr hY1 hA1 hx2.1; fun (qg5 : zrg (eNm B n (eGo B n e))) qm6 => ⟨⟨⟨rfl, rfl⟩, hY2.w.rcv⟩, ⟨rfl, ⟨hY2.w, zIr hP2.2.1.1 (⟨fun (qc7 : (eName B n (eGo B n e)).1 ≠ 0) => ⟨(Or.inl rfl), fun _ _ => ⟨fun _ => (show Φ 47 [some (zo 670), some (zi (G 4)), some (zi (eNm B n (eGo B n e))), none, none, none] [zo 670] M2 (0) (0) from ?g377l1), fun (h : (0 : Int) ≠ 0) => absurd h (by decide)⟩⟩, fun (qc9 : (eName B n (eGo B n e)).1 = 0) => ⟨(Or.inr rfl), fun _ _ => ⟨fun (h : (1 : Int) = 0) => absurd h (by decide), fun _ => ⟨⟨⟨rfl, rfl⟩, hY2.w.rcv⟩, ⟨672, (eNm B n (eGo B n e)), rfl, hY2, hA2, (by rw [hg2 4 (by decide)]; exact hw5), fun (qg11 : zrg (fWith (zI M2 672) (eNm B n (eGo B n e)))) qm12 => zIr (fWith_cg hg2 hw5) (⟨fun (qc13 : fWith G (eNm B n (eGo B n e)) = (-1)) => (show Φ 47 [some (zo 670), some (zi (G 4)), some (zi (eNm B n (eGo B n e))), none, none, none] [zo 670] M2 (0) (0) from ?g377l2), fun (qc14 : fWith G (eNm B n (eGo B n e)) ≠ (-1)) => ⟨⟨⟨rfl, rfl⟩, hY2.w.rcv⟩, ⟨B, n, (eName B n (eGo B n e)), 3, rfl, hY2, hP2, (by decide), fun M3 hx3 hP3 => (have hY3 := LY.fr hY2 hx3.1; have hz3 := hz2.tr hx3.d; have hn3 : ((eErr 3 (eName B n (eGo B n e)))).1 ≠ 0 := eErr_n (by decide); have hg3 := E516.of (hx3.1.i hY2.a2 (by unfold S48; omega)) hg2; have hA3 := MA.fr hY2 hA2 hx3.1; fun qg15 qm16 => (show Φ 47 [some (zo 670), some (zi (G 4)), some (zi (eNm B n (eGo B n e))), none, none, none] [zo 670] M3 (0) (0) from ?g377l3))⟩⟩⟩)⟩⟩⟩⟩⟩)⟩⟩⟩)⟩⟩)⟩⟩, fun (qc17 : G 4 = 6) => ⟨⟨⟨rfl, rfl⟩, hY.w.rcv⟩, ⟨B, n, e, 4, rfl, hY, hP, (by decide), fun M4 hx4 hP4 => (have hY4 := LY.fr hY hx4.1; have hz4 := hz.tr hx4.d; have hn4 : ((eErr 4 e)).1 ≠ 0 := eErr_n (by decide); have hg4 := E516.of (hx4.1.i hY.a2 (by unfold S48; omega)) hg; have hA4 := MA.fr hY hA hx4.1; fun qg18 qm19 => ⟨⟨⟨rfl, rfl⟩, hY4.w.rcv⟩, ⟨B, n, (eErr 4 e), rfl, hY4, hP4, fun M5 hx5 hP5 => (have hY5 := LY.fr hY4 hx5.1; have hz5 := hz4.tr hx5.d; have hi5 : ((eGo B n (eErr 4 e))).1 = 0 → ((eErr 4 e)).1 = 0 := fun q => eGo_i q; have hg5 := E516.of (hx5.1.i hY4.a2 (by unfold S48; omega)) hg4; have hA5 := MA.fr hY4 hA4 hx5.1; fun qg20 qm21 => ⟨⟨⟨rfl, rfl⟩, hY5.w.rcv⟩, ⟨B, n, (eGo B n (eErr 4 e)), rfl, hY5, hP5, (kc.fr hz5.1), fun M6 hx6 hP6 => (have hY6 := LY.fr hY5 hx6.1; have hz6 := hz5.tr hx6.d; have hi6 : ((eName B n (eGo B n (eErr 4 e)))).1 = 0 → ((eGo B n (eErr 4 e))).1 = 0 := fun q => eName_i q; have hg6 := E516.of (hx6.1.i hY5.a2 (by unfold S48; omega)) hg5; have hA6 := MA.fr hY5 hA5 hx6.1; fun (qg22 : zrg (eNm B n (eGo B n (eErr 4 e)))) qm23 => ⟨⟨⟨rfl, rfl⟩, hY6.w.rcv⟩, ⟨rfl, ⟨hY6.w, zIr hP6.2.1.1 (⟨fun (qc24 : (eName B n (eGo B n (eErr 4 e))).1 ≠ 0) => ⟨(Or.inl rfl), fun _ _ => ⟨fun _ => (show Φ 47 [some (zo 670), some (zi (G 4)), some (zi (eNm B n (eGo B n (eErr 4 e)))), none, none, none] [zo 670] M6 (0) (0) from ?g377l4), fun (h : (0 : Int) ≠ 0) => absurd h (by decide)⟩⟩, fun (qc26 : (eName B n (eGo B n (eErr 4 e))).1 = 0) => ⟨(Or.inr rfl), fun _ _ => ⟨fun (h : (1 : Int) = 0) => absurd h (by decide), fun _ => ⟨⟨⟨rfl, rfl⟩, hY6.w.rcv⟩, ⟨672, (eNm B n (eGo B n (eErr 4 e))), rfl, hY6, hA6, (by rw [hg6 4 (by decide)]; exact hw5), fun (qg28 : zrg (fWith (zI M6 672) (eNm B n (eGo B n (eErr 4 e))))) qm29 => zIr (fWith_cg hg6 hw5) (⟨fun (qc30 : fWith G (eNm B n (eGo B n (eErr 4 e))) = (-1)) => (show Φ 47 [some (zo 670), some (zi (G 4)), some (zi (eNm B n (eGo B n (eErr 4 e)))), none, none, none] [zo 670] M6 (0) (0) from ?g377l5), fun (qc31 : fWith G (eNm B n (eGo B n (eErr 4 e))) ≠ (-1)) => ⟨⟨⟨rfl, rfl⟩, hY6.w.rcv⟩, ⟨B, n, (eName B n (eGo B n (eErr 4 e))), 3, rfl, hY6, hP6, (by decide), fun M7 hx7 hP7 => (have hY7 := LY.fr hY6 hx7.1; have hz7 := hz6.tr hx7.d; have hn7 : ((eErr 3 (eName B n (eGo B n (eErr 4 e))))).1 ≠ 0 := eErr_n (by decide); have hg7 := E516.of (hx7.1.i hY6.a2 (by unfold S48; omega)) hg6; have hA7 := MA.fr hY6 hA6 hx7.1; fun qg32 qm33 => (show Φ 47 [some (zo 670), some (zi (G 4)), some (zi (eNm B n (eGo B n (eErr 4 e)))), none, none, none] [zo 670] M7 (0) (0) from ?g377l6))⟩⟩⟩)⟩⟩⟩⟩⟩)⟩⟩⟩)⟩⟩)⟩⟩)⟩⟩⟩⟩)⟩⟩⟩⟩
  case g377l1 =>
    refine zGoR hΦ [47, 76, 99] 400 (fun hL9 _ hM _ _ => ?_)
    obtain ⟨qL1, qL2, _⟩ : zrg (G 4) ∧ zrg (eNm B n (eGo B n e)) ∧ True := hL9
    refine ⟨⟨⟨rfl, rfl⟩, hY2.w.rcv⟩, ⟨B, n, (eName B n (eGo B n e)), rfl, hY2, hP2, fun M13 hx13 hP13 => (have hY13 := LY.fr hY2 hx13.1; have hz13 := hz2.tr hx13.d; have hi13 : ((eGo B n (eName B n (eGo B n e)))).1 = 0 → ((eName B n (eGo B n e))).1 = 0 := fun q => eGo_i q; have hg13 := E516.of (hx13.1.i hY2.a2 (by unfold S48; omega)) hg2; have hA13 := MA.fr hY2 hA2 hx13.1; fun qg109 qm110 => ⟨⟨⟨rfl, rfl⟩, hY13.w.rcv⟩, ⟨B, n, (eGo B n (eName B n (eGo B n e))), 40, (kwT 5), 0, 5, rfl, hY13, hP13, (show zTx _ 40 (kwT 5) from (kc.fr hz13.1).w 5 (by decide)), (by have := kwT_r (i := 5) (by decide); omega), (fun k hk => by have := (kwT_r (i := 5) (by decide)).2 k hk; omega), (by decide), fun M14 hx14 hP14 => (have hY14 := LY.fr hY13 hx14.1; have hz14 := hz13.tr hx14.d; have hi14 : ((eNum B n 0 5 (eKw B n (kwT 5) (eGo B n (eName B n (eGo B n e)))))).1 = 0 → ((eGo B n (eName B n (eGo B n e)))).1 = 0 := fun q => eKw_i (eNum_i q); have hg14 := E516.of (hx14.1.i hY13.a2 (by unfold S48; omega)) hg13; have hA14 := MA.fr hY13 hA13 hx14.1; fun (qg111 : zrg (eVal B n 0 5 (eKw B n (kwT 5) (eGo B n (eName B n (eGo B n e)))))) qm112 => ⟨⟨⟨rfl, rfl⟩, hY14.w.rcv⟩, ⟨B, n, (eNum B n 0 5 (eKw B n (kwT 5) (eGo B n (eName B n (eGo B n e))))), 41, (kwT 6), 1, 5, rfl, hY14, hP14, (show zTx _ 41 (kwT 6) from (kc.fr hz14.1).w 6 (by decide)), (by have := kwT_r (i := 6) (by decide); omega), (fun k hk => by have := (kwT_r (i := 6) (by decide)).2 k hk; omega), (by decide), fun M15 hx15 hP15 => (have hY15 := LY.fr hY14 hx15.1; have hz15 := hz14.tr hx15.d; have hi15 : ((eNum B n 1 5 (eKw B n (kwT 6) (eNum B n 0 5 (eKw B n (kwT 5) (eGo B n (eName B n (eGo B n e)))))))).1 = 0 → ((eNum B n 0 5 (eKw B n (kwT 5) (eGo B n (eName B n (eGo B n e)))))).1 = 0 := fun q => eKw_i (eNum_i q); have hg15 := E516.of (hx15.1.i hY14.a2 (by unfold S48; omega)) hg14; have hA15 := MA.fr hY14 hA14 hx15.1; fun (qg113 : zrg (eVal B n 1 5 (eKw B n (kwT 6) (eNum B n 0 5 (eKw B n (kwT 5) (eGo B n (eName B n (eGo B n e)))))))) qm114 => ⟨⟨⟨rfl, rfl⟩, hY15.w.rcv⟩, ⟨B, n, (eNum B n 1 5 (eKw B n (kwT 6) (eNum B n 0 5 (eKw B n (kwT 5) (eGo B n (eName B n (eGo B n e))))))), 42, (kwT 7), rfl, hY15, hP15, (show zTx _ 42 (kwT 7) from (kc.fr hz15.1).w 7 (by decide)), (by have := kwT_r (i := 7) (by decide); omega), (fun k hk => by have := (kwT_r (i := 7) (by decide)).2 k hk; omega), fun (qg115 : zrg (b2i (eIs B n (kwT 7) (eNum B n 1 5 (eKw B n (kwT 6) (eNum B n 0 5 (eKw B n (kwT 5) (eGo B n (eName B n (eGo B n e)))))))))) qm116 => ⟨fun h => (have qc117 : (eIs B n (kwT 7) (eNum B n 1 5 (eKw B n (kwT 6) (eNum B n 0 5 (eKw B n (kwT 5) (eGo B n (eName B n (eGo B n e)))))))) = false := b2i_e0 h; (show Φ 99 [some (zo 670), some (zi (G 4)), some (zi (eNm B n (eGo B n e))), some (zi (eVal B n 0 5 (eKw B n (kwT 5) (eGo B n (eName B n (eGo B n e)))))), some (zi (eVal B n 1 5 (eKw B n (kwT 6) (eNum B n 0 5 (eKw B n (kwT 5) (eGo B n (eName B n (eGo B n e)))))))), some (zi 10)] [zo 670] M15 (0) (0) from ?g378l1)), fun h => (have qc118 : (eIs B n (kwT 7) (eNum B n 1 5 (eKw B n (kwT 6) (eNum B n 0 5 (eKw B n (kwT 5) (eGo B n (eName B n (eGo B n e)))))))) = true := b2i_n0 h; ⟨⟨⟨rfl, rfl⟩, hY15.w.rcv⟩, ⟨B, n, (eNum B n 1 5 (eKw B n (kwT 6) (eNum B n 0 5 (eKw B n (kwT 5) (eGo B n (eName B n (eGo B n e))))))), 42, (kwT 7), 0, 20, rfl, hY15, hP15, (show zTx _ 42 (kwT 7) from (kc.fr hz15.1).w 7 (by decide)), (by have := kwT_r (i := 7) (by decide); omega), (fun k hk => by have := (kwT_r (i := 7) (by decide)).2 k hk; omega), (by decide), fun M16 hx16 hP16 => (have hY16 := LY.fr hY15 hx16.1; have hz16 := hz15.tr hx16.d; have hi16 : ((eNum B n 0 20 (eKw B n (kwT 7) (eNum B n 1 5 (eKw B n (kwT 6) (eNum B n 0 5 (eKw B n (kwT 5) (eGo B n (eName B n (eGo B n e)))))))))).1 = 0 → ((eNum B n 1 5 (eKw B n (kwT 6) (eNum B n 0 5 (eKw B n (kwT 5) (eGo B n (eName B n (eGo B n e)))))))).1 = 0 := fun q => eKw_i (eNum_i q); have hg16 := E516.of (hx16.1.i hY15.a2 (by unfold S48; omega)) hg15; have hA16 := MA.fr hY15 hA15 hx16.1; fun (qg119 : zrg (eVal B n 0 20 (eKw B n (kwT 7) (eNum B n 1 5 (eKw B n (kwT 6) (eNum B n 0 5 (eKw B n (kwT 5) (eGo B n (eName B n (eGo B n e)))))))))) qm120 => (show Φ 99 [some (zo 670), some (zi (G 4)), some (zi (eNm B n (eGo B n e))), some (zi (eVal B n 0 5 (eKw B n (kwT 5) (eGo B n (eName B n (eGo B n e)))))), some (zi (eVal B n 1 5 (eKw B n (kwT 6) (eNum B n 0 5 (eKw B n (kwT 5) (eGo B n (eName B n (eGo B n e)))))))), some (zi (eVal B n 0 20 (eKw B n (kwT 7) (eNum B n 1 5 (eKw B n (kwT 6) (eNum B n 0 5 (eKw B n (kwT 5) (eGo B n (eName B n (eGo B n e))))))))))] [zo 670] M16 (0) (0) from ?g378l2))⟩⟩)⟩⟩⟩)⟩⟩)⟩⟩)⟩⟩
    case g378l1 =>
      refine zGoR hΦ [47, 76, 99] 400 (fun hL9 _ hM _ _ => ?_)
      obtain ⟨qL1, qL2, qL3, qL4, qL5, _⟩ : zrg (G 4) ∧ zrg (eNm B n (eGo B n e)) ∧ zrg (eVal B n 0 5 (eKw B n (kwT 5) (eGo B n (eName B n (eGo B n e))))) ∧ zrg (eVal B n 1 5 (eKw B n (kwT 6) (eNum B n 0 5 (eKw B n (kwT 5) (eGo B n (eName B n (eGo B n e))))))) ∧ zrg 10 ∧ True := hL9
      refine ⟨⟨⟨rfl, rfl⟩, hY15.w.rcv⟩, ⟨rfl, ⟨hY15.w, zIr hP15.2.1.1 (⟨fun (qc218 : (eNum B n 1 5 (eKw B n (kwT 6) (eNum B n 0 5 (eKw B n (kwT 5) (eGo B n (eName B n (eGo B n e))))))).1 ≠ 0) => ⟨(Or.inl rfl), fun _ _ => ⟨fun (h : (0 : Int) ≠ 0) => absurd h (by decide), fun _ => (show K none M15 from ?g379l1)⟩⟩, fun (qc220 : (eNum B n 1 5 (eKw B n (kwT 6) (eNum B n 0 5 (eKw B n (kwT 5) (eGo B n (eName B n (eGo B n e))))))).1 = 0) => ⟨(Or.inr rfl), fun _ _ => ⟨fun _ => ⟨⟨⟨rfl, rfl⟩, hY15.w.rcv⟩, ⟨rfl, ⟨hY15.w, _, hA15.1, ⟨(zrgI (x := 9 * (G 4)) (by omega)), ⟨(zrgI (x := 6 + 9 * (G 4)) (by omega)), ⟨(zrgI (x := 6 + 9 * (G 4) + 0) (by omega)), ⟨⟨rfl, rfl⟩, ⟨zixO hA15.2.1 hA15.2.2 (i := 6 + 9 * (G 4) + 0) (by omega) (by decide), zIr (hg15 _ (by omega)) (⟨(zrgI (x := G (6 + 9 * (G 4) + 0).toNat + eNm B n (eGo B n e)) (by omega)), ⟨⟨zixW hA15.2.1 hA15.2.2 (i := 6 + 9 * (G 4) + 0) (by omega) (by decide), trivial⟩, zMr (zsI_g0 _ _ (6 + 9 * (G 4) + 0) _) (fun _ _ => ⟨⟨⟨rfl, rfl⟩, hY15.w.rcv⟩, ⟨rfl, ⟨hY15.w, _, hA15.1, ⟨(zrgI (x := 9 * (G 4)) (by omega)), ⟨(zrgI (x := 6 + 9 * (G 4)) (by omega)), ⟨(zrgI (x := 6 + 9 * (G 4) + 1) (by omega)), ⟨⟨rfl, rfl⟩, ⟨zixO hA15.2.1 hA15.2.2 (i := 6 + 9 * (G 4) + 1) (by omega) (by decide), zIr ((zIa _ _ _ _).trans (Eq.trans (gU_n _ (by omega)) ((hg15 _ (by omega))))) (⟨(zrgI (x := G (6 + 9 * (G 4) + 1).toNat + eVal B n 0 5 (eKw B n (kwT 5) (eGo B n (eName B n (eGo B n e))))) (by omega)), ⟨⟨zixW hA15.2.1 hA15.2.2 (i := 6 + 9 * (G 4) + 1) (by omega) (by decide), trivial⟩, zMr (zsI_gU _ _ _ (6 + 9 * (G 4) + 1) _) (fun _ _ => ⟨⟨⟨rfl, rfl⟩, hY15.w.rcv⟩, ⟨rfl, ⟨hY15.w, _, hA15.1, ⟨(zrgI (x := 9 * (G 4)) (by omega)), ⟨(zrgI (x := 6 + 9 * (G 4)) (by omega)), ⟨(zrgI (x := 6 + 9 * (G 4) + 2) (by omega)), ⟨⟨rfl, rfl⟩, ⟨zixO hA15.2.1 hA15.2.2 (i := 6 + 9 * (G 4) + 2) (by omega) (by decide), zIr ((zIa _ _ _ _).trans (Eq.trans (gU_n _ (by omega)) (Eq.trans (gU_n _ (by omega)) ((hg15 _ (by omega)))))) (⟨(zrgI (x := G (6 + 9 * (G 4) + 2).toNat + eVal B n 1 5 (eKw B n (kwT 6) (eNum B n 0 5 (eKw B n (kwT 5) (eGo B n (eName B n (eGo B n e))))))) (by omega)), ⟨⟨zixW hA15.2.1 hA15.2.2 (i := 6 + 9 * (G 4) + 2) (by omega) (by decide), trivial⟩, zMr (zsI_gU _ _ _ (6 + 9 * (G 4) + 2) _) (fun _ _ => ⟨⟨⟨rfl, rfl⟩, hY15.w.rcv⟩, ⟨rfl, ⟨hY15.w, _, hA15.1, ⟨(zrgI (x := 9 * (G 4)) (by omega)), ⟨(zrgI (x := 6 + 9 * (G 4)) (by omega)), ⟨(zrgI (x := 6 + 9 * (G 4) + 3) (by omega)), ⟨⟨rfl, rfl⟩, ⟨zixO hA15.2.1 hA15.2.2 (i := 6 + 9 * (G 4) + 3) (by omega) (by decide), zIr ((zIa _ _ _ _).trans (Eq.trans (gU_n _ (by omega)) (Eq.trans (gU_n _ (by omega)) (Eq.trans (gU_n _ (by omega)) ((hg15 _ (by omega))))))) (⟨(zrgI (x := G (6 + 9 * (G 4) + 3).toNat + 10) (by omega)), ⟨⟨zixW hA15.2.1 hA15.2.2 (i := 6 + 9 * (G 4) + 3) (by omega) (by decide), trivial⟩, zMr (zsI_gU _ _ _ (6 + 9 * (G 4) + 3) _) (fun _ _ => ⟨hY15.w, _, hA15.1, ⟨⟨rfl, rfl⟩, ⟨zixO hA15.2.1 hA15.2.2 (i := 4) (by decide) (by decide), zIr ((zIa _ _ _ _).trans (Eq.trans (gU_n _ (by omega)) (Eq.trans (gU_n _ (by omega)) (Eq.trans (gU_n _ (by omega)) (Eq.trans (gU_n _ (by omega)) ((hg15 _ (by omega)))))))) (⟨(zrgI (x := G 4 + 1) (by omega)), ⟨⟨zixW hA15.2.1 hA15.2.2 (i := 4) (by decide) (by decide), trivial⟩, zMr (zsI_gU _ _ _ 4 _) ((show K none (zsA M15 672 (gU (gU (gU (gU (gU (zI M15 672) (6 + 9 * (G 4) + 0) (G (6 + 9 * (G 4) + 0).toNat + eNm B n (eGo B n e))) (6 + 9 * (G 4) + 1) (G (6 + 9 * (G 4) + 1).toNat + eVal B n 0 5 (eKw B n (kwT 5) (eGo B n (eName B n (eGo B n e)))))) (6 + 9 * (G 4) + 2) (G (6 + 9 * (G 4) + 2).toNat + eVal B n 1 5 (eKw B n (kwT 6) (eNum B n 0 5 (eKw B n (kwT 5) (eGo B n (eName B n (eGo B n e)))))))) (6 + 9 * (G 4) + 3) (G (6 + 9 * (G 4) + 3).toNat + 10)) 4 (G 4 + 1))) from ?g379l2))⟩⟩)⟩⟩⟩)⟩⟩)⟩⟩⟩⟩⟩⟩⟩⟩)⟩⟩)⟩⟩⟩⟩⟩⟩⟩⟩)⟩⟩)⟩⟩⟩⟩⟩⟩⟩⟩)⟩⟩)⟩⟩⟩⟩⟩⟩⟩⟩, fun (h : (1 : Int) = 0) => absurd h (by decide)⟩⟩⟩)⟩⟩⟩
      case g379l1 =>
        first
        | (exfalso; omega)
        | skip
          have e0 : w0 B n G e = (eGo B n e) := by
            unfold w0
            first | rw [if_pos (show G 4 = 6 by omega)] | rw [if_neg (show ¬ G 4 = 6 by omega)]
          have e1 : w1 B n G e = (eName B n (eGo B n e)) := by
            unfold w1
            rw [e0]
            first
            | rw [if_pos (show ((eName B n (eGo B n e))).1 = 0 ∧ fWith G (eNm B n (eGo B n e)) ≠ -1 by omega)]
            | rw [if_neg (show ¬ (((eName B n (eGo B n e))).1 = 0 ∧ fWith G (eNm B n (eGo B n e)) ≠ -1) by omega)]
          have e4 : w4 B n G e = (eNum B n 1 5 (eKw B n (kwT 6) (eNum B n 0 5 (eKw B n (kwT 5) (eGo B n (eName B n (eGo B n e))))))) := by
            unfold w4 w3 w2
            rw [e1]
          have e9 : ePW B n G e = (eNum B n 1 5 (eKw B n (kwT 6) (eNum B n 0 5 (eKw B n (kwT 5) (eGo B n (eName B n (eGo B n e))))))) := by
            unfold ePW
            rw [e4]
            rw [if_neg (show ¬ eIs B n (kwT 7) (eNum B n 1 5 (eKw B n (kwT 6) (eNum B n 0 5 (eKw B n (kwT 5) (eGo B n (eName B n (eGo B n e))))))) = true by rw [show eIs B n (kwT 7) (eNum B n 1 5 (eKw B n (kwT 6) (eNum B n 0 5 (eKw B n (kwT 5) (eGo B n (eName B n (eGo B n e))))))) = false by assumption]; exact Bool.false_ne_true)]
          have h9 := hP15
          rw [← e9] at h9
          refine hK _ hz15 h9 ?_
          unfold gPW
          rw [e9, if_neg (by omega)]
          exact hg15
      case g379l2 =>
        first
        | (exfalso; omega)
        | skip
          have e0 : w0 B n G e = (eGo B n e) := by
            unfold w0
            first | rw [if_pos (show G 4 = 6 by omega)] | rw [if_neg (show ¬ G 4 = 6 by omega)]
          have e1 : w1 B n G e = (eName B n (eGo B n e)) := by
            unfold w1
            rw [e0]
            first
            | rw [if_pos (show ((eName B n (eGo B n e))).1 = 0 ∧ fWith G (eNm B n (eGo B n e)) ≠ -1 by omega)]
            | rw [if_neg (show ¬ (((eName B n (eGo B n e))).1 = 0 ∧ fWith G (eNm B n (eGo B n e)) ≠ -1) by omega)]
          have e4 : w4 B n G e = (eNum B n 1 5 (eKw B n (kwT 6) (eNum B n 0 5 (eKw B n (kwT 5) (eGo B n (eName B n (eGo B n e))))))) := by
            unfold w4 w3 w2
            rw [e1]
          have e9 : ePW B n G e = (eNum B n 1 5 (eKw B n (kwT 6) (eNum B n 0 5 (eKw B n (kwT 5) (eGo B n (eName B n (eGo B n e))))))) := by
            unfold ePW
            rw [e4]
            rw [if_neg (show ¬ eIs B n (kwT 7) (eNum B n 1 5 (eKw B n (kwT 6) (eNum B n 0 5 (eKw B n (kwT 5) (eGo B n (eName B n (eGo B n e))))))) = true by rw [show eIs B n (kwT 7) (eNum B n 1 5 (eKw B n (kwT 6) (eNum B n 0 5 (eKw B n (kwT 5) (eGo B n (eName B n (eGo B n e))))))) = false by assumption]; exact Bool.false_ne_true)]
          have h9 := hP15
          rw [← e9] at h9
          have e8 : tPW B n G e = 10 := by
            unfold tPW
            rw [e4]
            rw [if_neg (show ¬ eIs B n (kwT 7) (eNum B n 1 5 (eKw B n (kwT 6) (eNum B n 0 5 (eKw B n (kwT 5) (eGo B n (eName B n (eGo B n e))))))) = true by rw [show eIs B n (kwT 7) (eNum B n 1 5 (eKw B n (kwT 6) (eNum B n 0 5 (eKw B n (kwT 5) (eGo B n (eName B n (eGo B n e))))))) = false by assumption]; exact Bool.false_ne_true)]
          refine hK _ (hz15.tr (RXd.a hY15)) (RP.a h9) ?_
          unfold gPW
          rw [e9, if_pos (show ((eNum B n 1 5 (eKw B n (kwT 6) (eNum B n 0 5 (eKw B n (kwT 5) (eGo B n (eName B n (eGo B n e)))))))).1 = 0 by omega), e8]
          unfold w3 w2
          rw [e1, e0]
          exact E516.of (zI_A _ _ _) (F_wk_z hg15 hDZ.1 (by omega))
    case g378l2 =>
      refine zGoR hΦ [47, 76, 99] 400 (fun hL9 _ hM _ _ => ?_)
      obtain ⟨qL1, qL2, qL3, qL4, qL5, _⟩ : zrg (G 4) ∧ zrg (eNm B n (eGo B n e)) ∧ zrg (eVal B n 0 5 (eKw B n (kwT 5) (eGo B n (eName B n (eGo B n e))))) ∧ zrg (eVal B n 1 5 (eKw B n (kwT 6) (eNum B n 0 5 (eKw B n (kwT 5) (eGo B n (eName B n (eGo B n e))))))) ∧ zrg (eVal B n 0 20 (eKw B n (kwT 7) (eNum B n 1 5 (eKw B n (kwT 6) (eNum B n 0 5 (eKw B n (kwT 5) (eGo B n (eName B n (eGo B n e))))))))) ∧ True := hL9
      refine ⟨⟨⟨rfl, rfl⟩, hY16.w.rcv⟩, ⟨rfl, ⟨hY16.w, zIr hP16.2.1.1 (⟨fun (qc221 : (eNum B n 0 20 (eKw B n (kwT 7) (eNum B n 1 5 (eKw B n (kwT 6) (eNum B n 0 5 (eKw B n (kwT 5) (eGo B n (eName B n (eGo B n e))))))))).1 ≠ 0) => ⟨(Or.inl rfl), fun _ _ => ⟨fun (h : (0 : Int) ≠ 0) => absurd h (by decide), fun _ => (show K none M16 from ?g380l1)⟩⟩, fun (qc223 : (eNum B n 0 20 (eKw B n (kwT 7) (eNum B n 1 5 (eKw B n (kwT 6) (eNum B n 0 5 (eKw B n (kwT 5) (eGo B n (eName B n (eGo B n e))))))))).1 = 0) => ⟨(Or.inr rfl), fun _ _ => ⟨fun _ => ⟨⟨⟨rfl, rfl⟩, hY16.w.rcv⟩, ⟨rfl, ⟨hY16.w, _, hA16.1, ⟨(zrgI (x := 9 * (G 4)) (by omega)), ⟨(zrgI (x := 6 + 9 * (G 4)) (by omega)), ⟨(zrgI (x := 6 + 9 * (G 4) + 0) (by omega)), ⟨⟨rfl, rfl⟩, ⟨zixO hA16.2.1 hA16.2.2 (i := 6 + 9 * (G 4) + 0) (by omega) (by decide), zIr (hg16 _ (by omega)) (⟨(zrgI (x := G (6 + 9 * (G 4) + 0).toNat + eNm B n (eGo B n e)) (by omega)), ⟨⟨zixW hA16.2.1 hA16.2.2 (i := 6 + 9 * (G 4) + 0) (by omega) (by decide), trivial⟩, zMr (zsI_g0 _ _ (6 + 9 * (G 4) + 0) _) (fun _ _ => ⟨⟨⟨rfl, rfl⟩, hY16.w.rcv⟩, ⟨rfl, ⟨hY16.w, _, hA16.1, ⟨(zrgI (x := 9 * (G 4)) (by omega)), ⟨(zrgI (x := 6 + 9 * (G 4)) (by omega)), ⟨(zrgI (x := 6 + 9 * (G 4) + 1) (by omega)), ⟨⟨rfl, rfl⟩, ⟨zixO hA16.2.1 hA16.2.2 (i := 6 + 9 * (G 4) + 1) (by omega) (by decide), zIr ((zIa _ _ _ _).trans (Eq.trans (gU_n _ (by omega)) ((hg16 _ (by omega))))) (⟨(zrgI (x := G (6 + 9 * (G 4) + 1).toNat + eVal B n 0 5 (eKw B n (kwT 5) (eGo B n (eName B n (eGo B n e))))) (by omega)), ⟨⟨zixW hA16.2.1 hA16.2.2 (i := 6 + 9 * (G 4) + 1) (by omega) (by decide), trivial⟩, zMr (zsI_gU _ _ _ (6 + 9 * (G 4) + 1) _) (fun _ _ => ⟨⟨⟨rfl, rfl⟩, hY16.w.rcv⟩, ⟨rfl, ⟨hY16.w, _, hA16.1, ⟨(zrgI (x := 9 * (G 4)) (by omega)), ⟨(zrgI (x := 6 + 9 * (G 4)) (by omega)), ⟨(zrgI (x := 6 + 9 * (G 4) + 2) (by omega)), ⟨⟨rfl, rfl⟩, ⟨zixO hA16.2.1 hA16.2.2 (i := 6 + 9 * (G 4) + 2) (by omega) (by decide), zIr ((zIa _ _ _ _).trans (Eq.trans (gU_n _ (by omega)) (Eq.trans (gU_n _ (by omega)) ((hg16 _ (by omega)))))) (⟨(zrgI (x := G (6 + 9 * (G 4) + 2).toNat + eVal B n 1 5 (eKw B n (kwT 6) (eNum B n 0 5 (eKw B n (kwT 5) (eGo B n (eName B n (eGo B n e))))))) (by omega)), ⟨⟨zixW hA16.2.1 hA16.2.2 (i := 6 + 9 * (G 4) + 2) (by omega) (by decide), trivial⟩, zMr (zsI_gU _ _ _ (6 + 9 * (G 4) + 2) _) (fun _ _ => ⟨⟨⟨rfl, rfl⟩, hY16.w.rcv⟩, ⟨rfl, ⟨hY16.w, _, hA16.1, ⟨(zrgI (x := 9 * (G 4)) (by omega)), ⟨(zrgI (x := 6 + 9 * (G 4)) (by omega)), ⟨(zrgI (x := 6 + 9 * (G 4) + 3) (by omega)), ⟨⟨rfl, rfl⟩, ⟨zixO hA16.2.1 hA16.2.2 (i := 6 + 9 * (G 4) + 3) (by omega) (by decide), zIr ((zIa _ _ _ _).trans (Eq.trans (gU_n _ (by omega)) (Eq.trans (gU_n _ (by omega)) (Eq.trans (gU_n _ (by omega)) ((hg16 _ (by omega))))))) (⟨(zrgI (x := G (6 + 9 * (G 4) + 3).toNat + eVal B n 0 20 (eKw B n (kwT 7) (eNum B n 1 5 (eKw B n (kwT 6) (eNum B n 0 5 (eKw B n (kwT 5) (eGo B n (eName B n (eGo B n e))))))))) (by omega)), ⟨⟨zixW hA16.2.1 hA16.2.2 (i := 6 + 9 * (G 4) + 3) (by omega) (by decide), trivial⟩, zMr (zsI_gU _ _ _ (6 + 9 * (G 4) + 3) _) (fun _ _ => ⟨hY16.w, _, hA16.1, ⟨⟨rfl, rfl⟩, ⟨zixO hA16.2.1 hA16.2.2 (i := 4) (by decide) (by decide), zIr ((zIa _ _ _ _).trans (Eq.trans (gU_n _ (by omega)) (Eq.trans (gU_n _ (by omega)) (Eq.trans (gU_n _ (by omega)) (Eq.trans (gU_n _ (by omega)) ((hg16 _ (by omega)))))))) (⟨(zrgI (x := G 4 + 1) (by omega)), ⟨⟨zixW hA16.2.1 hA16.2.2 (i := 4) (by decide) (by decide), trivial⟩, zMr (zsI_gU _ _ _ 4 _) ((show K none (zsA M16 672 (gU (gU (gU (gU (gU (zI M16 672) (6 + 9 * (G 4) + 0) (G (6 + 9 * (G 4) + 0).toNat + eNm B n (eGo B n e))) (6 + 9 * (G 4) + 1) (G (6 + 9 * (G 4) + 1).toNat + eVal B n 0 5 (eKw B n (kwT 5) (eGo B n (eName B n (eGo B n e)))))) (6 + 9 * (G 4) + 2) (G (6 + 9 * (G 4) + 2).toNat + eVal B n 1 5 (eKw B n (kwT 6) (eNum B n 0 5 (eKw B n (kwT 5) (eGo B n (eName B n (eGo B n e)))))))) (6 + 9 * (G 4) + 3) (G (6 + 9 * (G 4) + 3).toNat + eVal B n 0 20 (eKw B n (kwT 7) (eNum B n 1 5 (eKw B n (kwT 6) (eNum B n 0 5 (eKw B n (kwT 5) (eGo B n (eName B n (eGo B n e)))))))))) 4 (G 4 + 1))) from ?g380l2))⟩⟩)⟩⟩⟩)⟩⟩)⟩⟩⟩⟩⟩⟩⟩⟩)⟩⟩)⟩⟩⟩⟩⟩⟩⟩⟩)⟩⟩)⟩⟩⟩⟩⟩⟩⟩⟩)⟩⟩)⟩⟩⟩⟩⟩⟩⟩⟩, fun (h : (1 : Int) = 0) => absurd h (by decide)⟩⟩⟩)⟩⟩⟩
      case g380l1 =>
        first
        | (exfalso; omega)
        | skip
          have e0 : w0 B n G e = (eGo B n e) := by
            unfold w0
            first | rw [if_pos (show G 4 = 6 by omega)] | rw [if_neg (show ¬ G 4 = 6 by omega)]
          have e1 : w1 B n G e = (eName B n (eGo B n e)) := by
            unfold w1
            rw [e0]
            first
            | rw [if_pos (show ((eName B n (eGo B n e))).1 = 0 ∧ fWith G (eNm B n (eGo B n e)) ≠ -1 by omega)]
            | rw [if_neg (show ¬ (((eName B n (eGo B n e))).1 = 0 ∧ fWith G (eNm B n (eGo B n e)) ≠ -1) by omega)]
          have e4 : w4 B n G e = (eNum B n 1 5 (eKw B n (kwT 6) (eNum B n 0 5 (eKw B n (kwT 5) (eGo B n (eName B n (eGo B n e))))))) := by
            unfold w4 w3 w2
            rw [e1]
          have e9 : ePW B n G e = (eNum B n 0 20 (eKw B n (kwT 7) (eNum B n 1 5 (eKw B n (kwT 6) (eNum B n 0 5 (eKw B n (kwT 5) (eGo B n (eName B n (eGo B n e))))))))) := by
            unfold ePW
            rw [e4]
            rw [if_pos (by assumption)]
          have h9 := hP16
          rw [← e9] at h9
          refine hK _ hz16 h9 ?_
          unfold gPW
          rw [e9, if_neg (by omega)]
          exact hg16
      case g380l2 =>
        first
        | (exfalso; omega)
        | skip
          have e0 : w0 B n G e = (eGo B n e) := by
            unfold w0
            first | rw [if_pos (show G 4 = 6 by omega)] | rw [if_neg (show ¬ G 4 = 6 by omega)]
          have e1 : w1 B n G e = (eName B n (eGo B n e)) := by
            unfold w1
            rw [e0]
            first
            | rw [if_pos (show ((eName B n (eGo B n e))).1 = 0 ∧ fWith G (eNm B n (eGo B n e)) ≠ -1 by omega)]
            | rw [if_neg (show ¬ (((eName B n (eGo B n e))).1 = 0 ∧ fWith G (eNm B n (eGo B n e)) ≠ -1) by omega)]
          have e4 : w4 B n G e = (eNum B n 1 5 (eKw B n (kwT 6) (eNum B n 0 5 (eKw B n (kwT 5) (eGo B n (eName B n (eGo B n e))))))) := by
            unfold w4 w3 w2
            rw [e1]
          have e9 : ePW B n G e = (eNum B n 0 20 (eKw B n (kwT 7) (eNum B n 1 5 (eKw B n (kwT 6) (eNum B n 0 5 (eKw B n (kwT 5) (eGo B n (eName B n (eGo B n e))))))))) := by
            unfold ePW
            rw [e4]
            rw [if_pos (by assumption)]
          have h9 := hP16
          rw [← e9] at h9
          have e8 : tPW B n G e = eVal B n 0 20 (eKw B n (kwT 7) (eNum B n 1 5 (eKw B n (kwT 6) (eNum B n 0 5 (eKw B n (kwT 5) (eGo B n (eName B n (eGo B n e)))))))) := by
            unfold tPW
            rw [e4]
            rw [if_pos (by assumption)]
          refine hK _ (hz16.tr (RXd.a hY16)) (RP.a h9) ?_
          unfold gPW
          rw [e9, if_pos (show ((eNum B n 0 20 (eKw B n (kwT 7) (eNum B n 1 5 (eKw B n (kwT 6) (eNum B n 0 5 (eKw B n (kwT 5) (eGo B n (eName B n (eGo B n e)))))))))).1 = 0 by omega), e8]
          unfold w3 w2
          rw [e1, e0]
          exact E516.of (zI_A _ _ _) (F_wk_z hg16 hDZ.1 (by omega))
  case g377l2 =>
    refine zGoR hΦ [47, 76, 99] 400 (fun hL9 _ hM _ _ => ?_)
    obtain ⟨qL1, qL2, _⟩ : zrg (G 4) ∧ zrg (eNm B n (eGo B n e)) ∧ True := hL9
    refine ⟨⟨⟨rfl, rfl⟩, hY2.w.rcv⟩, ⟨B, n, (eName B n (eGo B n e)), rfl, hY2, hP2, fun M13 hx13 hP13 => (have hY13 := LY.fr hY2 hx13.1; have hz13 := hz2.tr hx13.d; have hi13 : ((eGo B n (eName B n (eGo B n e)))).1 = 0 → ((eName B n (eGo B n e))).1 = 0 := fun q => eGo_i q; have hg13 := E516.of (hx13.1.i hY2.a2 (by unfold S48; omega)) hg2; have hA13 := MA.fr hY2 hA2 hx13.1; fun qg114 qm115 => ⟨⟨⟨rfl, rfl⟩, hY13.w.rcv⟩, ⟨B, n, (eGo B n (eName B n (eGo B n e))), 40, (kwT 5), 0, 5, rfl, hY13, hP13, (show zTx _ 40 (kwT 5) from (kc.fr hz13.1).w 5 (by decide)), (by have := kwT_r (i := 5) (by decide); omega), (fun k hk => by have := (kwT_r (i := 5) (by decide)).2 k hk; omega), (by decide), fun M14 hx14 hP14 => (have hY14 := LY.fr hY13 hx14.1; have hz14 := hz13.tr hx14.d; have hi14 : ((eNum B n 0 5 (eKw B n (kwT 5) (eGo B n (eName B n (eGo B n e)))))).1 = 0 → ((eGo B n (eName B n (eGo B n e)))).1 = 0 := fun q => eKw_i (eNum_i q); have hg14 := E516.of (hx14.1.i hY13.a2 (by unfold S48; omega)) hg13; have hA14 := MA.fr hY13 hA13 hx14.1; fun (qg116 : zrg (eVal B n 0 5 (eKw B n (kwT 5) (eGo B n (eName B n (eGo B n e)))))) qm117 => ⟨⟨⟨rfl, rfl⟩, hY14.w.rcv⟩, ⟨B, n, (eNum B n 0 5 (eKw B n (kwT 5) (eGo B n (eName B n (eGo B n e))))), 41, (kwT 6), 1, 5, rfl, hY14, hP14, (show zTx _ 41 (kwT 6) from (kc.fr hz14.1).w 6 (by decide)), (by have := kwT_r (i := 6) (by decide); omega), (fun k hk => by have := (kwT_r (i := 6) (by decide)).2 k hk; omega), (by decide), fun M15 hx15 hP15 => (have hY15 := LY.fr hY14 hx15.1; have hz15 := hz14.tr hx15.d; have hi15 : ((eNum B n 1 5 (eKw B n (kwT 6) (eNum B n 0 5 (eKw B n (kwT 5) (eGo B n (eName B n (eGo B n e)))))))).1 = 0 → ((eNum B n 0 5 (eKw B n (kwT 5) (eGo B n (eName B n (eGo B n e)))))).1 = 0 := fun q => eKw_i (eNum_i q); have hg15 := E516.of (hx15.1.i hY14.a2 (by unfold S48; omega)) hg14; have hA15 := MA.fr hY14 hA14 hx15.1; fun (qg118 : zrg (eVal B n 1 5 (eKw B n (kwT 6) (eNum B n 0 5 (eKw B n (kwT 5) (eGo B n (eName B n (eGo B n e)))))))) qm119 => ⟨⟨⟨rfl, rfl⟩, hY15.w.rcv⟩, ⟨B, n, (eNum B n 1 5 (eKw B n (kwT 6) (eNum B n 0 5 (eKw B n (kwT 5) (eGo B n (eName B n (eGo B n e))))))), 42, (kwT 7), rfl, hY15, hP15, (show zTx _ 42 (kwT 7) from (kc.fr hz15.1).w 7 (by decide)), (by have := kwT_r (i := 7) (by decide); omega), (fun k hk => by have := (kwT_r (i := 7) (by decide)).2 k hk; omega), fun (qg120 : zrg (b2i (eIs B n (kwT 7) (eNum B n 1 5 (eKw B n (kwT 6) (eNum B n 0 5 (eKw B n (kwT 5) (eGo B n (eName B n (eGo B n e)))))))))) qm121 => ⟨fun h => (have qc122 : (eIs B n (kwT 7) (eNum B n 1 5 (eKw B n (kwT 6) (eNum B n 0 5 (eKw B n (kwT 5) (eGo B n (eName B n (eGo B n e)))))))) = false := b2i_e0 h; (show Φ 99 [some (zo 670), some (zi (G 4)), some (zi (eNm B n (eGo B n e))), some (zi (eVal B n 0 5 (eKw B n (kwT 5) (eGo B n (eName B n (eGo B n e)))))), some (zi (eVal B n 1 5 (eKw B n (kwT 6) (eNum B n 0 5 (eKw B n (kwT 5) (eGo B n (eName B n (eGo B n e)))))))), some (zi 10)] [zo 670] M15 (0) (0) from ?g381l1)), fun h => (have qc123 : (eIs B n (kwT 7) (eNum B n 1 5 (eKw B n (kwT 6) (eNum B n 0 5 (eKw B n (kwT 5) (eGo B n (eName B n (eGo B n e)))))))) = true := b2i_n0 h; ⟨⟨⟨rfl, rfl⟩, hY15.w.rcv⟩, ⟨B, n, (eNum B n 1 5 (eKw B n (kwT 6) (eNum B n 0 5 (eKw B n (kwT 5) (eGo B n (eName B n (eGo B n e))))))), 42, (kwT 7), 0, 20, rfl, hY15, hP15, (show zTx _ 42 (kwT 7) from (kc.fr hz15.1).w 7 (by decide)), (by have := kwT_r (i := 7) (by decide); omega), (fun k hk => by have := (kwT_r (i := 7) (by decide)).2 k hk; omega), (by decide), fun M16 hx16 hP16 => (have hY16 := LY.fr hY15 hx16.1; have hz16 := hz15.tr hx16.d; have hi16 : ((eNum B n 0 20 (eKw B n (kwT 7) (eNum B n 1 5 (eKw B n (kwT 6) (eNum B n 0 5 (eKw B n (kwT 5) (eGo B n (eName B n (eGo B n e)))))))))).1 = 0 → ((eNum B n 1 5 (eKw B n (kwT 6) (eNum B n 0 5 (eKw B n (kwT 5) (eGo B n (eName B n (eGo B n e)))))))).1 = 0 := fun q => eKw_i (eNum_i q); have hg16 := E516.of (hx16.1.i hY15.a2 (by unfold S48; omega)) hg15; have hA16 := MA.fr hY15 hA15 hx16.1; fun (qg124 : zrg (eVal B n 0 20 (eKw B n (kwT 7) (eNum B n 1 5 (eKw B n (kwT 6) (eNum B n 0 5 (eKw B n (kwT 5) (eGo B n (eName B n (eGo B n e)))))))))) qm125 => (show Φ 99 [some (zo 670), some (zi (G 4)), some (zi (eNm B n (eGo B n e))), some (zi (eVal B n 0 5 (eKw B n (kwT 5) (eGo B n (eName B n (eGo B n e)))))), some (zi (eVal B n 1 5 (eKw B n (kwT 6) (eNum B n 0 5 (eKw B n (kwT 5) (eGo B n (eName B n (eGo B n e)))))))), some (zi (eVal B n 0 20 (eKw B n (kwT 7) (eNum B n 1 5 (eKw B n (kwT 6) (eNum B n 0 5 (eKw B n (kwT 5) (eGo B n (eName B n (eGo B n e))))))))))] [zo 670] M16 (0) (0) from ?g381l2))⟩⟩)⟩⟩⟩)⟩⟩)⟩⟩)⟩⟩
    case g381l1 =>
      refine zGoR hΦ [47, 76, 99] 400 (fun hL9 _ hM _ _ => ?_)
      obtain ⟨qL1, qL2, qL3, qL4, qL5, _⟩ : zrg (G 4) ∧ zrg (eNm B n (eGo B n e)) ∧ zrg (eVal B n 0 5 (eKw B n (kwT 5) (eGo B n (eName B n (eGo B n e))))) ∧ zrg (eVal B n 1 5 (eKw B n (kwT 6) (eNum B n 0 5 (eKw B n (kwT 5) (eGo B n (eName B n (eGo B n e))))))) ∧ zrg 10 ∧ True := hL9
      refine ⟨⟨⟨rfl, rfl⟩, hY15.w.rcv⟩, ⟨rfl, ⟨hY15.w, zIr hP15.2.1.1 (⟨fun (qc223 : (eNum B n 1 5 (eKw B n (kwT 6) (eNum B n 0 5 (eKw B n (kwT 5) (eGo B n (eName B n (eGo B n e))))))).1 ≠ 0) => ⟨(Or.inl rfl), fun _ _ => ⟨fun (h : (0 : Int) ≠ 0) => absurd h (by decide), fun _ => (show K none M15 from ?g382l1)⟩⟩, fun (qc225 : (eNum B n 1 5 (eKw B n (kwT 6) (eNum B n 0 5 (eKw B n (kwT 5) (eGo B n (eName B n (eGo B n e))))))).1 = 0) => ⟨(Or.inr rfl), fun _ _ => ⟨fun _ => ⟨⟨⟨rfl, rfl⟩, hY15.w.rcv⟩, ⟨rfl, ⟨hY15.w, _, hA15.1, ⟨(zrgI (x := 9 * (G 4)) (by omega)), ⟨(zrgI (x := 6 + 9 * (G 4)) (by omega)), ⟨(zrgI (x := 6 + 9 * (G 4) + 0) (by omega)), ⟨⟨rfl, rfl⟩, ⟨zixO hA15.2.1 hA15.2.2 (i := 6 + 9 * (G 4) + 0) (by omega) (by decide), zIr (hg15 _ (by omega)) (⟨(zrgI (x := G (6 + 9 * (G 4) + 0).toNat + eNm B n (eGo B n e)) (by omega)), ⟨⟨zixW hA15.2.1 hA15.2.2 (i := 6 + 9 * (G 4) + 0) (by omega) (by decide), trivial⟩, zMr (zsI_g0 _ _ (6 + 9 * (G 4) + 0) _) (fun _ _ => ⟨⟨⟨rfl, rfl⟩, hY15.w.rcv⟩, ⟨rfl, ⟨hY15.w, _, hA15.1, ⟨(zrgI (x := 9 * (G 4)) (by omega)), ⟨(zrgI (x := 6 + 9 * (G 4)) (by omega)), ⟨(zrgI (x := 6 + 9 * (G 4) + 1) (by omega)), ⟨⟨rfl, rfl⟩, ⟨zixO hA15.2.1 hA15.2.2 (i := 6 + 9 * (G 4) + 1) (by omega) (by decide), zIr ((zIa _ _ _ _).trans (Eq.trans (gU_n _ (by omega)) ((hg15 _ (by omega))))) (⟨(zrgI (x := G (6 + 9 * (G 4) + 1).toNat + eVal B n 0 5 (eKw B n (kwT 5) (eGo B n (eName B n (eGo B n e))))) (by omega)), ⟨⟨zixW hA15.2.1 hA15.2.2 (i := 6 + 9 * (G 4) + 1) (by omega) (by decide), trivial⟩, zMr (zsI_gU _ _ _ (6 + 9 * (G 4) + 1) _) (fun _ _ => ⟨⟨⟨rfl, rfl⟩, hY15.w.rcv⟩, ⟨rfl, ⟨hY15.w, _, hA15.1, ⟨(zrgI (x := 9 * (G 4)) (by omega)), ⟨(zrgI (x := 6 + 9 * (G 4)) (by omega)), ⟨(zrgI (x := 6 + 9 * (G 4) + 2) (by omega)), ⟨⟨rfl, rfl⟩, ⟨zixO hA15.2.1 hA15.2.2 (i := 6 + 9 * (G 4) + 2) (by omega) (by decide), zIr ((zIa _ _ _ _).trans (Eq.trans (gU_n _ (by omega)) (Eq.trans (gU_n _ (by omega)) ((hg15 _ (by omega)))))) (⟨(zrgI (x := G (6 + 9 * (G 4) + 2).toNat + eVal B n 1 5 (eKw B n (kwT 6) (eNum B n 0 5 (eKw B n (kwT 5) (eGo B n (eName B n (eGo B n e))))))) (by omega)), ⟨⟨zixW hA15.2.1 hA15.2.2 (i := 6 + 9 * (G 4) + 2) (by omega) (by decide), trivial⟩, zMr (zsI_gU _ _ _ (6 + 9 * (G 4) + 2) _) (fun _ _ => ⟨⟨⟨rfl, rfl⟩, hY15.w.rcv⟩, ⟨rfl, ⟨hY15.w, _, hA15.1, ⟨(zrgI (x := 9 * (G 4)) (by omega)), ⟨(zrgI (x := 6 + 9 * (G 4)) (by omega)), ⟨(zrgI (x := 6 + 9 * (G 4) + 3) (by omega)), ⟨⟨rfl, rfl⟩, ⟨zixO hA15.2.1 hA15.2.2 (i := 6 + 9 * (G 4) + 3) (by omega) (by decide), zIr ((zIa _ _ _ _).trans (Eq.trans (gU_n _ (by omega)) (Eq.trans (gU_n _ (by omega)) (Eq.trans (gU_n _ (by omega)) ((hg15 _ (by omega))))))) (⟨(zrgI (x := G (6 + 9 * (G 4) + 3).toNat + 10) (by omega)), ⟨⟨zixW hA15.2.1 hA15.2.2 (i := 6 + 9 * (G 4) + 3) (by omega) (by decide), trivial⟩, zMr (zsI_gU _ _ _ (6 + 9 * (G 4) + 3) _) (fun _ _ => ⟨hY15.w, _, hA15.1, ⟨⟨rfl, rfl⟩, ⟨zixO hA15.2.1 hA15.2.2 (i := 4) (by decide) (by decide), zIr ((zIa _ _ _ _).trans (Eq.trans (gU_n _ (by omega)) (Eq.trans (gU_n _ (by omega)) (Eq.trans (gU_n _ (by omega)) (Eq.trans (gU_n _ (by omega)) ((hg15 _ (by omega)))))))) (⟨(zrgI (x := G 4 + 1) (by omega)), ⟨⟨zixW hA15.2.1 hA15.2.2 (i := 4) (by decide) (by decide), trivial⟩, zMr (zsI_gU _ _ _ 4 _) ((show K none (zsA M15 672 (gU (gU (gU (gU (gU (zI M15 672) (6 + 9 * (G 4) + 0) (G (6 + 9 * (G 4) + 0).toNat + eNm B n (eGo B n e))) (6 + 9 * (G 4) + 1) (G (6 + 9 * (G 4) + 1).toNat + eVal B n 0 5 (eKw B n (kwT 5) (eGo B n (eName B n (eGo B n e)))))) (6 + 9 * (G 4) + 2) (G (6 + 9 * (G 4) + 2).toNat + eVal B n 1 5 (eKw B n (kwT 6) (eNum B n 0 5 (eKw B n (kwT 5) (eGo B n (eName B n (eGo B n e)))))))) (6 + 9 * (G 4) + 3) (G (6 + 9 * (G 4) + 3).toNat + 10)) 4 (G 4 + 1))) from ?g382l2))⟩⟩)⟩⟩⟩)⟩⟩)⟩⟩⟩⟩⟩⟩⟩⟩)⟩⟩)⟩⟩⟩⟩⟩⟩⟩⟩)⟩⟩)⟩⟩⟩⟩⟩⟩⟩⟩)⟩⟩)⟩⟩⟩⟩⟩⟩⟩⟩, fun (h : (1 : Int) = 0) => absurd h (by decide)⟩⟩⟩)⟩⟩⟩
      case g382l1 =>
        first
        | (exfalso; omega)
        | skip
          have e0 : w0 B n G e = (eGo B n e) := by
            unfold w0
            first | rw [if_pos (show G 4 = 6 by omega)] | rw [if_neg (show ¬ G 4 = 6 by omega)]
          have e1 : w1 B n G e = (eName B n (eGo B n e)) := by
            unfold w1
            rw [e0]
            first
            | rw [if_pos (show ((eName B n (eGo B n e))).1 = 0 ∧ fWith G (eNm B n (eGo B n e)) ≠ -1 by omega)]
            | rw [if_neg (show ¬ (((eName B n (eGo B n e))).1 = 0 ∧ fWith G (eNm B n (eGo B n e)) ≠ -1) by omega)]
          have e4 : w4 B n G e = (eNum B n 1 5 (eKw B n (kwT 6) (eNum B n 0 5 (eKw B n (kwT 5) (eGo B n (eName B n (eGo B n e))))))) := by
            unfold w4 w3 w2
            rw [e1]
          have e9 : ePW B n G e = (eNum B n 1 5 (eKw B n (kwT 6) (eNum B n 0 5 (eKw B n (kwT 5) (eGo B n (eName B n (eGo B n e))))))) := by
            unfold ePW
            rw [e4]
            rw [if_neg (show ¬ eIs B n (kwT 7) (eNum B n 1 5 (eKw B n (kwT 6) (eNum B n 0 5 (eKw B n (kwT 5) (eGo B n (eName B n (eGo B n e))))))) = true by rw [show eIs B n (kwT 7) (eNum B n 1 5 (eKw B n (kwT 6) (eNum B n 0 5 (eKw B n (kwT 5) (eGo B n (eName B n (eGo B n e))))))) = false by assumption]; exact Bool.false_ne_true)]
          have h9 := hP15
          rw [← e9] at h9
          refine hK _ hz15 h9 ?_
          unfold gPW
          rw [e9, if_neg (by omega)]
          exact hg15
      case g382l2 =>
        first
        | (exfalso; omega)
        | skip
          have e0 : w0 B n G e = (eGo B n e) := by
            unfold w0
            first | rw [if_pos (show G 4 = 6 by omega)] | rw [if_neg (show ¬ G 4 = 6 by omega)]
          have e1 : w1 B n G e = (eName B n (eGo B n e)) := by
            unfold w1
            rw [e0]
            first
            | rw [if_pos (show ((eName B n (eGo B n e))).1 = 0 ∧ fWith G (eNm B n (eGo B n e)) ≠ -1 by omega)]
            | rw [if_neg (show ¬ (((eName B n (eGo B n e))).1 = 0 ∧ fWith G (eNm B n (eGo B n e)) ≠ -1) by omega)]
          have e4 : w4 B n G e = (eNum B n 1 5 (eKw B n (kwT 6) (eNum B n 0 5 (eKw B n (kwT 5) (eGo B n (eName B n (eGo B n e))))))) := by
            unfold w4 w3 w2
            rw [e1]
          have e9 : ePW B n G e = (eNum B n 1 5 (eKw B n (kwT 6) (eNum B n 0 5 (eKw B n (kwT 5) (eGo B n (eName B n (eGo B n e))))))) := by
            unfold ePW
            rw [e4]
            rw [if_neg (show ¬ eIs B n (kwT 7) (eNum B n 1 5 (eKw B n (kwT 6) (eNum B n 0 5 (eKw B n (kwT 5) (eGo B n (eName B n (eGo B n e))))))) = true by rw [show eIs B n (kwT 7) (eNum B n 1 5 (eKw B n (kwT 6) (eNum B n 0 5 (eKw B n (kwT 5) (eGo B n (eName B n (eGo B n e))))))) = false by assumption]; exact Bool.false_ne_true)]
          have h9 := hP15
          rw [← e9] at h9
          have e8 : tPW B n G e = 10 := by
            unfold tPW
            rw [e4]
            rw [if_neg (show ¬ eIs B n (kwT 7) (eNum B n 1 5 (eKw B n (kwT 6) (eNum B n 0 5 (eKw B n (kwT 5) (eGo B n (eName B n (eGo B n e))))))) = true by rw [show eIs B n (kwT 7) (eNum B n 1 5 (eKw B n (kwT 6) (eNum B n 0 5 (eKw B n (kwT 5) (eGo B n (eName B n (eGo B n e))))))) = false by assumption]; exact Bool.false_ne_true)]
          refine hK _ (hz15.tr (RXd.a hY15)) (RP.a h9) ?_
          unfold gPW
          rw [e9, if_pos (show ((eNum B n 1 5 (eKw B n (kwT 6) (eNum B n 0 5 (eKw B n (kwT 5) (eGo B n (eName B n (eGo B n e)))))))).1 = 0 by omega), e8]
          unfold w3 w2
          rw [e1, e0]
          exact E516.of (zI_A _ _ _) (F_wk_z hg15 hDZ.1 (by omega))
    case g381l2 =>
      refine zGoR hΦ [47, 76, 99] 400 (fun hL9 _ hM _ _ => ?_)
      obtain ⟨qL1, qL2, qL3, qL4, qL5, _⟩ : zrg (G 4) ∧ zrg (eNm B n (eGo B n e)) ∧ zrg (eVal B n 0 5 (eKw B n (kwT 5) (eGo B n (eName B n (eGo B n e))))) ∧ zrg (eVal B n 1 5 (eKw B n (kwT 6) (eNum B n 0 5 (eKw B n (kwT 5) (eGo B n (eName B n (eGo B n e))))))) ∧ zrg (eVal B n 0 20 (eKw B n (kwT 7) (eNum B n 1 5 (eKw B n (kwT 6) (eNum B n 0 5 (eKw B n (kwT 5) (eGo B n (eName B n (eGo B n e))))))))) ∧ True := hL9
      refine ⟨⟨⟨rfl, rfl⟩, hY16.w.rcv⟩, ⟨rfl, ⟨hY16.w, zIr hP16.2.1.1 (⟨fun (qc226 : (eNum B n 0 20 (eKw B n (kwT 7) (eNum B n 1 5 (eKw B n (kwT 6) (eNum B n 0 5 (eKw B n (kwT 5) (eGo B n (eName B n (eGo B n e))))))))).1 ≠ 0) => ⟨(Or.inl rfl), fun _ _ => ⟨fun (h : (0 : Int) ≠ 0) => absurd h (by decide), fun _ => (show K none M16 from ?g383l1)⟩⟩, fun (qc228 : (eNum B n 0 20 (eKw B n (kwT 7) (eNum B n 1 5 (eKw B n (kwT 6) (eNum B n 0 5 (eKw B n (kwT 5) (eGo B n (eName B n (eGo B n e))))))))).1 = 0) => ⟨(Or.inr rfl), fun _ _ => ⟨fun _ => ⟨⟨⟨rfl, rfl⟩, hY16.w.rcv⟩, ⟨rfl, ⟨hY16.w, _, hA16.1, ⟨(zrgI (x := 9 * (G 4)) (by omega)), ⟨(zrgI (x := 6 + 9 * (G 4)) (by omega)), ⟨(zrgI (x := 6 + 9 * (G 4) + 0) (by omega)), ⟨⟨rfl, rfl⟩, ⟨zixO hA16.2.1 hA16.2.2 (i := 6 + 9 * (G 4) + 0) (by omega) (by decide), zIr (hg16 _ (by omega)) (⟨(zrgI (x := G (6 + 9 * (G 4) + 0).toNat + eNm B n (eGo B n e)) (by omega)), ⟨⟨zixW hA16.2.1 hA16.2.2 (i := 6 + 9 * (G 4) + 0) (by omega) (by decide), trivial⟩, zMr (zsI_g0 _ _ (6 + 9 * (G 4) + 0) _) (fun _ _ => ⟨⟨⟨rfl, rfl⟩, hY16.w.rcv⟩, ⟨rfl, ⟨hY16.w, _, hA16.1, ⟨(zrgI (x := 9 * (G 4)) (by omega)), ⟨(zrgI (x := 6 + 9 * (G 4)) (by omega)), ⟨(zrgI (x := 6 + 9 * (G 4) + 1) (by omega)), ⟨⟨rfl, rfl⟩, ⟨zixO hA16.2.1 hA16.2.2 (i := 6 + 9 * (G 4) + 1) (by omega) (by decide), zIr ((zIa _ _ _ _).trans (Eq.trans (gU_n _ (by omega)) ((hg16 _ (by omega))))) (⟨(zrgI (x := G (6 + 9 * (G 4) + 1).toNat + eVal B n 0 5 (eKw B n (kwT 5) (eGo B n (eName B n (eGo B n e))))) (by omega)), ⟨⟨zixW hA16.2.1 hA16.2.2 (i := 6 + 9 * (G 4) + 1) (by omega) (by decide), trivial⟩, zMr (zsI_gU _ _ _ (6 + 9 * (G 4) + 1) _) (fun _ _ => ⟨⟨⟨rfl, rfl⟩, hY16.w.rcv⟩, ⟨rfl, ⟨hY16.w, _, hA16.1, ⟨(zrgI (x := 9 * (G 4)) (by omega)), ⟨(zrgI (x := 6 + 9 * (G 4)) (by omega)), ⟨(zrgI (x := 6 + 9 * (G 4) + 2) (by omega)), ⟨⟨rfl, rfl⟩, ⟨zixO hA16.2.1 hA16.2.2 (i := 6 + 9 * (G 4) + 2) (by omega) (by decide), zIr ((zIa _ _ _ _).trans (Eq.trans (gU_n _ (by omega)) (Eq.trans (gU_n _ (by omega)) ((hg16 _ (by omega)))))) (⟨(zrgI (x := G (6 + 9 * (G 4) + 2).toNat + eVal B n 1 5 (eKw B n (kwT 6) (eNum B n 0 5 (eKw B n (kwT 5) (eGo B n (eName B n (eGo B n e))))))) (by omega)), ⟨⟨zixW hA16.2.1 hA16.2.2 (i := 6 + 9 * (G 4) + 2) (by omega) (by decide), trivial⟩, zMr (zsI_gU _ _ _ (6 + 9 * (G 4) + 2) _) (fun _ _ => ⟨⟨⟨rfl, rfl⟩, hY16.w.rcv⟩, ⟨rfl, ⟨hY16.w, _, hA16.1, ⟨(zrgI (x := 9 * (G 4)) (by omega)), ⟨(zrgI (x := 6 + 9 * (G 4)) (by omega)), ⟨(zrgI (x := 6 + 9 * (G 4) + 3) (by omega)), ⟨⟨rfl, rfl⟩, ⟨zixO hA16.2.1 hA16.2.2 (i := 6 + 9 * (G 4) + 3) (by omega) (by decide), zIr ((zIa _ _ _ _).trans (Eq.trans (gU_n _ (by omega)) (Eq.trans (gU_n _ (by omega)) (Eq.trans (gU_n _ (by omega)) ((hg16 _ (by omega))))))) (⟨(zrgI (x := G (6 + 9 * (G 4) + 3).toNat + eVal B n 0 20 (eKw B n (kwT 7) (eNum B n 1 5 (eKw B n (kwT 6) (eNum B n 0 5 (eKw B n (kwT 5) (eGo B n (eName B n (eGo B n e))))))))) (by omega)), ⟨⟨zixW hA16.2.1 hA16.2.2 (i := 6 + 9 * (G 4) + 3) (by omega) (by decide), trivial⟩, zMr (zsI_gU _ _ _ (6 + 9 * (G 4) + 3) _) (fun _ _ => ⟨hY16.w, _, hA16.1, ⟨⟨rfl, rfl⟩, ⟨zixO hA16.2.1 hA16.2.2 (i := 4) (by decide) (by decide), zIr ((zIa _ _ _ _).trans (Eq.trans (gU_n _ (by omega)) (Eq.trans (gU_n _ (by omega)) (Eq.trans (gU_n _ (by omega)) (Eq.trans (gU_n _ (by omega)) ((hg16 _ (by omega)))))))) (⟨(zrgI (x := G 4 + 1) (by omega)), ⟨⟨zixW hA16.2.1 hA16.2.2 (i := 4) (by decide) (by decide), trivial⟩, zMr (zsI_gU _ _ _ 4 _) ((show K none (zsA M16 672 (gU (gU (gU (gU (gU (zI M16 672) (6 + 9 * (G 4) + 0) (G (6 + 9 * (G 4) + 0).toNat + eNm B n (eGo B n e))) (6 + 9 * (G 4) + 1) (G (6 + 9 * (G 4) + 1).toNat + eVal B n 0 5 (eKw B n (kwT 5) (eGo B n (eName B n (eGo B n e)))))) (6 + 9 * (G 4) + 2) (G (6 + 9 * (G 4) + 2).toNat + eVal B n 1 5 (eKw B n (kwT 6) (eNum B n 0 5 (eKw B n (kwT 5) (eGo B n (eName B n (eGo B n e)))))))) (6 + 9 * (G 4) + 3) (G (6 + 9 * (G 4) + 3).toNat + eVal B n 0 20 (eKw B n (kwT 7) (eNum B n 1 5 (eKw B n (kwT 6) (eNum B n 0 5 (eKw B n (kwT 5) (eGo B n (eName B n (eGo B n e)))))))))) 4 (G 4 + 1))) from ?g383l2))⟩⟩)⟩⟩⟩)⟩⟩)⟩⟩⟩⟩⟩⟩⟩⟩)⟩⟩)⟩⟩⟩⟩⟩⟩⟩⟩)⟩⟩)⟩⟩⟩⟩⟩⟩⟩⟩)⟩⟩)⟩⟩⟩⟩⟩⟩⟩⟩, fun (h : (1 : Int) = 0) => absurd h (by decide)⟩⟩⟩)⟩⟩⟩
      case g383l1 =>
        first
        | (exfalso; omega)
        | skip
          have e0 : w0 B n G e = (eGo B n e) := by
            unfold w0
            first | rw [if_pos (show G 4 = 6 by omega)] | rw [if_neg (show ¬ G 4 = 6 by omega)]
          have e1 : w1 B n G e = (eName B n (eGo B n e)) := by
            unfold w1
            rw [e0]
            first
            | rw [if_pos (show ((eName B n (eGo B n e))).1 = 0 ∧ fWith G (eNm B n (eGo B n e)) ≠ -1 by omega)]
            | rw [if_neg (show ¬ (((eName B n (eGo B n e))).1 = 0 ∧ fWith G (eNm B n (eGo B n e)) ≠ -1) by omega)]
          have e4 : w4 B n G e = (eNum B n 1 5 (eKw B n (kwT 6) (eNum B n 0 5 (eKw B n (kwT 5) (eGo B n (eName B n (eGo B n e))))))) := by
            unfold w4 w3 w2
            rw [e1]
          have e9 : ePW B n G e = (eNum B n 0 20 (eKw B n (kwT 7) (eNum B n 1 5 (eKw B n (kwT 6) (eNum B n 0 5 (eKw B n (kwT 5) (eGo B n (eName B n (eGo B n e))))))))) := by
            unfold ePW
            rw [e4]
            rw [if_pos (by assumption)]
          have h9 := hP16
          rw [← e9] at h9
          refine hK _ hz16 h9 ?_
          unfold gPW
          rw [e9, if_neg (by omega)]
          exact hg16
      case g383l2 =>
        first
        | (exfalso; omega)
        | skip
          have e0 : w0 B n G e = (eGo B n e) := by
            unfold w0
            first | rw [if_pos (show G 4 = 6 by omega)] | rw [if_neg (show ¬ G 4 = 6 by omega)]
          have e1 : w1 B n G e = (eName B n (eGo B n e)) := by
            unfold w1
            rw [e0]
            first
            | rw [if_pos (show ((eName B n (eGo B n e))).1 = 0 ∧ fWith G (eNm B n (eGo B n e)) ≠ -1 by omega)]
            | rw [if_neg (show ¬ (((eName B n (eGo B n e))).1 = 0 ∧ fWith G (eNm B n (eGo B n e)) ≠ -1) by omega)]
          have e4 : w4 B n G e = (eNum B n 1 5 (eKw B n (kwT 6) (eNum B n 0 5 (eKw B n (kwT 5) (eGo B n (eName B n (eGo B n e))))))) := by
            unfold w4 w3 w2
            rw [e1]
          have e9 : ePW B n G e = (eNum B n 0 20 (eKw B n (kwT 7) (eNum B n 1 5 (eKw B n (kwT 6) (eNum B n 0 5 (eKw B n (kwT 5) (eGo B n (eName B n (eGo B n e))))))))) := by
            unfold ePW
            rw [e4]
            rw [if_pos (by assumption)]
          have h9 := hP16
          rw [← e9] at h9
          have e8 : tPW B n G e = eVal B n 0 20 (eKw B n (kwT 7) (eNum B n 1 5 (eKw B n (kwT 6) (eNum B n 0 5 (eKw B n (kwT 5) (eGo B n (eName B n (eGo B n e)))))))) := by
            unfold tPW
            rw [e4]
            rw [if_pos (by assumption)]
          refine hK _ (hz16.tr (RXd.a hY16)) (RP.a h9) ?_
          unfold gPW
          rw [e9, if_pos (show ((eNum B n 0 20 (eKw B n (kwT 7) (eNum B n 1 5 (eKw B n (kwT 6) (eNum B n 0 5 (eKw B n (kwT 5) (eGo B n (eName B n (eGo B n e)))))))))).1 = 0 by omega), e8]
          unfold w3 w2
          rw [e1, e0]
          exact E516.of (zI_A _ _ _) (F_wk_z hg16 hDZ.1 (by omega))
  case g377l3 =>
    refine zGoR hΦ [47, 76, 99] 400 (fun hL9 _ hM _ _ => ?_)
    obtain ⟨qL1, qL2, _⟩ : zrg (G 4) ∧ zrg (eNm B n (eGo B n e)) ∧ True := hL9
    refine ⟨⟨⟨rfl, rfl⟩, hY3.w.rcv⟩, ⟨B, n, (eErr 3 (eName B n (eGo B n e))), rfl, hY3, hP3, fun M14 hx14 hP14 => (have hY14 := LY.fr hY3 hx14.1; have hz14 := hz3.tr hx14.d; have hi14 : ((eGo B n (eErr 3 (eName B n (eGo B n e))))).1 = 0 → ((eErr 3 (eName B n (eGo B n e)))).1 = 0 := fun q => eGo_i q; have hg14 := E516.of (hx14.1.i hY3.a2 (by unfold S48; omega)) hg3; have hA14 := MA.fr hY3 hA3 hx14.1; fun qg117 qm118 => ⟨⟨⟨rfl, rfl⟩, hY14.w.rcv⟩, ⟨B, n, (eGo B n (eErr 3 (eName B n (eGo B n e)))), 40, (kwT 5), 0, 5, rfl, hY14, hP14, (show zTx _ 40 (kwT 5) from (kc.fr hz14.1).w 5 (by decide)), (by have := kwT_r (i := 5) (by decide); omega), (fun k hk => by have := (kwT_r (i := 5) (by decide)).2 k hk; omega), (by decide), fun M15 hx15 hP15 => (have hY15 := LY.fr hY14 hx15.1; have hz15 := hz14.tr hx15.d; have hi15 : ((eNum B n 0 5 (eKw B n (kwT 5) (eGo B n (eErr 3 (eName B n (eGo B n e))))))).1 = 0 → ((eGo B n (eErr 3 (eName B n (eGo B n e))))).1 = 0 := fun q => eKw_i (eNum_i q); have hg15 := E516.of (hx15.1.i hY14.a2 (by unfold S48; omega)) hg14; have hA15 := MA.fr hY14 hA14 hx15.1; fun (qg119 : zrg (eVal B n 0 5 (eKw B n (kwT 5) (eGo B n (eErr 3 (eName B n (eGo B n e))))))) qm120 => ⟨⟨⟨rfl, rfl⟩, hY15.w.rcv⟩, ⟨B, n, (eNum B n 0 5 (eKw B n (kwT 5) (eGo B n (eErr 3 (eName B n (eGo B n e)))))), 41, (kwT 6), 1, 5, rfl, hY15, hP15, (show zTx _ 41 (kwT 6) from (kc.fr hz15.1).w 6 (by decide)), (by have := kwT_r (i := 6) (by decide); omega), (fun k hk => by have := (kwT_r (i := 6) (by decide)).2 k hk; omega), (by decide), fun M16 hx16 hP16 => (have hY16 := LY.fr hY15 hx16.1; have hz16 := hz15.tr hx16.d; have hi16 : ((eNum B n 1 5 (eKw B n (kwT 6) (eNum B n 0 5 (eKw B n (kwT 5) (eGo B n (eErr 3 (eName B n (eGo B n e))))))))).1 = 0 → ((eNum B n 0 5 (eKw B n (kwT 5) (eGo B n (eErr 3 (eName B n (eGo B n e))))))).1 = 0 := fun q => eKw_i (eNum_i q); have hg16 := E516.of (hx16.1.i hY15.a2 (by unfold S48; omega)) hg15; have hA16 := MA.fr hY15 hA15 hx16.1; fun (qg121 : zrg (eVal B n 1 5 (eKw B n (kwT 6) (eNum B n 0 5 (eKw B n (kwT 5) (eGo B n (eErr 3 (eName B n (eGo B n e))))))))) qm122 => ⟨⟨⟨rfl, rfl⟩, hY16.w.rcv⟩, ⟨B, n, (eNum B n 1 5 (eKw B n (kwT 6) (eNum B n 0 5 (eKw B n (kwT 5) (eGo B n (eErr 3 (eName B n (eGo B n e)))))))), 42, (kwT 7), rfl, hY16, hP16, (show zTx _ 42 (kwT 7) from (kc.fr hz16.1).w 7 (by decide)), (by have := kwT_r (i := 7) (by decide); omega), (fun k hk => by have := (kwT_r (i := 7) (by decide)).2 k hk; omega), fun (qg123 : zrg (b2i (eIs B n (kwT 7) (eNum B n 1 5 (eKw B n (kwT 6) (eNum B n 0 5 (eKw B n (kwT 5) (eGo B n (eErr 3 (eName B n (eGo B n e))))))))))) qm124 => ⟨fun h => (have qc125 : (eIs B n (kwT 7) (eNum B n 1 5 (eKw B n (kwT 6) (eNum B n 0 5 (eKw B n (kwT 5) (eGo B n (eErr 3 (eName B n (eGo B n e))))))))) = false := b2i_e0 h; (show Φ 99 [some (zo 670), some (zi (G 4)), some (zi (eNm B n (eGo B n e))), some (zi (eVal B n 0 5 (eKw B n (kwT 5) (eGo B n (eErr 3 (eName B n (eGo B n e))))))), some (zi (eVal B n 1 5 (eKw B n (kwT 6) (eNum B n 0 5 (eKw B n (kwT 5) (eGo B n (eErr 3 (eName B n (eGo B n e))))))))), some (zi 10)] [zo 670] M16 (0) (0) from ?g384l1)), fun h => (have qc126 : (eIs B n (kwT 7) (eNum B n 1 5 (eKw B n (kwT 6) (eNum B n 0 5 (eKw B n (kwT 5) (eGo B n (eErr 3 (eName B n (eGo B n e))))))))) = true := b2i_n0 h; ⟨⟨⟨rfl, rfl⟩, hY16.w.rcv⟩, ⟨B, n, (eNum B n 1 5 (eKw B n (kwT 6) (eNum B n 0 5 (eKw B n (kwT 5) (eGo B n (eErr 3 (eName B n (eGo B n e)))))))), 42, (kwT 7), 0, 20, rfl, hY16, hP16, (show zTx _ 42 (kwT 7) from (kc.fr hz16.1).w 7 (by decide)), (by have := kwT_r (i := 7) (by decide); omega), (fun k hk => by have := (kwT_r (i := 7) (by decide)).2 k hk; omega), (by decide), fun M17 hx17 hP17 => (have hY17 := LY.fr hY16 hx17.1; have hz17 := hz16.tr hx17.d; have hi17 : ((eNum B n 0 20 (eKw B n (kwT 7) (eNum B n 1 5 (eKw B n (kwT 6) (eNum B n 0 5 (eKw B n (kwT 5) (eGo B n (eErr 3 (eName B n (eGo B n e))))))))))).1 = 0 → ((eNum B n 1 5 (eKw B n (kwT 6) (eNum B n 0 5 (eKw B n (kwT 5) (eGo B n (eErr 3 (eName B n (eGo B n e))))))))).1 = 0 := fun q => eKw_i (eNum_i q); have hg17 := E516.of (hx17.1.i hY16.a2 (by unfold S48; omega)) hg16; have hA17 := MA.fr hY16 hA16 hx17.1; fun (qg127 : zrg (eVal B n 0 20 (eKw B n (kwT 7) (eNum B n 1 5 (eKw B n (kwT 6) (eNum B n 0 5 (eKw B n (kwT 5) (eGo B n (eErr 3 (eName B n (eGo B n e))))))))))) qm128 => (show Φ 99 [some (zo 670), some (zi (G 4)), some (zi (eNm B n (eGo B n e))), some (zi (eVal B n 0 5 (eKw B n (kwT 5) (eGo B n (eErr 3 (eName B n (eGo B n e))))))), some (zi (eVal B n 1 5 (eKw B n (kwT 6) (eNum B n 0 5 (eKw B n (kwT 5) (eGo B n (eErr 3 (eName B n (eGo B n e))))))))), some (zi (eVal B n 0 20 (eKw B n (kwT 7) (eNum B n 1 5 (eKw B n (kwT 6) (eNum B n 0 5 (eKw B n (kwT 5) (eGo B n (eErr 3 (eName B n (eGo B n e)))))))))))] [zo 670] M17 (0) (0) from ?g384l2))⟩⟩)⟩⟩⟩)⟩⟩)⟩⟩)⟩⟩
    case g384l1 =>
      refine zGoR hΦ [47, 76, 99] 400 (fun hL9 _ hM _ _ => ?_)
      obtain ⟨qL1, qL2, qL3, qL4, qL5, _⟩ : zrg (G 4) ∧ zrg (eNm B n (eGo B n e)) ∧ zrg (eVal B n 0 5 (eKw B n (kwT 5) (eGo B n (eErr 3 (eName B n (eGo B n e)))))) ∧ zrg (eVal B n 1 5 (eKw B n (kwT 6) (eNum B n 0 5 (eKw B n (kwT 5) (eGo B n (eErr 3 (eName B n (eGo B n e)))))))) ∧ zrg 10 ∧ True := hL9
      refine ⟨⟨⟨rfl, rfl⟩, hY16.w.rcv⟩, ⟨rfl, ⟨hY16.w, zIr hP16.2.1.1 (⟨fun (qc226 : (eNum B n 1 5 (eKw B n (kwT 6) (eNum B n 0 5 (eKw B n (kwT 5) (eGo B n (eErr 3 (eName B n (eGo B n e)))))))).1 ≠ 0) => ⟨(Or.inl rfl), fun _ _ => ⟨fun (h : (0 : Int) ≠ 0) => absurd h (by decide), fun _ => (show K none M16 from ?g385l1)⟩⟩, fun (qc228 : (eNum B n 1 5 (eKw B n (kwT 6) (eNum B n 0 5 (eKw B n (kwT 5) (eGo B n (eErr 3 (eName B n (eGo B n e)))))))).1 = 0) => ⟨(Or.inr rfl), fun _ _ => ⟨fun _ => ⟨⟨⟨rfl, rfl⟩, hY16.w.rcv⟩, ⟨rfl, ⟨hY16.w, _, hA16.1, ⟨(zrgI (x := 9 * (G 4)) (by omega)), ⟨(zrgI (x := 6 + 9 * (G 4)) (by omega)), ⟨(zrgI (x := 6 + 9 * (G 4) + 0) (by omega)), ⟨⟨rfl, rfl⟩, ⟨zixO hA16.2.1 hA16.2.2 (i := 6 + 9 * (G 4) + 0) (by omega) (by decide), zIr (hg16 _ (by omega)) (⟨(zrgI (x := G (6 + 9 * (G 4) + 0).toNat + eNm B n (eGo B n e)) (by omega)), ⟨⟨zixW hA16.2.1 hA16.2.2 (i := 6 + 9 * (G 4) + 0) (by omega) (by decide), trivial⟩, zMr (zsI_g0 _ _ (6 + 9 * (G 4) + 0) _) (fun _ _ => ⟨⟨⟨rfl, rfl⟩, hY16.w.rcv⟩, ⟨rfl, ⟨hY16.w, _, hA16.1, ⟨(zrgI (x := 9 * (G 4)) (by omega)), ⟨(zrgI (x := 6 + 9 * (G 4)) (by omega)), ⟨(zrgI (x := 6 + 9 * (G 4) + 1) (by omega)), ⟨⟨rfl, rfl⟩, ⟨zixO hA16.2.1 hA16.2.2 (i := 6 + 9 * (G 4) + 1) (by omega) (by decide), zIr ((zIa _ _ _ _).trans (Eq.trans (gU_n _ (by omega)) ((hg16 _ (by omega))))) (⟨(zrgI (x := G (6 + 9 * (G 4) + 1).toNat + eVal B n 0 5 (eKw B n (kwT 5) (eGo B n (eErr 3 (eName B n (eGo B n e)))))) (by omega)), ⟨⟨zixW hA16.2.1 hA16.2.2 (i := 6 + 9 * (G 4) + 1) (by omega) (by decide), trivial⟩, zMr (zsI_gU _ _ _ (6 + 9 * (G 4) + 1) _) (fun _ _ => ⟨⟨⟨rfl, rfl⟩, hY16.w.rcv⟩, ⟨rfl, ⟨hY16.w, _, hA16.1, ⟨(zrgI (x := 9 * (G 4)) (by omega)), ⟨(zrgI (x := 6 + 9 * (G 4)) (by omega)), ⟨(zrgI (x := 6 + 9 * (G 4) + 2) (by omega)), ⟨⟨rfl, rfl⟩, ⟨zixO hA16.2.1 hA16.2.2 (i := 6 + 9 * (G 4) + 2) (by omega) (by decide), zIr ((zIa _ _ _ _).trans (Eq.trans (gU_n _ (by omega)) (Eq.trans (gU_n _ (by omega)) ((hg16 _ (by omega)))))) (⟨(zrgI (x := G (6 + 9 * (G 4) + 2).toNat + eVal B n 1 5 (eKw B n (kwT 6) (eNum B n 0 5 (eKw B n (kwT 5) (eGo B n (eErr 3 (eName B n (eGo B n e)))))))) (by omega)), ⟨⟨zixW hA16.2.1 hA16.2.2 (i := 6 + 9 * (G 4) + 2) (by omega) (by decide), trivial⟩, zMr (zsI_gU _ _ _ (6 + 9 * (G 4) + 2) _) (fun _ _ => ⟨⟨⟨rfl, rfl⟩, hY16.w.rcv⟩, ⟨rfl, ⟨hY16.w, _, hA16.1, ⟨(zrgI (x := 9 * (G 4)) (by omega)), ⟨(zrgI (x := 6 + 9 * (G 4)) (by omega)), ⟨(zrgI (x := 6 + 9 * (G 4) + 3) (by omega)), ⟨⟨rfl, rfl⟩, ⟨zixO hA16.2.1 hA16.2.2 (i := 6 + 9 * (G 4) + 3) (by omega) (by decide), zIr ((zIa _ _ _ _).trans (Eq.trans (gU_n _ (by omega)) (Eq.trans (gU_n _ (by omega)) (Eq.trans (gU_n _ (by omega)) ((hg16 _ (by omega))))))) (⟨(zrgI (x := G (6 + 9 * (G 4) + 3).toNat + 10) (by omega)), ⟨⟨zixW hA16.2.1 hA16.2.2 (i := 6 + 9 * (G 4) + 3) (by omega) (by decide), trivial⟩, zMr (zsI_gU _ _ _ (6 + 9 * (G 4) + 3) _) (fun _ _ => ⟨hY16.w, _, hA16.1, ⟨⟨rfl, rfl⟩, ⟨zixO hA16.2.1 hA16.2.2 (i := 4) (by decide) (by decide), zIr ((zIa _ _ _ _).trans (Eq.trans (gU_n _ (by omega)) (Eq.trans (gU_n _ (by omega)) (Eq.trans (gU_n _ (by omega)) (Eq.trans (gU_n _ (by omega)) ((hg16 _ (by omega)))))))) (⟨(zrgI (x := G 4 + 1) (by omega)), ⟨⟨zixW hA16.2.1 hA16.2.2 (i := 4) (by decide) (by decide), trivial⟩, zMr (zsI_gU _ _ _ 4 _) ((show K none (zsA M16 672 (gU (gU (gU (gU (gU (zI M16 672) (6 + 9 * (G 4) + 0) (G (6 + 9 * (G 4) + 0).toNat + eNm B n (eGo B n e))) (6 + 9 * (G 4) + 1) (G (6 + 9 * (G 4) + 1).toNat + eVal B n 0 5 (eKw B n (kwT 5) (eGo B n (eErr 3 (eName B n (eGo B n e))))))) (6 + 9 * (G 4) + 2) (G (6 + 9 * (G 4) + 2).toNat + eVal B n 1 5 (eKw B n (kwT 6) (eNum B n 0 5 (eKw B n (kwT 5) (eGo B n (eErr 3 (eName B n (eGo B n e))))))))) (6 + 9 * (G 4) + 3) (G (6 + 9 * (G 4) + 3).toNat + 10)) 4 (G 4 + 1))) from ?g385l2))⟩⟩)⟩⟩⟩)⟩⟩)⟩⟩⟩⟩⟩⟩⟩⟩)⟩⟩)⟩⟩⟩⟩⟩⟩⟩⟩)⟩⟩)⟩⟩⟩⟩⟩⟩⟩⟩)⟩⟩)⟩⟩⟩⟩⟩⟩⟩⟩, fun (h : (1 : Int) = 0) => absurd h (by decide)⟩⟩⟩)⟩⟩⟩
      case g385l1 =>
        first
        | (exfalso; omega)
        | skip
          have e0 : w0 B n G e = (eGo B n e) := by
            unfold w0
            first | rw [if_pos (show G 4 = 6 by omega)] | rw [if_neg (show ¬ G 4 = 6 by omega)]
          have e1 : w1 B n G e = (eErr 3 (eName B n (eGo B n e))) := by
            unfold w1
            rw [e0]
            first
            | rw [if_pos (show ((eName B n (eGo B n e))).1 = 0 ∧ fWith G (eNm B n (eGo B n e)) ≠ -1 by omega)]
            | rw [if_neg (show ¬ (((eName B n (eGo B n e))).1 = 0 ∧ fWith G (eNm B n (eGo B n e)) ≠ -1) by omega)]
          have e4 : w4 B n G e = (eNum B n 1 5 (eKw B n (kwT 6) (eNum B n 0 5 (eKw B n (kwT 5) (eGo B n (eErr 3 (eName B n (eGo B n e)))))))) := by
            unfold w4 w3 w2
            rw [e1]
          have e9 : ePW B n G e = (eNum B n 1 5 (eKw B n (kwT 6) (eNum B n 0 5 (eKw B n (kwT 5) (eGo B n (eErr 3 (eName B n (eGo B n e)))))))) := by
            unfold ePW
            rw [e4]
            rw [if_neg (show ¬ eIs B n (kwT 7) (eNum B n 1 5 (eKw B n (kwT 6) (eNum B n 0 5 (eKw B n (kwT 5) (eGo B n (eErr 3 (eName B n (eGo B n e)))))))) = true by rw [show eIs B n (kwT 7) (eNum B n 1 5 (eKw B n (kwT 6) (eNum B n 0 5 (eKw B n (kwT 5) (eGo B n (eErr 3 (eName B n (eGo B n e)))))))) = false by assumption]; exact Bool.false_ne_true)]
          have h9 := hP16
          rw [← e9] at h9
          refine hK _ hz16 h9 ?_
          unfold gPW
          rw [e9, if_neg (by omega)]
          exact hg16
      case g385l2 =>
        first
        | (exfalso; omega)
        | skip
          have e0 : w0 B n G e = (eGo B n e) := by
            unfold w0
            first | rw [if_pos (show G 4 = 6 by omega)] | rw [if_neg (show ¬ G 4 = 6 by omega)]
          have e1 : w1 B n G e = (eErr 3 (eName B n (eGo B n e))) := by
            unfold w1
            rw [e0]
            first
            | rw [if_pos (show ((eName B n (eGo B n e))).1 = 0 ∧ fWith G (eNm B n (eGo B n e)) ≠ -1 by omega)]
            | rw [if_neg (show ¬ (((eName B n (eGo B n e))).1 = 0 ∧ fWith G (eNm B n (eGo B n e)) ≠ -1) by omega)]
          have e4 : w4 B n G e = (eNum B n 1 5 (eKw B n (kwT 6) (eNum B n 0 5 (eKw B n (kwT 5) (eGo B n (eErr 3 (eName B n (eGo B n e)))))))) := by
            unfold w4 w3 w2
            rw [e1]
          have e9 : ePW B n G e = (eNum B n 1 5 (eKw B n (kwT 6) (eNum B n 0 5 (eKw B n (kwT 5) (eGo B n (eErr 3 (eName B n (eGo B n e)))))))) := by
            unfold ePW
            rw [e4]
            rw [if_neg (show ¬ eIs B n (kwT 7) (eNum B n 1 5 (eKw B n (kwT 6) (eNum B n 0 5 (eKw B n (kwT 5) (eGo B n (eErr 3 (eName B n (eGo B n e)))))))) = true by rw [show eIs B n (kwT 7) (eNum B n 1 5 (eKw B n (kwT 6) (eNum B n 0 5 (eKw B n (kwT 5) (eGo B n (eErr 3 (eName B n (eGo B n e)))))))) = false by assumption]; exact Bool.false_ne_true)]
          have h9 := hP16
          rw [← e9] at h9
          have e8 : tPW B n G e = 10 := by
            unfold tPW
            rw [e4]
            rw [if_neg (show ¬ eIs B n (kwT 7) (eNum B n 1 5 (eKw B n (kwT 6) (eNum B n 0 5 (eKw B n (kwT 5) (eGo B n (eErr 3 (eName B n (eGo B n e)))))))) = true by rw [show eIs B n (kwT 7) (eNum B n 1 5 (eKw B n (kwT 6) (eNum B n 0 5 (eKw B n (kwT 5) (eGo B n (eErr 3 (eName B n (eGo B n e)))))))) = false by assumption]; exact Bool.false_ne_true)]
          refine hK _ (hz16.tr (RXd.a hY16)) (RP.a h9) ?_
          unfold gPW
          rw [e9, if_pos (show ((eNum B n 1 5 (eKw B n (kwT 6) (eNum B n 0 5 (eKw B n (kwT 5) (eGo B n (eErr 3 (eName B n (eGo B n e))))))))).1 = 0 by omega), e8]
          unfold w3 w2
          rw [e1, e0]
          exact E516.of (zI_A _ _ _) (F_wk_z hg16 hDZ.1 (by omega))
    case g384l2 =>
      refine zGoR hΦ [47, 76, 99] 400 (fun hL9 _ hM _ _ => ?_)
      obtain ⟨qL1, qL2, qL3, qL4, qL5, _⟩ : zrg (G 4) ∧ zrg (eNm B n (eGo B n e)) ∧ zrg (eVal B n 0 5 (eKw B n (kwT 5) (eGo B n (eErr 3 (eName B n (eGo B n e)))))) ∧ zrg (eVal B n 1 5 (eKw B n (kwT 6) (eNum B n 0 5 (eKw B n (kwT 5) (eGo B n (eErr 3 (eName B n (eGo B n e)))))))) ∧ zrg (eVal B n 0 20 (eKw B n (kwT 7) (eNum B n 1 5 (eKw B n (kwT 6) (eNum B n 0 5 (eKw B n (kwT 5) (eGo B n (eErr 3 (eName B n (eGo B n e)))))))))) ∧ True := hL9
      refine ⟨⟨⟨rfl, rfl⟩, hY17.w.rcv⟩, ⟨rfl, ⟨hY17.w, zIr hP17.2.1.1 (⟨fun (qc229 : (eNum B n 0 20 (eKw B n (kwT 7) (eNum B n 1 5 (eKw B n (kwT 6) (eNum B n 0 5 (eKw B n (kwT 5) (eGo B n (eErr 3 (eName B n (eGo B n e)))))))))).1 ≠ 0) => ⟨(Or.inl rfl), fun _ _ => ⟨fun (h : (0 : Int) ≠ 0) => absurd h (by decide), fun _ => (show K none M17 from ?g386l1)⟩⟩, fun (qc231 : (eNum B n 0 20 (eKw B n (kwT 7) (eNum B n 1 5 (eKw B n (kwT 6) (eNum B n 0 5 (eKw B n (kwT 5) (eGo B n (eErr 3 (eName B n (eGo B n e)))))))))).1 = 0) => ⟨(Or.inr rfl), fun _ _ => ⟨fun _ => ⟨⟨⟨rfl, rfl⟩, hY17.w.rcv⟩, ⟨rfl, ⟨hY17.w, _, hA17.1, ⟨(zrgI (x := 9 * (G 4)) (by omega)), ⟨(zrgI (x := 6 + 9 * (G 4)) (by omega)), ⟨(zrgI (x := 6 + 9 * (G 4) + 0) (by omega)), ⟨⟨rfl, rfl⟩, ⟨zixO hA17.2.1 hA17.2.2 (i := 6 + 9 * (G 4) + 0) (by omega) (by decide), zIr (hg17 _ (by omega)) (⟨(zrgI (x := G (6 + 9 * (G 4) + 0).toNat + eNm B n (eGo B n e)) (by omega)), ⟨⟨zixW hA17.2.1 hA17.2.2 (i := 6 + 9 * (G 4) + 0) (by omega) (by decide), trivial⟩, zMr (zsI_g0 _ _ (6 + 9 * (G 4) + 0) _) (fun _ _ => ⟨⟨⟨rfl, rfl⟩, hY17.w.rcv⟩, ⟨rfl, ⟨hY17.w, _, hA17.1, ⟨(zrgI (x := 9 * (G 4)) (by omega)), ⟨(zrgI (x := 6 + 9 * (G 4)) (by omega)), ⟨(zrgI (x := 6 + 9 * (G 4) + 1) (by omega)), ⟨⟨rfl, rfl⟩, ⟨zixO hA17.2.1 hA17.2.2 (i := 6 + 9 * (G 4) + 1) (by omega) (by decide), zIr ((zIa _ _ _ _).trans (Eq.trans (gU_n _ (by omega)) ((hg17 _ (by omega))))) (⟨(zrgI (x := G (6 + 9 * (G 4) + 1).toNat + eVal B n 0 5 (eKw B n (kwT 5) (eGo B n (eErr 3 (eName B n (eGo B n e)))))) (by omega)), ⟨⟨zixW hA17.2.1 hA17.2.2 (i := 6 + 9 * (G 4) + 1) (by omega) (by decide), trivial⟩, zMr (zsI_gU _ _ _ (6 + 9 * (G 4) + 1) _) (fun _ _ => ⟨⟨⟨rfl, rfl⟩, hY17.w.rcv⟩, ⟨rfl, ⟨hY17.w, _, hA17.1, ⟨(zrgI (x := 9 * (G 4)) (by omega)), ⟨(zrgI (x := 6 + 9 * (G 4)) (by omega)), ⟨(zrgI (x := 6 + 9 * (G 4) + 2) (by omega)), ⟨⟨rfl, rfl⟩, ⟨zixO hA17.2.1 hA17.2.2 (i := 6 + 9 * (G 4) + 2) (by omega) (by decide), zIr ((zIa _ _ _ _).trans (Eq.trans (gU_n _ (by omega)) (Eq.trans (gU_n _ (by omega)) ((hg17 _ (by omega)))))) (⟨(zrgI (x := G (6 + 9 * (G 4) + 2).toNat + eVal B n 1 5 (eKw B n (kwT 6) (eNum B n 0 5 (eKw B n (kwT 5) (eGo B n (eErr 3 (eName B n (eGo B n e)))))))) (by omega)), ⟨⟨zixW hA17.2.1 hA17.2.2 (i := 6 + 9 * (G 4) + 2) (by omega) (by decide), trivial⟩, zMr (zsI_gU _ _ _ (6 + 9 * (G 4) + 2) _) (fun _ _ => ⟨⟨⟨rfl, rfl⟩, hY17.w.rcv⟩, ⟨rfl, ⟨hY17.w, _, hA17.1, ⟨(zrgI (x := 9 * (G 4)) (by omega)), ⟨(zrgI (x := 6 + 9 * (G 4)) (by omega)), ⟨(zrgI (x := 6 + 9 * (G 4) + 3) (by omega)), ⟨⟨rfl, rfl⟩, ⟨zixO hA17.2.1 hA17.2.2 (i := 6 + 9 * (G 4) + 3) (by omega) (by decide), zIr ((zIa _ _ _ _).trans (Eq.trans (gU_n _ (by omega)) (Eq.trans (gU_n _ (by omega)) (Eq.trans (gU_n _ (by omega)) ((hg17 _ (by omega))))))) (⟨(zrgI (x := G (6 + 9 * (G 4) + 3).toNat + eVal B n 0 20 (eKw B n (kwT 7) (eNum B n 1 5 (eKw B n (kwT 6) (eNum B n 0 5 (eKw B n (kwT 5) (eGo B n (eErr 3 (eName B n (eGo B n e)))))))))) (by omega)), ⟨⟨zixW hA17.2.1 hA17.2.2 (i := 6 + 9 * (G 4) + 3) (by omega) (by decide), trivial⟩, zMr (zsI_gU _ _ _ (6 + 9 * (G 4) + 3) _) (fun _ _ => ⟨hY17.w, _, hA17.1, ⟨⟨rfl, rfl⟩, ⟨zixO hA17.2.1 hA17.2.2 (i := 4) (by decide) (by decide), zIr ((zIa _ _ _ _).trans (Eq.trans (gU_n _ (by omega)) (Eq.trans (gU_n _ (by omega)) (Eq.trans (gU_n _ (by omega)) (Eq.trans (gU_n _ (by omega)) ((hg17 _ (by omega)))))))) (⟨(zrgI (x := G 4 + 1) (by omega)), ⟨⟨zixW hA17.2.1 hA17.2.2 (i := 4) (by decide) (by decide), trivial⟩, zMr (zsI_gU _ _ _ 4 _) ((show K none (zsA M17 672 (gU (gU (gU (gU (gU (zI M17 672) (6 + 9 * (G 4) + 0) (G (6 + 9 * (G 4) + 0).toNat + eNm B n (eGo B n e))) (6 + 9 * (G 4) + 1) (G (6 + 9 * (G 4) + 1).toNat + eVal B n 0 5 (eKw B n (kwT 5) (eGo B n (eErr 3 (eName B n (eGo B n e))))))) (6 + 9 * (G 4) + 2) (G (6 + 9 * (G 4) + 2).toNat + eVal B n 1 5 (eKw B n (kwT 6) (eNum B n 0 5 (eKw B n (kwT 5) (eGo B n (eErr 3 (eName B n (eGo B n e))))))))) (6 + 9 * (G 4) + 3) (G (6 + 9 * (G 4) + 3).toNat + eVal B n 0 20 (eKw B n (kwT 7) (eNum B n 1 5 (eKw B n (kwT 6) (eNum B n 0 5 (eKw B n (kwT 5) (eGo B n (eErr 3 (eName B n (eGo B n e))))))))))) 4 (G 4 + 1))) from ?g386l2))⟩⟩)⟩⟩⟩)⟩⟩)⟩⟩⟩⟩⟩⟩⟩⟩)⟩⟩)⟩⟩⟩⟩⟩⟩⟩⟩)⟩⟩)⟩⟩⟩⟩⟩⟩⟩⟩)⟩⟩)⟩⟩⟩⟩⟩⟩⟩⟩, fun (h : (1 : Int) = 0) => absurd h (by decide)⟩⟩⟩)⟩⟩⟩
      case g386l1 =>
        first
        | (exfalso; omega)
        | skip
          have e0 : w0 B n G e = (eGo B n e) := by
            unfold w0
            first | rw [if_pos (show G 4 = 6 by omega)] | rw [if_neg (show ¬ G 4 = 6 by omega)]
          have e1 : w1 B n G e = (eErr 3 (eName B n (eGo B n e))) := by
            unfold w1
            rw [e0]
            first
            | rw [if_pos (show ((eName B n (eGo B n e))).1 = 0 ∧ fWith G (eNm B n (eGo B n e)) ≠ -1 by omega)]
            | rw [if_neg (show ¬ (((eName B n (eGo B n e))).1 = 0 ∧ fWith G (eNm B n (eGo B n e)) ≠ -1) by omega)]
          have e4 : w4 B n G e = (eNum B n 1 5 (eKw B n (kwT 6) (eNum B n 0 5 (eKw B n (kwT 5) (eGo B n (eErr 3 (eName B n (eGo B n e)))))))) := by
            unfold w4 w3 w2
            rw [e1]
          have e9 : ePW B n G e = (eNum B n 0 20 (eKw B n (kwT 7) (eNum B n 1 5 (eKw B n (kwT 6) (eNum B n 0 5 (eKw B n (kwT 5) (eGo B n (eErr 3 (eName B n (eGo B n e)))))))))) := by
            unfold ePW
            rw [e4]
            rw [if_pos (by assumption)]
          have h9 := hP17
          rw [← e9] at h9
          refine hK _ hz17 h9 ?_
          unfold gPW
          rw [e9, if_neg (by omega)]
          exact hg17
      case g386l2 =>
        first
        | (exfalso; omega)
        | skip
          have e0 : w0 B n G e = (eGo B n e) := by
            unfold w0
            first | rw [if_pos (show G 4 = 6 by omega)] | rw [if_neg (show ¬ G 4 = 6 by omega)]
          have e1 : w1 B n G e = (eErr 3 (eName B n (eGo B n e))) := by
            unfold w1
            rw [e0]
            first
            | rw [if_pos (show ((eName B n (eGo B n e))).1 = 0 ∧ fWith G (eNm B n (eGo B n e)) ≠ -1 by omega)]
            | rw [if_neg (show ¬ (((eName B n (eGo B n e))).1 = 0 ∧ fWith G (eNm B n (eGo B n e)) ≠ -1) by omega)]
          have e4 : w4 B n G e = (eNum B n 1 5 (eKw B n (kwT 6) (eNum B n 0 5 (eKw B n (kwT 5) (eGo B n (eErr 3 (eName B n (eGo B n e)))))))) := by
            unfold w4 w3 w2
            rw [e1]
          have e9 : ePW B n G e = (eNum B n 0 20 (eKw B n (kwT 7) (eNum B n 1 5 (eKw B n (kwT 6) (eNum B n 0 5 (eKw B n (kwT 5) (eGo B n (eErr 3 (eName B n (eGo B n e)))))))))) := by
            unfold ePW
            rw [e4]
            rw [if_pos (by assumption)]
          have h9 := hP17
          rw [← e9] at h9
          have e8 : tPW B n G e = eVal B n 0 20 (eKw B n (kwT 7) (eNum B n 1 5 (eKw B n (kwT 6) (eNum B n 0 5 (eKw B n (kwT 5) (eGo B n (eErr 3 (eName B n (eGo B n e))))))))) := by
            unfold tPW
            rw [e4]
            rw [if_pos (by assumption)]
          refine hK _ (hz17.tr (RXd.a hY17)) (RP.a h9) ?_
          unfold gPW
          rw [e9, if_pos (show ((eNum B n 0 20 (eKw B n (kwT 7) (eNum B n 1 5 (eKw B n (kwT 6) (eNum B n 0 5 (eKw B n (kwT 5) (eGo B n (eErr 3 (eName B n (eGo B n e))))))))))).1 = 0 by omega), e8]
          unfold w3 w2
          rw [e1, e0]
          exact E516.of (zI_A _ _ _) (F_wk_z hg17 hDZ.1 (by omega))
  case g377l4 =>
    refine zGoR hΦ [47, 76, 99] 400 (fun hL9 _ hM _ _ => ?_)
    obtain ⟨qL1, qL2, _⟩ : zrg (G 4) ∧ zrg (eNm B n (eGo B n (eErr 4 e))) ∧ True := hL9
    refine ⟨⟨⟨rfl, rfl⟩, hY6.w.rcv⟩, ⟨B, n, (eName B n (eGo B n (eErr 4 e))), rfl, hY6, hP6, fun M17 hx17 hP17 => (have hY17 := LY.fr hY6 hx17.1; have hz17 := hz6.tr hx17.d; have hi17 : ((eGo B n (eName B n (eGo B n (eErr 4 e))))).1 = 0 → ((eName B n (eGo B n (eErr 4 e)))).1 = 0 := fun q => eGo_i q; have hg17 := E516.of (hx17.1.i hY6.a2 (by unfold S48; omega)) hg6; have hA17 := MA.fr hY6 hA6 hx17.1; fun qg126 qm127 => ⟨⟨⟨rfl, rfl⟩, hY17.w.rcv⟩, ⟨B, n, (eGo B n (eName B n (eGo B n (eErr 4 e)))), 40, (kwT 5), 0, 5, rfl, hY17, hP17, (show zTx _ 40 (kwT 5) from (kc.fr hz17.1).w 5 (by decide)), (by have := kwT_r (i := 5) (by decide); omega), (fun k hk => by have := (kwT_r (i := 5) (by decide)).2 k hk; omega), (by decide), fun M18 hx18 hP18 => (have hY18 := LY.fr hY17 hx18.1; have hz18 := hz17.tr hx18.d; have hi18 : ((eNum B n 0 5 (eKw B n (kwT 5) (eGo B n (eName B n (eGo B n (eErr 4 e))))))).1 = 0 → ((eGo B n (eName B n (eGo B n (eErr 4 e))))).1 = 0 := fun q => eKw_i (eNum_i q); have hg18 := E516.of (hx18.1.i hY17.a2 (by unfold S48; omega)) hg17; have hA18 := MA.fr hY17 hA17 hx18.1; fun (qg128 : zrg (eVal B n 0 5 (eKw B n (kwT 5) (eGo B n (eName B n (eGo B n (eErr 4 e))))))) qm129 => ⟨⟨⟨rfl, rfl⟩, hY18.w.rcv⟩, ⟨B, n, (eNum B n 0 5 (eKw B n (kwT 5) (eGo B n (eName B n (eGo B n (eErr 4 e)))))), 41, (kwT 6), 1, 5, rfl, hY18, hP18, (show zTx _ 41 (kwT 6) from (kc.fr hz18.1).w 6 (by decide)), (by have := kwT_r (i := 6) (by decide); omega), (fun k hk => by have := (kwT_r (i := 6) (by decide)).2 k hk; omega), (by decide), fun M19 hx19 hP19 => (have hY19 := LY.fr hY18 hx19.1; have hz19 := hz18.tr hx19.d; have hi19 : ((eNum B n 1 5 (eKw B n (kwT 6) (eNum B n 0 5 (eKw B n (kwT 5) (eGo B n (eName B n (eGo B n (eErr 4 e))))))))).1 = 0 → ((eNum B n 0 5 (eKw B n (kwT 5) (eGo B n (eName B n (eGo B n (eErr 4 e))))))).1 = 0 := fun q => eKw_i (eNum_i q); have hg19 := E516.of (hx19.1.i hY18.a2 (by unfold S48; omega)) hg18; have hA19 := MA.fr hY18 hA18 hx19.1; fun (qg130 : zrg (eVal B n 1 5 (eKw B n (kwT 6) (eNum B n 0 5 (eKw B n (kwT 5) (eGo B n (eName B n (eGo B n (eErr 4 e))))))))) qm131 => ⟨⟨⟨rfl, rfl⟩, hY19.w.rcv⟩, ⟨B, n, (eNum B n 1 5 (eKw B n (kwT 6) (eNum B n 0 5 (eKw B n (kwT 5) (eGo B n (eName B n (eGo B n (eErr 4 e)))))))), 42, (kwT 7), rfl, hY19, hP19, (show zTx _ 42 (kwT 7) from (kc.fr hz19.1).w 7 (by decide)), (by have := kwT_r (i := 7) (by decide); omega), (fun k hk => by have := (kwT_r (i := 7) (by decide)).2 k hk; omega), fun (qg132 : zrg (b2i (eIs B n (kwT 7) (eNum B n 1 5 (eKw B n (kwT 6) (eNum B n 0 5 (eKw B n (kwT 5) (eGo B n (eName B n (eGo B n (eErr 4 e))))))))))) qm133 => ⟨fun h => (have qc134 : (eIs B n (kwT 7) (eNum B n 1 5 (eKw B n (kwT 6) (eNum B n 0 5 (eKw B n (kwT 5) (eGo B n (eName B n (eGo B n (eErr 4 e))))))))) = false := b2i_e0 h; (show Φ 99 [some (zo 670), some (zi (G 4)), some (zi (eNm B n (eGo B n (eErr 4 e)))), some (zi (eVal B n 0 5 (eKw B n (kwT 5) (eGo B n (eName B n (eGo B n (eErr 4 e))))))), some (zi (eVal B n 1 5 (eKw B n (kwT 6) (eNum B n 0 5 (eKw B n (kwT 5) (eGo B n (eName B n (eGo B n (eErr 4 e))))))))), some (zi 10)] [zo 670] M19 (0) (0) from ?g387l1)), fun h => (have qc135 : (eIs B n (kwT 7) (eNum B n 1 5 (eKw B n (kwT 6) (eNum B n 0 5 (eKw B n (kwT 5) (eGo B n (eName B n (eGo B n (eErr 4 e))))))))) = true := b2i_n0 h; ⟨⟨⟨rfl, rfl⟩, hY19.w.rcv⟩, ⟨B, n, (eNum B n 1 5 (eKw B n (kwT 6) (eNum B n 0 5 (eKw B n (kwT 5) (eGo B n (eName B n (eGo B n (eErr 4 e)))))))), 42, (kwT 7), 0, 20, rfl, hY19, hP19, (show zTx _ 42 (kwT 7) from (kc.fr hz19.1).w 7 (by decide)), (by have := kwT_r (i := 7) (by decide); omega), (fun k hk => by have := (kwT_r (i := 7) (by decide)).2 k hk; omega), (by decide), fun M20 hx20 hP20 => (have hY20 := LY.fr hY19 hx20.1; have hz20 := hz19.tr hx20.d; have hi20 : ((eNum B n 0 20 (eKw B n (kwT 7) (eNum B n 1 5 (eKw B n (kwT 6) (eNum B n 0 5 (eKw B n (kwT 5) (eGo B n (eName B n (eGo B n (eErr 4 e))))))))))).1 = 0 → ((eNum B n 1 5 (eKw B n (kwT 6) (eNum B n 0 5 (eKw B n (kwT 5) (eGo B n (eName B n (eGo B n (eErr 4 e))))))))).1 = 0 := fun q => eKw_i (eNum_i q); have hg20 := E516.of (hx20.1.i hY19.a2 (by unfold S48; omega)) hg19; have hA20 := MA.fr hY19 hA19 hx20.1; fun (qg136 : zrg (eVal B n 0 20 (eKw B n (kwT 7) (eNum B n 1 5 (eKw B n (kwT 6) (eNum B n 0 5 (eKw B n (kwT 5) (eGo B n (eName B n (eGo B n (eErr 4 e))))))))))) qm137 => (show Φ 99 [some (zo 670), some (zi (G 4)), some (zi (eNm B n (eGo B n (eErr 4 e)))), some (zi (eVal B n 0 5 (eKw B n (kwT 5) (eGo B n (eName B n (eGo B n (eErr 4 e))))))), some (zi (eVal B n 1 5 (eKw B n (kwT 6) (eNum B n 0 5 (eKw B n (kwT 5) (eGo B n (eName B n (eGo B n (eErr 4 e))))))))), some (zi (eVal B n 0 20 (eKw B n (kwT 7) (eNum B n 1 5 (eKw B n (kwT 6) (eNum B n 0 5 (eKw B n (kwT 5) (eGo B n (eName B n (eGo B n (eErr 4 e)))))))))))] [zo 670] M20 (0) (0) from ?g387l2))⟩⟩)⟩⟩⟩)⟩⟩)⟩⟩)⟩⟩
    case g387l1 =>
      refine zGoR hΦ [47, 76, 99] 400 (fun hL9 _ hM _ _ => ?_)
      obtain ⟨qL1, qL2, qL3, qL4, qL5, _⟩ : zrg (G 4) ∧ zrg (eNm B n (eGo B n (eErr 4 e))) ∧ zrg (eVal B n 0 5 (eKw B n (kwT 5) (eGo B n (eName B n (eGo B n (eErr 4 e)))))) ∧ zrg (eVal B n 1 5 (eKw B n (kwT 6) (eNum B n 0 5 (eKw B n (kwT 5) (eGo B n (eName B n (eGo B n (eErr 4 e)))))))) ∧ zrg 10 ∧ True := hL9
      refine ⟨⟨⟨rfl, rfl⟩, hY19.w.rcv⟩, ⟨rfl, ⟨hY19.w, zIr hP19.2.1.1 (⟨fun (qc235 : (eNum B n 1 5 (eKw B n (kwT 6) (eNum B n 0 5 (eKw B n (kwT 5) (eGo B n (eName B n (eGo B n (eErr 4 e)))))))).1 ≠ 0) => ⟨(Or.inl rfl), fun _ _ => ⟨fun (h : (0 : Int) ≠ 0) => absurd h (by decide), fun _ => (show K none M19 from ?g388l1)⟩⟩, fun (qc237 : (eNum B n 1 5 (eKw B n (kwT 6) (eNum B n 0 5 (eKw B n (kwT 5) (eGo B n (eName B n (eGo B n (eErr 4 e)))))))).1 = 0) => ⟨(Or.inr rfl), fun _ _ => ⟨fun _ => ⟨⟨⟨rfl, rfl⟩, hY19.w.rcv⟩, ⟨rfl, ⟨hY19.w, _, hA19.1, ⟨(zrgI (x := 9 * (G 4)) (by omega)), ⟨(zrgI (x := 6 + 9 * (G 4)) (by omega)), ⟨(zrgI (x := 6 + 9 * (G 4) + 0) (by omega)), ⟨⟨rfl, rfl⟩, ⟨zixO hA19.2.1 hA19.2.2 (i := 6 + 9 * (G 4) + 0) (by omega) (by decide), zIr (hg19 _ (by omega)) (⟨(zrgI (x := G (6 + 9 * (G 4) + 0).toNat + eNm B n (eGo B n (eErr 4 e))) (by omega)), ⟨⟨zixW hA19.2.1 hA19.2.2 (i := 6 + 9 * (G 4) + 0) (by omega) (by decide), trivial⟩, zMr (zsI_g0 _ _ (6 + 9 * (G 4) + 0) _) (fun _ _ => ⟨⟨⟨rfl, rfl⟩, hY19.w.rcv⟩, ⟨rfl, ⟨hY19.w, _, hA19.1, ⟨(zrgI (x := 9 * (G 4)) (by omega)), ⟨(zrgI (x := 6 + 9 * (G 4)) (by omega)), ⟨(zrgI (x := 6 + 9 * (G 4) + 1) (by omega)), ⟨⟨rfl, rfl⟩, ⟨zixO hA19.2.1 hA19.2.2 (i := 6 + 9 * (G 4) + 1) (by omega) (by decide), zIr ((zIa _ _ _ _).trans (Eq.trans (gU_n _ (by omega)) ((hg19 _ (by omega))))) (⟨(zrgI (x := G (6 + 9 * (G 4) + 1).toNat + eVal B n 0 5 (eKw B n (kwT 5) (eGo B n (eName B n (eGo B n (eErr 4 e)))))) (by omega)), ⟨⟨zixW hA19.2.1 hA19.2.2 (i := 6 + 9 * (G 4) + 1) (by omega) (by decide), trivial⟩, zMr (zsI_gU _ _ _ (6 + 9 * (G 4) + 1) _) (fun _ _ => ⟨⟨⟨rfl, rfl⟩, hY19.w.rcv⟩, ⟨rfl, ⟨hY19.w, _, hA19.1, ⟨(zrgI (x := 9 * (G 4)) (by omega)), ⟨(zrgI (x := 6 + 9 * (G 4)) (by omega)), ⟨(zrgI (x := 6 + 9 * (G 4) + 2) (by omega)), ⟨⟨rfl, rfl⟩, ⟨zixO hA19.2.1 hA19.2.2 (i := 6 + 9 * (G 4) + 2) (by omega) (by decide), zIr ((zIa _ _ _ _).trans (Eq.trans (gU_n _ (by omega)) (Eq.trans (gU_n _ (by omega)) ((hg19 _ (by omega)))))) (⟨(zrgI (x := G (6 + 9 * (G 4) + 2).toNat + eVal B n 1 5 (eKw B n (kwT 6) (eNum B n 0 5 (eKw B n (kwT 5) (eGo B n (eName B n (eGo B n (eErr 4 e)))))))) (by omega)), ⟨⟨zixW hA19.2.1 hA19.2.2 (i := 6 + 9 * (G 4) + 2) (by omega) (by decide), trivial⟩, zMr (zsI_gU _ _ _ (6 + 9 * (G 4) + 2) _) (fun _ _ => ⟨⟨⟨rfl, rfl⟩, hY19.w.rcv⟩, ⟨rfl, ⟨hY19.w, _, hA19.1, ⟨(zrgI (x := 9 * (G 4)) (by omega)), ⟨(zrgI (x := 6 + 9 * (G 4)) (by omega)), ⟨(zrgI (x := 6 + 9 * (G 4) + 3) (by omega)), ⟨⟨rfl, rfl⟩, ⟨zixO hA19.2.1 hA19.2.2 (i := 6 + 9 * (G 4) + 3) (by omega) (by decide), zIr ((zIa _ _ _ _).trans (Eq.trans (gU_n _ (by omega)) (Eq.trans (gU_n _ (by omega)) (Eq.trans (gU_n _ (by omega)) ((hg19 _ (by omega))))))) (⟨(zrgI (x := G (6 + 9 * (G 4) + 3).toNat + 10) (by omega)), ⟨⟨zixW hA19.2.1 hA19.2.2 (i := 6 + 9 * (G 4) + 3) (by omega) (by decide), trivial⟩, zMr (zsI_gU _ _ _ (6 + 9 * (G 4) + 3) _) (fun _ _ => ⟨hY19.w, _, hA19.1, ⟨⟨rfl, rfl⟩, ⟨zixO hA19.2.1 hA19.2.2 (i := 4) (by decide) (by decide), zIr ((zIa _ _ _ _).trans (Eq.trans (gU_n _ (by omega)) (Eq.trans (gU_n _ (by omega)) (Eq.trans (gU_n _ (by omega)) (Eq.trans (gU_n _ (by omega)) ((hg19 _ (by omega)))))))) (⟨(zrgI (x := G 4 + 1) (by omega)), ⟨⟨zixW hA19.2.1 hA19.2.2 (i := 4) (by decide) (by decide), trivial⟩, zMr (zsI_gU _ _ _ 4 _) ((show K none (zsA M19 672 (gU (gU (gU (gU (gU (zI M19 672) (6 + 9 * (G 4) + 0) (G (6 + 9 * (G 4) + 0).toNat + eNm B n (eGo B n (eErr 4 e)))) (6 + 9 * (G 4) + 1) (G (6 + 9 * (G 4) + 1).toNat + eVal B n 0 5 (eKw B n (kwT 5) (eGo B n (eName B n (eGo B n (eErr 4 e))))))) (6 + 9 * (G 4) + 2) (G (6 + 9 * (G 4) + 2).toNat + eVal B n 1 5 (eKw B n (kwT 6) (eNum B n 0 5 (eKw B n (kwT 5) (eGo B n (eName B n (eGo B n (eErr 4 e))))))))) (6 + 9 * (G 4) + 3) (G (6 + 9 * (G 4) + 3).toNat + 10)) 4 (G 4 + 1))) from ?g388l2))⟩⟩)⟩⟩⟩)⟩⟩)⟩⟩⟩⟩⟩⟩⟩⟩)⟩⟩)⟩⟩⟩⟩⟩⟩⟩⟩)⟩⟩)⟩⟩⟩⟩⟩⟩⟩⟩)⟩⟩)⟩⟩⟩⟩⟩⟩⟩⟩, fun (h : (1 : Int) = 0) => absurd h (by decide)⟩⟩⟩)⟩⟩⟩
      case g388l1 =>
        first
        | (exfalso; omega)
        | skip
          have e0 : w0 B n G e = (eGo B n (eErr 4 e)) := by
            unfold w0
            first | rw [if_pos (show G 4 = 6 by omega)] | rw [if_neg (show ¬ G 4 = 6 by omega)]
          have e1 : w1 B n G e = (eName B n (eGo B n (eErr 4 e))) := by
            unfold w1
            rw [e0]
            first
            | rw [if_pos (show ((eName B n (eGo B n (eErr 4 e)))).1 = 0 ∧ fWith G (eNm B n (eGo B n (eErr 4 e))) ≠ -1 by omega)]
            | rw [if_neg (show ¬ (((eName B n (eGo B n (eErr 4 e)))).1 = 0 ∧ fWith G (eNm B n (eGo B n (eErr 4 e))) ≠ -1) by omega)]
          have e4 : w4 B n G e = (eNum B n 1 5 (eKw B n (kwT 6) (eNum B n 0 5 (eKw B n (kwT 5) (eGo B n (eName B n (eGo B n (eErr 4 e)))))))) := by
            unfold w4 w3 w2
            rw [e1]
          have e9 : ePW B n G e = (eNum B n 1 5 (eKw B n (kwT 6) (eNum B n 0 5 (eKw B n (kwT 5) (eGo B n (eName B n (eGo B n (eErr 4 e)))))))) := by
            unfold ePW
            rw [e4]
            rw [if_neg (show ¬ eIs B n (kwT 7) (eNum B n 1 5 (eKw B n (kwT 6) (eNum B n 0 5 (eKw B n (kwT 5) (eGo B n (eName B n (eGo B n (eErr 4 e)))))))) = true by rw [show eIs B n (kwT 7) (eNum B n 1 5 (eKw B n (kwT 6) (eNum B n 0 5 (eKw B n (kwT 5) (eGo B n (eName B n (eGo B n (eErr 4 e)))))))) = false by assumption]; exact Bool.false_ne_true)]
          have h9 := hP19
          rw [← e9] at h9
          refine hK _ hz19 h9 ?_
          unfold gPW
          rw [e9, if_neg (by omega)]
          exact hg19
      case g388l2 =>
        first
        | (exfalso; omega)
        | skip
          have e0 : w0 B n G e = (eGo B n (eErr 4 e)) := by
            unfold w0
            first | rw [if_pos (show G 4 = 6 by omega)] | rw [if_neg (show ¬ G 4 = 6 by omega)]
          have e1 : w1 B n G e = (eName B n (eGo B n (eErr 4 e))) := by
            unfold w1
            rw [e0]
            first
            | rw [if_pos (show ((eName B n (eGo B n (eErr 4 e)))).1 = 0 ∧ fWith G (eNm B n (eGo B n (eErr 4 e))) ≠ -1 by omega)]
            | rw [if_neg (show ¬ (((eName B n (eGo B n (eErr 4 e)))).1 = 0 ∧ fWith G (eNm B n (eGo B n (eErr 4 e))) ≠ -1) by omega)]
          have e4 : w4 B n G e = (eNum B n 1 5 (eKw B n (kwT 6) (eNum B n 0 5 (eKw B n (kwT 5) (eGo B n (eName B n (eGo B n (eErr 4 e)))))))) := by
            unfold w4 w3 w2
            rw [e1]
          have e9 : ePW B n G e = (eNum B n 1 5 (eKw B n (kwT 6) (eNum B n 0 5 (eKw B n (kwT 5) (eGo B n (eName B n (eGo B n (eErr 4 e)))))))) := by
            unfold ePW
            rw [e4]
            rw [if_neg (show ¬ eIs B n (kwT 7) (eNum B n 1 5 (eKw B n (kwT 6) (eNum B n 0 5 (eKw B n (kwT 5) (eGo B n (eName B n (eGo B n (eErr 4 e)))))))) = true by rw [show eIs B n (kwT 7) (eNum B n 1 5 (eKw B n (kwT 6) (eNum B n 0 5 (eKw B n (kwT 5) (eGo B n (eName B n (eGo B n (eErr 4 e)))))))) = false by assumption]; exact Bool.false_ne_true)]
          have h9 := hP19
          rw [← e9] at h9
          have e8 : tPW B n G e = 10 := by
            unfold tPW
            rw [e4]
            rw [if_neg (show ¬ eIs B n (kwT 7) (eNum B n 1 5 (eKw B n (kwT 6) (eNum B n 0 5 (eKw B n (kwT 5) (eGo B n (eName B n (eGo B n (eErr 4 e)))))))) = true by rw [show eIs B n (kwT 7) (eNum B n 1 5 (eKw B n (kwT 6) (eNum B n 0 5 (eKw B n (kwT 5) (eGo B n (eName B n (eGo B n (eErr 4 e)))))))) = false by assumption]; exact Bool.false_ne_true)]
          refine hK _ (hz19.tr (RXd.a hY19)) (RP.a h9) ?_
          unfold gPW
          rw [e9, if_pos (show ((eNum B n 1 5 (eKw B n (kwT 6) (eNum B n 0 5 (eKw B n (kwT 5) (eGo B n (eName B n (eGo B n (eErr 4 e))))))))).1 = 0 by omega), e8]
          unfold w3 w2
          rw [e1, e0]
          exact E516.of (zI_A _ _ _) (F_wk_z hg19 hDZ.1 (by omega))
    case g387l2 =>
      refine zGoR hΦ [47, 76, 99] 400 (fun hL9 _ hM _ _ => ?_)
      obtain ⟨qL1, qL2, qL3, qL4, qL5, _⟩ : zrg (G 4) ∧ zrg (eNm B n (eGo B n (eErr 4 e))) ∧ zrg (eVal B n 0 5 (eKw B n (kwT 5) (eGo B n (eName B n (eGo B n (eErr 4 e)))))) ∧ zrg (eVal B n 1 5 (eKw B n (kwT 6) (eNum B n 0 5 (eKw B n (kwT 5) (eGo B n (eName B n (eGo B n (eErr 4 e)))))))) ∧ zrg (eVal B n 0 20 (eKw B n (kwT 7) (eNum B n 1 5 (eKw B n (kwT 6) (eNum B n 0 5 (eKw B n (kwT 5) (eGo B n (eName B n (eGo B n (eErr 4 e)))))))))) ∧ True := hL9
      refine ⟨⟨⟨rfl, rfl⟩, hY20.w.rcv⟩, ⟨rfl, ⟨hY20.w, zIr hP20.2.1.1 (⟨fun (qc238 : (eNum B n 0 20 (eKw B n (kwT 7) (eNum B n 1 5 (eKw B n (kwT 6) (eNum B n 0 5 (eKw B n (kwT 5) (eGo B n (eName B n (eGo B n (eErr 4 e)))))))))).1 ≠ 0) => ⟨(Or.inl rfl), fun _ _ => ⟨fun (h : (0 : Int) ≠ 0) => absurd h (by decide), fun _ => (show K none M20 from ?g389l1)⟩⟩, fun (qc240 : (eNum B n 0 20 (eKw B n (kwT 7) (eNum B n 1 5 (eKw B n (kwT 6) (eNum B n 0 5 (eKw B n (kwT 5) (eGo B n (eName B n (eGo B n (eErr 4 e)))))))))).1 = 0) => ⟨(Or.inr rfl), fun _ _ => ⟨fun _ => ⟨⟨⟨rfl, rfl⟩, hY20.w.rcv⟩, ⟨rfl, ⟨hY20.w, _, hA20.1, ⟨(zrgI (x := 9 * (G 4)) (by omega)), ⟨(zrgI (x := 6 + 9 * (G 4)) (by omega)), ⟨(zrgI (x := 6 + 9 * (G 4) + 0) (by omega)), ⟨⟨rfl, rfl⟩, ⟨zixO hA20.2.1 hA20.2.2 (i := 6 + 9 * (G 4) + 0) (by omega) (by decide), zIr (hg20 _ (by omega)) (⟨(zrgI (x := G (6 + 9 * (G 4) + 0).toNat + eNm B n (eGo B n (eErr 4 e))) (by omega)), ⟨⟨zixW hA20.2.1 hA20.2.2 (i := 6 + 9 * (G 4) + 0) (by omega) (by decide), trivial⟩, zMr (zsI_g0 _ _ (6 + 9 * (G 4) + 0) _) (fun _ _ => ⟨⟨⟨rfl, rfl⟩, hY20.w.rcv⟩, ⟨rfl, ⟨hY20.w, _, hA20.1, ⟨(zrgI (x := 9 * (G 4)) (by omega)), ⟨(zrgI (x := 6 + 9 * (G 4)) (by omega)), ⟨(zrgI (x := 6 + 9 * (G 4) + 1) (by omega)), ⟨⟨rfl, rfl⟩, ⟨zixO hA20.2.1 hA20.2.2 (i := 6 + 9 * (G 4) + 1) (by omega) (by decide), zIr ((zIa _ _ _ _).trans (Eq.trans (gU_n _ (by omega)) ((hg20 _ (by omega))))) (⟨(zrgI (x := G (6 + 9 * (G 4) + 1).toNat + eVal B n 0 5 (eKw B n (kwT 5) (eGo B n (eName B n (eGo B n (eErr 4 e)))))) (by omega)), ⟨⟨zixW hA20.2.1 hA20.2.2 (i := 6 + 9 * (G 4) + 1) (by omega) (by decide), trivial⟩, zMr (zsI_gU _ _ _ (6 + 9 * (G 4) + 1) _) (fun _ _ => ⟨⟨⟨rfl, rfl⟩, hY20.w.rcv⟩, ⟨rfl, ⟨hY20.w, _, hA20.1, ⟨(zrgI (x := 9 * (G 4)) (by omega)), ⟨(zrgI (x := 6 + 9 * (G 4)) (by omega)), ⟨(zrgI (x := 6 + 9 * (G 4) + 2) (by omega)), ⟨⟨rfl, rfl⟩, ⟨zixO hA20.2.1 hA20.2.2 (i := 6 + 9 * (G 4) + 2) (by omega) (by decide), zIr ((zIa _ _ _ _).trans (Eq.trans (gU_n _ (by omega)) (Eq.trans (gU_n _ (by omega)) ((hg20 _ (by omega)))))) (⟨(zrgI (x := G (6 + 9 * (G 4) + 2).toNat + eVal B n 1 5 (eKw B n (kwT 6) (eNum B n 0 5 (eKw B n (kwT 5) (eGo B n (eName B n (eGo B n (eErr 4 e)))))))) (by omega)), ⟨⟨zixW hA20.2.1 hA20.2.2 (i := 6 + 9 * (G 4) + 2) (by omega) (by decide), trivial⟩, zMr (zsI_gU _ _ _ (6 + 9 * (G 4) + 2) _) (fun _ _ => ⟨⟨⟨rfl, rfl⟩, hY20.w.rcv⟩, ⟨rfl, ⟨hY20.w, _, hA20.1, ⟨(zrgI (x := 9 * (G 4)) (by omega)), ⟨(zrgI (x := 6 + 9 * (G 4)) (by omega)), ⟨(zrgI (x := 6 + 9 * (G 4) + 3) (by omega)), ⟨⟨rfl, rfl⟩, ⟨zixO hA20.2.1 hA20.2.2 (i := 6 + 9 * (G 4) + 3) (by omega) (by decide), zIr ((zIa _ _ _ _).trans (Eq.trans (gU_n _ (by omega)) (Eq.trans (gU_n _ (by omega)) (Eq.trans (gU_n _ (by omega)) ((hg20 _ (by omega))))))) (⟨(zrgI (x := G (6 + 9 * (G 4) + 3).toNat + eVal B n 0 20 (eKw B n (kwT 7) (eNum B n 1 5 (eKw B n (kwT 6) (eNum B n 0 5 (eKw B n (kwT 5) (eGo B n (eName B n (eGo B n (eErr 4 e)))))))))) (by omega)), ⟨⟨zixW hA20.2.1 hA20.2.2 (i := 6 + 9 * (G 4) + 3) (by omega) (by decide), trivial⟩, zMr (zsI_gU _ _ _ (6 + 9 * (G 4) + 3) _) (fun _ _ => ⟨hY20.w, _, hA20.1, ⟨⟨rfl, rfl⟩, ⟨zixO hA20.2.1 hA20.2.2 (i := 4) (by decide) (by decide), zIr ((zIa _ _ _ _).trans (Eq.trans (gU_n _ (by omega)) (Eq.trans (gU_n _ (by omega)) (Eq.trans (gU_n _ (by omega)) (Eq.trans (gU_n _ (by omega)) ((hg20 _ (by omega)))))))) (⟨(zrgI (x := G 4 + 1) (by omega)), ⟨⟨zixW hA20.2.1 hA20.2.2 (i := 4) (by decide) (by decide), trivial⟩, zMr (zsI_gU _ _ _ 4 _) ((show K none (zsA M20 672 (gU (gU (gU (gU (gU (zI M20 672) (6 + 9 * (G 4) + 0) (G (6 + 9 * (G 4) + 0).toNat + eNm B n (eGo B n (eErr 4 e)))) (6 + 9 * (G 4) + 1) (G (6 + 9 * (G 4) + 1).toNat + eVal B n 0 5 (eKw B n (kwT 5) (eGo B n (eName B n (eGo B n (eErr 4 e))))))) (6 + 9 * (G 4) + 2) (G (6 + 9 * (G 4) + 2).toNat + eVal B n 1 5 (eKw B n (kwT 6) (eNum B n 0 5 (eKw B n (kwT 5) (eGo B n (eName B n (eGo B n (eErr 4 e))))))))) (6 + 9 * (G 4) + 3) (G (6 + 9 * (G 4) + 3).toNat + eVal B n 0 20 (eKw B n (kwT 7) (eNum B n 1 5 (eKw B n (kwT 6) (eNum B n 0 5 (eKw B n (kwT 5) (eGo B n (eName B n (eGo B n (eErr 4 e))))))))))) 4 (G 4 + 1))) from ?g389l2))⟩⟩)⟩⟩⟩)⟩⟩)⟩⟩⟩⟩⟩⟩⟩⟩)⟩⟩)⟩⟩⟩⟩⟩⟩⟩⟩)⟩⟩)⟩⟩⟩⟩⟩⟩⟩⟩)⟩⟩)⟩⟩⟩⟩⟩⟩⟩⟩, fun (h : (1 : Int) = 0) => absurd h (by decide)⟩⟩⟩)⟩⟩⟩
      case g389l1 =>
        first
        | (exfalso; omega)
        | skip
          have e0 : w0 B n G e = (eGo B n (eErr 4 e)) := by
            unfold w0
            first | rw [if_pos (show G 4 = 6 by omega)] | rw [if_neg (show ¬ G 4 = 6 by omega)]
          have e1 : w1 B n G e = (eName B n (eGo B n (eErr 4 e))) := by
            unfold w1
            rw [e0]
            first
            | rw [if_pos (show ((eName B n (eGo B n (eErr 4 e)))).1 = 0 ∧ fWith G (eNm B n (eGo B n (eErr 4 e))) ≠ -1 by omega)]
            | rw [if_neg (show ¬ (((eName B n (eGo B n (eErr 4 e)))).1 = 0 ∧ fWith G (eNm B n (eGo B n (eErr 4 e))) ≠ -1) by omega)]
          have e4 : w4 B n G e = (eNum B n 1 5 (eKw B n (kwT 6) (eNum B n 0 5 (eKw B n (kwT 5) (eGo B n (eName B n (eGo B n (eErr 4 e)))))))) := by
            unfold w4 w3 w2
            rw [e1]
          have e9 : ePW B n G e = (eNum B n 0 20 (eKw B n (kwT 7) (eNum B n 1 5 (eKw B n (kwT 6) (eNum B n 0 5 (eKw B n (kwT 5) (eGo B n (eName B n (eGo B n (eErr 4 e)))))))))) := by
            unfold ePW
            rw [e4]
            rw [if_pos (by assumption)]
          have h9 := hP20
          rw [← e9] at h9
          refine hK _ hz20 h9 ?_
          unfold gPW
          rw [e9, if_neg (by omega)]
          exact hg20
      case g389l2 =>
        first
        | (exfalso; omega)
        | skip
          have e0 : w0 B n G e = (eGo B n (eErr 4 e)) := by
            unfold w0
            first | rw [if_pos (show G 4 = 6 by omega)] | rw [if_neg (show ¬ G 4 = 6 by omega)]
          have e1 : w1 B n G e = (eName B n (eGo B n (eErr 4 e))) := by
            unfold w1
            rw [e0]
            first
            | rw [if_pos (show ((eName B n (eGo B n (eErr 4 e)))).1 = 0 ∧ fWith G (eNm B n (eGo B n (eErr 4 e))) ≠ -1 by omega)]
            | rw [if_neg (show ¬ (((eName B n (eGo B n (eErr 4 e)))).1 = 0 ∧ fWith G (eNm B n (eGo B n (eErr 4 e))) ≠ -1) by omega)]
          have e4 : w4 B n G e = (eNum B n 1 5 (eKw B n (kwT 6) (eNum B n 0 5 (eKw B n (kwT 5) (eGo B n (eName B n (eGo B n (eErr 4 e)))))))) := by
            unfold w4 w3 w2
            rw [e1]
          have e9 : ePW B n G e = (eNum B n 0 20 (eKw B n (kwT 7) (eNum B n 1 5 (eKw B n (kwT 6) (eNum B n 0 5 (eKw B n (kwT 5) (eGo B n (eName B n (eGo B n (eErr 4 e)))))))))) := by
            unfold ePW
            rw [e4]
            rw [if_pos (by assumption)]
          have h9 := hP20
          rw [← e9] at h9
          have e8 : tPW B n G e = eVal B n 0 20 (eKw B n (kwT 7) (eNum B n 1 5 (eKw B n (kwT 6) (eNum B n 0 5 (eKw B n (kwT 5) (eGo B n (eName B n (eGo B n (eErr 4 e))))))))) := by
            unfold tPW
            rw [e4]
            rw [if_pos (by assumption)]
          refine hK _ (hz20.tr (RXd.a hY20)) (RP.a h9) ?_
          unfold gPW
          rw [e9, if_pos (show ((eNum B n 0 20 (eKw B n (kwT 7) (eNum B n 1 5 (eKw B n (kwT 6) (eNum B n 0 5 (eKw B n (kwT 5) (eGo B n (eName B n (eGo B n (eErr 4 e))))))))))).1 = 0 by omega), e8]
          unfold w3 w2
          rw [e1, e0]
          exact E516.of (zI_A _ _ _) (F_wk_z hg20 hDZ.1 (by omega))
  case g377l5 =>
    refine zGoR hΦ [47, 76, 99] 400 (fun hL9 _ hM _ _ => ?_)
    obtain ⟨qL1, qL2, _⟩ : zrg (G 4) ∧ zrg (eNm B n (eGo B n (eErr 4 e))) ∧ True := hL9
    refine ⟨⟨⟨rfl, rfl⟩, hY6.w.rcv⟩, ⟨B, n, (eName B n (eGo B n (eErr 4 e))), rfl, hY6, hP6, fun M17 hx17 hP17 => (have hY17 := LY.fr hY6 hx17.1; have hz17 := hz6.tr hx17.d; have hi17 : ((eGo B n (eName B n (eGo B n (eErr 4 e))))).1 = 0 → ((eName B n (eGo B n (eErr 4 e)))).1 = 0 := fun q => eGo_i q; have hg17 := E516.of (hx17.1.i hY6.a2 (by unfold S48; omega)) hg6; have hA17 := MA.fr hY6 hA6 hx17.1; fun qg131 qm132 => ⟨⟨⟨rfl, rfl⟩, hY17.w.rcv⟩, ⟨B, n, (eGo B n (eName B n (eGo B n (eErr 4 e)))), 40, (kwT 5), 0, 5, rfl, hY17, hP17, (show zTx _ 40 (kwT 5) from (kc.fr hz17.1).w 5 (by decide)), (by have := kwT_r (i := 5) (by decide); omega), (fun k hk => by have := (kwT_r (i := 5) (by decide)).2 k hk; omega), (by decide), fun M18 hx18 hP18 => (have hY18 := LY.fr hY17 hx18.1; have hz18 := hz17.tr hx18.d; have hi18 : ((eNum B n 0 5 (eKw B n (kwT 5) (eGo B n (eName B n (eGo B n (eErr 4 e))))))).1 = 0 → ((eGo B n (eName B n (eGo B n (eErr 4 e))))).1 = 0 := fun q => eKw_i (eNum_i q); have hg18 := E516.of (hx18.1.i hY17.a2 (by unfold S48; omega)) hg17; have hA18 := MA.fr hY17 hA17 hx18.1; fun (qg133 : zrg (eVal B n 0 5 (eKw B n (kwT 5) (eGo B n (eName B n (eGo B n (eErr 4 e))))))) qm134 => ⟨⟨⟨rfl, rfl⟩, hY18.w.rcv⟩, ⟨B, n, (eNum B n 0 5 (eKw B n (kwT 5) (eGo B n (eName B n (eGo B n (eErr 4 e)))))), 41, (kwT 6), 1, 5, rfl, hY18, hP18, (show zTx _ 41 (kwT 6) from (kc.fr hz18.1).w 6 (by decide)), (by have := kwT_r (i := 6) (by decide); omega), (fun k hk => by have := (kwT_r (i := 6) (by decide)).2 k hk; omega), (by decide), fun M19 hx19 hP19 => (have hY19 := LY.fr hY18 hx19.1; have hz19 := hz18.tr hx19.d; have hi19 : ((eNum B n 1 5 (eKw B n (kwT 6) (eNum B n 0 5 (eKw B n (kwT 5) (eGo B n (eName B n (eGo B n (eErr 4 e))))))))).1 = 0 → ((eNum B n 0 5 (eKw B n (kwT 5) (eGo B n (eName B n (eGo B n (eErr 4 e))))))).1 = 0 := fun q => eKw_i (eNum_i q); have hg19 := E516.of (hx19.1.i hY18.a2 (by unfold S48; omega)) hg18; have hA19 := MA.fr hY18 hA18 hx19.1; fun (qg135 : zrg (eVal B n 1 5 (eKw B n (kwT 6) (eNum B n 0 5 (eKw B n (kwT 5) (eGo B n (eName B n (eGo B n (eErr 4 e))))))))) qm136 => ⟨⟨⟨rfl, rfl⟩, hY19.w.rcv⟩, ⟨B, n, (eNum B n 1 5 (eKw B n (kwT 6) (eNum B n 0 5 (eKw B n (kwT 5) (eGo B n (eName B n (eGo B n (eErr 4 e)))))))), 42, (kwT 7), rfl, hY19, hP19, (show zTx _ 42 (kwT 7) from (kc.fr hz19.1).w 7 (by decide)), (by have := kwT_r (i := 7) (by decide); omega), (fun k hk => by have := (kwT_r (i := 7) (by decide)).2 k hk; omega), fun (qg137 : zrg (b2i (eIs B n (kwT 7) (eNum B n 1 5 (eKw B n (kwT 6) (eNum B n 0 5 (eKw B n (kwT 5) (eGo B n (eName B n (eGo B n (eErr 4 e))))))))))) qm138 => ⟨fun h => (have qc139 : (eIs B n (kwT 7) (eNum B n 1 5 (eKw B n (kwT 6) (eNum B n 0 5 (eKw B n (kwT 5) (eGo B n (eName B n (eGo B n (eErr 4 e))))))))) = false := b2i_e0 h; (show Φ 99 [some (zo 670), some (zi (G 4)), some (zi (eNm B n (eGo B n (eErr 4 e)))), some (zi (eVal B n 0 5 (eKw B n (kwT 5) (eGo B n (eName B n (eGo B n (eErr 4 e))))))), some (zi (eVal B n 1 5 (eKw B n (kwT 6) (eNum B n 0 5 (eKw B n (kwT 5) (eGo B n (eName B n (eGo B n (eErr 4 e))))))))), some (zi 10)] [zo 670] M19 (0) (0) from ?g390l1)), fun h => (have qc140 : (eIs B n (kwT 7) (eNum B n 1 5 (eKw B n (kwT 6) (eNum B n 0 5 (eKw B n (kwT 5) (eGo B n (eName B n (eGo B n (eErr 4 e))))))))) = true := b2i_n0 h; ⟨⟨⟨rfl, rfl⟩, hY19.w.rcv⟩, ⟨B, n, (eNum B n 1 5 (eKw B n (kwT 6) (eNum B n 0 5 (eKw B n (kwT 5) (eGo B n (eName B n (eGo B n (eErr 4 e)))))))), 42, (kwT 7), 0, 20, rfl, hY19, hP19, (show zTx _ 42 (kwT 7) from (kc.fr hz19.1).w 7 (by decide)), (by have := kwT_r (i := 7) (by decide); omega), (fun k hk => by have := (kwT_r (i := 7) (by decide)).2 k hk; omega), (by decide), fun M20 hx20 hP20 => (have hY20 := LY.fr hY19 hx20.1; have hz20 := hz19.tr hx20.d; have hi20 : ((eNum B n 0 20 (eKw B n (kwT 7) (eNum B n 1 5 (eKw B n (kwT 6) (eNum B n 0 5 (eKw B n (kwT 5) (eGo B n (eName B n (eGo B n (eErr 4 e))))))))))).1 = 0 → ((eNum B n 1 5 (eKw B n (kwT 6) (eNum B n 0 5 (eKw B n (kwT 5) (eGo B n (eName B n (eGo B n (eErr 4 e))))))))).1 = 0 := fun q => eKw_i (eNum_i q); have hg20 := E516.of (hx20.1.i hY19.a2 (by unfold S48; omega)) hg19; have hA20 := MA.fr hY19 hA19 hx20.1; fun (qg141 : zrg (eVal B n 0 20 (eKw B n (kwT 7) (eNum B n 1 5 (eKw B n (kwT 6) (eNum B n 0 5 (eKw B n (kwT 5) (eGo B n (eName B n (eGo B n (eErr 4 e))))))))))) qm142 => (show Φ 99 [some (zo 670), some (zi (G 4)), some (zi (eNm B n (eGo B n (eErr 4 e)))), some (zi (eVal B n 0 5 (eKw B n (kwT 5) (eGo B n (eName B n (eGo B n (eErr 4 e))))))), some (zi (eVal B n 1 5 (eKw B n (kwT 6) (eNum B n 0 5 (eKw B n (kwT 5) (eGo B n (eName B n (eGo B n (eErr 4 e))))))))), some (zi (eVal B n 0 20 (eKw B n (kwT 7) (eNum B n 1 5 (eKw B n (kwT 6) (eNum B n 0 5 (eKw B n (kwT 5) (eGo B n (eName B n (eGo B n (eErr 4 e)))))))))))] [zo 670] M20 (0) (0) from ?g390l2))⟩⟩)⟩⟩⟩)⟩⟩)⟩⟩)⟩⟩
    case g390l1 =>
      refine zGoR hΦ [47, 76, 99] 400 (fun hL9 _ hM _ _ => ?_)
      obtain ⟨qL1, qL2, qL3, qL4, qL5, _⟩ : zrg (G 4) ∧ zrg (eNm B n (eGo B n (eErr 4 e))) ∧ zrg (eVal B n 0 5 (eKw B n (kwT 5) (eGo B n (eName B n (eGo B n (eErr 4 e)))))) ∧ zrg (eVal B n 1 5 (eKw B n (kwT 6) (eNum B n 0 5 (eKw B n (kwT 5) (eGo B n (eName B n (eGo B n (eErr 4 e)))))))) ∧ zrg 10 ∧ True := hL9
      refine ⟨⟨⟨rfl, rfl⟩, hY19.w.rcv⟩, ⟨rfl, ⟨hY19.w, zIr hP19.2.1.1 (⟨fun (qc240 : (eNum B n 1 5 (eKw B n (kwT 6) (eNum B n 0 5 (eKw B n (kwT 5) (eGo B n (eName B n (eGo B n (eErr 4 e)))))))).1 ≠ 0) => ⟨(Or.inl rfl), fun _ _ => ⟨fun (h : (0 : Int) ≠ 0) => absurd h (by decide), fun _ => (show K none M19 from ?g391l1)⟩⟩, fun (qc242 : (eNum B n 1 5 (eKw B n (kwT 6) (eNum B n 0 5 (eKw B n (kwT 5) (eGo B n (eName B n (eGo B n (eErr 4 e)))))))).1 = 0) => ⟨(Or.inr rfl), fun _ _ => ⟨fun _ => ⟨⟨⟨rfl, rfl⟩, hY19.w.rcv⟩, ⟨rfl, ⟨hY19.w, _, hA19.1, ⟨(zrgI (x := 9 * (G 4)) (by omega)), ⟨(zrgI (x := 6 + 9 * (G 4)) (by omega)), ⟨(zrgI (x := 6 + 9 * (G 4) + 0) (by omega)), ⟨⟨rfl, rfl⟩, ⟨zixO hA19.2.1 hA19.2.2 (i := 6 + 9 * (G 4) + 0) (by omega) (by decide), zIr (hg19 _ (by omega)) (⟨(zrgI (x := G (6 + 9 * (G 4) + 0).toNat + eNm B n (eGo B n (eErr 4 e))) (by omega)), ⟨⟨zixW hA19.2.1 hA19.2.2 (i := 6 + 9 * (G 4) + 0) (by omega) (by decide), trivial⟩, zMr (zsI_g0 _ _ (6 + 9 * (G 4) + 0) _) (fun _ _ => ⟨⟨⟨rfl, rfl⟩, hY19.w.rcv⟩, ⟨rfl, ⟨hY19.w, _, hA19.1, ⟨(zrgI (x := 9 * (G 4)) (by omega)), ⟨(zrgI (x := 6 + 9 * (G 4)) (by omega)), ⟨(zrgI (x := 6 + 9 * (G 4) + 1) (by omega)), ⟨⟨rfl, rfl⟩, ⟨zixO hA19.2.1 hA19.2.2 (i := 6 + 9 * (G 4) + 1) (by omega) (by decide), zIr ((zIa _ _ _ _).trans (Eq.trans (gU_n _ (by omega)) ((hg19 _ (by omega))))) (⟨(zrgI (x := G (6 + 9 * (G 4) + 1).toNat + eVal B n 0 5 (eKw B n (kwT 5) (eGo B n (eName B n (eGo B n (eErr 4 e)))))) (by omega)), ⟨⟨zixW hA19.2.1 hA19.2.2 (i := 6 + 9 * (G 4) + 1) (by omega) (by decide), trivial⟩, zMr (zsI_gU _ _ _ (6 + 9 * (G 4) + 1) _) (fun _ _ => ⟨⟨⟨rfl, rfl⟩, hY19.w.rcv⟩, ⟨rfl, ⟨hY19.w, _, hA19.1, ⟨(zrgI (x := 9 * (G 4)) (by omega)), ⟨(zrgI (x := 6 + 9 * (G 4)) (by omega)), ⟨(zrgI (x := 6 + 9 * (G 4) + 2) (by omega)), ⟨⟨rfl, rfl⟩, ⟨zixO hA19.2.1 hA19.2.2 (i := 6 + 9 * (G 4) + 2) (by omega) (by decide), zIr ((zIa _ _ _ _).trans (Eq.trans (gU_n _ (by omega)) (Eq.trans (gU_n _ (by omega)) ((hg19 _ (by omega)))))) (⟨(zrgI (x := G (6 + 9 * (G 4) + 2).toNat + eVal B n 1 5 (eKw B n (kwT 6) (eNum B n 0 5 (eKw B n (kwT 5) (eGo B n (eName B n (eGo B n (eErr 4 e)))))))) (by omega)), ⟨⟨zixW hA19.2.1 hA19.2.2 (i := 6 + 9 * (G 4) + 2) (by omega) (by decide), trivial⟩, zMr (zsI_gU _ _ _ (6 + 9 * (G 4) + 2) _) (fun _ _ => ⟨⟨⟨rfl, rfl⟩, hY19.w.rcv⟩, ⟨rfl, ⟨hY19.w, _, hA19.1, ⟨(zrgI (x := 9 * (G 4)) (by omega)), ⟨(zrgI (x := 6 + 9 * (G 4)) (by omega)), ⟨(zrgI (x := 6 + 9 * (G 4) + 3) (by omega)), ⟨⟨rfl, rfl⟩, ⟨zixO hA19.2.1 hA19.2.2 (i := 6 + 9 * (G 4) + 3) (by omega) (by decide), zIr ((zIa _ _ _ _).trans (Eq.trans (gU_n _ (by omega)) (Eq.trans (gU_n _ (by omega)) (Eq.trans (gU_n _ (by omega)) ((hg19 _ (by omega))))))) (⟨(zrgI (x := G (6 + 9 * (G 4) + 3).toNat + 10) (by omega)), ⟨⟨zixW hA19.2.1 hA19.2.2 (i := 6 + 9 * (G 4) + 3) (by omega) (by decide), trivial⟩, zMr (zsI_gU _ _ _ (6 + 9 * (G 4) + 3) _) (fun _ _ => ⟨hY19.w, _, hA19.1, ⟨⟨rfl, rfl⟩, ⟨zixO hA19.2.1 hA19.2.2 (i := 4) (by decide) (by decide), zIr ((zIa _ _ _ _).trans (Eq.trans (gU_n _ (by omega)) (Eq.trans (gU_n _ (by omega)) (Eq.trans (gU_n _ (by omega)) (Eq.trans (gU_n _ (by omega)) ((hg19 _ (by omega)))))))) (⟨(zrgI (x := G 4 + 1) (by omega)), ⟨⟨zixW hA19.2.1 hA19.2.2 (i := 4) (by decide) (by decide), trivial⟩, zMr (zsI_gU _ _ _ 4 _) ((show K none (zsA M19 672 (gU (gU (gU (gU (gU (zI M19 672) (6 + 9 * (G 4) + 0) (G (6 + 9 * (G 4) + 0).toNat + eNm B n (eGo B n (eErr 4 e)))) (6 + 9 * (G 4) + 1) (G (6 + 9 * (G 4) + 1).toNat + eVal B n 0 5 (eKw B n (kwT 5) (eGo B n (eName B n (eGo B n (eErr 4 e))))))) (6 + 9 * (G 4) + 2) (G (6 + 9 * (G 4) + 2).toNat + eVal B n 1 5 (eKw B n (kwT 6) (eNum B n 0 5 (eKw B n (kwT 5) (eGo B n (eName B n (eGo B n (eErr 4 e))))))))) (6 + 9 * (G 4) + 3) (G (6 + 9 * (G 4) + 3).toNat + 10)) 4 (G 4 + 1))) from ?g391l2))⟩⟩)⟩⟩⟩)⟩⟩)⟩⟩⟩⟩⟩⟩⟩⟩)⟩⟩)⟩⟩⟩⟩⟩⟩⟩⟩)⟩⟩)⟩⟩⟩⟩⟩⟩⟩⟩)⟩⟩)⟩⟩⟩⟩⟩⟩⟩⟩, fun (h : (1 : Int) = 0) => absurd h (by decide)⟩⟩⟩)⟩⟩⟩
      case g391l1 =>
        first
        | (exfalso; omega)
        | skip
          have e0 : w0 B n G e = (eGo B n (eErr 4 e)) := by
            unfold w0
            first | rw [if_pos (show G 4 = 6 by omega)] | rw [if_neg (show ¬ G 4 = 6 by omega)]
          have e1 : w1 B n G e = (eName B n (eGo B n (eErr 4 e))) := by
            unfold w1
            rw [e0]
            first
            | rw [if_pos (show ((eName B n (eGo B n (eErr 4 e)))).1 = 0 ∧ fWith G (eNm B n (eGo B n (eErr 4 e))) ≠ -1 by omega)]
            | rw [if_neg (show ¬ (((eName B n (eGo B n (eErr 4 e)))).1 = 0 ∧ fWith G (eNm B n (eGo B n (eErr 4 e))) ≠ -1) by omega)]
          have e4 : w4 B n G e = (eNum B n 1 5 (eKw B n (kwT 6) (eNum B n 0 5 (eKw B n (kwT 5) (eGo B n (eName B n (eGo B n (eErr 4 e)))))))) := by
            unfold w4 w3 w2
            rw [e1]
          have e9 : ePW B n G e = (eNum B n 1 5 (eKw B n (kwT 6) (eNum B n 0 5 (eKw B n (kwT 5) (eGo B n (eName B n (eGo B n (eErr 4 e)))))))) := by
            unfold ePW
            rw [e4]
            rw [if_neg (show ¬ eIs B n (kwT 7) (eNum B n 1 5 (eKw B n (kwT 6) (eNum B n 0 5 (eKw B n (kwT 5) (eGo B n (eName B n (eGo B n (eErr 4 e)))))))) = true by rw [show eIs B n (kwT 7) (eNum B n 1 5 (eKw B n (kwT 6) (eNum B n 0 5 (eKw B n (kwT 5) (eGo B n (eName B n (eGo B n (eErr 4 e)))))))) = false by assumption]; exact Bool.false_ne_true)]
          have h9 := hP19
          rw [← e9] at h9
          refine hK _ hz19 h9 ?_
          unfold gPW
          rw [e9, if_neg (by omega)]
          exact hg19
      case g391l2 =>
        first
        | (exfalso; omega)
        | skip
          have e0 : w0 B n G e = (eGo B n (eErr 4 e)) := by
            unfold w0
            first | rw [if_pos (show G 4 = 6 by omega)] | rw [if_neg (show ¬ G 4 = 6 by omega)]
          have e1 : w1 B n G e = (eName B n (eGo B n (eErr 4 e))) := by
            unfold w1
            rw [e0]
            first
            | rw [if_pos (show ((eName B n (eGo B n (eErr 4 e)))).1 = 0 ∧ fWith G (eNm B n (eGo B n (eErr 4 e))) ≠ -1 by omega)]
            | rw [if_neg (show ¬ (((eName B n (eGo B n (eErr 4 e)))).1 = 0 ∧ fWith G (eNm B n (eGo B n (eErr 4 e))) ≠ -1) by omega)]
          have e4 : w4 B n G e = (eNum B n 1 5 (eKw B n (kwT 6) (eNum B n 0 5 (eKw B n (kwT 5) (eGo B n (eName B n (eGo B n (eErr 4 e)))))))) := by
            unfold w4 w3 w2
            rw [e1]
          have e9 : ePW B n G e = (eNum B n 1 5 (eKw B n (kwT 6) (eNum B n 0 5 (eKw B n (kwT 5) (eGo B n (eName B n (eGo B n (eErr 4 e)))))))) := by
            unfold ePW
            rw [e4]
            rw [if_neg (show ¬ eIs B n (kwT 7) (eNum B n 1 5 (eKw B n (kwT 6) (eNum B n 0 5 (eKw B n (kwT 5) (eGo B n (eName B n (eGo B n (eErr 4 e)))))))) = true by rw [show eIs B n (kwT 7) (eNum B n 1 5 (eKw B n (kwT 6) (eNum B n 0 5 (eKw B n (kwT 5) (eGo B n (eName B n (eGo B n (eErr 4 e)))))))) = false by assumption]; exact Bool.false_ne_true)]
          have h9 := hP19
          rw [← e9] at h9
          have e8 : tPW B n G e = 10 := by
            unfold tPW
            rw [e4]
            rw [if_neg (show ¬ eIs B n (kwT 7) (eNum B n 1 5 (eKw B n (kwT 6) (eNum B n 0 5 (eKw B n (kwT 5) (eGo B n (eName B n (eGo B n (eErr 4 e)))))))) = true by rw [show eIs B n (kwT 7) (eNum B n 1 5 (eKw B n (kwT 6) (eNum B n 0 5 (eKw B n (kwT 5) (eGo B n (eName B n (eGo B n (eErr 4 e)))))))) = false by assumption]; exact Bool.false_ne_true)]
          refine hK _ (hz19.tr (RXd.a hY19)) (RP.a h9) ?_
          unfold gPW
          rw [e9, if_pos (show ((eNum B n 1 5 (eKw B n (kwT 6) (eNum B n 0 5 (eKw B n (kwT 5) (eGo B n (eName B n (eGo B n (eErr 4 e))))))))).1 = 0 by omega), e8]
          unfold w3 w2
          rw [e1, e0]
          exact E516.of (zI_A _ _ _) (F_wk_z hg19 hDZ.1 (by omega))
    case g390l2 =>
      refine zGoR hΦ [47, 76, 99] 400 (fun hL9 _ hM _ _ => ?_)
      obtain ⟨qL1, qL2, qL3, qL4, qL5, _⟩ : zrg (G 4) ∧ zrg (eNm B n (eGo B n (eErr 4 e))) ∧ zrg (eVal B n 0 5 (eKw B n (kwT 5) (eGo B n (eName B n (eGo B n (eErr 4 e)))))) ∧ zrg (eVal B n 1 5 (eKw B n (kwT 6) (eNum B n 0 5 (eKw B n (kwT 5) (eGo B n (eName B n (eGo B n (eErr 4 e)))))))) ∧ zrg (eVal B n 0 20 (eKw B n (kwT 7) (eNum B n 1 5 (eKw B n (kwT 6) (eNum B n 0 5 (eKw B n (kwT 5) (eGo B n (eName B n (eGo B n (eErr 4 e)))))))))) ∧ True := hL9
      refine ⟨⟨⟨rfl, rfl⟩, hY20.w.rcv⟩, ⟨rfl, ⟨hY20.w, zIr hP20.2.1.1 (⟨fun (qc243 : (eNum B n 0 20 (eKw B n (kwT 7) (eNum B n 1 5 (eKw B n (kwT 6) (eNum B n 0 5 (eKw B n (kwT 5) (eGo B n (eName B n (eGo B n (eErr 4 e)))))))))).1 ≠ 0) => ⟨(Or.inl rfl), fun _ _ => ⟨fun (h : (0 : Int) ≠ 0) => absurd h (by decide), fun _ => (show K none M20 from ?g392l1)⟩⟩, fun (qc245 : (eNum B n 0 20 (eKw B n (kwT 7) (eNum B n 1 5 (eKw B n (kwT 6) (eNum B n 0 5 (eKw B n (kwT 5) (eGo B n (eName B n (eGo B n (eErr 4 e)))))))))).1 = 0) => ⟨(Or.inr rfl), fun _ _ => ⟨fun _ => ⟨⟨⟨rfl, rfl⟩, hY20.w.rcv⟩, ⟨rfl, ⟨hY20.w, _, hA20.1, ⟨(zrgI (x := 9 * (G 4)) (by omega)), ⟨(zrgI (x := 6 + 9 * (G 4)) (by omega)), ⟨(zrgI (x := 6 + 9 * (G 4) + 0) (by omega)), ⟨⟨rfl, rfl⟩, ⟨zixO hA20.2.1 hA20.2.2 (i := 6 + 9 * (G 4) + 0) (by omega) (by decide), zIr (hg20 _ (by omega)) (⟨(zrgI (x := G (6 + 9 * (G 4) + 0).toNat + eNm B n (eGo B n (eErr 4 e))) (by omega)), ⟨⟨zixW hA20.2.1 hA20.2.2 (i := 6 + 9 * (G 4) + 0) (by omega) (by decide), trivial⟩, zMr (zsI_g0 _ _ (6 + 9 * (G 4) + 0) _) (fun _ _ => ⟨⟨⟨rfl, rfl⟩, hY20.w.rcv⟩, ⟨rfl, ⟨hY20.w, _, hA20.1, ⟨(zrgI (x := 9 * (G 4)) (by omega)), ⟨(zrgI (x := 6 + 9 * (G 4)) (by omega)), ⟨(zrgI (x := 6 + 9 * (G 4) + 1) (by omega)), ⟨⟨rfl, rfl⟩, ⟨zixO hA20.2.1 hA20.2.2 (i := 6 + 9 * (G 4) + 1) (by omega) (by decide), zIr ((zIa _ _ _ _).trans (Eq.trans (gU_n _ (by omega)) ((hg20 _ (by omega))))) (⟨(zrgI (x := G (6 + 9 * (G 4) + 1).toNat + eVal B n 0 5 (eKw B n (kwT 5) (eGo B n (eName B n (eGo B n (eErr 4 e)))))) (by omega)), ⟨⟨zixW hA20.2.1 hA20.2.2 (i := 6 + 9 * (G 4) + 1) (by omega) (by decide), trivial⟩, zMr (zsI_gU _ _ _ (6 + 9 * (G 4) + 1) _) (fun _ _ => ⟨⟨⟨rfl, rfl⟩, hY20.w.rcv⟩, ⟨rfl, ⟨hY20.w, _, hA20.1, ⟨(zrgI (x := 9 * (G 4)) (by omega)), ⟨(zrgI (x := 6 + 9 * (G 4)) (by omega)), ⟨(zrgI (x := 6 + 9 * (G 4) + 2) (by omega)), ⟨⟨rfl, rfl⟩, ⟨zixO hA20.2.1 hA20.2.2 (i := 6 + 9 * (G 4) + 2) (by omega) (by decide), zIr ((zIa _ _ _ _).trans (Eq.trans (gU_n _ (by omega)) (Eq.trans (gU_n _ (by omega)) ((hg20 _ (by omega)))))) (⟨(zrgI (x := G (6 + 9 * (G 4) + 2).toNat + eVal B n 1 5 (eKw B n (kwT 6) (eNum B n 0 5 (eKw B n (kwT 5) (eGo B n (eName B n (eGo B n (eErr 4 e)))))))) (by omega)), ⟨⟨zixW hA20.2.1 hA20.2.2 (i := 6 + 9 * (G 4) + 2) (by omega) (by decide), trivial⟩, zMr (zsI_gU _ _ _ (6 + 9 * (G 4) + 2) _) (fun _ _ => ⟨⟨⟨rfl, rfl⟩, hY20.w.rcv⟩, ⟨rfl, ⟨hY20.w, _, hA20.1, ⟨(zrgI (x := 9 * (G 4)) (by omega)), ⟨(zrgI (x := 6 + 9 * (G 4)) (by omega)), ⟨(zrgI (x := 6 + 9 * (G 4) + 3) (by omega)), ⟨⟨rfl, rfl⟩, ⟨zixO hA20.2.1 hA20.2.2 (i := 6 + 9 * (G 4) + 3) (by omega) (by decide), zIr ((zIa _ _ _ _).trans (Eq.trans (gU_n _ (by omega)) (Eq.trans (gU_n _ (by omega)) (Eq.trans (gU_n _ (by omega)) ((hg20 _ (by omega))))))) (⟨(zrgI (x := G (6 + 9 * (G 4) + 3).toNat + eVal B n 0 20 (eKw B n (kwT 7) (eNum B n 1 5 (eKw B n (kwT 6) (eNum B n 0 5 (eKw B n (kwT 5) (eGo B n (eName B n (eGo B n (eErr 4 e)))))))))) (by omega)), ⟨⟨zixW hA20.2.1 hA20.2.2 (i := 6 + 9 * (G 4) + 3) (by omega) (by decide), trivial⟩, zMr (zsI_gU _ _ _ (6 + 9 * (G 4) + 3) _) (fun _ _ => ⟨hY20.w, _, hA20.1, ⟨⟨rfl, rfl⟩, ⟨zixO hA20.2.1 hA20.2.2 (i := 4) (by decide) (by decide), zIr ((zIa _ _ _ _).trans (Eq.trans (gU_n _ (by omega)) (Eq.trans (gU_n _ (by omega)) (Eq.trans (gU_n _ (by omega)) (Eq.trans (gU_n _ (by omega)) ((hg20 _ (by omega)))))))) (⟨(zrgI (x := G 4 + 1) (by omega)), ⟨⟨zixW hA20.2.1 hA20.2.2 (i := 4) (by decide) (by decide), trivial⟩, zMr (zsI_gU _ _ _ 4 _) ((show K none (zsA M20 672 (gU (gU (gU (gU (gU (zI M20 672) (6 + 9 * (G 4) + 0) (G (6 + 9 * (G 4) + 0).toNat + eNm B n (eGo B n (eErr 4 e)))) (6 + 9 * (G 4) + 1) (G (6 + 9 * (G 4) + 1).toNat + eVal B n 0 5 (eKw B n (kwT 5) (eGo B n (eName B n (eGo B n (eErr 4 e))))))) (6 + 9 * (G 4) + 2) (G (6 + 9 * (G 4) + 2).toNat + eVal B n 1 5 (eKw B n (kwT 6) (eNum B n 0 5 (eKw B n (kwT 5) (eGo B n (eName B n (eGo B n (eErr 4 e))))))))) (6 + 9 * (G 4) + 3) (G (6 + 9 * (G 4) + 3).toNat + eVal B n 0 20 (eKw B n (kwT 7) (eNum B n 1 5 (eKw B n (kwT 6) (eNum B n 0 5 (eKw B n (kwT 5) (eGo B n (eName B n (eGo B n (eErr 4 e))))))))))) 4 (G 4 + 1))) from ?g392l2))⟩⟩)⟩⟩⟩)⟩⟩)⟩⟩⟩⟩⟩⟩⟩⟩)⟩⟩)⟩⟩⟩⟩⟩⟩⟩⟩)⟩⟩)⟩⟩⟩⟩⟩⟩⟩⟩)⟩⟩)⟩⟩⟩⟩⟩⟩⟩⟩, fun (h : (1 : Int) = 0) => absurd h (by decide)⟩⟩⟩)⟩⟩⟩
      case g392l1 =>
        first
        | (exfalso; omega)
        | skip
          have e0 : w0 B n G e = (eGo B n (eErr 4 e)) := by
            unfold w0
            first | rw [if_pos (show G 4 = 6 by omega)] | rw [if_neg (show ¬ G 4 = 6 by omega)]
          have e1 : w1 B n G e = (eName B n (eGo B n (eErr 4 e))) := by
            unfold w1
            rw [e0]
            first
            | rw [if_pos (show ((eName B n (eGo B n (eErr 4 e)))).1 = 0 ∧ fWith G (eNm B n (eGo B n (eErr 4 e))) ≠ -1 by omega)]
            | rw [if_neg (show ¬ (((eName B n (eGo B n (eErr 4 e)))).1 = 0 ∧ fWith G (eNm B n (eGo B n (eErr 4 e))) ≠ -1) by omega)]
          have e4 : w4 B n G e = (eNum B n 1 5 (eKw B n (kwT 6) (eNum B n 0 5 (eKw B n (kwT 5) (eGo B n (eName B n (eGo B n (eErr 4 e)))))))) := by
            unfold w4 w3 w2
            rw [e1]
          have e9 : ePW B n G e = (eNum B n 0 20 (eKw B n (kwT 7) (eNum B n 1 5 (eKw B n (kwT 6) (eNum B n 0 5 (eKw B n (kwT 5) (eGo B n (eName B n (eGo B n (eErr 4 e)))))))))) := by
            unfold ePW
            rw [e4]
            rw [if_pos (by assumption)]
          have h9 := hP20
          rw [← e9] at h9
          refine hK _ hz20 h9 ?_
          unfold gPW
          rw [e9, if_neg (by omega)]
          exact hg20
      case g392l2 =>
        first
        | (exfalso; omega)
        | skip
          have e0 : w0 B n G e = (eGo B n (eErr 4 e)) := by
            unfold w0
            first | rw [if_pos (show G 4 = 6 by omega)] | rw [if_neg (show ¬ G 4 = 6 by omega)]
          have e1 : w1 B n G e = (eName B n (eGo B n (eErr 4 e))) := by
            unfold w1
            rw [e0]
            first
            | rw [if_pos (show ((eName B n (eGo B n (eErr 4 e)))).1 = 0 ∧ fWith G (eNm B n (eGo B n (eErr 4 e))) ≠ -1 by omega)]
            | rw [if_neg (show ¬ (((eName B n (eGo B n (eErr 4 e)))).1 = 0 ∧ fWith G (eNm B n (eGo B n (eErr 4 e))) ≠ -1) by omega)]
          have e4 : w4 B n G e = (eNum B n 1 5 (eKw B n (kwT 6) (eNum B n 0 5 (eKw B n (kwT 5) (eGo B n (eName B n (eGo B n (eErr 4 e)))))))) := by
            unfold w4 w3 w2
            rw [e1]
          have e9 : ePW B n G e = (eNum B n 0 20 (eKw B n (kwT 7) (eNum B n 1 5 (eKw B n (kwT 6) (eNum B n 0 5 (eKw B n (kwT 5) (eGo B n (eName B n (eGo B n (eErr 4 e)))))))))) := by
            unfold ePW
            rw [e4]
            rw [if_pos (by assumption)]
          have h9 := hP20
          rw [← e9] at h9
          have e8 : tPW B n G e = eVal B n 0 20 (eKw B n (kwT 7) (eNum B n 1 5 (eKw B n (kwT 6) (eNum B n 0 5 (eKw B n (kwT 5) (eGo B n (eName B n (eGo B n (eErr 4 e))))))))) := by
            unfold tPW
            rw [e4]
            rw [if_pos (by assumption)]
          refine hK _ (hz20.tr (RXd.a hY20)) (RP.a h9) ?_
          unfold gPW
          rw [e9, if_pos (show ((eNum B n 0 20 (eKw B n (kwT 7) (eNum B n 1 5 (eKw B n (kwT 6) (eNum B n 0 5 (eKw B n (kwT 5) (eGo B n (eName B n (eGo B n (eErr 4 e))))))))))).1 = 0 by omega), e8]
          unfold w3 w2
          rw [e1, e0]
          exact E516.of (zI_A _ _ _) (F_wk_z hg20 hDZ.1 (by omega))
  case g377l6 =>
    refine zGoR hΦ [47, 76, 99] 400 (fun hL9 _ hM _ _ => ?_)
    obtain ⟨qL1, qL2, _⟩ : zrg (G 4) ∧ zrg (eNm B n (eGo B n (eErr 4 e))) ∧ True := hL9
    refine ⟨⟨⟨rfl, rfl⟩, hY7.w.rcv⟩, ⟨B, n, (eErr 3 (eName B n (eGo B n (eErr 4 e)))), rfl, hY7, hP7, fun M18 hx18 hP18 => (have hY18 := LY.fr hY7 hx18.1; have hz18 := hz7.tr hx18.d; have hi18 : ((eGo B n (eErr 3 (eName B n (eGo B n (eErr 4 e)))))).1 = 0 → ((eErr 3 (eName B n (eGo B n (eErr 4 e))))).1 = 0 := fun q => eGo_i q; have hg18 := E516.of (hx18.1.i hY7.a2 (by unfold S48; omega)) hg7; have hA18 := MA.fr hY7 hA7 hx18.1; fun qg134 qm135 => ⟨⟨⟨rfl, rfl⟩, hY18.w.rcv⟩, ⟨B, n, (eGo B n (eErr 3 (eName B n (eGo B n (eErr 4 e))))), 40, (kwT 5), 0, 5, rfl, hY18, hP18, (show zTx _ 40 (kwT 5) from (kc.fr hz18.1).w 5 (by decide)), (by have := kwT_r (i := 5) (by decide); omega), (fun k hk => by have := (kwT_r (i := 5) (by decide)).2 k hk; omega), (by decide), fun M19 hx19 hP19 => (have hY19 := LY.fr hY18 hx19.1; have hz19 := hz18.tr hx19.d; have hi19 : ((eNum B n 0 5 (eKw B n (kwT 5) (eGo B n (eErr 3 (eName B n (eGo B n (eErr 4 e)))))))).1 = 0 → ((eGo B n (eErr 3 (eName B n (eGo B n (eErr 4 e)))))).1 = 0 := fun q => eKw_i (eNum_i q); have hg19 := E516.of (hx19.1.i hY18.a2 (by unfold S48; omega)) hg18; have hA19 := MA.fr hY18 hA18 hx19.1; fun (qg136 : zrg (eVal B n 0 5 (eKw B n (kwT 5) (eGo B n (eErr 3 (eName B n (eGo B n (eErr 4 e)))))))) qm137 => ⟨⟨⟨rfl, rfl⟩, hY19.w.rcv⟩, ⟨B, n, (eNum B n 0 5 (eKw B n (kwT 5) (eGo B n (eErr 3 (eName B n (eGo B n (eErr 4 e))))))), 41, (kwT 6), 1, 5, rfl, hY19, hP19, (show zTx _ 41 (kwT 6) from (kc.fr hz19.1).w 6 (by decide)), (by have := kwT_r (i := 6) (by decide); omega), (fun k hk => by have := (kwT_r (i := 6) (by decide)).2 k hk; omega), (by decide), fun M20 hx20 hP20 => (have hY20 := LY.fr hY19 hx20.1; have hz20 := hz19.tr hx20.d; have hi20 : ((eNum B n 1 5 (eKw B n (kwT 6) (eNum B n 0 5 (eKw B n (kwT 5) (eGo B n (eErr 3 (eName B n (eGo B n (eErr 4 e)))))))))).1 = 0 → ((eNum B n 0 5 (eKw B n (kwT 5) (eGo B n (eErr 3 (eName B n (eGo B n (eErr 4 e)))))))).1 = 0 := fun q => eKw_i (eNum_i q); have hg20 := E516.of (hx20.1.i hY19.a2 (by unfold S48; omega)) hg19; have hA20 := MA.fr hY19 hA19 hx20.1; fun (qg138 : zrg (eVal B n 1 5 (eKw B n (kwT 6) (eNum B n 0 5 (eKw B n (kwT 5) (eGo B n (eErr 3 (eName B n (eGo B n (eErr 4 e)))))))))) qm139 => ⟨⟨⟨rfl, rfl⟩, hY20.w.rcv⟩, ⟨B, n, (eNum B n 1 5 (eKw B n (kwT 6) (eNum B n 0 5 (eKw B n (kwT 5) (eGo B n (eErr 3 (eName B n (eGo B n (eErr 4 e))))))))), 42, (kwT 7), rfl, hY20, hP20, (show zTx _ 42 (kwT 7) from (kc.fr hz20.1).w 7 (by decide)), (by have := kwT_r (i := 7) (by decide); omega), (fun k hk => by have := (kwT_r (i := 7) (by decide)).2 k hk; omega), fun (qg140 : zrg (b2i (eIs B n (kwT 7) (eNum B n 1 5 (eKw B n (kwT 6) (eNum B n 0 5 (eKw B n (kwT 5) (eGo B n (eErr 3 (eName B n (eGo B n (eErr 4 e)))))))))))) qm141 => ⟨fun h => (have qc142 : (eIs B n (kwT 7) (eNum B n 1 5 (eKw B n (kwT 6) (eNum B n 0 5 (eKw B n (kwT 5) (eGo B n (eErr 3 (eName B n (eGo B n (eErr 4 e)))))))))) = false := b2i_e0 h; (show Φ 99 [some (zo 670), some (zi (G 4)), some (zi (eNm B n (eGo B n (eErr 4 e)))), some (zi (eVal B n 0 5 (eKw B n (kwT 5) (eGo B n (eErr 3 (eName B n (eGo B n (eErr 4 e)))))))), some (zi (eVal B n 1 5 (eKw B n (kwT 6) (eNum B n 0 5 (eKw B n (kwT 5) (eGo B n (eErr 3 (eName B n (eGo B n (eErr 4 e)))))))))), some (zi 10)] [zo 670] M20 (0) (0) from ?g393l1)), fun h => (have qc143 : (eIs B n (kwT 7) (eNum B n 1 5 (eKw B n (kwT 6) (eNum B n 0 5 (eKw B n (kwT 5) (eGo B n (eErr 3 (eName B n (eGo B n (eErr 4 e)))))))))) = true := b2i_n0 h; ⟨⟨⟨rfl, rfl⟩, hY20.w.rcv⟩, ⟨B, n, (eNum B n 1 5 (eKw B n (kwT 6) (eNum B n 0 5 (eKw B n (kwT 5) (eGo B n (eErr 3 (eName B n (eGo B n (eErr 4 e))))))))), 42, (kwT 7), 0, 20, rfl, hY20, hP20, (show zTx _ 42 (kwT 7) from (kc.fr hz20.1).w 7 (by decide)), (by have := kwT_r (i := 7) (by decide); omega), (fun k hk => by have := (kwT_r (i := 7) (by decide)).2 k hk; omega), (by decide), fun M21 hx21 hP21 => (have hY21 := LY.fr hY20 hx21.1; have hz21 := hz20.tr hx21.d; have hi21 : ((eNum B n 0 20 (eKw B n (kwT 7) (eNum B n 1 5 (eKw B n (kwT 6) (eNum B n 0 5 (eKw B n (kwT 5) (eGo B n (eErr 3 (eName B n (eGo B n (eErr 4 e)))))))))))).1 = 0 → ((eNum B n 1 5 (eKw B n (kwT 6) (eNum B n 0 5 (eKw B n (kwT 5) (eGo B n (eErr 3 (eName B n (eGo B n (eErr 4 e)))))))))).1 = 0 := fun q => eKw_i (eNum_i q); have hg21 := E516.of (hx21.1.i hY20.a2 (by unfold S48; omega)) hg20; have hA21 := MA.fr hY20 hA20 hx21.1; fun (qg144 : zrg (eVal B n 0 20 (eKw B n (kwT 7) (eNum B n 1 5 (eKw B n (kwT 6) (eNum B n 0 5 (eKw B n (kwT 5) (eGo B n (eErr 3 (eName B n (eGo B n (eErr 4 e)))))))))))) qm145 => (show Φ 99 [some (zo 670), some (zi (G 4)), some (zi (eNm B n (eGo B n (eErr 4 e)))), some (zi (eVal B n 0 5 (eKw B n (kwT 5) (eGo B n (eErr 3 (eName B n (eGo B n (eErr 4 e)))))))), some (zi (eVal B n 1 5 (eKw B n (kwT 6) (eNum B n 0 5 (eKw B n (kwT 5) (eGo B n (eErr 3 (eName B n (eGo B n (eErr 4 e)))))))))), some (zi (eVal B n 0 20 (eKw B n (kwT 7) (eNum B n 1 5 (eKw B n (kwT 6) (eNum B n 0 5 (eKw B n (kwT 5) (eGo B n (eErr 3 (eName B n (eGo B n (eErr 4 e))))))))))))] [zo 670] M21 (0) (0) from ?g393l2))⟩⟩)⟩⟩⟩)⟩⟩)⟩⟩)⟩⟩
    case g393l1 =>
      refine zGoR hΦ [47, 76, 99] 400 (fun hL9 _ hM _ _ => ?_)
      obtain ⟨qL1, qL2, qL3, qL4, qL5, _⟩ : zrg (G 4) ∧ zrg (eNm B n (eGo B n (eErr 4 e))) ∧ zrg (eVal B n 0 5 (eKw B n (kwT 5) (eGo B n (eErr 3 (eName B n (eGo B n (eErr 4 e))))))) ∧ zrg (eVal B n 1 5 (eKw B n (kwT 6) (eNum B n 0 5 (eKw B n (kwT 5) (eGo B n (eErr 3 (eName B n (eGo B n (eErr 4 e))))))))) ∧ zrg 10 ∧ True := hL9
      refine ⟨⟨⟨rfl, rfl⟩, hY20.w.rcv⟩, ⟨rfl, ⟨hY20.w, zIr hP20.2.1.1 (⟨fun (qc243 : (eNum B n 1 5 (eKw B n (kwT 6) (eNum B n 0 5 (eKw B n (kwT 5) (eGo B n (eErr 3 (eName B n (eGo B n (eErr 4 e))))))))).1 ≠ 0) => ⟨(Or.inl rfl), fun _ _ => ⟨fun (h : (0 : Int) ≠ 0) => absurd h (by decide), fun _ => (show K none M20 from ?g394l1)⟩⟩, fun (qc245 : (eNum B n 1 5 (eKw B n (kwT 6) (eNum B n 0 5 (eKw B n (kwT 5) (eGo B n (eErr 3 (eName B n (eGo B n (eErr 4 e))))))))).1 = 0) => ⟨(Or.inr rfl), fun _ _ => ⟨fun _ => ⟨⟨⟨rfl, rfl⟩, hY20.w.rcv⟩, ⟨rfl, ⟨hY20.w, _, hA20.1, ⟨(zrgI (x := 9 * (G 4)) (by omega)), ⟨(zrgI (x := 6 + 9 * (G 4)) (by omega)), ⟨(zrgI (x := 6 + 9 * (G 4) + 0) (by omega)), ⟨⟨rfl, rfl⟩, ⟨zixO hA20.2.1 hA20.2.2 (i := 6 + 9 * (G 4) + 0) (by omega) (by decide), zIr (hg20 _ (by omega)) (⟨(zrgI (x := G (6 + 9 * (G 4) + 0).toNat + eNm B n (eGo B n (eErr 4 e))) (by omega)), ⟨⟨zixW hA20.2.1 hA20.2.2 (i := 6 + 9 * (G 4) + 0) (by omega) (by decide), trivial⟩, zMr (zsI_g0 _ _ (6 + 9 * (G 4) + 0) _) (fun _ _ => ⟨⟨⟨rfl, rfl⟩, hY20.w.rcv⟩, ⟨rfl, ⟨hY20.w, _, hA20.1, ⟨(zrgI (x := 9 * (G 4)) (by omega)), ⟨(zrgI (x := 6 + 9 * (G 4)) (by omega)), ⟨(zrgI (x := 6 + 9 * (G 4) + 1) (by omega)), ⟨⟨rfl, rfl⟩, ⟨zixO hA20.2.1 hA20.2.2 (i := 6 + 9 * (G 4) + 1) (by omega) (by decide), zIr ((zIa _ _ _ _).trans (Eq.trans (gU_n _ (by omega)) ((hg20 _ (by omega))))) (⟨(zrgI (x := G (6 + 9 * (G 4) + 1).toNat + eVal B n 0 5 (eKw B n (kwT 5) (eGo B n (eErr 3 (eName B n (eGo B n (eErr 4 e))))))) (by omega)), ⟨⟨zixW hA20.2.1 hA20.2.2 (i := 6 + 9 * (G 4) + 1) (by omega) (by decide), trivial⟩, zMr (zsI_gU _ _ _ (6 + 9 * (G 4) + 1) _) (fun _ _ => ⟨⟨⟨rfl, rfl⟩, hY20.w.rcv⟩, ⟨rfl, ⟨hY20.w, _, hA20.1, ⟨(zrgI (x := 9 * (G 4)) (by omega)), ⟨(zrgI (x := 6 + 9 * (G 4)) (by omega)), ⟨(zrgI (x := 6 + 9 * (G 4) + 2) (by omega)), ⟨⟨rfl, rfl⟩, ⟨zixO hA20.2.1 hA20.2.2 (i := 6 + 9 * (G 4) + 2) (by omega) (by decide), zIr ((zIa _ _ _ _).trans (Eq.trans (gU_n _ (by omega)) (Eq.trans (gU_n _ (by omega)) ((hg20 _ (by omega)))))) (⟨(zrgI (x := G (6 + 9 * (G 4) + 2).toNat + eVal B n 1 5 (eKw B n (kwT 6) (eNum B n 0 5 (eKw B n (kwT 5) (eGo B n (eErr 3 (eName B n (eGo B n (eErr 4 e))))))))) (by omega)), ⟨⟨zixW hA20.2.1 hA20.2.2 (i := 6 + 9 * (G 4) + 2) (by omega) (by decide), trivial⟩, zMr (zsI_gU _ _ _ (6 + 9 * (G 4) + 2) _) (fun _ _ => ⟨⟨⟨rfl, rfl⟩, hY20.w.rcv⟩, ⟨rfl, ⟨hY20.w, _, hA20.1, ⟨(zrgI (x := 9 * (G 4)) (by omega)), ⟨(zrgI (x := 6 + 9 * (G 4)) (by omega)), ⟨(zrgI (x := 6 + 9 * (G 4) + 3) (by omega)), ⟨⟨rfl, rfl⟩, ⟨zixO hA20.2.1 hA20.2.2 (i := 6 + 9 * (G 4) + 3) (by omega) (by decide), zIr ((zIa _ _ _ _).trans (Eq.trans (gU_n _ (by omega)) (Eq.trans (gU_n _ (by omega)) (Eq.trans (gU_n _ (by omega)) ((hg20 _ (by omega))))))) (⟨(zrgI (x := G (6 + 9 * (G 4) + 3).toNat + 10) (by omega)), ⟨⟨zixW hA20.2.1 hA20.2.2 (i := 6 + 9 * (G 4) + 3) (by omega) (by decide), trivial⟩, zMr (zsI_gU _ _ _ (6 + 9 * (G 4) + 3) _) (fun _ _ => ⟨hY20.w, _, hA20.1, ⟨⟨rfl, rfl⟩, ⟨zixO hA20.2.1 hA20.2.2 (i := 4) (by decide) (by decide), zIr ((zIa _ _ _ _).trans (Eq.trans (gU_n _ (by omega)) (Eq.trans (gU_n _ (by omega)) (Eq.trans (gU_n _ (by omega)) (Eq.trans (gU_n _ (by omega)) ((hg20 _ (by omega)))))))) (⟨(zrgI (x := G 4 + 1) (by omega)), ⟨⟨zixW hA20.2.1 hA20.2.2 (i := 4) (by decide) (by decide), trivial⟩, zMr (zsI_gU _ _ _ 4 _) ((show K none (zsA M20 672 (gU (gU (gU (gU (gU (zI M20 672) (6 + 9 * (G 4) + 0) (G (6 + 9 * (G 4) + 0).toNat + eNm B n (eGo B n (eErr 4 e)))) (6 + 9 * (G 4) + 1) (G (6 + 9 * (G 4) + 1).toNat + eVal B n 0 5 (eKw B n (kwT 5) (eGo B n (eErr 3 (eName B n (eGo B n (eErr 4 e)))))))) (6 + 9 * (G 4) + 2) (G (6 + 9 * (G 4) + 2).toNat + eVal B n 1 5 (eKw B n (kwT 6) (eNum B n 0 5 (eKw B n (kwT 5) (eGo B n (eErr 3 (eName B n (eGo B n (eErr 4 e)))))))))) (6 + 9 * (G 4) + 3) (G (6 + 9 * (G 4) + 3).toNat + 10)) 4 (G 4 + 1))) from ?g394l2))⟩⟩)⟩⟩⟩)⟩⟩)⟩⟩⟩⟩⟩⟩⟩⟩)⟩⟩)⟩⟩⟩⟩⟩⟩⟩⟩)⟩⟩)⟩⟩⟩⟩⟩⟩⟩⟩)⟩⟩)⟩⟩⟩⟩⟩⟩⟩⟩, fun (h : (1 : Int) = 0) => absurd h (by decide)⟩⟩⟩)⟩⟩⟩
      case g394l1 =>
        first
        | (exfalso; omega)
        | skip
          have e0 : w0 B n G e = (eGo B n (eErr 4 e)) := by
            unfold w0
            first | rw [if_pos (show G 4 = 6 by omega)] | rw [if_neg (show ¬ G 4 = 6 by omega)]
          have e1 : w1 B n G e = (eErr 3 (eName B n (eGo B n (eErr 4 e)))) := by
            unfold w1
            rw [e0]
            first
            | rw [if_pos (show ((eName B n (eGo B n (eErr 4 e)))).1 = 0 ∧ fWith G (eNm B n (eGo B n (eErr 4 e))) ≠ -1 by omega)]
            | rw [if_neg (show ¬ (((eName B n (eGo B n (eErr 4 e)))).1 = 0 ∧ fWith G (eNm B n (eGo B n (eErr 4 e))) ≠ -1) by omega)]
          have e4 : w4 B n G e = (eNum B n 1 5 (eKw B n (kwT 6) (eNum B n 0 5 (eKw B n (kwT 5) (eGo B n (eErr 3 (eName B n (eGo B n (eErr 4 e))))))))) := by
            unfold w4 w3 w2
            rw [e1]
          have e9 : ePW B n G e = (eNum B n 1 5 (eKw B n (kwT 6) (eNum B n 0 5 (eKw B n (kwT 5) (eGo B n (eErr 3 (eName B n (eGo B n (eErr 4 e))))))))) := by
            unfold ePW
            rw [e4]
            rw [if_neg (show ¬ eIs B n (kwT 7) (eNum B n 1 5 (eKw B n (kwT 6) (eNum B n 0 5 (eKw B n (kwT 5) (eGo B n (eErr 3 (eName B n (eGo B n (eErr 4 e))))))))) = true by rw [show eIs B n (kwT 7) (eNum B n 1 5 (eKw B n (kwT 6) (eNum B n 0 5 (eKw B n (kwT 5) (eGo B n (eErr 3 (eName B n (eGo B n (eErr 4 e))))))))) = false by assumption]; exact Bool.false_ne_true)]
          have h9 := hP20
          rw [← e9] at h9
          refine hK _ hz20 h9 ?_
          unfold gPW
          rw [e9, if_neg (by omega)]
          exact hg20
      case g394l2 =>
        first
        | (exfalso; omega)
        | skip
          have e0 : w0 B n G e = (eGo B n (eErr 4 e)) := by
            unfold w0
            first | rw [if_pos (show G 4 = 6 by omega)] | rw [if_neg (show ¬ G 4 = 6 by omega)]
          have e1 : w1 B n G e = (eErr 3 (eName B n (eGo B n (eErr 4 e)))) := by
            unfold w1
            rw [e0]
            first
            | rw [if_pos (show ((eName B n (eGo B n (eErr 4 e)))).1 = 0 ∧ fWith G (eNm B n (eGo B n (eErr 4 e))) ≠ -1 by omega)]
            | rw [if_neg (show ¬ (((eName B n (eGo B n (eErr 4 e)))).1 = 0 ∧ fWith G (eNm B n (eGo B n (eErr 4 e))) ≠ -1) by omega)]
          have e4 : w4 B n G e = (eNum B n 1 5 (eKw B n (kwT 6) (eNum B n 0 5 (eKw B n (kwT 5) (eGo B n (eErr 3 (eName B n (eGo B n (eErr 4 e))))))))) := by
            unfold w4 w3 w2
            rw [e1]
          have e9 : ePW B n G e = (eNum B n 1 5 (eKw B n (kwT 6) (eNum B n 0 5 (eKw B n (kwT 5) (eGo B n (eErr 3 (eName B n (eGo B n (eErr 4 e))))))))) := by
            unfold ePW
            rw [e4]
            rw [if_neg (show ¬ eIs B n (kwT 7) (eNum B n 1 5 (eKw B n (kwT 6) (eNum B n 0 5 (eKw B n (kwT 5) (eGo B n (eErr 3 (eName B n (eGo B n (eErr 4 e))))))))) = true by rw [show eIs B n (kwT 7) (eNum B n 1 5 (eKw B n (kwT 6) (eNum B n 0 5 (eKw B n (kwT 5) (eGo B n (eErr 3 (eName B n (eGo B n (eErr 4 e))))))))) = false by assumption]; exact Bool.false_ne_true)]
          have h9 := hP20
          rw [← e9] at h9
          have e8 : tPW B n G e = 10 := by
            unfold tPW
            rw [e4]
            rw [if_neg (show ¬ eIs B n (kwT 7) (eNum B n 1 5 (eKw B n (kwT 6) (eNum B n 0 5 (eKw B n (kwT 5) (eGo B n (eErr 3 (eName B n (eGo B n (eErr 4 e))))))))) = true by rw [show eIs B n (kwT 7) (eNum B n 1 5 (eKw B n (kwT 6) (eNum B n 0 5 (eKw B n (kwT 5) (eGo B n (eErr 3 (eName B n (eGo B n (eErr 4 e))))))))) = false by assumption]; exact Bool.false_ne_true)]
          refine hK _ (hz20.tr (RXd.a hY20)) (RP.a h9) ?_
          unfold gPW
          rw [e9, if_pos (show ((eNum B n 1 5 (eKw B n (kwT 6) (eNum B n 0 5 (eKw B n (kwT 5) (eGo B n (eErr 3 (eName B n (eGo B n (eErr 4 e)))))))))).1 = 0 by omega), e8]
          unfold w3 w2
          rw [e1, e0]
          exact E516.of (zI_A _ _ _) (F_wk_z hg20 hDZ.1 (by omega))
    case g393l2 =>
      refine zGoR hΦ [47, 76, 99] 400 (fun hL9 _ hM _ _ => ?_)
      obtain ⟨qL1, qL2, qL3, qL4, qL5, _⟩ : zrg (G 4) ∧ zrg (eNm B n (eGo B n (eErr 4 e))) ∧ zrg (eVal B n 0 5 (eKw B n (kwT 5) (eGo B n (eErr 3 (eName B n (eGo B n (eErr 4 e))))))) ∧ zrg (eVal B n 1 5 (eKw B n (kwT 6) (eNum B n 0 5 (eKw B n (kwT 5) (eGo B n (eErr 3 (eName B n (eGo B n (eErr 4 e))))))))) ∧ zrg (eVal B n 0 20 (eKw B n (kwT 7) (eNum B n 1 5 (eKw B n (kwT 6) (eNum B n 0 5 (eKw B n (kwT 5) (eGo B n (eErr 3 (eName B n (eGo B n (eErr 4 e))))))))))) ∧ True := hL9
      refine ⟨⟨⟨rfl, rfl⟩, hY21.w.rcv⟩, ⟨rfl, ⟨hY21.w, zIr hP21.2.1.1 (⟨fun (qc246 : (eNum B n 0 20 (eKw B n (kwT 7) (eNum B n 1 5 (eKw B n (kwT 6) (eNum B n 0 5 (eKw B n (kwT 5) (eGo B n (eErr 3 (eName B n (eGo B n (eErr 4 e))))))))))).1 ≠ 0) => ⟨(Or.inl rfl), fun _ _ => ⟨fun (h : (0 : Int) ≠ 0) => absurd h (by decide), fun _ => (show K none M21 from ?g395l1)⟩⟩, fun (qc248 : (eNum B n 0 20 (eKw B n (kwT 7) (eNum B n 1 5 (eKw B n (kwT 6) (eNum B n 0 5 (eKw B n (kwT 5) (eGo B n (eErr 3 (eName B n (eGo B n (eErr 4 e))))))))))).1 = 0) => ⟨(Or.inr rfl), fun _ _ => ⟨fun _ => ⟨⟨⟨rfl, rfl⟩, hY21.w.rcv⟩, ⟨rfl, ⟨hY21.w, _, hA21.1, ⟨(zrgI (x := 9 * (G 4)) (by omega)), ⟨(zrgI (x := 6 + 9 * (G 4)) (by omega)), ⟨(zrgI (x := 6 + 9 * (G 4) + 0) (by omega)), ⟨⟨rfl, rfl⟩, ⟨zixO hA21.2.1 hA21.2.2 (i := 6 + 9 * (G 4) + 0) (by omega) (by decide), zIr (hg21 _ (by omega)) (⟨(zrgI (x := G (6 + 9 * (G 4) + 0).toNat + eNm B n (eGo B n (eErr 4 e))) (by omega)), ⟨⟨zixW hA21.2.1 hA21.2.2 (i := 6 + 9 * (G 4) + 0) (by omega) (by decide), trivial⟩, zMr (zsI_g0 _ _ (6 + 9 * (G 4) + 0) _) (fun _ _ => ⟨⟨⟨rfl, rfl⟩, hY21.w.rcv⟩, ⟨rfl, ⟨hY21.w, _, hA21.1, ⟨(zrgI (x := 9 * (G 4)) (by omega)), ⟨(zrgI (x := 6 + 9 * (G 4)) (by omega)), ⟨(zrgI (x := 6 + 9 * (G 4) + 1) (by omega)), ⟨⟨rfl, rfl⟩, ⟨zixO hA21.2.1 hA21.2.2 (i := 6 + 9 * (G 4) + 1) (by omega) (by decide), zIr ((zIa _ _ _ _).trans (Eq.trans (gU_n _ (by omega)) ((hg21 _ (by omega))))) (⟨(zrgI (x := G (6 + 9 * (G 4) + 1).toNat + eVal B n 0 5 (eKw B n (kwT 5) (eGo B n (eErr 3 (eName B n (eGo B n (eErr 4 e))))))) (by omega)), ⟨⟨zixW hA21.2.1 hA21.2.2 (i := 6 + 9 * (G 4) + 1) (by omega) (by decide), trivial⟩, zMr (zsI_gU _ _ _ (6 + 9 * (G 4) + 1) _) (fun _ _ => ⟨⟨⟨rfl, rfl⟩, hY21.w.rcv⟩, ⟨rfl, ⟨hY21.w, _, hA21.1, ⟨(zrgI (x := 9 * (G 4)) (by omega)), ⟨(zrgI (x := 6 + 9 * (G 4)) (by omega)), ⟨(zrgI (x := 6 + 9 * (G 4) + 2) (by omega)), ⟨⟨rfl, rfl⟩, ⟨zixO hA21.2.1 hA21.2.2 (i := 6 + 9 * (G 4) + 2) (by omega) (by decide), zIr ((zIa _ _ _ _).trans (Eq.trans (gU_n _ (by omega)) (Eq.trans (gU_n _ (by omega)) ((hg21 _ (by omega)))))) (⟨(zrgI (x := G (6 + 9 * (G 4) + 2).toNat + eVal B n 1 5 (eKw B n (kwT 6) (eNum B n 0 5 (eKw B n (kwT 5) (eGo B n (eErr 3 (eName B n (eGo B n (eErr 4 e))))))))) (by omega)), ⟨⟨zixW hA21.2.1 hA21.2.2 (i := 6 + 9 * (G 4) + 2) (by omega) (by decide), trivial⟩, zMr (zsI_gU _ _ _ (6 + 9 * (G 4) + 2) _) (fun _ _ => ⟨⟨⟨rfl, rfl⟩, hY21.w.rcv⟩, ⟨rfl, ⟨hY21.w, _, hA21.1, ⟨(zrgI (x := 9 * (G 4)) (by omega)), ⟨(zrgI (x := 6 + 9 * (G 4)) (by omega)), ⟨(zrgI (x := 6 + 9 * (G 4) + 3) (by omega)), ⟨⟨rfl, rfl⟩, ⟨zixO hA21.2.1 hA21.2.2 (i := 6 + 9 * (G 4) + 3) (by omega) (by decide), zIr ((zIa _ _ _ _).trans (Eq.trans (gU_n _ (by omega)) (Eq.trans (gU_n _ (by omega)) (Eq.trans (gU_n _ (by omega)) ((hg21 _ (by omega))))))) (⟨(zrgI (x := G (6 + 9 * (G 4) + 3).toNat + eVal B n 0 20 (eKw B n (kwT 7) (eNum B n 1 5 (eKw B n (kwT 6) (eNum B n 0 5 (eKw B n (kwT 5) (eGo B n (eErr 3 (eName B n (eGo B n (eErr 4 e))))))))))) (by omega)), ⟨⟨zixW hA21.2.1 hA21.2.2 (i := 6 + 9 * (G 4) + 3) (by omega) (by decide), trivial⟩, zMr (zsI_gU _ _ _ (6 + 9 * (G 4) + 3) _) (fun _ _ => ⟨hY21.w, _, hA21.1, ⟨⟨rfl, rfl⟩, ⟨zixO hA21.2.1 hA21.2.2 (i := 4) (by decide) (by decide), zIr ((zIa _ _ _ _).trans (Eq.trans (gU_n _ (by omega)) (Eq.trans (gU_n _ (by omega)) (Eq.trans (gU_n _ (by omega)) (Eq.trans (gU_n _ (by omega)) ((hg21 _ (by omega)))))))) (⟨(zrgI (x := G 4 + 1) (by omega)), ⟨⟨zixW hA21.2.1 hA21.2.2 (i := 4) (by decide) (by decide), trivial⟩, zMr (zsI_gU _ _ _ 4 _) ((show K none (zsA M21 672 (gU (gU (gU (gU (gU (zI M21 672) (6 + 9 * (G 4) + 0) (G (6 + 9 * (G 4) + 0).toNat + eNm B n (eGo B n (eErr 4 e)))) (6 + 9 * (G 4) + 1) (G (6 + 9 * (G 4) + 1).toNat + eVal B n 0 5 (eKw B n (kwT 5) (eGo B n (eErr 3 (eName B n (eGo B n (eErr 4 e)))))))) (6 + 9 * (G 4) + 2) (G (6 + 9 * (G 4) + 2).toNat + eVal B n 1 5 (eKw B n (kwT 6) (eNum B n 0 5 (eKw B n (kwT 5) (eGo B n (eErr 3 (eName B n (eGo B n (eErr 4 e)))))))))) (6 + 9 * (G 4) + 3) (G (6 + 9 * (G 4) + 3).toNat + eVal B n 0 20 (eKw B n (kwT 7) (eNum B n 1 5 (eKw B n (kwT 6) (eNum B n 0 5 (eKw B n (kwT 5) (eGo B n (eErr 3 (eName B n (eGo B n (eErr 4 e)))))))))))) 4 (G 4 + 1))) from ?g395l2))⟩⟩)⟩⟩⟩)⟩⟩)⟩⟩⟩⟩⟩⟩⟩⟩)⟩⟩)⟩⟩⟩⟩⟩⟩⟩⟩)⟩⟩)⟩⟩⟩⟩⟩⟩⟩⟩)⟩⟩)⟩⟩⟩⟩⟩⟩⟩⟩, fun (h : (1 : Int) = 0) => absurd h (by decide)⟩⟩⟩)⟩⟩⟩
      case g395l1 =>
        first
        | (exfalso; omega)
        | skip
          have e0 : w0 B n G e = (eGo B n (eErr 4 e)) := by
            unfold w0
            first | rw [if_pos (show G 4 = 6 by omega)] | rw [if_neg (show ¬ G 4 = 6 by omega)]
          have e1 : w1 B n G e = (eErr 3 (eName B n (eGo B n (eErr 4 e)))) := by
            unfold w1
            rw [e0]
            first
            | rw [if_pos (show ((eName B n (eGo B n (eErr 4 e)))).1 = 0 ∧ fWith G (eNm B n (eGo B n (eErr 4 e))) ≠ -1 by omega)]
            | rw [if_neg (show ¬ (((eName B n (eGo B n (eErr 4 e)))).1 = 0 ∧ fWith G (eNm B n (eGo B n (eErr 4 e))) ≠ -1) by omega)]
          have e4 : w4 B n G e = (eNum B n 1 5 (eKw B n (kwT 6) (eNum B n 0 5 (eKw B n (kwT 5) (eGo B n (eErr 3 (eName B n (eGo B n (eErr 4 e))))))))) := by
            unfold w4 w3 w2
            rw [e1]
          have e9 : ePW B n G e = (eNum B n 0 20 (eKw B n (kwT 7) (eNum B n 1 5 (eKw B n (kwT 6) (eNum B n 0 5 (eKw B n (kwT 5) (eGo B n (eErr 3 (eName B n (eGo B n (eErr 4 e))))))))))) := by
            unfold ePW
            rw [e4]
            rw [if_pos (by assumption)]
          have h9 := hP21
          rw [← e9] at h9
          refine hK _ hz21 h9 ?_
          unfold gPW
          rw [e9, if_neg (by omega)]
          exact hg21
      case g395l2 =>
        first
        | (exfalso; omega)
        | skip
          have e0 : w0 B n G e = (eGo B n (eErr 4 e)) := by
            unfold w0
            first | rw [if_pos (show G 4 = 6 by omega)] | rw [if_neg (show ¬ G 4 = 6 by omega)]
          have e1 : w1 B n G e = (eErr 3 (eName B n (eGo B n (eErr 4 e)))) := by
            unfold w1
            rw [e0]
            first
            | rw [if_pos (show ((eName B n (eGo B n (eErr 4 e)))).1 = 0 ∧ fWith G (eNm B n (eGo B n (eErr 4 e))) ≠ -1 by omega)]
            | rw [if_neg (show ¬ (((eName B n (eGo B n (eErr 4 e)))).1 = 0 ∧ fWith G (eNm B n (eGo B n (eErr 4 e))) ≠ -1) by omega)]
          have e4 : w4 B n G e = (eNum B n 1 5 (eKw B n (kwT 6) (eNum B n 0 5 (eKw B n (kwT 5) (eGo B n (eErr 3 (eName B n (eGo B n (eErr 4 e))))))))) := by
            unfold w4 w3 w2
            rw [e1]
          have e9 : ePW B n G e = (eNum B n 0 20 (eKw B n (kwT 7) (eNum B n 1 5 (eKw B n (kwT 6) (eNum B n 0 5 (eKw B n (kwT 5) (eGo B n (eErr 3 (eName B n (eGo B n (eErr 4 e))))))))))) := by
            unfold ePW
            rw [e4]
            rw [if_pos (by assumption)]
          have h9 := hP21
          rw [← e9] at h9
          have e8 : tPW B n G e = eVal B n 0 20 (eKw B n (kwT 7) (eNum B n 1 5 (eKw B n (kwT 6) (eNum B n 0 5 (eKw B n (kwT 5) (eGo B n (eErr 3 (eName B n (eGo B n (eErr 4 e)))))))))) := by
            unfold tPW
            rw [e4]
            rw [if_pos (by assumption)]
          refine hK _ (hz21.tr (RXd.a hY21)) (RP.a h9) ?_
          unfold gPW
          rw [e9, if_pos (show ((eNum B n 0 20 (eKw B n (kwT 7) (eNum B n 1 5 (eKw B n (kwT 6) (eNum B n 0 5 (eKw B n (kwT 5) (eGo B n (eErr 3 (eName B n (eGo B n (eErr 4 e)))))))))))).1 = 0 by omega), e8]
          unfold w3 w2
          rw [e1, e0]
          exact E516.of (zI_A _ _ _) (F_wk_z hg21 hDZ.1 (by omega))
theorem M_X9_parseWorker {l : Launch} (hl : l.stackTraces = false) : zMet l yX9_parseWorker (Cond.code yX9_parseWorker cX9_parseWorker 6 (Option.none : Option Jvm.ClassFile.FieldType) :: zG) rm_X9_parseWorker 0 0 T_X9_parseWorker := met_X9_parseWorker hl (M_X9_workers hl) (M_X9_errs hl) (M_X9_goOn hl) (M_X9_nameHere hl) (M_X9_good hl) (M_X9_withName hl) (M_X9_numberBehind hl) (M_X9_isWord hl) (M_X9_add hl) bd_X9_parseWorker

def T_X9_parseRows : ZTf := fun av M K KX => ∃ (B : Gm) (n : Int) (G : Gm) (e : E3), av = [zo 670] ∧ (LY M) ∧ (RP M B n e) ∧ (MA M 672) ∧ (E516 (zI M 672) G) ∧ (GI G) ∧ (KC M) ∧  (∀ M' : ZM, (RXd M M') → (RP M' B n (ePR B n G e)) → (E516 (zI M' 672) (gPR B n G e)) → K none M')
set_option maxRecDepth 100000 in
set_option maxHeartbeats 8000000 in
theorem bd_X9_parseRows : zBd (cd_X9_parseRows T_X9_goOn T_X9_looks T_X9_good T_X9_rows T_X9_errs T_X9_number T_X9_numberBehind T_X9_moreRows) 3 0 0 T_X9_parseRows := by
  rintro av M K KX hA0 hM ⟨B, n, G, e, rfl, hY, hP, hA, hg, hG, kc, hK⟩
  have hz : RXd M M := RXd.rf
  have hok := hP.2.2.2
  have hkr := tkK_r B n e.2.2
  have hrt := rtk_r (tkK B n e.2.2) ⟨hkr.1, hkr.2.1⟩
  have her := tkE_r B hok.2
  unfold eOK at hok
  have hn5 := hP.1.2.1
  obtain ⟨hw5, hr5, hR5⟩ := id hG
  have hmv : (eLook B n 1 24 (eGo B n e)).1 = 0 → eVal B n 1 24 (eLook B n 1 24 (eGo B n e)) = tkV B (eGo B n e).2.2 (tkE B n (eGo B n e).2.2) := fun q => by
    obtain ⟨c1, c2, c3, c4⟩ := eLook_v q
    unfold eVal
    rw [c4, if_pos q]
  refine ⟨rfl, fun Φ hΦ => ?_⟩
  refine zGoR hΦ [] 400 (fun hL9 _ hM _ _ => ?_)
  obtain ⟨_⟩ : True := hL9
  refine ⟨⟨⟨rfl, rfl⟩, hY.w.rcv⟩, ⟨B, n, e, rfl, hY, hP, fun M1 hx1 hP1 => (have hY1 := LY.fr hY hx1.1; have hz1 := hz.tr hx1.d; have hi1 : ((eGo B n e)).1 = 0 → (e).1 = 0 := fun q => eGo_i q; have hg1 := E516.of (hx1.1.i hY.a2 (by unfold S48; omega)) hg; have hA1 := MA.fr hY hA hx1.1; fun qg1 qm2 => ⟨⟨⟨rfl, rfl⟩, hY1.w.rcv⟩, ⟨B, n, (eGo B n e), 1, 24, rfl, hY1, hP1, (by decide), fun M2 hx2 hP2 => (have hY2 := LY.fr hY1 hx2.1; have hz2 := hz1.tr hx2.d; have hi2 : ((eLook B n 1 24 (eGo B n e))).1 = 0 → ((eGo B n e)).1 = 0 := fun q => eLook_i q; have hvl2 : ((eLook B n 1 24 (eGo B n e))).1 = 0 → zI M2 670 11 = tkV B ((eGo B n e)).2.2 (tkE B n ((eGo B n e)).2.2) ∧ (1 ≤ tkV B ((eGo B n e)).2.2 (tkE B n ((eGo B n e)).2.2) ∧ tkV B ((eGo B n e)).2.2 (tkE B n ((eGo B n e)).2.2) ≤ 24) := fun q => ⟨RP.val hP2 q (by decide), (eLook_v q).2.2.1⟩; have hg2 := E516.of (hx2.1.i hY1.a2 (by unfold S48; omega)) hg1; have hA2 := MA.fr hY1 hA1 hx2.1; fun qg3 qm4 => ⟨⟨⟨rfl, rfl⟩, hY2.w.rcv⟩, ⟨rfl, ⟨hY2.w, zIr hP2.2.1.1 (⟨fun (qc5 : (eLook B n 1 24 (eGo B n e)).1 ≠ 0) => ⟨(Or.inl rfl), fun _ _ => ⟨fun _ => ⟨⟨⟨rfl, rfl⟩, hY2.w.rcv⟩, ⟨B, n, (eLook B n 1 24 (eGo B n e)), 1, 24, rfl, hY2, hP2, (by decide), fun M3 hx3 hP3 => (have hY3 := LY.fr hY2 hx3.1; have hz3 := hz2.tr hx3.d; have hi3 : ((eNum B n 1 24 (eLook B n 1 24 (eGo B n e)))).1 = 0 → ((eLook B n 1 24 (eGo B n e))).1 = 0 := fun q => eNum_i q; have hg3 := E516.of (hx3.1.i hY2.a2 (by unfold S48; omega)) hg2; have hA3 := MA.fr hY2 hA2 hx3.1; fun (qg7 : zrg (eVal B n 1 24 (eLook B n 1 24 (eGo B n e)))) qm8 => ⟨⟨⟨rfl, rfl⟩, hY3.w.rcv⟩, ⟨B, n, (eNum B n 1 24 (eLook B n 1 24 (eGo B n e))), 44, (kwT 9), 1, 9, rfl, hY3, hP3, (show zTx _ 44 (kwT 9) from (kc.fr hz3.1).w 9 (by decide)), (by have := kwT_r (i := 9) (by decide); omega), (fun k hk => by have := (kwT_r (i := 9) (by decide)).2 k hk; omega), (by decide), fun M4 hx4 hP4 => (have hY4 := LY.fr hY3 hx4.1; have hz4 := hz3.tr hx4.d; have hi4 : ((eNum B n 1 9 (eKw B n (kwT 9) (eNum B n 1 24 (eLook B n 1 24 (eGo B n e)))))).1 = 0 → ((eNum B n 1 24 (eLook B n 1 24 (eGo B n e)))).1 = 0 := fun q => eKw_i (eNum_i q); have hg4 := E516.of (hx4.1.i hY3.a2 (by unfold S48; omega)) hg3; have hA4 := MA.fr hY3 hA3 hx4.1; fun (qg9 : zrg (eVal B n 1 9 (eKw B n (kwT 9) (eNum B n 1 24 (eLook B n 1 24 (eGo B n e)))))) qm10 => ⟨⟨⟨rfl, rfl⟩, hY4.w.rcv⟩, ⟨rfl, ⟨hY4.w, zIr hP4.2.1.1 (⟨fun (qc11 : (eNum B n 1 9 (eKw B n (kwT 9) (eNum B n 1 24 (eLook B n 1 24 (eGo B n e))))).1 ≠ 0) => ⟨(Or.inl rfl), fun _ _ => ⟨fun _ => (show K none M4 from ?g396l1), fun (h : (0 : Int) ≠ 0) => absurd h (by decide)⟩⟩, fun (qc13 : (eNum B n 1 9 (eKw B n (kwT 9) (eNum B n 1 24 (eLook B n 1 24 (eGo B n e))))).1 = 0) => ⟨(Or.inr rfl), fun _ _ => ⟨fun (h : (1 : Int) = 0) => absurd h (by decide), fun _ => ⟨⟨⟨rfl, rfl⟩, hY4.w.rcv⟩, ⟨672, (eVal B n 1 24 (eLook B n 1 24 (eGo B n e))), (eVal B n 1 9 (eKw B n (kwT 9) (eNum B n 1 24 (eLook B n 1 24 (eGo B n e))))), rfl, hY4, hA4, (by rw [hg4 5 (by decide)]; omega), (by omega), fun qg15 qm16 => (show K none (zsA M4 672 (fRows (zI M4 672) (eVal B n 1 24 (eLook B n 1 24 (eGo B n e))) (eVal B n 1 9 (eKw B n (kwT 9) (eNum B n 1 24 (eLook B n 1 24 (eGo B n e))))))) from ?g396l2)⟩⟩⟩⟩⟩)⟩⟩⟩)⟩⟩)⟩⟩, fun (h : (0 : Int) ≠ 0) => absurd h (by decide)⟩⟩, fun (qc17 : (eLook B n 1 24 (eGo B n e)).1 = 0) => ⟨(Or.inr rfl), fun _ _ => ⟨fun (h : (1 : Int) = 0) => absurd h (by decide), fun _ => ⟨⟨⟨rfl, rfl⟩, hY2.w.rcv⟩, ⟨rfl, ⟨hY2.w, _, hA2.1, ⟨zixO hA2.2.1 hA2.2.2 (i := 5) (by decide) (by decide), zIr (hg2 _ (by omega)) (⟨trivial, fun (qg19 : zrg (G 5)) _ => ⟨hY2.w, ⟨(zrgI (x := G 5 + zI M2 670 11) (by omega)), ⟨fun (qc20 : G 5 + zI M2 670 11 ≤ 24) => ⟨⟨⟨rfl, rfl⟩, hY2.w.rcv⟩, ⟨B, n, (eLook B n 1 24 (eGo B n e)), 1, 24, rfl, hY2, hP2, (by decide), fun M5 hx5 hP5 => (have hY5 := LY.fr hY2 hx5.1; have hz5 := hz2.tr hx5.d; have hi5 : ((eNum B n 1 24 (eLook B n 1 24 (eGo B n e)))).1 = 0 → ((eLook B n 1 24 (eGo B n e))).1 = 0 := fun q => eNum_i q; have hg5 := E516.of (hx5.1.i hY2.a2 (by unfold S48; omega)) hg2; have hA5 := MA.fr hY2 hA2 hx5.1; fun (qg21 : zrg (eVal B n 1 24 (eLook B n 1 24 (eGo B n e)))) qm22 => ⟨⟨⟨rfl, rfl⟩, hY5.w.rcv⟩, ⟨B, n, (eNum B n 1 24 (eLook B n 1 24 (eGo B n e))), 44, (kwT 9), 1, 9, rfl, hY5, hP5, (show zTx _ 44 (kwT 9) from (kc.fr hz5.1).w 9 (by decide)), (by have := kwT_r (i := 9) (by decide); omega), (fun k hk => by have := (kwT_r (i := 9) (by decide)).2 k hk; omega), (by decide), fun M6 hx6 hP6 => (have hY6 := LY.fr hY5 hx6.1; have hz6 := hz5.tr hx6.d; have hi6 : ((eNum B n 1 9 (eKw B n (kwT 9) (eNum B n 1 24 (eLook B n 1 24 (eGo B n e)))))).1 = 0 → ((eNum B n 1 24 (eLook B n 1 24 (eGo B n e)))).1 = 0 := fun q => eKw_i (eNum_i q); have hg6 := E516.of (hx6.1.i hY5.a2 (by unfold S48; omega)) hg5; have hA6 := MA.fr hY5 hA5 hx6.1; fun (qg23 : zrg (eVal B n 1 9 (eKw B n (kwT 9) (eNum B n 1 24 (eLook B n 1 24 (eGo B n e)))))) qm24 => ⟨⟨⟨rfl, rfl⟩, hY6.w.rcv⟩, ⟨rfl, ⟨hY6.w, zIr hP6.2.1.1 (⟨fun (qc25 : (eNum B n 1 9 (eKw B n (kwT 9) (eNum B n 1 24 (eLook B n 1 24 (eGo B n e))))).1 ≠ 0) => ⟨(Or.inl rfl), fun _ _ => ⟨fun _ => (show K none M6 from ?g396l3), fun (h : (0 : Int) ≠ 0) => absurd h (by decide)⟩⟩, fun (qc27 : (eNum B n 1 9 (eKw B n (kwT 9) (eNum B n 1 24 (eLook B n 1 24 (eGo B n e))))).1 = 0) => ⟨(Or.inr rfl), fun _ _ => ⟨fun (h : (1 : Int) = 0) => absurd h (by decide), fun _ => ⟨⟨⟨rfl, rfl⟩, hY6.w.rcv⟩, ⟨672, (eVal B n 1 24 (eLook B n 1 24 (eGo B n e))), (eVal B n 1 9 (eKw B n (kwT 9) (eNum B n 1 24 (eLook B n 1 24 (eGo B n e))))), rfl, hY6, hA6, (by rw [hg6 5 (by decide)]; omega), (by omega), fun qg29 qm30 => (show K none (zsA M6 672 (fRows (zI M6 672) (eVal B n 1 24 (eLook B n 1 24 (eGo B n e))) (eVal B n 1 9 (eKw B n (kwT 9) (eNum B n 1 24 (eLook B n 1 24 (eGo B n e))))))) from ?g396l4)⟩⟩⟩⟩⟩)⟩⟩⟩)⟩⟩)⟩⟩, fun (qc31 : G 5 + zI M2 670 11 > 24) => ⟨⟨⟨rfl, rfl⟩, hY2.w.rcv⟩, ⟨B, n, (eLook B n 1 24 (eGo B n e)), 4, rfl, hY2, hP2, (by decide), fun M7 hx7 hP7 => (have hY7 := LY.fr hY2 hx7.1; have hz7 := hz2.tr hx7.d; have hn7 : ((eErr 4 (eLook B n 1 24 (eGo B n e)))).1 ≠ 0 := eErr_n (by decide); have hg7 := E516.of (hx7.1.i hY2.a2 (by unfold S48; omega)) hg2; have hA7 := MA.fr hY2 hA2 hx7.1; fun qg32 qm33 => ⟨⟨⟨rfl, rfl⟩, hY7.w.rcv⟩, ⟨B, n, (eErr 4 (eLook B n 1 24 (eGo B n e))), 1, 24, rfl, hY7, hP7, (by decide), fun M8 hx8 hP8 => (have hY8 := LY.fr hY7 hx8.1; have hz8 := hz7.tr hx8.d; have hi8 : ((eNum B n 1 24 (eErr 4 (eLook B n 1 24 (eGo B n e))))).1 = 0 → ((eErr 4 (eLook B n 1 24 (eGo B n e)))).1 = 0 := fun q => eNum_i q; have hg8 := E516.of (hx8.1.i hY7.a2 (by unfold S48; omega)) hg7; have hA8 := MA.fr hY7 hA7 hx8.1; fun (qg34 : zrg (eVal B n 1 24 (eErr 4 (eLook B n 1 24 (eGo B n e))))) qm35 => ⟨⟨⟨rfl, rfl⟩, hY8.w.rcv⟩, ⟨B, n, (eNum B n 1 24 (eErr 4 (eLook B n 1 24 (eGo B n e)))), 44, (kwT 9), 1, 9, rfl, hY8, hP8, (show zTx _ 44 (kwT 9) from (kc.fr hz8.1).w 9 (by decide)), (by have := kwT_r (i := 9) (by decide); omega), (fun k hk => by have := (kwT_r (i := 9) (by decide)).2 k hk; omega), (by decide), fun M9 hx9 hP9 => (have hY9 := LY.fr hY8 hx9.1; have hz9 := hz8.tr hx9.d; have hi9 : ((eNum B n 1 9 (eKw B n (kwT 9) (eNum B n 1 24 (eErr 4 (eLook B n 1 24 (eGo B n e))))))).1 = 0 → ((eNum B n 1 24 (eErr 4 (eLook B n 1 24 (eGo B n e))))).1 = 0 := fun q => eKw_i (eNum_i q); have hg9 := E516.of (hx9.1.i hY8.a2 (by unfold S48; omega)) hg8; have hA9 := MA.fr hY8 hA8 hx9.1; fun (qg36 : zrg (eVal B n 1 9 (eKw B n (kwT 9) (eNum B n 1 24 (eErr 4 (eLook B n 1 24 (eGo B n e))))))) qm37 => ⟨⟨⟨rfl, rfl⟩, hY9.w.rcv⟩, ⟨rfl, ⟨hY9.w, zIr hP9.2.1.1 (⟨fun (qc38 : (eNum B n 1 9 (eKw B n (kwT 9) (eNum B n 1 24 (eErr 4 (eLook B n 1 24 (eGo B n e)))))).1 ≠ 0) => ⟨(Or.inl rfl), fun _ _ => ⟨fun _ => (show K none M9 from ?g396l5), fun (h : (0 : Int) ≠ 0) => absurd h (by decide)⟩⟩, fun (qc40 : (eNum B n 1 9 (eKw B n (kwT 9) (eNum B n 1 24 (eErr 4 (eLook B n 1 24 (eGo B n e)))))).1 = 0) => ⟨(Or.inr rfl), fun _ _ => ⟨fun (h : (1 : Int) = 0) => absurd h (by decide), fun _ => ⟨⟨⟨rfl, rfl⟩, hY9.w.rcv⟩, ⟨672, (eVal B n 1 24 (eErr 4 (eLook B n 1 24 (eGo B n e)))), (eVal B n 1 9 (eKw B n (kwT 9) (eNum B n 1 24 (eErr 4 (eLook B n 1 24 (eGo B n e)))))), rfl, hY9, hA9, (by rw [hg9 5 (by decide)]; omega), (by omega), fun qg42 qm43 => (show K none (zsA M9 672 (fRows (zI M9 672) (eVal B n 1 24 (eErr 4 (eLook B n 1 24 (eGo B n e)))) (eVal B n 1 9 (eKw B n (kwT 9) (eNum B n 1 24 (eErr 4 (eLook B n 1 24 (eGo B n e)))))))) from ?g396l6)⟩⟩⟩⟩⟩)⟩⟩⟩)⟩⟩)⟩⟩)⟩⟩⟩⟩⟩⟩)⟩⟩⟩⟩⟩⟩⟩)⟩⟩⟩)⟩⟩)⟩⟩
  case g396l1 =>
    first
    | (exfalso; omega)
    | skip
      have e2 : r2 B n G e = (eLook B n 1 24 (eGo B n e)) := by
        unfold r2 r1
        first
        | rw [if_pos (show ((eLook B n 1 24 (eGo B n e))).1 = 0 ∧ 24 < G 5 + tkV B (eGo B n e).2.2 (tkE B n (eGo B n e).2.2) by omega)]
        | rw [if_neg (show ¬ (((eLook B n 1 24 (eGo B n e))).1 = 0 ∧ 24 < G 5 + tkV B (eGo B n e).2.2 (tkE B n (eGo B n e).2.2)) by omega)]
      have e9 : ePR B n G e = (eNum B n 1 9 (eKw B n (kwT 9) (eNum B n 1 24 (eLook B n 1 24 (eGo B n e))))) := by
        unfold ePR r3
        rw [e2]
      have h9 := hP4
      rw [← e9] at h9
      refine hK _ hz4 h9 ?_
      unfold gPR
      rw [e9, if_neg (show ¬ ((eNum B n 1 9 (eKw B n (kwT 9) (eNum B n 1 24 (eLook B n 1 24 (eGo B n e)))))).1 = 0 by omega)]
      exact hg4
  case g396l2 =>
    first
    | (exfalso; omega)
    | skip
      have e2 : r2 B n G e = (eLook B n 1 24 (eGo B n e)) := by
        unfold r2 r1
        first
        | rw [if_pos (show ((eLook B n 1 24 (eGo B n e))).1 = 0 ∧ 24 < G 5 + tkV B (eGo B n e).2.2 (tkE B n (eGo B n e).2.2) by omega)]
        | rw [if_neg (show ¬ (((eLook B n 1 24 (eGo B n e))).1 = 0 ∧ 24 < G 5 + tkV B (eGo B n e).2.2 (tkE B n (eGo B n e).2.2)) by omega)]
      have e9 : ePR B n G e = (eNum B n 1 9 (eKw B n (kwT 9) (eNum B n 1 24 (eLook B n 1 24 (eGo B n e))))) := by
        unfold ePR r3
        rw [e2]
      have h9 := hP4
      rw [← e9] at h9
      refine hK _ (hz4.tr (RXd.a hY4)) (RP.a h9) ?_
      unfold gPR
      rw [e9, if_pos (show ((eNum B n 1 9 (eKw B n (kwT 9) (eNum B n 1 24 (eLook B n 1 24 (eGo B n e)))))).1 = 0 by omega)]
      unfold r3
      rw [e2]
      exact E516.of (zI_A _ _ _) (fRows_cg hg4 hr5.1 _ (by omega) (by omega) (by omega))
  case g396l3 =>
    first
    | (exfalso; omega)
    | skip
      have e2 : r2 B n G e = (eLook B n 1 24 (eGo B n e)) := by
        unfold r2 r1
        first
        | rw [if_pos (show ((eLook B n 1 24 (eGo B n e))).1 = 0 ∧ 24 < G 5 + tkV B (eGo B n e).2.2 (tkE B n (eGo B n e).2.2) by omega)]
        | rw [if_neg (show ¬ (((eLook B n 1 24 (eGo B n e))).1 = 0 ∧ 24 < G 5 + tkV B (eGo B n e).2.2 (tkE B n (eGo B n e).2.2)) by omega)]
      have e9 : ePR B n G e = (eNum B n 1 9 (eKw B n (kwT 9) (eNum B n 1 24 (eLook B n 1 24 (eGo B n e))))) := by
        unfold ePR r3
        rw [e2]
      have h9 := hP6
      rw [← e9] at h9
      refine hK _ hz6 h9 ?_
      unfold gPR
      rw [e9, if_neg (show ¬ ((eNum B n 1 9 (eKw B n (kwT 9) (eNum B n 1 24 (eLook B n 1 24 (eGo B n e)))))).1 = 0 by omega)]
      exact hg6
  case g396l4 =>
    first
    | (exfalso; omega)
    | skip
      have e2 : r2 B n G e = (eLook B n 1 24 (eGo B n e)) := by
        unfold r2 r1
        first
        | rw [if_pos (show ((eLook B n 1 24 (eGo B n e))).1 = 0 ∧ 24 < G 5 + tkV B (eGo B n e).2.2 (tkE B n (eGo B n e).2.2) by omega)]
        | rw [if_neg (show ¬ (((eLook B n 1 24 (eGo B n e))).1 = 0 ∧ 24 < G 5 + tkV B (eGo B n e).2.2 (tkE B n (eGo B n e).2.2)) by omega)]
      have e9 : ePR B n G e = (eNum B n 1 9 (eKw B n (kwT 9) (eNum B n 1 24 (eLook B n 1 24 (eGo B n e))))) := by
        unfold ePR r3
        rw [e2]
      have h9 := hP6
      rw [← e9] at h9
      refine hK _ (hz6.tr (RXd.a hY6)) (RP.a h9) ?_
      unfold gPR
      rw [e9, if_pos (show ((eNum B n 1 9 (eKw B n (kwT 9) (eNum B n 1 24 (eLook B n 1 24 (eGo B n e)))))).1 = 0 by omega)]
      unfold r3
      rw [e2]
      exact E516.of (zI_A _ _ _) (fRows_cg hg6 hr5.1 _ (by omega) (by omega) (by omega))
  case g396l5 =>
    first
    | (exfalso; omega)
    | skip
      have e2 : r2 B n G e = (eErr 4 (eLook B n 1 24 (eGo B n e))) := by
        unfold r2 r1
        first
        | rw [if_pos (show ((eLook B n 1 24 (eGo B n e))).1 = 0 ∧ 24 < G 5 + tkV B (eGo B n e).2.2 (tkE B n (eGo B n e).2.2) by omega)]
        | rw [if_neg (show ¬ (((eLook B n 1 24 (eGo B n e))).1 = 0 ∧ 24 < G 5 + tkV B (eGo B n e).2.2 (tkE B n (eGo B n e).2.2)) by omega)]
      have e9 : ePR B n G e = (eNum B n 1 9 (eKw B n (kwT 9) (eNum B n 1 24 (eErr 4 (eLook B n 1 24 (eGo B n e)))))) := by
        unfold ePR r3
        rw [e2]
      have h9 := hP9
      rw [← e9] at h9
      refine hK _ hz9 h9 ?_
      unfold gPR
      rw [e9, if_neg (show ¬ ((eNum B n 1 9 (eKw B n (kwT 9) (eNum B n 1 24 (eErr 4 (eLook B n 1 24 (eGo B n e))))))).1 = 0 by omega)]
      exact hg9
  case g396l6 =>
    first
    | (exfalso; omega)
    | skip
      have e2 : r2 B n G e = (eErr 4 (eLook B n 1 24 (eGo B n e))) := by
        unfold r2 r1
        first
        | rw [if_pos (show ((eLook B n 1 24 (eGo B n e))).1 = 0 ∧ 24 < G 5 + tkV B (eGo B n e).2.2 (tkE B n (eGo B n e).2.2) by omega)]
        | rw [if_neg (show ¬ (((eLook B n 1 24 (eGo B n e))).1 = 0 ∧ 24 < G 5 + tkV B (eGo B n e).2.2 (tkE B n (eGo B n e).2.2)) by omega)]
      have e9 : ePR B n G e = (eNum B n 1 9 (eKw B n (kwT 9) (eNum B n 1 24 (eErr 4 (eLook B n 1 24 (eGo B n e)))))) := by
        unfold ePR r3
        rw [e2]
      have h9 := hP9
      rw [← e9] at h9
      refine hK _ (hz9.tr (RXd.a hY9)) (RP.a h9) ?_
      unfold gPR
      rw [e9, if_pos (show ((eNum B n 1 9 (eKw B n (kwT 9) (eNum B n 1 24 (eErr 4 (eLook B n 1 24 (eGo B n e))))))).1 = 0 by omega)]
      unfold r3
      rw [e2]
      exact E516.of (zI_A _ _ _) (fRows_cg hg9 hr5.1 _ (by omega) (by omega) (by omega))
theorem M_X9_parseRows {l : Launch} (hl : l.stackTraces = false) : zMet l yX9_parseRows (Cond.code yX9_parseRows cX9_parseRows 3 (Option.none : Option Jvm.ClassFile.FieldType) :: zG) rm_X9_parseRows 0 0 T_X9_parseRows := met_X9_parseRows hl (M_X9_goOn hl) (M_X9_looks hl) (M_X9_good hl) (M_X9_rows hl) (M_X9_errs hl) (M_X9_number hl) (M_X9_numberBehind hl) (M_X9_moreRows hl) bd_X9_parseRows

def T_X9_parseBar : ZTf := fun av M K KX => ∃ (B : Gm) (n : Int) (G : Gm) (e : E3), av = [zo 670] ∧ (LY M) ∧ (RP M B n e) ∧ (MA M 672) ∧ (E516 (zI M 672) G) ∧ (GI G) ∧ (KC M) ∧  (∀ M' : ZM, (RXd M M') → (RP M' B n (ePB B n G e)) → (E516 (zI M' 672) (gPB B n G e)) → K none M')
set_option maxRecDepth 100000 in
set_option maxHeartbeats 8000000 in
theorem bd_X9_parseBar : zBd (cd_X9_parseBar T_X9_goOn T_X9_told T_X9_good T_X9_mayNotMeet T_X9_errs T_X9_putBoth) 3 0 0 T_X9_parseBar := by
  rintro av M K KX hA0 hM ⟨B, n, G, e, rfl, hY, hP, hA, hg, hG, kc, hK⟩
  have hz : RXd M M := RXd.rf
  have hok := hP.2.2.2
  have hkr := tkK_r B n e.2.2
  have hrt := rtk_r (tkK B n e.2.2) ⟨hkr.1, hkr.2.1⟩
  have her := tkE_r B hok.2
  unfold eOK at hok
  have hn5 := hP.1.2.1
  obtain ⟨hw5, hr5, hR5⟩ := id hG
  refine ⟨rfl, fun Φ hΦ => ?_⟩
  refine zGoR hΦ [] 400 (fun hL9 _ hM _ _ => ?_)
  obtain ⟨_⟩ : True := hL9
  refine ⟨⟨⟨rfl, rfl⟩, hY.w.rcv⟩, ⟨B, n, e, rfl, hY, hP, fun M1 hx1 hP1 => (have hY1 := LY.fr hY hx1.1; have hz1 := hz.tr hx1.d; have hi1 : ((eGo B n e)).1 = 0 → (e).1 = 0 := fun q => eGo_i q; have hg1 := E516.of (hx1.1.i hY.a2 (by unfold S48; omega)) hg; have hA1 := MA.fr hY hA hx1.1; fun qg1 qm2 => ⟨⟨⟨rfl, rfl⟩, hY1.w.rcv⟩, ⟨B, n, G, (eGo B n e), rfl, hY1, hP1, hA1, hg1, hG, (kc.fr hz1.1), fun M2 hx2 hP2 => (have hY2 := LY.fr hY1 hx2.1; have hz2 := hz1.tr hx2.d; have hi2 : ((eTold B n G (eGo B n e))).1 = 0 → ((eGo B n e)).1 = 0 := fun q => eTold_i q; have hvt2 : 0 ≤ vTold B n G (eGo B n e) ∧ vTold B n G (eGo B n e) < 6 := vTold_r hw5; have hg2 := E516.of (hx2.1.i hY1.a2 (by unfold S48; omega)) hg1; have hA2 := MA.fr hY1 hA1 hx2.1; fun (qg3 : zrg (vTold B n G (eGo B n e))) qm4 => ⟨⟨⟨rfl, rfl⟩, hY2.w.rcv⟩, ⟨B, n, (eTold B n G (eGo B n e)), rfl, hY2, hP2, fun M3 hx3 hP3 => (have hY3 := LY.fr hY2 hx3.1; have hz3 := hz2.tr hx3.d; have hi3 : ((eGo B n (eTold B n G (eGo B n e)))).1 = 0 → ((eTold B n G (eGo B n e))).1 = 0 := fun q => eGo_i q; have hg3 := E516.of (hx3.1.i hY2.a2 (by unfold S48; omega)) hg2; have hA3 := MA.fr hY2 hA2 hx3.1; fun qg5 qm6 => ⟨⟨⟨rfl, rfl⟩, hY3.w.rcv⟩, ⟨B, n, G, (eGo B n (eTold B n G (eGo B n e))), rfl, hY3, hP3, hA3, hg3, hG, (kc.fr hz3.1), fun M4 hx4 hP4 => (have hY4 := LY.fr hY3 hx4.1; have hz4 := hz3.tr hx4.d; have hi4 : ((eTold B n G (eGo B n (eTold B n G (eGo B n e))))).1 = 0 → ((eGo B n (eTold B n G (eGo B n e)))).1 = 0 := fun q => eTold_i q; have hvt4 : 0 ≤ vTold B n G (eGo B n (eTold B n G (eGo B n e))) ∧ vTold B n G (eGo B n (eTold B n G (eGo B n e))) < 6 := vTold_r hw5; have hg4 := E516.of (hx4.1.i hY3.a2 (by unfold S48; omega)) hg3; have hA4 := MA.fr hY3 hA3 hx4.1; fun (qg7 : zrg (vTold B n G (eGo B n (eTold B n G (eGo B n e))))) qm8 => ⟨⟨⟨rfl, rfl⟩, hY4.w.rcv⟩, ⟨rfl, ⟨hY4.w, zIr hP4.2.1.1 (⟨fun (qc9 : (eTold B n G (eGo B n (eTold B n G (eGo B n e)))).1 ≠ 0) => ⟨(Or.inl rfl), fun _ _ => ⟨fun _ => ⟨⟨⟨rfl, rfl⟩, hY4.w.rcv⟩, ⟨B, n, (eTold B n G (eGo B n (eTold B n G (eGo B n e)))), rfl, hY4, hP4, fun M5 hx5 hP5 => (have hY5 := LY.fr hY4 hx5.1; have hz5 := hz4.tr hx5.d; have hi5 : ((eGo B n (eTold B n G (eGo B n (eTold B n G (eGo B n e)))))).1 = 0 → ((eTold B n G (eGo B n (eTold B n G (eGo B n e))))).1 = 0 := fun q => eGo_i q; have hg5 := E516.of (hx5.1.i hY4.a2 (by unfold S48; omega)) hg4; have hA5 := MA.fr hY4 hA4 hx5.1; fun qg11 qm12 => ⟨⟨⟨rfl, rfl⟩, hY5.w.rcv⟩, ⟨rfl, ⟨hY5.w, zIr hP5.2.1.1 (⟨fun (qc13 : (eGo B n (eTold B n G (eGo B n (eTold B n G (eGo B n e))))).1 ≠ 0) => ⟨(Or.inl rfl), fun _ _ => ⟨fun _ => (show K none M5 from ?g397l1), fun (h : (0 : Int) ≠ 0) => absurd h (by decide)⟩⟩, fun (qc15 : (eGo B n (eTold B n G (eGo B n (eTold B n G (eGo B n e))))).1 = 0) => ⟨(Or.inr rfl), fun _ _ => ⟨fun (h : (1 : Int) = 0) => absurd h (by decide), fun _ => ⟨⟨⟨rfl, rfl⟩, hY5.w.rcv⟩, ⟨rfl, ⟨hY5.w, _, hA5.1, ⟨(zrgI (x := 6 * (vTold B n G (eGo B n e))) (by omega)), ⟨(zrgI (x := 60 + 6 * (vTold B n G (eGo B n e))) (by omega)), ⟨(zrgI (x := 60 + 6 * (vTold B n G (eGo B n e)) + vTold B n G (eGo B n (eTold B n G (eGo B n e)))) (by omega)), ⟨⟨zixW hA5.2.1 hA5.2.2 (i := 60 + 6 * (vTold B n G (eGo B n e)) + vTold B n G (eGo B n (eTold B n G (eGo B n e)))) (by omega) (by decide), trivial⟩, zMr (zsI_g0 _ _ (60 + 6 * (vTold B n G (eGo B n e)) + vTold B n G (eGo B n (eTold B n G (eGo B n e)))) _) (⟨hY5.w, _, hA5.1, ⟨(zrgI (x := 6 * (vTold B n G (eGo B n (eTold B n G (eGo B n e))))) (by omega)), ⟨(zrgI (x := 60 + 6 * (vTold B n G (eGo B n (eTold B n G (eGo B n e))))) (by omega)), ⟨(zrgI (x := 60 + 6 * (vTold B n G (eGo B n (eTold B n G (eGo B n e)))) + vTold B n G (eGo B n e)) (by omega)), ⟨⟨zixW hA5.2.1 hA5.2.2 (i := 60 + 6 * (vTold B n G (eGo B n (eTold B n G (eGo B n e)))) + vTold B n G (eGo B n e)) (by omega) (by decide), trivial⟩, zMr (zsI_gU _ _ _ (60 + 6 * (vTold B n G (eGo B n (eTold B n G (eGo B n e)))) + vTold B n G (eGo B n e)) _) (fun _ _ => (show K none (zsA M5 672 (gU (gU (zI M5 672) (60 + 6 * (vTold B n G (eGo B n e)) + vTold B n G (eGo B n (eTold B n G (eGo B n e)))) 1) (60 + 6 * (vTold B n G (eGo B n (eTold B n G (eGo B n e)))) + vTold B n G (eGo B n e)) 1)) from ?g397l2))⟩⟩⟩⟩⟩)⟩⟩⟩⟩⟩⟩⟩⟩⟩⟩)⟩⟩⟩)⟩⟩, fun (h : (0 : Int) ≠ 0) => absurd h (by decide)⟩⟩, fun (qc18 : (eTold B n G (eGo B n (eTold B n G (eGo B n e)))).1 = 0) => ⟨(Or.inr rfl), fun _ _ => ⟨fun (h : (1 : Int) = 0) => absurd h (by decide), fun _ => ⟨fun (qc20 : vTold B n G (eGo B n e) = vTold B n G (eGo B n (eTold B n G (eGo B n e)))) => ⟨⟨⟨rfl, rfl⟩, hY4.w.rcv⟩, ⟨B, n, (eTold B n G (eGo B n (eTold B n G (eGo B n e)))), 3, rfl, hY4, hP4, (by decide), fun M6 hx6 hP6 => (have hY6 := LY.fr hY4 hx6.1; have hz6 := hz4.tr hx6.d; have hn6 : ((eErr 3 (eTold B n G (eGo B n (eTold B n G (eGo B n e)))))).1 ≠ 0 := eErr_n (by decide); have hg6 := E516.of (hx6.1.i hY4.a2 (by unfold S48; omega)) hg4; have hA6 := MA.fr hY4 hA4 hx6.1; fun qg21 qm22 => ⟨⟨⟨rfl, rfl⟩, hY6.w.rcv⟩, ⟨B, n, (eErr 3 (eTold B n G (eGo B n (eTold B n G (eGo B n e))))), rfl, hY6, hP6, fun M7 hx7 hP7 => (have hY7 := LY.fr hY6 hx7.1; have hz7 := hz6.tr hx7.d; have hi7 : ((eGo B n (eErr 3 (eTold B n G (eGo B n (eTold B n G (eGo B n e))))))).1 = 0 → ((eErr 3 (eTold B n G (eGo B n (eTold B n G (eGo B n e)))))).1 = 0 := fun q => eGo_i q; have hg7 := E516.of (hx7.1.i hY6.a2 (by unfold S48; omega)) hg6; have hA7 := MA.fr hY6 hA6 hx7.1; fun qg23 qm24 => ⟨⟨⟨rfl, rfl⟩, hY7.w.rcv⟩, ⟨rfl, ⟨hY7.w, zIr hP7.2.1.1 (⟨fun (qc25 : (eGo B n (eErr 3 (eTold B n G (eGo B n (eTold B n G (eGo B n e)))))).1 ≠ 0) => ⟨(Or.inl rfl), fun _ _ => ⟨fun _ => (show K none M7 from ?g397l3), fun (h : (0 : Int) ≠ 0) => absurd h (by decide)⟩⟩, fun (qc27 : (eGo B n (eErr 3 (eTold B n G (eGo B n (eTold B n G (eGo B n e)))))).1 = 0) => ⟨(Or.inr rfl), fun _ _ => ⟨fun (h : (1 : Int) = 0) => absurd h (by decide), fun _ => ⟨⟨⟨rfl, rfl⟩, hY7.w.rcv⟩, ⟨rfl, ⟨hY7.w, _, hA7.1, ⟨(zrgI (x := 6 * (vTold B n G (eGo B n e))) (by omega)), ⟨(zrgI (x := 60 + 6 * (vTold B n G (eGo B n e))) (by omega)), ⟨(zrgI (x := 60 + 6 * (vTold B n G (eGo B n e)) + vTold B n G (eGo B n (eTold B n G (eGo B n e)))) (by omega)), ⟨⟨zixW hA7.2.1 hA7.2.2 (i := 60 + 6 * (vTold B n G (eGo B n e)) + vTold B n G (eGo B n (eTold B n G (eGo B n e)))) (by omega) (by decide), trivial⟩, zMr (zsI_g0 _ _ (60 + 6 * (vTold B n G (eGo B n e)) + vTold B n G (eGo B n (eTold B n G (eGo B n e)))) _) (⟨hY7.w, _, hA7.1, ⟨(zrgI (x := 6 * (vTold B n G (eGo B n (eTold B n G (eGo B n e))))) (by omega)), ⟨(zrgI (x := 60 + 6 * (vTold B n G (eGo B n (eTold B n G (eGo B n e))))) (by omega)), ⟨(zrgI (x := 60 + 6 * (vTold B n G (eGo B n (eTold B n G (eGo B n e)))) + vTold B n G (eGo B n e)) (by omega)), ⟨⟨zixW hA7.2.1 hA7.2.2 (i := 60 + 6 * (vTold B n G (eGo B n (eTold B n G (eGo B n e)))) + vTold B n G (eGo B n e)) (by omega) (by decide), trivial⟩, zMr (zsI_gU _ _ _ (60 + 6 * (vTold B n G (eGo B n (eTold B n G (eGo B n e)))) + vTold B n G (eGo B n e)) _) (fun _ _ => (show K none (zsA M7 672 (gU (gU (zI M7 672) (60 + 6 * (vTold B n G (eGo B n e)) + vTold B n G (eGo B n (eTold B n G (eGo B n e)))) 1) (60 + 6 * (vTold B n G (eGo B n (eTold B n G (eGo B n e)))) + vTold B n G (eGo B n e)) 1)) from ?g397l4))⟩⟩⟩⟩⟩)⟩⟩⟩⟩⟩⟩⟩⟩⟩⟩)⟩⟩⟩)⟩⟩)⟩⟩, fun (qc30 : vTold B n G (eGo B n e) ≠ vTold B n G (eGo B n (eTold B n G (eGo B n e)))) => ⟨⟨⟨rfl, rfl⟩, hY4.w.rcv⟩, ⟨rfl, ⟨fun (qc31 : vTold B n G (eGo B n e) = vTold B n G (eGo B n (eTold B n G (eGo B n e)))) => ⟨(Or.inl rfl), fun _ _ => ⟨fun _ => ⟨⟨⟨rfl, rfl⟩, hY4.w.rcv⟩, ⟨B, n, (eTold B n G (eGo B n (eTold B n G (eGo B n e)))), rfl, hY4, hP4, fun M8 hx8 hP8 => (have hY8 := LY.fr hY4 hx8.1; have hz8 := hz4.tr hx8.d; have hi8 : ((eGo B n (eTold B n G (eGo B n (eTold B n G (eGo B n e)))))).1 = 0 → ((eTold B n G (eGo B n (eTold B n G (eGo B n e))))).1 = 0 := fun q => eGo_i q; have hg8 := E516.of (hx8.1.i hY4.a2 (by unfold S48; omega)) hg4; have hA8 := MA.fr hY4 hA4 hx8.1; fun qg33 qm34 => ⟨⟨⟨rfl, rfl⟩, hY8.w.rcv⟩, ⟨rfl, ⟨hY8.w, zIr hP8.2.1.1 (⟨fun (qc35 : (eGo B n (eTold B n G (eGo B n (eTold B n G (eGo B n e))))).1 ≠ 0) => ⟨(Or.inl rfl), fun _ _ => ⟨fun _ => (show K none M8 from ?g397l5), fun (h : (0 : Int) ≠ 0) => absurd h (by decide)⟩⟩, fun (qc37 : (eGo B n (eTold B n G (eGo B n (eTold B n G (eGo B n e))))).1 = 0) => ⟨(Or.inr rfl), fun _ _ => ⟨fun (h : (1 : Int) = 0) => absurd h (by decide), fun _ => ⟨⟨⟨rfl, rfl⟩, hY8.w.rcv⟩, ⟨rfl, ⟨hY8.w, _, hA8.1, ⟨(zrgI (x := 6 * (vTold B n G (eGo B n e))) (by omega)), ⟨(zrgI (x := 60 + 6 * (vTold B n G (eGo B n e))) (by omega)), ⟨(zrgI (x := 60 + 6 * (vTold B n G (eGo B n e)) + vTold B n G (eGo B n (eTold B n G (eGo B n e)))) (by omega)), ⟨⟨zixW hA8.2.1 hA8.2.2 (i := 60 + 6 * (vTold B n G (eGo B n e)) + vTold B n G (eGo B n (eTold B n G (eGo B n e)))) (by omega) (by decide), trivial⟩, zMr (zsI_g0 _ _ (60 + 6 * (vTold B n G (eGo B n e)) + vTold B n G (eGo B n (eTold B n G (eGo B n e)))) _) (⟨hY8.w, _, hA8.1, ⟨(zrgI (x := 6 * (vTold B n G (eGo B n (eTold B n G (eGo B n e))))) (by omega)), ⟨(zrgI (x := 60 + 6 * (vTold B n G (eGo B n (eTold B n G (eGo B n e))))) (by omega)), ⟨(zrgI (x := 60 + 6 * (vTold B n G (eGo B n (eTold B n G (eGo B n e)))) + vTold B n G (eGo B n e)) (by omega)), ⟨⟨zixW hA8.2.1 hA8.2.2 (i := 60 + 6 * (vTold B n G (eGo B n (eTold B n G (eGo B n e)))) + vTold B n G (eGo B n e)) (by omega) (by decide), trivial⟩, zMr (zsI_gU _ _ _ (60 + 6 * (vTold B n G (eGo B n (eTold B n G (eGo B n e)))) + vTold B n G (eGo B n e)) _) (fun _ _ => (show K none (zsA M8 672 (gU (gU (zI M8 672) (60 + 6 * (vTold B n G (eGo B n e)) + vTold B n G (eGo B n (eTold B n G (eGo B n e)))) 1) (60 + 6 * (vTold B n G (eGo B n (eTold B n G (eGo B n e)))) + vTold B n G (eGo B n e)) 1)) from ?g397l6))⟩⟩⟩⟩⟩)⟩⟩⟩⟩⟩⟩⟩⟩⟩⟩)⟩⟩⟩)⟩⟩, fun (h : (0 : Int) ≠ 0) => absurd h (by decide)⟩⟩, fun (qc40 : vTold B n G (eGo B n e) ≠ vTold B n G (eGo B n (eTold B n G (eGo B n e)))) => ⟨hY4.w, _, hA4.1, ⟨(zrgI (x := 6 * (vTold B n G (eGo B n e))) (by omega)), ⟨(zrgI (x := 60 + 6 * (vTold B n G (eGo B n e))) (by omega)), ⟨(zrgI (x := 60 + 6 * (vTold B n G (eGo B n e)) + vTold B n G (eGo B n (eTold B n G (eGo B n e)))) (by omega)), ⟨zixO hA4.2.1 hA4.2.2 (i := 60 + 6 * (vTold B n G (eGo B n e)) + vTold B n G (eGo B n (eTold B n G (eGo B n e)))) (by omega) (by decide), zIr (hg4 _ (by omega)) (⟨fun (qc41 : G (60 + 6 * (vTold B n G (eGo B n e)) + vTold B n G (eGo B n (eTold B n G (eGo B n e)))).toNat = 1) => ⟨(Or.inr rfl), fun _ _ => ⟨fun (h : (1 : Int) = 0) => absurd h (by decide), fun _ => ⟨⟨⟨rfl, rfl⟩, hY4.w.rcv⟩, ⟨B, n, (eTold B n G (eGo B n (eTold B n G (eGo B n e)))), 3, rfl, hY4, hP4, (by decide), fun M9 hx9 hP9 => (have hY9 := LY.fr hY4 hx9.1; have hz9 := hz4.tr hx9.d; have hn9 : ((eErr 3 (eTold B n G (eGo B n (eTold B n G (eGo B n e)))))).1 ≠ 0 := eErr_n (by decide); have hg9 := E516.of (hx9.1.i hY4.a2 (by unfold S48; omega)) hg4; have hA9 := MA.fr hY4 hA4 hx9.1; fun qg43 qm44 => ⟨⟨⟨rfl, rfl⟩, hY9.w.rcv⟩, ⟨B, n, (eErr 3 (eTold B n G (eGo B n (eTold B n G (eGo B n e))))), rfl, hY9, hP9, fun M10 hx10 hP10 => (have hY10 := LY.fr hY9 hx10.1; have hz10 := hz9.tr hx10.d; have hi10 : ((eGo B n (eErr 3 (eTold B n G (eGo B n (eTold B n G (eGo B n e))))))).1 = 0 → ((eErr 3 (eTold B n G (eGo B n (eTold B n G (eGo B n e)))))).1 = 0 := fun q => eGo_i q; have hg10 := E516.of (hx10.1.i hY9.a2 (by unfold S48; omega)) hg9; have hA10 := MA.fr hY9 hA9 hx10.1; fun qg45 qm46 => ⟨⟨⟨rfl, rfl⟩, hY10.w.rcv⟩, ⟨rfl, ⟨hY10.w, zIr hP10.2.1.1 (⟨fun (qc47 : (eGo B n (eErr 3 (eTold B n G (eGo B n (eTold B n G (eGo B n e)))))).1 ≠ 0) => ⟨(Or.inl rfl), fun _ _ => ⟨fun _ => (show K none M10 from ?g397l7), fun (h : (0 : Int) ≠ 0) => absurd h (by decide)⟩⟩, fun (qc49 : (eGo B n (eErr 3 (eTold B n G (eGo B n (eTold B n G (eGo B n e)))))).1 = 0) => ⟨(Or.inr rfl), fun _ _ => ⟨fun (h : (1 : Int) = 0) => absurd h (by decide), fun _ => ⟨⟨⟨rfl, rfl⟩, hY10.w.rcv⟩, ⟨rfl, ⟨hY10.w, _, hA10.1, ⟨(zrgI (x := 6 * (vTold B n G (eGo B n e))) (by omega)), ⟨(zrgI (x := 60 + 6 * (vTold B n G (eGo B n e))) (by omega)), ⟨(zrgI (x := 60 + 6 * (vTold B n G (eGo B n e)) + vTold B n G (eGo B n (eTold B n G (eGo B n e)))) (by omega)), ⟨⟨zixW hA10.2.1 hA10.2.2 (i := 60 + 6 * (vTold B n G (eGo B n e)) + vTold B n G (eGo B n (eTold B n G (eGo B n e)))) (by omega) (by decide), trivial⟩, zMr (zsI_g0 _ _ (60 + 6 * (vTold B n G (eGo B n e)) + vTold B n G (eGo B n (eTold B n G (eGo B n e)))) _) (⟨hY10.w, _, hA10.1, ⟨(zrgI (x := 6 * (vTold B n G (eGo B n (eTold B n G (eGo B n e))))) (by omega)), ⟨(zrgI (x := 60 + 6 * (vTold B n G (eGo B n (eTold B n G (eGo B n e))))) (by omega)), ⟨(zrgI (x := 60 + 6 * (vTold B n G (eGo B n (eTold B n G (eGo B n e)))) + vTold B n G (eGo B n e)) (by omega)), ⟨⟨zixW hA10.2.1 hA10.2.2 (i := 60 + 6 * (vTold B n G (eGo B n (eTold B n G (eGo B n e)))) + vTold B n G (eGo B n e)) (by omega) (by decide), trivial⟩, zMr (zsI_gU _ _ _ (60 + 6 * (vTold B n G (eGo B n (eTold B n G (eGo B n e)))) + vTold B n G (eGo B n e)) _) (fun _ _ => (show K none (zsA M10 672 (gU (gU (zI M10 672) (60 + 6 * (vTold B n G (eGo B n e)) + vTold B n G (eGo B n (eTold B n G (eGo B n e)))) 1) (60 + 6 * (vTold B n G (eGo B n (eTold B n G (eGo B n e)))) + vTold B n G (eGo B n e)) 1)) from ?g397l8))⟩⟩⟩⟩⟩)⟩⟩⟩⟩⟩⟩⟩⟩⟩⟩)⟩⟩⟩)⟩⟩)⟩⟩⟩⟩, fun (qc52 : G (60 + 6 * (vTold B n G (eGo B n e)) + vTold B n G (eGo B n (eTold B n G (eGo B n e)))).toNat ≠ 1) => ⟨⟨⟨rfl, rfl⟩, hY4.w.rcv⟩, ⟨rfl, ⟨hY4.w, _, hA4.1, ⟨(zrgI (x := 6 * (vTold B n G (eGo B n e))) (by omega)), ⟨(zrgI (x := 96 + 6 * (vTold B n G (eGo B n e))) (by omega)), ⟨(zrgI (x := 96 + 6 * (vTold B n G (eGo B n e)) + vTold B n G (eGo B n (eTold B n G (eGo B n e)))) (by omega)), ⟨zixO hA4.2.1 hA4.2.2 (i := 96 + 6 * (vTold B n G (eGo B n e)) + vTold B n G (eGo B n (eTold B n G (eGo B n e)))) (by omega) (by decide), zIr (hg4 _ (by omega)) (⟨trivial, fun (qg53 : zrg (G (96 + 6 * (vTold B n G (eGo B n e)) + vTold B n G (eGo B n (eTold B n G (eGo B n e)))).toNat)) _ => ⟨fun (qc54 : G (96 + 6 * (vTold B n G (eGo B n e)) + vTold B n G (eGo B n (eTold B n G (eGo B n e)))).toNat ≤ 1) => ⟨(Or.inl rfl), fun _ _ => ⟨fun _ => ⟨⟨⟨rfl, rfl⟩, hY4.w.rcv⟩, ⟨B, n, (eTold B n G (eGo B n (eTold B n G (eGo B n e)))), rfl, hY4, hP4, fun M11 hx11 hP11 => (have hY11 := LY.fr hY4 hx11.1; have hz11 := hz4.tr hx11.d; have hi11 : ((eGo B n (eTold B n G (eGo B n (eTold B n G (eGo B n e)))))).1 = 0 → ((eTold B n G (eGo B n (eTold B n G (eGo B n e))))).1 = 0 := fun q => eGo_i q; have hg11 := E516.of (hx11.1.i hY4.a2 (by unfold S48; omega)) hg4; have hA11 := MA.fr hY4 hA4 hx11.1; fun qg56 qm57 => ⟨⟨⟨rfl, rfl⟩, hY11.w.rcv⟩, ⟨rfl, ⟨hY11.w, zIr hP11.2.1.1 (⟨fun (qc58 : (eGo B n (eTold B n G (eGo B n (eTold B n G (eGo B n e))))).1 ≠ 0) => ⟨(Or.inl rfl), fun _ _ => ⟨fun _ => (show K none M11 from ?g397l9), fun (h : (0 : Int) ≠ 0) => absurd h (by decide)⟩⟩, fun (qc60 : (eGo B n (eTold B n G (eGo B n (eTold B n G (eGo B n e))))).1 = 0) => ⟨(Or.inr rfl), fun _ _ => ⟨fun (h : (1 : Int) = 0) => absurd h (by decide), fun _ => ⟨⟨⟨rfl, rfl⟩, hY11.w.rcv⟩, ⟨rfl, ⟨hY11.w, _, hA11.1, ⟨(zrgI (x := 6 * (vTold B n G (eGo B n e))) (by omega)), ⟨(zrgI (x := 60 + 6 * (vTold B n G (eGo B n e))) (by omega)), ⟨(zrgI (x := 60 + 6 * (vTold B n G (eGo B n e)) + vTold B n G (eGo B n (eTold B n G (eGo B n e)))) (by omega)), ⟨⟨zixW hA11.2.1 hA11.2.2 (i := 60 + 6 * (vTold B n G (eGo B n e)) + vTold B n G (eGo B n (eTold B n G (eGo B n e)))) (by omega) (by decide), trivial⟩, zMr (zsI_g0 _ _ (60 + 6 * (vTold B n G (eGo B n e)) + vTold B n G (eGo B n (eTold B n G (eGo B n e)))) _) (⟨hY11.w, _, hA11.1, ⟨(zrgI (x := 6 * (vTold B n G (eGo B n (eTold B n G (eGo B n e))))) (by omega)), ⟨(zrgI (x := 60 + 6 * (vTold B n G (eGo B n (eTold B n G (eGo B n e))))) (by omega)), ⟨(zrgI (x := 60 + 6 * (vTold B n G (eGo B n (eTold B n G (eGo B n e)))) + vTold B n G (eGo B n e)) (by omega)), ⟨⟨zixW hA11.2.1 hA11.2.2 (i := 60 + 6 * (vTold B n G (eGo B n (eTold B n G (eGo B n e)))) + vTold B n G (eGo B n e)) (by omega) (by decide), trivial⟩, zMr (zsI_gU _ _ _ (60 + 6 * (vTold B n G (eGo B n (eTold B n G (eGo B n e)))) + vTold B n G (eGo B n e)) _) (fun _ _ => (show K none (zsA M11 672 (gU (gU (zI M11 672) (60 + 6 * (vTold B n G (eGo B n e)) + vTold B n G (eGo B n (eTold B n G (eGo B n e)))) 1) (60 + 6 * (vTold B n G (eGo B n (eTold B n G (eGo B n e)))) + vTold B n G (eGo B n e)) 1)) from ?g397l10))⟩⟩⟩⟩⟩)⟩⟩⟩⟩⟩⟩⟩⟩⟩⟩)⟩⟩⟩)⟩⟩, fun (h : (0 : Int) ≠ 0) => absurd h (by decide)⟩⟩, fun (qc63 : G (96 + 6 * (vTold B n G (eGo B n e)) + vTold B n G (eGo B n (eTold B n G (eGo B n e)))).toNat > 1) => ⟨(Or.inr rfl), fun _ _ => ⟨fun (h : (1 : Int) = 0) => absurd h (by decide), fun _ => ⟨⟨⟨rfl, rfl⟩, hY4.w.rcv⟩, ⟨B, n, (eTold B n G (eGo B n (eTold B n G (eGo B n e)))), 3, rfl, hY4, hP4, (by decide), fun M12 hx12 hP12 => (have hY12 := LY.fr hY4 hx12.1; have hz12 := hz4.tr hx12.d; have hn12 : ((eErr 3 (eTold B n G (eGo B n (eTold B n G (eGo B n e)))))).1 ≠ 0 := eErr_n (by decide); have hg12 := E516.of (hx12.1.i hY4.a2 (by unfold S48; omega)) hg4; have hA12 := MA.fr hY4 hA4 hx12.1; fun qg65 qm66 => ⟨⟨⟨rfl, rfl⟩, hY12.w.rcv⟩, ⟨B, n, (eErr 3 (eTold B n G (eGo B n (eTold B n G (eGo B n e))))), rfl, hY12, hP12, fun M13 hx13 hP13 => (have hY13 := LY.fr hY12 hx13.1; have hz13 := hz12.tr hx13.d; have hi13 : ((eGo B n (eErr 3 (eTold B n G (eGo B n (eTold B n G (eGo B n e))))))).1 = 0 → ((eErr 3 (eTold B n G (eGo B n (eTold B n G (eGo B n e)))))).1 = 0 := fun q => eGo_i q; have hg13 := E516.of (hx13.1.i hY12.a2 (by unfold S48; omega)) hg12; have hA13 := MA.fr hY12 hA12 hx13.1; fun qg67 qm68 => ⟨⟨⟨rfl, rfl⟩, hY13.w.rcv⟩, ⟨rfl, ⟨hY13.w, zIr hP13.2.1.1 (⟨fun (qc69 : (eGo B n (eErr 3 (eTold B n G (eGo B n (eTold B n G (eGo B n e)))))).1 ≠ 0) => ⟨(Or.inl rfl), fun _ _ => ⟨fun _ => (show K none M13 from ?g397l11), fun (h : (0 : Int) ≠ 0) => absurd h (by decide)⟩⟩, fun (qc71 : (eGo B n (eErr 3 (eTold B n G (eGo B n (eTold B n G (eGo B n e)))))).1 = 0) => ⟨(Or.inr rfl), fun _ _ => ⟨fun (h : (1 : Int) = 0) => absurd h (by decide), fun _ => ⟨⟨⟨rfl, rfl⟩, hY13.w.rcv⟩, ⟨rfl, ⟨hY13.w, _, hA13.1, ⟨(zrgI (x := 6 * (vTold B n G (eGo B n e))) (by omega)), ⟨(zrgI (x := 60 + 6 * (vTold B n G (eGo B n e))) (by omega)), ⟨(zrgI (x := 60 + 6 * (vTold B n G (eGo B n e)) + vTold B n G (eGo B n (eTold B n G (eGo B n e)))) (by omega)), ⟨⟨zixW hA13.2.1 hA13.2.2 (i := 60 + 6 * (vTold B n G (eGo B n e)) + vTold B n G (eGo B n (eTold B n G (eGo B n e)))) (by omega) (by decide), trivial⟩, zMr (zsI_g0 _ _ (60 + 6 * (vTold B n G (eGo B n e)) + vTold B n G (eGo B n (eTold B n G (eGo B n e)))) _) (⟨hY13.w, _, hA13.1, ⟨(zrgI (x := 6 * (vTold B n G (eGo B n (eTold B n G (eGo B n e))))) (by omega)), ⟨(zrgI (x := 60 + 6 * (vTold B n G (eGo B n (eTold B n G (eGo B n e))))) (by omega)), ⟨(zrgI (x := 60 + 6 * (vTold B n G (eGo B n (eTold B n G (eGo B n e)))) + vTold B n G (eGo B n e)) (by omega)), ⟨⟨zixW hA13.2.1 hA13.2.2 (i := 60 + 6 * (vTold B n G (eGo B n (eTold B n G (eGo B n e)))) + vTold B n G (eGo B n e)) (by omega) (by decide), trivial⟩, zMr (zsI_gU _ _ _ (60 + 6 * (vTold B n G (eGo B n (eTold B n G (eGo B n e)))) + vTold B n G (eGo B n e)) _) (fun _ _ => (show K none (zsA M13 672 (gU (gU (zI M13 672) (60 + 6 * (vTold B n G (eGo B n e)) + vTold B n G (eGo B n (eTold B n G (eGo B n e)))) 1) (60 + 6 * (vTold B n G (eGo B n (eTold B n G (eGo B n e)))) + vTold B n G (eGo B n e)) 1)) from ?g397l12))⟩⟩⟩⟩⟩)⟩⟩⟩⟩⟩⟩⟩⟩⟩⟩)⟩⟩⟩)⟩⟩)⟩⟩⟩⟩⟩⟩)⟩⟩⟩⟩⟩⟩⟩⟩)⟩⟩⟩⟩⟩⟩⟩⟩⟩⟩⟩⟩)⟩⟩⟩)⟩⟩)⟩⟩)⟩⟩)⟩⟩
  case g397l1 =>
    first
    | (exfalso; omega)
    | skip
      have hC : ((b2 B n G e).1 = 0 ∧ (ba B n G e = bb B n G e ∨ fFoes G (ba B n G e) (bb B n G e) = true)) ↔ ((eTold B n G (eGo B n (eTold B n G (eGo B n e)))).1 = 0 ∧ (vTold B n G (eGo B n e) = vTold B n G (eGo B n (eTold B n G (eGo B n e))) ∨ (vTold B n G (eGo B n e) ≠ vTold B n G (eGo B n (eTold B n G (eGo B n e))) ∧ (G (60 + 6 * vTold B n G (eGo B n e) + vTold B n G (eGo B n (eTold B n G (eGo B n e)))).toNat = 1 ∨ 1 < G (96 + 6 * vTold B n G (eGo B n e) + vTold B n G (eGo B n (eTold B n G (eGo B n e)))).toNat)))) := by
        unfold b2 ba bb b1 fFoes
        rw [decide_eq_true_eq]
      have e9 : ePB B n G e = (eGo B n (eTold B n G (eGo B n (eTold B n G (eGo B n e))))) := by
        unfold ePB
        rw [if_neg (fun z => absurd (hC.mp z) (by omega))]
        rfl
      have h9 := hP5
      rw [← e9] at h9
      refine hK _ hz5 h9 ?_
      unfold gPB
      rw [e9, if_neg (show ¬ ((eGo B n (eTold B n G (eGo B n (eTold B n G (eGo B n e)))))).1 = 0 by omega)]
      exact hg5
  case g397l2 =>
    first
    | (exfalso; omega)
    | skip
      have hC : ((b2 B n G e).1 = 0 ∧ (ba B n G e = bb B n G e ∨ fFoes G (ba B n G e) (bb B n G e) = true)) ↔ ((eTold B n G (eGo B n (eTold B n G (eGo B n e)))).1 = 0 ∧ (vTold B n G (eGo B n e) = vTold B n G (eGo B n (eTold B n G (eGo B n e))) ∨ (vTold B n G (eGo B n e) ≠ vTold B n G (eGo B n (eTold B n G (eGo B n e))) ∧ (G (60 + 6 * vTold B n G (eGo B n e) + vTold B n G (eGo B n (eTold B n G (eGo B n e)))).toNat = 1 ∨ 1 < G (96 + 6 * vTold B n G (eGo B n e) + vTold B n G (eGo B n (eTold B n G (eGo B n e)))).toNat)))) := by
        unfold b2 ba bb b1 fFoes
        rw [decide_eq_true_eq]
      have e9 : ePB B n G e = (eGo B n (eTold B n G (eGo B n (eTold B n G (eGo B n e))))) := by
        unfold ePB
        rw [if_neg (fun z => absurd (hC.mp z) (by omega))]
        rfl
      have h9 := hP5
      rw [← e9] at h9
      refine hK _ (hz5.tr (RXd.a hY5)) (RP.a h9) ?_
      unfold gPB
      rw [e9, if_pos (show ((eGo B n (eTold B n G (eGo B n (eTold B n G (eGo B n e)))))).1 = 0 by omega)]
      unfold ba bb b1
      exact E516.of (zI_A _ _ _) ((hg5.u _ _).u _ _)
  case g397l3 =>
    first
    | (exfalso; omega)
    | skip
      have hC : ((b2 B n G e).1 = 0 ∧ (ba B n G e = bb B n G e ∨ fFoes G (ba B n G e) (bb B n G e) = true)) ↔ ((eTold B n G (eGo B n (eTold B n G (eGo B n e)))).1 = 0 ∧ (vTold B n G (eGo B n e) = vTold B n G (eGo B n (eTold B n G (eGo B n e))) ∨ (vTold B n G (eGo B n e) ≠ vTold B n G (eGo B n (eTold B n G (eGo B n e))) ∧ (G (60 + 6 * vTold B n G (eGo B n e) + vTold B n G (eGo B n (eTold B n G (eGo B n e)))).toNat = 1 ∨ 1 < G (96 + 6 * vTold B n G (eGo B n e) + vTold B n G (eGo B n (eTold B n G (eGo B n e)))).toNat)))) := by
        unfold b2 ba bb b1 fFoes
        rw [decide_eq_true_eq]
      have e9 : ePB B n G e = (eGo B n (eErr 3 (eTold B n G (eGo B n (eTold B n G (eGo B n e)))))) := by
        unfold ePB
        rw [if_pos (hC.mpr (by omega))]
        rfl
      have h9 := hP7
      rw [← e9] at h9
      refine hK _ hz7 h9 ?_
      unfold gPB
      rw [e9, if_neg (show ¬ ((eGo B n (eErr 3 (eTold B n G (eGo B n (eTold B n G (eGo B n e))))))).1 = 0 by omega)]
      exact hg7
  case g397l4 =>
    first
    | (exfalso; omega)
    | skip
      have hC : ((b2 B n G e).1 = 0 ∧ (ba B n G e = bb B n G e ∨ fFoes G (ba B n G e) (bb B n G e) = true)) ↔ ((eTold B n G (eGo B n (eTold B n G (eGo B n e)))).1 = 0 ∧ (vTold B n G (eGo B n e) = vTold B n G (eGo B n (eTold B n G (eGo B n e))) ∨ (vTold B n G (eGo B n e) ≠ vTold B n G (eGo B n (eTold B n G (eGo B n e))) ∧ (G (60 + 6 * vTold B n G (eGo B n e) + vTold B n G (eGo B n (eTold B n G (eGo B n e)))).toNat = 1 ∨ 1 < G (96 + 6 * vTold B n G (eGo B n e) + vTold B n G (eGo B n (eTold B n G (eGo B n e)))).toNat)))) := by
        unfold b2 ba bb b1 fFoes
        rw [decide_eq_true_eq]
      have e9 : ePB B n G e = (eGo B n (eErr 3 (eTold B n G (eGo B n (eTold B n G (eGo B n e)))))) := by
        unfold ePB
        rw [if_pos (hC.mpr (by omega))]
        rfl
      have h9 := hP7
      rw [← e9] at h9
      refine hK _ (hz7.tr (RXd.a hY7)) (RP.a h9) ?_
      unfold gPB
      rw [e9, if_pos (show ((eGo B n (eErr 3 (eTold B n G (eGo B n (eTold B n G (eGo B n e))))))).1 = 0 by omega)]
      unfold ba bb b1
      exact E516.of (zI_A _ _ _) ((hg7.u _ _).u _ _)
  case g397l5 =>
    first
    | (exfalso; omega)
    | skip
      have hC : ((b2 B n G e).1 = 0 ∧ (ba B n G e = bb B n G e ∨ fFoes G (ba B n G e) (bb B n G e) = true)) ↔ ((eTold B n G (eGo B n (eTold B n G (eGo B n e)))).1 = 0 ∧ (vTold B n G (eGo B n e) = vTold B n G (eGo B n (eTold B n G (eGo B n e))) ∨ (vTold B n G (eGo B n e) ≠ vTold B n G (eGo B n (eTold B n G (eGo B n e))) ∧ (G (60 + 6 * vTold B n G (eGo B n e) + vTold B n G (eGo B n (eTold B n G (eGo B n e)))).toNat = 1 ∨ 1 < G (96 + 6 * vTold B n G (eGo B n e) + vTold B n G (eGo B n (eTold B n G (eGo B n e)))).toNat)))) := by
        unfold b2 ba bb b1 fFoes
        rw [decide_eq_true_eq]
      have e9 : ePB B n G e = (eGo B n (eTold B n G (eGo B n (eTold B n G (eGo B n e))))) := by
        unfold ePB
        rw [if_neg (fun z => absurd (hC.mp z) (by omega))]
        rfl
      have h9 := hP8
      rw [← e9] at h9
      refine hK _ hz8 h9 ?_
      unfold gPB
      rw [e9, if_neg (show ¬ ((eGo B n (eTold B n G (eGo B n (eTold B n G (eGo B n e)))))).1 = 0 by omega)]
      exact hg8
  case g397l6 =>
    first
    | (exfalso; omega)
    | skip
      have hC : ((b2 B n G e).1 = 0 ∧ (ba B n G e = bb B n G e ∨ fFoes G (ba B n G e) (bb B n G e) = true)) ↔ ((eTold B n G (eGo B n (eTold B n G (eGo B n e)))).1 = 0 ∧ (vTold B n G (eGo B n e) = vTold B n G (eGo B n (eTold B n G (eGo B n e))) ∨ (vTold B n G (eGo B n e) ≠ vTold B n G (eGo B n (eTold B n G (eGo B n e))) ∧ (G (60 + 6 * vTold B n G (eGo B n e) + vTold B n G (eGo B n (eTold B n G (eGo B n e)))).toNat = 1 ∨ 1 < G (96 + 6 * vTold B n G (eGo B n e) + vTold B n G (eGo B n (eTold B n G (eGo B n e)))).toNat)))) := by
        unfold b2 ba bb b1 fFoes
        rw [decide_eq_true_eq]
      have e9 : ePB B n G e = (eGo B n (eTold B n G (eGo B n (eTold B n G (eGo B n e))))) := by
        unfold ePB
        rw [if_neg (fun z => absurd (hC.mp z) (by omega))]
        rfl
      have h9 := hP8
      rw [← e9] at h9
      refine hK _ (hz8.tr (RXd.a hY8)) (RP.a h9) ?_
      unfold gPB
      rw [e9, if_pos (show ((eGo B n (eTold B n G (eGo B n (eTold B n G (eGo B n e)))))).1 = 0 by omega)]
      unfold ba bb b1
      exact E516.of (zI_A _ _ _) ((hg8.u _ _).u _ _)
  case g397l7 =>
    first
    | (exfalso; omega)
    | skip
      have hC : ((b2 B n G e).1 = 0 ∧ (ba B n G e = bb B n G e ∨ fFoes G (ba B n G e) (bb B n G e) = true)) ↔ ((eTold B n G (eGo B n (eTold B n G (eGo B n e)))).1 = 0 ∧ (vTold B n G (eGo B n e) = vTold B n G (eGo B n (eTold B n G (eGo B n e))) ∨ (vTold B n G (eGo B n e) ≠ vTold B n G (eGo B n (eTold B n G (eGo B n e))) ∧ (G (60 + 6 * vTold B n G (eGo B n e) + vTold B n G (eGo B n (eTold B n G (eGo B n e)))).toNat = 1 ∨ 1 < G (96 + 6 * vTold B n G (eGo B n e) + vTold B n G (eGo B n (eTold B n G (eGo B n e)))).toNat)))) := by
        unfold b2 ba bb b1 fFoes
        rw [decide_eq_true_eq]
      have e9 : ePB B n G e = (eGo B n (eErr 3 (eTold B n G (eGo B n (eTold B n G (eGo B n e)))))) := by
        unfold ePB
        rw [if_pos (hC.mpr (by omega))]
        rfl
      have h9 := hP10
      rw [← e9] at h9
      refine hK _ hz10 h9 ?_
      unfold gPB
      rw [e9, if_neg (show ¬ ((eGo B n (eErr 3 (eTold B n G (eGo B n (eTold B n G (eGo B n e))))))).1 = 0 by omega)]
      exact hg10
  case g397l8 =>
    first
    | (exfalso; omega)
    | skip
      have hC : ((b2 B n G e).1 = 0 ∧ (ba B n G e = bb B n G e ∨ fFoes G (ba B n G e) (bb B n G e) = true)) ↔ ((eTold B n G (eGo B n (eTold B n G (eGo B n e)))).1 = 0 ∧ (vTold B n G (eGo B n e) = vTold B n G (eGo B n (eTold B n G (eGo B n e))) ∨ (vTold B n G (eGo B n e) ≠ vTold B n G (eGo B n (eTold B n G (eGo B n e))) ∧ (G (60 + 6 * vTold B n G (eGo B n e) + vTold B n G (eGo B n (eTold B n G (eGo B n e)))).toNat = 1 ∨ 1 < G (96 + 6 * vTold B n G (eGo B n e) + vTold B n G (eGo B n (eTold B n G (eGo B n e)))).toNat)))) := by
        unfold b2 ba bb b1 fFoes
        rw [decide_eq_true_eq]
      have e9 : ePB B n G e = (eGo B n (eErr 3 (eTold B n G (eGo B n (eTold B n G (eGo B n e)))))) := by
        unfold ePB
        rw [if_pos (hC.mpr (by omega))]
        rfl
      have h9 := hP10
      rw [← e9] at h9
      refine hK _ (hz10.tr (RXd.a hY10)) (RP.a h9) ?_
      unfold gPB
      rw [e9, if_pos (show ((eGo B n (eErr 3 (eTold B n G (eGo B n (eTold B n G (eGo B n e))))))).1 = 0 by omega)]
      unfold ba bb b1
      exact E516.of (zI_A _ _ _) ((hg10.u _ _).u _ _)
  case g397l9 =>
    first
    | (exfalso; omega)
    | skip
      have hC : ((b2 B n G e).1 = 0 ∧ (ba B n G e = bb B n G e ∨ fFoes G (ba B n G e) (bb B n G e) = true)) ↔ ((eTold B n G (eGo B n (eTold B n G (eGo B n e)))).1 = 0 ∧ (vTold B n G (eGo B n e) = vTold B n G (eGo B n (eTold B n G (eGo B n e))) ∨ (vTold B n G (eGo B n e) ≠ vTold B n G (eGo B n (eTold B n G (eGo B n e))) ∧ (G (60 + 6 * vTold B n G (eGo B n e) + vTold B n G (eGo B n (eTold B n G (eGo B n e)))).toNat = 1 ∨ 1 < G (96 + 6 * vTold B n G (eGo B n e) + vTold B n G (eGo B n (eTold B n G (eGo B n e)))).toNat)))) := by
        unfold b2 ba bb b1 fFoes
        rw [decide_eq_true_eq]
      have e9 : ePB B n G e = (eGo B n (eTold B n G (eGo B n (eTold B n G (eGo B n e))))) := by
        unfold ePB
        rw [if_neg (fun z => absurd (hC.mp z) (by omega))]
        rfl
      have h9 := hP11
      rw [← e9] at h9
      refine hK _ hz11 h9 ?_
      unfold gPB
      rw [e9, if_neg (show ¬ ((eGo B n (eTold B n G (eGo B n (eTold B n G (eGo B n e)))))).1 = 0 by omega)]
      exact hg11
  case g397l10 =>
    first
    | (exfalso; omega)
    | skip
      have hC : ((b2 B n G e).1 = 0 ∧ (ba B n G e = bb B n G e ∨ fFoes G (ba B n G e) (bb B n G e) = true)) ↔ ((eTold B n G (eGo B n (eTold B n G (eGo B n e)))).1 = 0 ∧ (vTold B n G (eGo B n e) = vTold B n G (eGo B n (eTold B n G (eGo B n e))) ∨ (vTold B n G (eGo B n e) ≠ vTold B n G (eGo B n (eTold B n G (eGo B n e))) ∧ (G (60 + 6 * vTold B n G (eGo B n e) + vTold B n G (eGo B n (eTold B n G (eGo B n e)))).toNat = 1 ∨ 1 < G (96 + 6 * vTold B n G (eGo B n e) + vTold B n G (eGo B n (eTold B n G (eGo B n e)))).toNat)))) := by
        unfold b2 ba bb b1 fFoes
        rw [decide_eq_true_eq]
      have e9 : ePB B n G e = (eGo B n (eTold B n G (eGo B n (eTold B n G (eGo B n e))))) := by
        unfold ePB
        rw [if_neg (fun z => absurd (hC.mp z) (by omega))]
        rfl
      have h9 := hP11
      rw [← e9] at h9
      refine hK _ (hz11.tr (RXd.a hY11)) (RP.a h9) ?_
      unfold gPB
      rw [e9, if_pos (show ((eGo B n (eTold B n G (eGo B n (eTold B n G (eGo B n e)))))).1 = 0 by omega)]
      unfold ba bb b1
      exact E516.of (zI_A _ _ _) ((hg11.u _ _).u _ _)
  case g397l11 =>
    first
    | (exfalso; omega)
    | skip
      have hC : ((b2 B n G e).1 = 0 ∧ (ba B n G e = bb B n G e ∨ fFoes G (ba B n G e) (bb B n G e) = true)) ↔ ((eTold B n G (eGo B n (eTold B n G (eGo B n e)))).1 = 0 ∧ (vTold B n G (eGo B n e) = vTold B n G (eGo B n (eTold B n G (eGo B n e))) ∨ (vTold B n G (eGo B n e) ≠ vTold B n G (eGo B n (eTold B n G (eGo B n e))) ∧ (G (60 + 6 * vTold B n G (eGo B n e) + vTold B n G (eGo B n (eTold B n G (eGo B n e)))).toNat = 1 ∨ 1 < G (96 + 6 * vTold B n G (eGo B n e) + vTold B n G (eGo B n (eTold B n G (eGo B n e)))).toNat)))) := by
        unfold b2 ba bb b1 fFoes
        rw [decide_eq_true_eq]
      have e9 : ePB B n G e = (eGo B n (eErr 3 (eTold B n G (eGo B n (eTold B n G (eGo B n e)))))) := by
        unfold ePB
        rw [if_pos (hC.mpr (by omega))]
        rfl
      have h9 := hP13
      rw [← e9] at h9
      refine hK _ hz13 h9 ?_
      unfold gPB
      rw [e9, if_neg (show ¬ ((eGo B n (eErr 3 (eTold B n G (eGo B n (eTold B n G (eGo B n e))))))).1 = 0 by omega)]
      exact hg13
  case g397l12 =>
    first
    | (exfalso; omega)
    | skip
      have hC : ((b2 B n G e).1 = 0 ∧ (ba B n G e = bb B n G e ∨ fFoes G (ba B n G e) (bb B n G e) = true)) ↔ ((eTold B n G (eGo B n (eTold B n G (eGo B n e)))).1 = 0 ∧ (vTold B n G (eGo B n e) = vTold B n G (eGo B n (eTold B n G (eGo B n e))) ∨ (vTold B n G (eGo B n e) ≠ vTold B n G (eGo B n (eTold B n G (eGo B n e))) ∧ (G (60 + 6 * vTold B n G (eGo B n e) + vTold B n G (eGo B n (eTold B n G (eGo B n e)))).toNat = 1 ∨ 1 < G (96 + 6 * vTold B n G (eGo B n e) + vTold B n G (eGo B n (eTold B n G (eGo B n e)))).toNat)))) := by
        unfold b2 ba bb b1 fFoes
        rw [decide_eq_true_eq]
      have e9 : ePB B n G e = (eGo B n (eErr 3 (eTold B n G (eGo B n (eTold B n G (eGo B n e)))))) := by
        unfold ePB
        rw [if_pos (hC.mpr (by omega))]
        rfl
      have h9 := hP13
      rw [← e9] at h9
      refine hK _ (hz13.tr (RXd.a hY13)) (RP.a h9) ?_
      unfold gPB
      rw [e9, if_pos (show ((eGo B n (eErr 3 (eTold B n G (eGo B n (eTold B n G (eGo B n e))))))).1 = 0 by omega)]
      unfold ba bb b1
      exact E516.of (zI_A _ _ _) ((hg13.u _ _).u _ _)
theorem M_X9_parseBar {l : Launch} (hl : l.stackTraces = false) : zMet l yX9_parseBar (Cond.code yX9_parseBar cX9_parseBar 3 (Option.none : Option Jvm.ClassFile.FieldType) :: zG) rm_X9_parseBar 0 0 T_X9_parseBar := met_X9_parseBar hl (M_X9_goOn hl) (M_X9_told hl) (M_X9_good hl) (M_X9_mayNotMeet hl) (M_X9_errs hl) (M_X9_putBoth hl) bd_X9_parseBar
