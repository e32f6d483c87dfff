/-! a statement keeps the draft in order -/
theorem fNm_pos {B : Gm} {s e : Int} (h0 : 0 ≤ s) (h1 : s < e) (h6 : e - s ≤ 6) (hb : ∀ k : Int, s ≤ k → k < e → 97 ≤ B k.toNat ∧ B k.toNat ≤ 122) : 1 ≤ fNmF B s e ∧ fNmF B s e < 387420489 := by
  have h2 := fNm_b h0 hb e (by omega) (Int.le_refl _)
  have h3 := fNm_b h0 hb (e - 1) (by omega) (by omega)
  have h4 := hb (e - 1) (by omega) (by omega)
  have h5 := p27_le (j := (e - s).toNat) (by omega)
  refine ⟨?_, by omega⟩
  have e9 : fNmF B s e = 27 * fNmF B s (e - 1) + B (e - 1).toNat - 96 := by
    unfold fNmF
    rw [show e = (e - 1) + 1 by omega, foldF_s (by omega)]
    rw [show (e - 1 + 1 - 1) = e - 1 by omega]
  omega
theorem eNm_r {B : Gm} {n : Int} {e : E3} (hok : eOK n e) (h : (eName B n e).1 = 0) : 1 ≤ eNm B n e ∧ eNm B n e < 387420489 := by
  obtain ⟨a1, a2, a3, a4, a5⟩ := eName_v h
  have hk := ((tkK_r B n e.2.2).2.2.2.1).mp a2
  have he := tkE_r B hok.2
  unfold eNm
  rw [if_pos h]
  unfold eOK at hok
  exact fNm_pos hok.1 (he.2.2.1 hk.1) a3 (tk_let hok.2 a2)
theorem w0_i {B : Gm} {n : Int} {G : Gm} {e : E3} (h : (w1 B n G e).1 = 0) : (eName B n (w0 B n G e)).1 = 0 ∧ G 4 ≠ 6 ∧ fWith G (eNm B n (w0 B n G e)) = -1 := by
  unfold w1 at h
  by_cases q : (eName B n (w0 B n G e)).1 = 0 ∧ fWith G (eNm B n (w0 B n G e)) ≠ -1
  · rw [if_pos q] at h
    exact absurd h (eErr_n (by decide))
  · rw [if_neg q] at h
    refine ⟨h, fun z => ?_, Decidable.byContradiction (fun z => q ⟨h, z⟩)⟩
    have h2 := eName_i h
    unfold w0 at h2
    rw [if_pos z] at h2
    exact absurd (eGo_i h2) (eErr_n (by decide))
theorem w4_i {B : Gm} {n : Int} {G : Gm} {e : E3} (h : (w4 B n G e).1 = 0) : (w1 B n G e).1 = 0 := eGo_i (eKw_i (eNum_i (eKw_i (eNum_i h))))
theorem ePW_i {B : Gm} {n : Int} {G : Gm} {e : E3} (h : (ePW B n G e).1 = 0) : (w4 B n G e).1 = 0 := by
  unfold ePW at h
  split at h
  · exact eKw_i (eNum_i h)
  · exact h
theorem w0_ok {B : Gm} {n : Int} {G : Gm} {e : E3} (h : eOK n e) : eOK n (w0 B n G e) := by
  unfold w0
  refine eGo_ok ?_
  split
  · exact eErr_ok h
  · exact h
theorem w4_ok {B : Gm} {n : Int} {G : Gm} {e : E3} (h : eOK n e) : eOK n (w4 B n G e) := by
  have h1 : eOK n (w1 B n G e) := by
    unfold w1
    split
    · exact eErr_ok (eName_ok (w0_ok h))
    · exact eName_ok (w0_ok h)
  exact eNum_ok (eKw_ok (eNum_ok (eKw_ok (eGo_ok h1))))
theorem ePW_ok {B : Gm} {n : Int} {G : Gm} {e : E3} (h : eOK n e) : eOK n (ePW B n G e) := by
  unfold ePW
  split
  · exact eNum_ok (eKw_ok (w4_ok h))
  · exact w4_ok h
theorem r2_ok {B : Gm} {n : Int} {G : Gm} {e : E3} (h : eOK n e) : eOK n (r2 B n G e) := by
  unfold r2 r1
  split
  · exact eErr_ok (eLook_ok (eGo_ok h))
  · exact eLook_ok (eGo_ok h)
theorem ePR_ok {B : Gm} {n : Int} {G : Gm} {e : E3} (h : eOK n e) : eOK n (ePR B n G e) := eNum_ok (eKw_ok (eNum_ok (r2_ok h)))
theorem ePB_ok {B : Gm} {n : Int} {G : Gm} {e : E3} (h : eOK n e) : eOK n (ePB B n G e) := by
  have h2 : eOK n (b2 B n G e) := eTold_ok (eGo_ok (eTold_ok (eGo_ok h)))
  unfold ePB
  refine eGo_ok ?_
  split
  · exact eErr_ok h2
  · exact h2
theorem eST_ok {B : Gm} {n : Int} {G : Gm} {e : E3} (h : eOK n e) : eOK n (eST B n G e) := by
  unfold eST
  refine eSemi_ok ?_
  split
  · exact ePW_ok h
  · split
    · exact ePR_ok h
    · split
      · exact ePB_ok h
      · exact eErr_ok h
theorem DI_pw {B : Gm} {n : Int} {G : Gm} {e : E3} (h : DI G) (hok : eOK n e) : DI (gPW B n G e) := by
  unfold gPW
  split
  · next q =>
    have q4 := ePW_i q
    obtain ⟨a, b, -⟩ := w0_i (w4_i q4)
    have h4 := h.1.2.1.2.2.2.2.1
    refine h.wk (by omega) (eNm_r (w0_ok hok) a) (eVal_r _ (by decide)) (eVal_r _ (by decide)) ?_
    unfold tPW
    split
    · exact eVal_r _ (by decide)
    · decide
  · exact h
theorem DI_pr {B : Gm} {n : Int} {G : Gm} {e : E3} (h : DI G) (hok : eOK n e) : DI (gPR B n G e) := by
  unfold gPR
  split
  · next q =>
    have q2 : (r2 B n G e).1 = 0 := eNum_i (eKw_i (eNum_i q))
    have hv := eVal_r (B := B) (n := n) (lo := 1) (hi := 24) (r2 B n G e) (by decide)
    refine h.rows ⟨by omega, ?_⟩ (eVal_r _ (by decide))
    unfold r2 at q2 ⊢
    by_cases z : (r1 B n e).1 = 0 ∧ 24 < G 5 + tkV B (eGo B n e).2.2 (tkE B n (eGo B n e).2.2)
    · rw [if_pos z] at q2
      exact absurd q2 (eErr_n (by decide))
    · rw [if_neg z] at q2 ⊢
      obtain ⟨c1, c2, c3, c4⟩ := eLook_v q2
      have e9 : r1 B n e = eGo B n e := c4
      rw [e9]
      have c5 : (eLook B n 1 24 (eGo B n e)).1 = 0 := q2
      unfold eVal
      rw [if_pos c5]
      have := Int.not_lt.mp (fun y => z ⟨q2, y⟩)
      exact this
  · exact h
theorem DI_pb {B : Gm} {n : Int} {G : Gm} {e : E3} (h : DI G) (hok : eOK n e) : DI (gPB B n G e) := by
  unfold gPB
  split
  · next q =>
    have h4 := h.1.2.1.2.2.2.2.1
    refine h.bar (vTold_r h4) (vTold_r h4) (fun z => ?_)
    unfold ePB at q
    have q1 := eGo_i q
    by_cases y : (b2 B n G e).1 = 0 ∧ (ba B n G e = bb B n G e ∨ fFoes G (ba B n G e) (bb B n G e) = true)
    · rw [if_pos y] at q1
      exact absurd q1 (eErr_n (by decide))
    · rw [if_neg y] at q1
      exact y ⟨q1, Or.inl z⟩
  · exact h
theorem DI_st {B : Gm} {n : Int} {G : Gm} {e : E3} (h : DI G) (hok : eOK n e) : DI (gST B n G e) := by
  unfold gST
  split
  · exact DI_pw h hok
  · split
    · exact DI_pr h hok
    · split
      · exact DI_pb h hok
      · exact h
theorem DI_pt {B : Gm} {n : Int} {e : E3} : DI (gPT B n gZ e) := DI.tab (eVal_r _ (by decide)) (eVal_r _ (by decide)) (eVal_r _ (by decide))

def T_X9_parseStatement : ZTf := fun av M K KX => ∃ (B : Gm) (n : Int) (G : Gm) (e : E3), av = [zo 670] ∧ (LY M) ∧ (RP M B n e) ∧ (MA M 672) ∧ (E516 (zI M 672) G) ∧ (GI G) ∧ (KC M) ∧ (DI G) ∧  (∀ M' : ZM, (RXd M M') → (RP M' B n (eST B n G e)) → (E516 (zI M' 672) (gST B n G e)) → K none M')
set_option maxRecDepth 100000 in
set_option maxHeartbeats 1500000 in
theorem bd_X9_parseStatement : zBd (cd_X9_parseStatement T_X9_isWord T_X9_parseWorker T_X9_parseRows T_X9_parseBar T_X9_errs T_X9_semicolon) 1 0 0 T_X9_parseStatement := by
  rintro av M K KX hA0 hM ⟨B, n, G, e, rfl, hY, hP, hA, hg, hG, kc, hDI, hK⟩
  have hz : RXd M M := RXd.rf
  have hok := hP.2.2.2
  have hkr := tkK_r B n e.2.2
  have hrt := rtk_r (tkK B n e.2.2) ⟨hkr.1, hkr.2.1⟩
  have her := tkE_r B hok.2
  unfold eOK at hok
  have hn5 := hP.1.2.1
  obtain ⟨hw5, hr5, hR5⟩ := id hG
  refine ⟨rfl, fun Φ hΦ => ?_⟩
  refine zGoR hΦ [] 400 (fun hL9 _ hM _ _ => ?_)
  obtain ⟨_⟩ : True := hL9
  refine ⟨⟨⟨rfl, rfl⟩, hY.w.rcv⟩, ⟨B, n, e, 39, (kwT 4), rfl, hY, hP, (show zTx _ 39 (kwT 4) from (kc.fr hz.1).w 4 (by decide)), (by have := kwT_r (i := 4) (by decide); omega), (fun k hk => by have := (kwT_r (i := 4) (by decide)).2 k hk; omega), fun (qg1 : zrg (b2i (eIs B n (kwT 4) e))) qm2 => ⟨fun h => (have qc3 : (eIs B n (kwT 4) e) = false := b2i_e0 h; ⟨⟨⟨rfl, rfl⟩, hY.w.rcv⟩, ⟨B, n, e, 43, (kwT 8), rfl, hY, hP, (show zTx _ 43 (kwT 8) from (kc.fr hz.1).w 8 (by decide)), (by have := kwT_r (i := 8) (by decide); omega), (fun k hk => by have := (kwT_r (i := 8) (by decide)).2 k hk; omega), fun (qg4 : zrg (b2i (eIs B n (kwT 8) e))) qm5 => ⟨fun h => (have qc6 : (eIs B n (kwT 8) e) = false := b2i_e0 h; ⟨⟨⟨rfl, rfl⟩, hY.w.rcv⟩, ⟨B, n, e, 45, (kwT 10), rfl, hY, hP, (show zTx _ 45 (kwT 10) from (kc.fr hz.1).w 10 (by decide)), (by have := kwT_r (i := 10) (by decide); omega), (fun k hk => by have := (kwT_r (i := 10) (by decide)).2 k hk; omega), fun (qg7 : zrg (b2i (eIs B n (kwT 10) e))) qm8 => ⟨fun h => (have qc9 : (eIs B n (kwT 10) e) = false := b2i_e0 h; ⟨⟨⟨rfl, rfl⟩, hY.w.rcv⟩, ⟨B, n, e, 1, rfl, hY, hP, (by decide), fun M1 hx1 hP1 => (have hY1 := LY.fr hY hx1.1; have hz1 := hz.tr hx1.d; have hn1 : ((eErr 1 e)).1 ≠ 0 := eErr_n (by decide); have hg1 := E516.of (hx1.1.i hY.a2 (by unfold S48; omega)) hg; have hA1 := MA.fr hY hA hx1.1; fun qg10 qm11 => ⟨⟨⟨rfl, rfl⟩, hY1.w.rcv⟩, ⟨B, n, (eErr 1 e), rfl, hY1, hP1, fun M2 hx2 hP2 => (have hY2 := LY.fr hY1 hx2.1; have hz2 := hz1.tr hx2.d; have hg2 := E516.of (hx2.1.i hY1.a2 (by unfold S48; omega)) hg1; have hA2 := MA.fr hY1 hA1 hx2.1; fun qg12 qm13 => (show K none M2 from ?g398l1))⟩⟩)⟩⟩), fun h => (have qc14 : (eIs B n (kwT 10) e) = true := b2i_n0 h; ⟨⟨⟨rfl, rfl⟩, hY.w.rcv⟩, ⟨B, n, G, e, rfl, hY, hP, hA, hg, hG, (kc.fr hz.1), fun M3 hx3 hP3 hg3 => (have hY3 := LY.fr hY hx3.1; have hz3 := hz.tr hx3; have hA3 := MA.fr hY hA hx3.1; fun qg15 qm16 => ⟨⟨⟨rfl, rfl⟩, hY3.w.rcv⟩, ⟨B, n, (ePB B n G e), rfl, hY3, hP3, fun M4 hx4 hP4 => (have hY4 := LY.fr hY3 hx4.1; have hz4 := hz3.tr hx4.d; have hg4 := E516.of (hx4.1.i hY3.a2 (by unfold S48; omega)) hg3; have hA4 := MA.fr hY3 hA3 hx4.1; fun qg17 qm18 => (show K none M4 from ?g398l2))⟩⟩)⟩⟩)⟩⟩⟩), fun h => (have qc19 : (eIs B n (kwT 8) e) = true := b2i_n0 h; ⟨⟨⟨rfl, rfl⟩, hY.w.rcv⟩, ⟨B, n, G, e, rfl, hY, hP, hA, hg, hG, (kc.fr hz.1), fun M5 hx5 hP5 hg5 => (have hY5 := LY.fr hY hx5.1; have hz5 := hz.tr hx5; have hA5 := MA.fr hY hA hx5.1; fun qg20 qm21 => ⟨⟨⟨rfl, rfl⟩, hY5.w.rcv⟩, ⟨B, n, (ePR B n G e), rfl, hY5, hP5, fun M6 hx6 hP6 => (have hY6 := LY.fr hY5 hx6.1; have hz6 := hz5.tr hx6.d; have hg6 := E516.of (hx6.1.i hY5.a2 (by unfold S48; omega)) hg5; have hA6 := MA.fr hY5 hA5 hx6.1; fun qg22 qm23 => (show K none M6 from ?g398l3))⟩⟩)⟩⟩)⟩⟩⟩), fun h => (have qc24 : (eIs B n (kwT 4) e) = true := b2i_n0 h; ⟨⟨⟨rfl, rfl⟩, hY.w.rcv⟩, ⟨B, n, G, e, rfl, hY, hP, hA, hg, hG, (kc.fr hz.1), hDI.2, fun M7 hx7 hP7 hg7 => (have hY7 := LY.fr hY hx7.1; have hz7 := hz.tr hx7; have hA7 := MA.fr hY hA hx7.1; fun qg25 qm26 => ⟨⟨⟨rfl, rfl⟩, hY7.w.rcv⟩, ⟨B, n, (ePW B n G e), rfl, hY7, hP7, fun M8 hx8 hP8 => (have hY8 := LY.fr hY7 hx8.1; have hz8 := hz7.tr hx8.d; have hg8 := E516.of (hx8.1.i hY7.a2 (by unfold S48; omega)) hg7; have hA8 := MA.fr hY7 hA7 hx8.1; fun qg27 qm28 => (show K none M8 from ?g398l4))⟩⟩)⟩⟩)⟩⟩⟩
  case g398l1 =>
    have e9 : eST B n G e = (eSemi B n (eErr 1 e)) := by
      unfold eST
      rw [if_neg (show ¬ (eIs B n (kwT 4) e) = true by rw [qc3]; exact Bool.false_ne_true), if_neg (show ¬ (eIs B n (kwT 8) e) = true by rw [qc6]; exact Bool.false_ne_true), if_neg (show ¬ (eIs B n (kwT 10) e) = true by rw [qc9]; exact Bool.false_ne_true)]
    have h9 := hP2
    rw [← e9] at h9
    refine hK _ hz2 h9 ?_
    unfold gST
    rw [if_neg (show ¬ (eIs B n (kwT 4) e) = true by rw [qc3]; exact Bool.false_ne_true), if_neg (show ¬ (eIs B n (kwT 8) e) = true by rw [qc6]; exact Bool.false_ne_true), if_neg (show ¬ (eIs B n (kwT 10) e) = true by rw [qc9]; exact Bool.false_ne_true)]
    exact hg2
  case g398l2 =>
    have e9 : eST B n G e = (eSemi B n (ePB B n G e)) := by
      unfold eST
      rw [if_neg (show ¬ (eIs B n (kwT 4) e) = true by rw [qc3]; exact Bool.false_ne_true), if_neg (show ¬ (eIs B n (kwT 8) e) = true by rw [qc6]; exact Bool.false_ne_true), if_pos qc14]
    have h9 := hP4
    rw [← e9] at h9
    refine hK _ hz4 h9 ?_
    unfold gST
    rw [if_neg (show ¬ (eIs B n (kwT 4) e) = true by rw [qc3]; exact Bool.false_ne_true), if_neg (show ¬ (eIs B n (kwT 8) e) = true by rw [qc6]; exact Bool.false_ne_true), if_pos qc14]
    exact hg4
  case g398l3 =>
    have e9 : eST B n G e = (eSemi B n (ePR B n G e)) := by
      unfold eST
      rw [if_neg (show ¬ (eIs B n (kwT 4) e) = true by rw [qc3]; exact Bool.false_ne_true), if_pos qc19]
    have h9 := hP6
    rw [← e9] at h9
    refine hK _ hz6 h9 ?_
    unfold gST
    rw [if_neg (show ¬ (eIs B n (kwT 4) e) = true by rw [qc3]; exact Bool.false_ne_true), if_pos qc19]
    exact hg6
  case g398l4 =>
    have e9 : eST B n G e = (eSemi B n (ePW B n G e)) := by
      unfold eST
      rw [if_pos qc24]
    have h9 := hP8
    rw [← e9] at h9
    refine hK _ hz8 h9 ?_
    unfold gST
    rw [if_pos qc24]
    exact hg8
theorem M_X9_parseStatement {l : Launch} (hl : l.stackTraces = false) : zMet l yX9_parseStatement (Cond.code yX9_parseStatement cX9_parseStatement 1 (Option.none : Option Jvm.ClassFile.FieldType) :: zG) rm_X9_parseStatement 0 0 T_X9_parseStatement := met_X9_parseStatement hl (M_X9_isWord hl) (M_X9_parseWorker hl) (M_X9_parseRows hl) (M_X9_parseBar hl) (M_X9_errs hl) (M_X9_semicolon hl) bd_X9_parseStatement
