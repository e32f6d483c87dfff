theorem PE.acc {M : ZM} {B : Gm} {n v : Int} {e : E3} (h : PE M B n e) : PE (zsI M 65 8 v) B n e := by
  obtain ⟨⟨t1, t2, t3, t4⟩, ⟨h2, h3⟩, h4⟩ := h
  refine ⟨⟨?_, ?_, ?_, fun z => ?_⟩, ⟨?_, ?_⟩, h4⟩
  · simp (disch := omega) only [zIs, zIm, zIn, zIrf]; exact t1
  · simp (disch := omega) only [zIs, zIm, zIn, zIrf]; exact t2
  · simp (disch := omega) only [zIs, zIm, zIn, zIrf]; exact t3
  · simp (disch := omega) only [zIs, zIm, zIn, zIrf]; exact t4 z
  · simp (disch := omega) only [zIs, zIm, zIn, zIrf]; exact h2
  · simp (disch := omega) only [zIs, zIm, zIn, zIrf]; exact h3
theorem eNum_g {B : Gm} {n lo hi : Int} {e : E3} (h : (eLook B n lo hi e).1 = 0) : (eNum B n lo hi e).1 = 0 := eGo_0 h
def T_X3_readNumber : ZTf := fun av M K KX => ∃ (B : Gm) (n : Int) (e : E3) (lo hi : Int), av = [zo 65, zi lo, zi hi] ∧ (LV M) ∧ (CIn M B n) ∧ (PE M B n e) ∧ (e.1 = 0) ∧ (0 ≤ lo ∧ hi ≤ 500) ∧  (∀ M' : ZM, (Fr S65 M M') → (PE M' B n (eNum B n lo hi e)) → ((eNum B n lo hi e).1 = 0 → zI M' 65 8 = eVal B n lo hi e) → K (some (zi (b2i (decide ((eNum B n lo hi e).1 = 0))))) M')
set_option maxRecDepth 100000 in
set_option maxHeartbeats 1500000 in
theorem bd_X3_readNumber : zBd (cd_X3_readNumber T_X3_isAtNumber T_X3_nextToken) 3 0 0 T_X3_readNumber := by
  rintro av M K KX hA0 hM ⟨B, n, e, lo, hi, rfl, hL, hI, hP, h0, hlh, hK⟩
  have hz : Fr S65 M M := Fr.rf
  have hok := hP.2.2
  have hkr := tkK_r B n e.2.2
  have her := tkE_r B hok.2
  unfold eOK at hok
  have hn5 := hI.2.1
  refine ⟨rfl, fun Φ hΦ => ?_⟩
  refine zGoR hΦ [] 400 (fun hL9 _ hM _ _ => ?_)
  obtain ⟨qL1, qL2, _⟩ : zrg lo ∧ zrg hi ∧ True := hL9
  refine ⟨⟨⟨rfl, rfl⟩, hL.wP.rcv⟩, ⟨B, n, e, lo, hi, rfl, hL, hI, hP, (by omega), hlh, fun M1 hf1 hP1 => (have hL1 := hL.fr hf1; have hI1 := hI.f5 hL hf1; have hz1 := hz.tr hf1; have hj1 : ((eLook B n lo hi e)).1 = 0 → (e).1 = 0 := fun q => eLook_i q; fun (qg1 : zrg (b2i (decide ((eLook B n lo hi e).1 = 0)))) qm2 => ⟨fun h => (have qc3 : (eLook B n lo hi e).1 = 0 := of_decide_eq_true (b2i_n0 h); ⟨hL1.wP, ⟨⟨hL1.wP, trivial⟩, ⟨⟨⟨rfl, rfl⟩, hL1.wP.rcv⟩, ⟨B, n, (tkE B n (eLook B n lo hi e).2.2), rfl, hL1, hI1.p, (PE.acc (v := zI M1 65 7) hP1).1.2.2.1, (by have h9 := hP1.2.2; have h8 := tkE_r B h9.2; unfold eOK at h9; omega), fun M2 hf2 h02 hk2 => (have hf2a := (Fr5 (M := M1) (f := 8) (v := zI M1 65 7) hL1).tr hf2; have hL2 := hL1.fr hf2a; have hI2 := hI1.f5 hL1 hf2a; have hz2 := hz1.tr hf2a; have hP2 := PE.go (PE.acc (v := zI M1 65 7) hP1) (by omega) h02 hk2; have hv82 := (h02 8 (by omega)).trans (zI_Is _ _ _ _); have hj2 : ((eGo B n (eLook B n lo hi e))).1 = 0 → ((eLook B n lo hi e)).1 = 0 := fun q => eGo_i q; have hg2 : ((eGo B n (eLook B n lo hi e))).1 = 0 := eGo_0 (by omega); fun qg4 qm5 => ⟨(Or.inr rfl), (show K (some (zi 1)) M2 from ?g417l1)⟩)⟩⟩⟩⟩), fun h => (have qc6 : (eLook B n lo hi e).1 ≠ 0 := of_decide_eq_false (b2i_e0 h); ⟨(Or.inl rfl), (show K (some (zi 0)) M1 from ?g417l2)⟩)⟩)⟩⟩
  case g417l1 =>
    have q : (eLook B n lo hi e).1 = 0 := by omega
    have h8 := hK _ hz2 hP2 (fun _ => by
      rw [hv82]
      obtain ⟨a1, a2, a3, a4⟩ := eLook_v q
      have h7 := hP1.1.2.2.2
      rw [a4] at h7
      have h6 := h7 a2
      unfold VRc at h6
      unfold eVal
      rw [if_pos q]
      omega)
    rw [decide_eq_true (eNum_g q)] at h8
    exact h8
  case g417l2 =>
    have h9 : eNum B n lo hi e = eLook B n lo hi e := eGo_b (by omega)
    rw [h9] at hK
    have h8 := hK _ hz1 hP1 (fun q => absurd q (by omega))
    rw [decide_eq_false (show ¬ (eLook B n lo hi e).1 = 0 by omega)] at h8
    exact h8
theorem M_X3_readNumber {l : Launch} (hl : l.stackTraces = false) : zMet l yX3_readNumber (Cond.code yX3_readNumber cX3_readNumber 3 (Option.some Jvm.ClassFile.FieldType.boolean) :: zG) rm_X3_readNumber 0 0 T_X3_readNumber := met_X3_readNumber hl (M_X3_isAtNumber hl) (M_X3_nextToken hl) bd_X3_readNumber
def T_X3_isAtName : ZTf := fun av M K KX => ∃ (B : Gm) (n : Int) (e : E3), av = [zo 65] ∧ (LV M) ∧ (CIn M B n) ∧ (PE M B n e) ∧ (e.1 = 0) ∧ (KC M) ∧  K (some (zi (b2i (decide ((eName B n e).1 = 0))))) M
set_option maxRecDepth 100000 in
set_option maxHeartbeats 1500000 in
theorem bd_X3_isAtName : zBd (cd_X3_isAtName T_X3_isAt) 5 0 0 T_X3_isAtName := by
  rintro av M K KX hA0 hM ⟨B, n, e, rfl, hL, hI, hP, h0, kc, hK⟩
  have hz : Fr S65 M M := Fr.rf
  have hok := hP.2.2
  have hkr := tkK_r B n e.2.2
  have her := tkE_r B hok.2
  unfold eOK at hok
  have hn5 := hI.2.1
  refine ⟨rfl, fun Φ hΦ => ?_⟩
  have hno : (tkK B n e.2.2 ≠ 0 ∨ 6 < tkE B n e.2.2 - e.2.2 ∨ isKey B n e = true) → K (some (zi 0)) M := fun q => by
    have h9 : (eName B n e).1 ≠ 0 := by
      unfold eName
      rw [if_pos ⟨h0, q⟩]
      exact eErr_n (by decide)
    rw [decide_eq_false h9] at hK
    exact hK
  have loop : (tkK B n e.2.2 = 0 ∧ tkE B n e.2.2 - e.2.2 ≤ 6) → ∀ i, 0 ≤ i → i ≤ (11 : Int) → (∀ k : Nat, (k : Int) < i → eIs B n (kwT k) e = false) → Φ 32 [some (zo 65), some (zo 12), some (zi 11), some (zi i), none] [] M 0 0 := by
    intro hkn
    refine zdown (n := 11) (P := fun i => (∀ k : Nat, (k : Int) < i → eIs B n (kwT k) e = false) → Φ 32 [some (zo 65), some (zo 12), some (zi 11), some (zi i), none] [] M 0 0) (fun i h1 h2 ih hall => ?_)
    refine zGoR hΦ [32] 400 (fun hL9 _ hM _ _ => ?_)
    obtain ⟨qL1, qL2, _⟩ : zrg 11 ∧ zrg i ∧ True := hL9
    refine ⟨fun (qc1 : i ≥ 11) => ⟨(Or.inr rfl), (show K (some (zi 1)) M from ?g418l1)⟩, fun (qc2 : i < 11) => ⟨⟨kc.2.1.1, (by decide), (by omega), (by rw [kc.2.2]; omega), (by omega)⟩, _, (kc.1 i.toNat (by omega)).2.2.2, ⟨⟨⟨rfl, rfl⟩, hL.wP.rcv⟩, ⟨B, n, e, i.toNat, rfl, hL, hI, hP, (by omega), (kc.fr hz), (by omega), fun (qg3 : zrg (b2i (eIs B n (kwT i.toNat) e))) qm4 => ⟨fun h => (have qc5 : (eIs B n (kwT i.toNat) e) = false := b2i_e0 h; ⟨(zrgI (x := i + 1) (by omega)), (zFg hΦ 4 (show Φ 32 [some (zo 65), some (zo 12), some (zi 11), some (zi (i + 1)), none] [] M (0) (0) from ?g418l2))⟩), fun h => (have qc6 : (eIs B n (kwT i.toNat) e) = true := b2i_n0 h; ⟨(Or.inl rfl), (show K (some (zi 0)) M from ?g418l3)⟩)⟩⟩⟩⟩⟩
    case g418l1 =>
      have h9 : eName B n e = e := by
        unfold eName
        refine if_neg (fun z => ?_)
        rcases z.2 with y | y | y
        · exact y hkn.1
        · omega
        · obtain ⟨j, hj, hjj⟩ := isKey_iff.mp y
          rw [hall j (by omega)] at hjj
          exact Bool.false_ne_true hjj
      rw [h9, decide_eq_true h0] at hK
      exact hK
    case g418l2 =>
      refine ih (by omega) (fun k hk => ?_)
      by_cases z : (k : Int) < i
      · exact hall k z
      · have e9 : k = i.toNat := by omega
        rw [e9]
        assumption
    case g418l3 =>
      exact hno (Or.inr (Or.inr (isKey_iff.mpr ⟨i.toNat, by omega, by assumption⟩)))
  refine zGoR hΦ [32] 400 (fun hL9 _ hM _ _ => ?_)
  obtain ⟨_⟩ : True := hL9
  refine ⟨hL.wP, zIr (hP.1.1) (⟨fun (qc1 : tkK B n e.2.2 ≠ 0) => ⟨(Or.inl rfl), (show K (some (zi 0)) M from ?g419l1)⟩, fun (qc2 : tkK B n e.2.2 = 0) => ⟨hL.wP, zIr (hP.1.2.2.1) (⟨hL.wP, zIr (hP.1.2.1) (⟨(zrgI (x := tkE B n e.2.2 - e.2.2) (by omega)), ⟨fun (qc3 : tkE B n e.2.2 - e.2.2 ≤ 6) => ⟨⟨kc.2.1.2, Or.inr (Or.inr (Or.inr kc.2.1.1))⟩, zIr (congrArg (fun n : Nat => (n : Int)) kc.2.2) ((show Φ 32 [some (zo 65), some (zo 12), some (zi 11), some (zi 0), none] [] M (0) (0) from ?g419l2))⟩, fun (qc4 : tkE B n e.2.2 - e.2.2 > 6) => ⟨(Or.inl rfl), (show K (some (zi 0)) M from ?g419l3)⟩⟩⟩)⟩)⟩⟩)⟩
  case g419l1 =>
    exact hno (by omega)
  case g419l2 =>
    exact loop (by omega) 0 (by omega) (by omega) (fun k hk => by omega)
  case g419l3 =>
    exact hno (by omega)
theorem M_X3_isAtName {l : Launch} (hl : l.stackTraces = false) : zMet l yX3_isAtName (Cond.code yX3_isAtName cX3_isAtName 5 (Option.some Jvm.ClassFile.FieldType.boolean) :: zG) rm_X3_isAtName 0 0 T_X3_isAtName := met_X3_isAtName hl (M_X3_isAt hl) bd_X3_isAtName
