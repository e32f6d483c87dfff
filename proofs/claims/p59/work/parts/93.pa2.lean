theorem PE.go {M M' : ZM} {B : Gm} {n : Int} {e : E3} (h : PE M B n e) (h0 : e.1 = 0) (hf : ∀ f : Nat, f < 4 ∨ 7 < f → zI M' 65 f = zI M 65 f) (hk : PS M' B n (tkS B n (tkE B n e.2.2))) : PE M' B n (eGo B n e) := by
  refine ⟨?_, ?_, eGo_ok h.2.2⟩
  · unfold eGo
    rw [if_pos h0]
    exact hk
  · unfold eGo
    rw [if_pos h0]
    exact ⟨(hf 0 (by omega)).trans (h.2.1.1.trans h0), (hf 1 (by omega)).trans h.2.1.2⟩
theorem PE.er {M : ZM} {B : Gm} {n c : Int} {e : E3} (h : PE M B n e) (h0 : e.1 = 0) : PE (zsI (zsI M 65 0 c) 65 1 e.2.2) B n (eErr c e) := by
  obtain ⟨⟨t1, t2, t3, t4⟩, h2, h4⟩ := h
  refine ⟨?_, ?_, eErr_ok h4⟩
  · rw [eErr_g h0]
    refine ⟨?_, ?_, ?_, fun z => ?_⟩
    · simp (disch := omega) only [zIs, zIm, zIn, zIrf]; exact t1
    · simp (disch := omega) only [zIs, zIm, zIn, zIrf]; exact t2
    · simp (disch := omega) only [zIs, zIm, zIn, zIrf]; exact t3
    · simp (disch := omega) only [zIs, zIm, zIn, zIrf]; exact t4 z
  · rw [eErr_g h0]
    exact ⟨by simp (disch := omega) only [zIs, zIm, zIn, zIrf], zI_Is _ _ _ _⟩
theorem isKey_iff {B : Gm} {n : Int} {e : E3} : isKey B n e = true ↔ ∃ i : Nat, i < 11 ∧ eIs B n (kwT i) e = true := by
  unfold isKey
  constructor
  · intro h
    simp only [Bool.or_eq_true] at h
    rcases h with h | h | h | h | h | h | h | h | h | h | h
    · exact ⟨0, by decide, h⟩
    · exact ⟨1, by decide, h⟩
    · exact ⟨2, by decide, h⟩
    · exact ⟨3, by decide, h⟩
    · exact ⟨4, by decide, h⟩
    · exact ⟨5, by decide, h⟩
    · exact ⟨6, by decide, h⟩
    · exact ⟨7, by decide, h⟩
    · exact ⟨8, by decide, h⟩
    · exact ⟨9, by decide, h⟩
    · exact ⟨10, by decide, h⟩
  · rintro ⟨i, hi, h⟩
    have h9 : i = 0 ∨ i = 1 ∨ i = 2 ∨ i = 3 ∨ i = 4 ∨ i = 5 ∨ i = 6 ∨ i = 7 ∨ i = 8 ∨ i = 9 ∨ i = 10 := by omega
    rcases h9 with q | q | q | q | q | q | q | q | q | q | q <;> subst q <;> simp only [h, Bool.true_or, Bool.or_true]
theorem fNamed_w {B G : Gm} {n : Int} {e : E3} (hok : eOK n e) (h : (eName B n e).1 = 0) : fNamed G B n e.2.2 (tkE B n e.2.2) = fWith G (eNm B n e) := by
  obtain ⟨a1, a2, a3, a4, a5⟩ := eName_v h
  have hk := ((tkK_r B n e.2.2).2.2.2.1).mp a2
  have he := tkE_r B hok.2
  have hl := tk_let hok.2 a2
  unfold eOK at hok
  have h1 := he.2.2.1 hk.1
  have hc : (0 ≤ e.2.2 ∧ tkE B n e.2.2 ≤ n ∧ 1 ≤ tkE B n e.2.2 - e.2.2 ∧ tkE B n e.2.2 - e.2.2 ≤ 6) ∧ ∀ c, c ∈ bl B e.2.2 (tkE B n e.2.2 - e.2.2).toNat → 97 ≤ c ∧ c ≤ 122 := ⟨by omega, bl_ltr (fun k hk => hl _ (by omega) (by omega))⟩
  unfold fNamed
  rw [if_pos hc]
  have h2 := fNm_bl B e.2.2 (tkE B n e.2.2 - e.2.2).toNat
  rw [show e.2.2 + (((tkE B n e.2.2 - e.2.2).toNat : Nat) : Int) = tkE B n e.2.2 by omega] at h2
  unfold eNm
  rw [if_pos h, h2]
theorem eGo_0 {B : Gm} {n : Int} {e : E3} (h : e.1 = 0) : (eGo B n e).1 = 0 := by
  unfold eGo
  rw [if_pos h]
def T_X3_fail : ZTf := fun av M K KX => ∃ (B : Gm) (n : Int) (e : E3) (c : Int), av = [zo 65, zi c] ∧ (LV M) ∧ (CIn M B n) ∧ (PE M B n e) ∧ (e.1 = 0) ∧  (∀ M' : ZM, (Fr S65 M M') → (PE M' B n (eErr c e)) → K (some (zi (0))) M')
set_option maxRecDepth 100000 in
set_option maxHeartbeats 1500000 in
theorem bd_X3_fail : zBd (cd_X3_fail) 2 0 0 T_X3_fail := by
  rintro av M K KX hA0 hM ⟨B, n, e, c, rfl, hL, hI, hP, h0, hK⟩
  have hz : Fr S65 M M := Fr.rf
  have hok := hP.2.2
  have hkr := tkK_r B n e.2.2
  have her := tkE_r B hok.2
  unfold eOK at hok
  have hn5 := hI.2.1
  refine ⟨rfl, fun Φ hΦ => ?_⟩
  refine zGoR hΦ [] 400 (fun hL9 _ hM _ _ => ?_)
  obtain ⟨qL1, _⟩ : zrg c ∧ True := hL9
  refine ⟨⟨hL.wP, trivial⟩, ⟨hL.wP, zIr ((zIm _ _ _ (by omega)).trans (hP.1.2.1)) (⟨⟨hL.wP, trivial⟩, ⟨(Or.inl rfl), (show K (some (zi 0)) (zsI (zsI M 65 0 c) 65 1 e.2.2) from ?g412l1)⟩⟩)⟩⟩
  case g412l1 => exact hK _ ((Fr5 hL).tr (Fr5 (M := zsI M 65 0 c) hL)) (hP.er h0)
theorem M_X3_fail {l : Launch} (hl : l.stackTraces = false) : zMet l yX3_fail (Cond.code yX3_fail cX3_fail 2 (Option.some Jvm.ClassFile.FieldType.boolean) :: zG) rm_X3_fail 0 0 T_X3_fail := met_X3_fail hl bd_X3_fail
def T_X3_isAt : ZTf := fun av M K KX => ∃ (B : Gm) (n : Int) (e : E3) (i : Nat), av = [zo 65, zo (1 + i)] ∧ (LV M) ∧ (CIn M B n) ∧ (PE M B n e) ∧ (e.1 = 0) ∧ (KC M) ∧ (i < 11) ∧  K (some (zi (b2i (eIs B n (kwT i) e)))) M
set_option maxRecDepth 100000 in
set_option maxHeartbeats 1500000 in
theorem bd_X3_isAt : zBd (cd_X3_isAt T_X1_spells) 2 0 0 T_X3_isAt := by
  rintro av M K KX hA0 hM ⟨B, n, e, i, rfl, hL, hI, hP, h0, kc, hi, hK⟩
  have hz : Fr S65 M M := Fr.rf
  have hok := hP.2.2
  have hkr := tkK_r B n e.2.2
  have her := tkE_r B hok.2
  unfold eOK at hok
  have hn5 := hI.2.1
  refine ⟨rfl, fun Φ hΦ => ?_⟩
  refine zGoR hΦ [] 400 (fun hL9 _ hM _ _ => ?_)
  obtain ⟨_⟩ : True := hL9
  refine ⟨hL.wP, zIr (hP.1.1) (⟨fun (qc1 : tkK B n e.2.2 ≠ 0) => ⟨(Or.inl rfl), (show K (some (zi 0)) M from ?g413l1)⟩, fun (qc2 : tkK B n e.2.2 = 0) => ⟨hL.wP, _, hL.p2, ⟨hL.wP, zIr (hP.1.2.1) (⟨hL.wP, zIr (hP.1.2.2.1) (⟨⟨(kc.1 i hi).2.2.1.1.1, (by show _ < 64; omega)⟩, _, (kc.1 i hi).2.2.1.2, ⟨⟨⟨rfl, rfl⟩, hL.wI.rcv⟩, ⟨B, n, e.2.2, (tkE B n e.2.2), (13 + i), (kwT i), rfl, hL, hI, (kc.1 i hi).2.1, (by have := (kwT_r hi).1; omega), (fun k hk => by have := (kwT_r hi).2 k hk; omega), (by omega), fun (qg3 : zrg (b2i (spl B n e.2.2 (tkE B n e.2.2) (kwT i)))) qm4 => ⟨fun h => (have qc5 : (spl B n e.2.2 (tkE B n e.2.2) (kwT i)) = false := b2i_e0 h; ⟨(Or.inl rfl), (show K (some (zi 0)) M from ?g413l2)⟩), fun h => (have qc6 : (spl B n e.2.2 (tkE B n e.2.2) (kwT i)) = true := b2i_n0 h; ⟨(Or.inr rfl), (show K (some (zi 1)) M from ?g413l3)⟩)⟩⟩⟩⟩)⟩)⟩⟩⟩)⟩
  case g413l1 =>
    refine zKi hK ?_
    unfold eIs isKw
    rw [decide_eq_true h0]
    first
    | (rw [decide_eq_true (show tkK B n e.2.2 = 0 by assumption), show spl B n e.2.2 (tkE B n e.2.2) (kwT i) = true by assumption]; rfl)
    | (rw [show spl B n e.2.2 (tkE B n e.2.2) (kwT i) = false by assumption, Bool.and_false, Bool.and_false]; rfl)
    | (rw [decide_eq_false (show ¬ tkK B n e.2.2 = 0 by assumption)]; rfl)
  case g413l2 =>
    refine zKi hK ?_
    unfold eIs isKw
    rw [decide_eq_true h0]
    first
    | (rw [decide_eq_true (show tkK B n e.2.2 = 0 by assumption), show spl B n e.2.2 (tkE B n e.2.2) (kwT i) = true by assumption]; rfl)
    | (rw [show spl B n e.2.2 (tkE B n e.2.2) (kwT i) = false by assumption, Bool.and_false, Bool.and_false]; rfl)
    | (rw [decide_eq_false (show ¬ tkK B n e.2.2 = 0 by assumption)]; rfl)
  case g413l3 =>
    refine zKi hK ?_
    unfold eIs isKw
    rw [decide_eq_true h0]
    first
    | (rw [decide_eq_true (show tkK B n e.2.2 = 0 by assumption), show spl B n e.2.2 (tkE B n e.2.2) (kwT i) = true by assumption]; rfl)
    | (rw [show spl B n e.2.2 (tkE B n e.2.2) (kwT i) = false by assumption, Bool.and_false, Bool.and_false]; rfl)
    | (rw [decide_eq_false (show ¬ tkK B n e.2.2 = 0 by assumption)]; rfl)
theorem M_X3_isAt {l : Launch} (hl : l.stackTraces = false) : zMet l yX3_isAt (Cond.code yX3_isAt cX3_isAt 2 (Option.some Jvm.ClassFile.FieldType.boolean) :: zG) rm_X3_isAt 0 0 T_X3_isAt := met_X3_isAt hl (M_X1_spells hl) bd_X3_isAt
def T_X3_isAtNumber : ZTf := fun av M K KX => ∃ (B : Gm) (n : Int) (e : E3) (lo hi : Int), av = [zo 65, zi lo, zi hi] ∧ (LV M) ∧ (CIn M B n) ∧ (PE M B n e) ∧ (e.1 = 0) ∧ (0 ≤ lo ∧ hi ≤ 500) ∧  (∀ M' : ZM, (Fr S65 M M') → (PE M' B n (eLook B n lo hi e)) → K (some (zi (b2i (decide ((eLook B n lo hi e).1 = 0))))) M')
set_option maxRecDepth 100000 in
set_option maxHeartbeats 1500000 in
theorem bd_X3_isAtNumber : zBd (cd_X3_isAtNumber T_X3_fail) 3 0 0 T_X3_isAtNumber := by
  rintro av M K KX hA0 hM ⟨B, n, e, lo, hi, rfl, hL, hI, hP, h0, hlh, hK⟩
  have hz : Fr S65 M M := Fr.rf
  have hok := hP.2.2
  have hkr := tkK_r B n e.2.2
  have her := tkE_r B hok.2
  unfold eOK at hok
  have hn5 := hI.2.1
  have hv := hP.1.2.2.2
  refine ⟨rfl, fun Φ hΦ => ?_⟩
  refine zGoR hΦ [] 400 (fun hL9 _ hM _ _ => ?_)
  obtain ⟨qL1, qL2, _⟩ : zrg lo ∧ zrg hi ∧ True := hL9
  refine ⟨hL.wP, zIr (hP.1.1) (⟨fun (qc1 : tkK B n e.2.2 = 1) => ⟨hL.wP, ⟨fun (qc2 : zI M 65 7 < lo) => ⟨⟨⟨rfl, rfl⟩, hL.wP.rcv⟩, ⟨B, n, e, 2, rfl, hL, hI, hP, (by omega), fun M1 hf1 hP1 => (have hL1 := hL.fr hf1; have hI1 := hI.f5 hL hf1; have hz1 := hz.tr hf1; have hn1 : ((eErr 2 e)).1 ≠ 0 := eErr_n (by decide); fun (qg3 : zrg (0)) qm4 => ⟨(Or.inl rfl), (show K (some (zi 0)) M1 from ?g414l1)⟩)⟩⟩, fun (qc5 : zI M 65 7 ≥ lo) => ⟨hL.wP, ⟨fun (qc6 : zI M 65 7 ≤ hi) => ⟨(Or.inr rfl), (show K (some (zi 1)) M from ?g414l2)⟩, fun (qc7 : zI M 65 7 > hi) => ⟨⟨⟨rfl, rfl⟩, hL.wP.rcv⟩, ⟨B, n, e, 2, rfl, hL, hI, hP, (by omega), fun M2 hf2 hP2 => (have hL2 := hL.fr hf2; have hI2 := hI.f5 hL hf2; have hz2 := hz.tr hf2; have hn2 : ((eErr 2 e)).1 ≠ 0 := eErr_n (by decide); fun (qg8 : zrg (0)) qm9 => ⟨(Or.inl rfl), (show K (some (zi 0)) M2 from ?g414l3)⟩)⟩⟩⟩⟩⟩⟩, fun (qc10 : tkK B n e.2.2 ≠ 1) => ⟨⟨⟨rfl, rfl⟩, hL.wP.rcv⟩, ⟨B, n, e, 1, rfl, hL, hI, hP, (by omega), fun M3 hf3 hP3 => (have hL3 := hL.fr hf3; have hI3 := hI.f5 hL hf3; have hz3 := hz.tr hf3; have hn3 : ((eErr 1 e)).1 ≠ 0 := eErr_n (by decide); fun (qg11 : zrg (0)) qm12 => ⟨(Or.inl rfl), (show K (some (zi 0)) M3 from ?g414l4)⟩)⟩⟩⟩)⟩
  case g414l1 =>
    have h9 : eLook B n lo hi e = eErr 2 e := by
      unfold eLook
      rw [if_pos h0]
      first
      | (rw [if_neg (show ¬ tkK B n e.2.2 = 1 by omega)])
      | (have h1 : tkK B n e.2.2 = 1 := by omega
         have h2 := hv h1
         unfold VRc at h2
         rw [if_pos h1, if_neg (show ¬ (lo ≤ tkV B e.2.2 (tkE B n e.2.2) ∧ tkV B e.2.2 (tkE B n e.2.2) ≤ hi) by omega)])
    rw [h9] at hK
    have h8 := hK _ hf1 hP1
    rw [decide_eq_false (eErr_n (by decide))] at h8
    exact h8
  case g414l2 =>
    have h9 : eLook B n lo hi e = e := by
      unfold eLook
      have h1 : tkK B n e.2.2 = 1 := by omega
      have h2 := hv h1
      unfold VRc at h2
      rw [if_pos h0, if_pos h1, if_pos (show lo ≤ tkV B e.2.2 (tkE B n e.2.2) ∧ tkV B e.2.2 (tkE B n e.2.2) ≤ hi by omega)]
    rw [h9] at hK
    have h8 := hK M Fr.rf hP
    rw [decide_eq_true h0] at h8
    exact h8
  case g414l3 =>
    have h9 : eLook B n lo hi e = eErr 2 e := by
      unfold eLook
      rw [if_pos h0]
      first
      | (rw [if_neg (show ¬ tkK B n e.2.2 = 1 by omega)])
      | (have h1 : tkK B n e.2.2 = 1 := by omega
         have h2 := hv h1
         unfold VRc at h2
         rw [if_pos h1, if_neg (show ¬ (lo ≤ tkV B e.2.2 (tkE B n e.2.2) ∧ tkV B e.2.2 (tkE B n e.2.2) ≤ hi) by omega)])
    rw [h9] at hK
    have h8 := hK _ hf2 hP2
    rw [decide_eq_false (eErr_n (by decide))] at h8
    exact h8
  case g414l4 =>
    have h9 : eLook B n lo hi e = eErr 1 e := by
      unfold eLook
      rw [if_pos h0]
      first
      | (rw [if_neg (show ¬ tkK B n e.2.2 = 1 by omega)])
      | (have h1 : tkK B n e.2.2 = 1 := by omega
         have h2 := hv h1
         unfold VRc at h2
         rw [if_pos h1, if_neg (show ¬ (lo ≤ tkV B e.2.2 (tkE B n e.2.2) ∧ tkV B e.2.2 (tkE B n e.2.2) ≤ hi) by omega)])
    rw [h9] at hK
    have h8 := hK _ hf3 hP3
    rw [decide_eq_false (eErr_n (by decide))] at h8
    exact h8
theorem M_X3_isAtNumber {l : Launch} (hl : l.stackTraces = false) : zMet l yX3_isAtNumber (Cond.code yX3_isAtNumber cX3_isAtNumber 3 (Option.some Jvm.ClassFile.FieldType.boolean) :: zG) rm_X3_isAtNumber 0 0 T_X3_isAtNumber := met_X3_isAtNumber hl (M_X3_fail hl) bd_X3_isAtNumber
def T_X3_readKeyword : ZTf := fun av M K KX => ∃ (B : Gm) (n : Int) (e : E3) (i : Nat), av = [zo 65, zo (1 + i)] ∧ (LV M) ∧ (CIn M B n) ∧ (PE M B n e) ∧ (e.1 = 0) ∧ (KC M) ∧ (i < 11) ∧  (∀ M' : ZM, (Fr S65 M M') → (PE M' B n (eKw B n (kwT i) e)) → K (some (zi (b2i (decide ((eKw B n (kwT i) e).1 = 0))))) M')
set_option maxRecDepth 100000 in
set_option maxHeartbeats 1500000 in
theorem bd_X3_readKeyword : zBd (cd_X3_readKeyword T_X3_isAt T_X3_fail T_X3_nextToken) 2 0 0 T_X3_readKeyword := by
  rintro av M K KX hA0 hM ⟨B, n, e, i, rfl, hL, hI, hP, h0, kc, hi, hK⟩
  have hz : Fr S65 M M := Fr.rf
  have hok := hP.2.2
  have hkr := tkK_r B n e.2.2
  have her := tkE_r B hok.2
  unfold eOK at hok
  have hn5 := hI.2.1
  refine ⟨rfl, fun Φ hΦ => ?_⟩
  refine zGoR hΦ [] 400 (fun hL9 _ hM _ _ => ?_)
  obtain ⟨_⟩ : True := hL9
  refine ⟨⟨⟨rfl, rfl⟩, hL.wP.rcv⟩, ⟨B, n, e, i, rfl, hL, hI, hP, (by omega), (kc.fr hz), (by omega), fun (qg1 : zrg (b2i (eIs B n (kwT i) e))) qm2 => ⟨fun h => (have qc3 : (eIs B n (kwT i) e) = true := b2i_n0 h; ⟨⟨⟨rfl, rfl⟩, hL.wP.rcv⟩, ⟨B, n, (tkE B n e.2.2), rfl, hL, hI, hP.1.2.2.1, (by have h9 := hP.2.2; have h8 := tkE_r B h9.2; unfold eOK at h9; omega), fun M1 hf1 h01 hk1 => (have hL1 := hL.fr hf1; have hI1 := hI.f5 hL hf1; have hz1 := hz.tr hf1; have hP1 := PE.go hP (by omega) h01 hk1; have hj1 : ((eGo B n e)).1 = 0 → (e).1 = 0 := fun q => eGo_i q; have hg1 : ((eGo B n e)).1 = 0 := eGo_0 (by omega); fun qg4 qm5 => ⟨(Or.inr rfl), (show K (some (zi 1)) M1 from ?g415l1)⟩)⟩⟩), fun h => (have qc6 : (eIs B n (kwT i) e) = false := b2i_e0 h; ⟨⟨⟨rfl, rfl⟩, hL.wP.rcv⟩, ⟨B, n, e, 1, rfl, hL, hI, hP, (by omega), fun M2 hf2 hP2 => (have hL2 := hL.fr hf2; have hI2 := hI.f5 hL hf2; have hz2 := hz.tr hf2; have hn2 : ((eErr 1 e)).1 ≠ 0 := eErr_n (by decide); fun (qg7 : zrg (0)) qm8 => ⟨(Or.inl rfl), (show K (some (zi 0)) M2 from ?g415l2)⟩)⟩⟩)⟩⟩⟩
  case g415l1 =>
    have h8 := hK
    unfold eKw at h8
    first
    | (rw [if_pos (show eIs B n (kwT i) e = true by assumption)] at h8
       have h7 := h8 _ hz1 hP1
       rw [decide_eq_true (eGo_0 h0)] at h7
       exact h7)
    | (rw [if_neg (show ¬ eIs B n (kwT i) e = true by rw [show eIs B n (kwT i) e = false by assumption]; exact Bool.false_ne_true), eGo_b (eErr_n (by decide))] at h8
       have h7 := h8 _ hz1 hP1
       rw [decide_eq_false (eErr_n (by decide))] at h7
       exact h7)
  case g415l2 =>
    have h8 := hK
    unfold eKw at h8
    first
    | (rw [if_pos (show eIs B n (kwT i) e = true by assumption)] at h8
       have h7 := h8 _ hz2 hP2
       rw [decide_eq_true (eGo_0 h0)] at h7
       exact h7)
    | (rw [if_neg (show ¬ eIs B n (kwT i) e = true by rw [show eIs B n (kwT i) e = false by assumption]; exact Bool.false_ne_true), eGo_b (eErr_n (by decide))] at h8
       have h7 := h8 _ hz2 hP2
       rw [decide_eq_false (eErr_n (by decide))] at h7
       exact h7)
theorem M_X3_readKeyword {l : Launch} (hl : l.stackTraces = false) : zMet l yX3_readKeyword (Cond.code yX3_readKeyword cX3_readKeyword 2 (Option.some Jvm.ClassFile.FieldType.boolean) :: zG) rm_X3_readKeyword 0 0 T_X3_readKeyword := met_X3_readKeyword hl (M_X3_isAt hl) (M_X3_fail hl) (M_X3_nextToken hl) bd_X3_readKeyword
def T_X3_readSemicolon : ZTf := fun av M K KX => ∃ (B : Gm) (n : Int) (e : E3), av = [zo 65] ∧ (LV M) ∧ (CIn M B n) ∧ (PE M B n e) ∧ (e.1 = 0) ∧  (∀ M' : ZM, (Fr S65 M M') → (PE M' B n (eSemi B n e)) → K (some (zi (b2i (decide ((eSemi B n e).1 = 0))))) M')
set_option maxRecDepth 100000 in
set_option maxHeartbeats 1500000 in
theorem bd_X3_readSemicolon : zBd (cd_X3_readSemicolon T_X3_fail T_X3_nextToken) 1 0 0 T_X3_readSemicolon := by
  rintro av M K KX hA0 hM ⟨B, n, e, rfl, hL, hI, hP, h0, hK⟩
  have hz : Fr S65 M M := Fr.rf
  have hok := hP.2.2
  have hkr := tkK_r B n e.2.2
  have her := tkE_r B hok.2
  unfold eOK at hok
  have hn5 := hI.2.1
  have hb := fun q : e.2.2 < n => (hI.2.2.1 e.2.2.toNat (by omega)).1
  refine ⟨rfl, fun Φ hΦ => ?_⟩
  refine zGoR hΦ [] 400 (fun hL9 _ hM _ _ => ?_)
  obtain ⟨_⟩ : True := hL9
  refine ⟨hL.wP, zIr (hP.1.1) (⟨fun (qc1 : tkK B n e.2.2 ≠ 2) => ⟨⟨⟨rfl, rfl⟩, hL.wP.rcv⟩, ⟨B, n, e, 1, rfl, hL, hI, hP, (by omega), fun M1 hf1 hP1 => (have hL1 := hL.fr hf1; have hI1 := hI.f5 hL hf1; have hz1 := hz.tr hf1; have hn1 : ((eErr 1 e)).1 ≠ 0 := eErr_n (by decide); fun (qg2 : zrg (0)) qm3 => ⟨(Or.inl rfl), (show K (some (zi 0)) M1 from ?g416l1)⟩)⟩⟩, fun (qc4 : tkK B n e.2.2 = 2) => ⟨hL.wP, _, hL.p2, ⟨hL.wI, _, hL.i0, ⟨hL.wP, zIr (hP.1.2.1) (⟨zixO hL.a_bytes hL.l_bytes (i := e.2.2) (by omega) (by decide), zIr ((hb (by omega))) (⟨fun (qc5 : (B e.2.2.toNat) = 59) => ⟨⟨⟨rfl, rfl⟩, hL.wP.rcv⟩, ⟨B, n, (tkE B n e.2.2), rfl, hL, hI, hP.1.2.2.1, (by have h9 := hP.2.2; have h8 := tkE_r B h9.2; unfold eOK at h9; omega), fun M2 hf2 h02 hk2 => (have hL2 := hL.fr hf2; have hI2 := hI.f5 hL hf2; have hz2 := hz.tr hf2; have hP2 := PE.go hP (by omega) h02 hk2; have hj2 : ((eGo B n e)).1 = 0 → (e).1 = 0 := fun q => eGo_i q; have hg2 : ((eGo B n e)).1 = 0 := eGo_0 (by omega); fun qg6 qm7 => ⟨(Or.inr rfl), (show K (some (zi 1)) M2 from ?g416l2)⟩)⟩⟩, fun (qc8 : (B e.2.2.toNat) ≠ 59) => ⟨⟨⟨rfl, rfl⟩, hL.wP.rcv⟩, ⟨B, n, e, 1, rfl, hL, hI, hP, (by omega), fun M3 hf3 hP3 => (have hL3 := hL.fr hf3; have hI3 := hI.f5 hL hf3; have hz3 := hz.tr hf3; have hn3 : ((eErr 1 e)).1 ≠ 0 := eErr_n (by decide); fun (qg9 : zrg (0)) qm10 => ⟨(Or.inl rfl), (show K (some (zi 0)) M3 from ?g416l3)⟩)⟩⟩⟩)⟩)⟩⟩⟩⟩)⟩
  case g416l1 =>
    have h8 := hK
    unfold eSemi at h8
    first
    | (rw [if_neg (show ¬ (e.1 = 0 ∧ ¬ (tkK B n e.2.2 = 2 ∧ B e.2.2.toNat = 59)) by omega)] at h8
       have h7 := h8 _ hz1 hP1
       rw [decide_eq_true (eGo_0 h0)] at h7
       exact h7)
    | (rw [if_pos (show e.1 = 0 ∧ ¬ (tkK B n e.2.2 = 2 ∧ B e.2.2.toNat = 59) by omega), eGo_b (eErr_n (by decide))] at h8
       have h7 := h8 _ hz1 hP1
       rw [decide_eq_false (eErr_n (by decide))] at h7
       exact h7)
  case g416l2 =>
    have h8 := hK
    unfold eSemi at h8
    first
    | (rw [if_neg (show ¬ (e.1 = 0 ∧ ¬ (tkK B n e.2.2 = 2 ∧ B e.2.2.toNat = 59)) by omega)] at h8
       have h7 := h8 _ hz2 hP2
       rw [decide_eq_true (eGo_0 h0)] at h7
       exact h7)
    | (rw [if_pos (show e.1 = 0 ∧ ¬ (tkK B n e.2.2 = 2 ∧ B e.2.2.toNat = 59) by omega), eGo_b (eErr_n (by decide))] at h8
       have h7 := h8 _ hz2 hP2
       rw [decide_eq_false (eErr_n (by decide))] at h7
       exact h7)
  case g416l3 =>
    have h8 := hK
    unfold eSemi at h8
    first
    | (rw [if_neg (show ¬ (e.1 = 0 ∧ ¬ (tkK B n e.2.2 = 2 ∧ B e.2.2.toNat = 59)) by omega)] at h8
       have h7 := h8 _ hz3 hP3
       rw [decide_eq_true (eGo_0 h0)] at h7
       exact h7)
    | (rw [if_pos (show e.1 = 0 ∧ ¬ (tkK B n e.2.2 = 2 ∧ B e.2.2.toNat = 59) by omega), eGo_b (eErr_n (by decide))] at h8
       have h7 := h8 _ hz3 hP3
       rw [decide_eq_false (eErr_n (by decide))] at h7
       exact h7)
theorem M_X3_readSemicolon {l : Launch} (hl : l.stackTraces = false) : zMet l yX3_readSemicolon (Cond.code yX3_readSemicolon cX3_readSemicolon 1 (Option.some Jvm.ClassFile.FieldType.boolean) :: zG) rm_X3_readSemicolon 0 0 T_X3_readSemicolon := met_X3_readSemicolon hl (M_X3_fail hl) (M_X3_nextToken hl) bd_X3_readSemicolon
