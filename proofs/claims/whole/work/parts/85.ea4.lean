/-! the reference: numbers, keywords, names of its parser -/
theorem RP.val {M : ZM} {B : Gm} {n lo hi : Int} {e : E3} (h : RP M B n (eLook B n lo hi e)) (h0 : (eLook B n lo hi e).1 = 0) (hh : hi ≤ 9999) : zI M 670 11 = tkV B e.2.2 (tkE B n e.2.2) := by
  obtain ⟨a1, a2, a3, a4⟩ := eLook_v h0
  rw [a4] at h
  have h9 := h.2.2.1.2.2.2.1 a2
  rw [h9]
  exact (min9_r _).1 (by omega)

def T_X9_looks : ZTf := fun av M K KX => ∃ (B : Gm) (n : Int) (e : E3) (lo hi : Int), av = [zo 670, zi lo, zi hi] ∧ (LY M) ∧ (RP M B n e) ∧ (0 ≤ lo ∧ hi ≤ 5000) ∧  (∀ M' : ZM, (RXn M M') → (RP M' B n (eLook B n lo hi e)) → K none M')
set_option maxRecDepth 100000 in
set_option maxHeartbeats 1500000 in
theorem bd_X9_looks : zBd (cd_X9_looks T_X9_good T_X9_errs T_X9_in) 3 0 0 T_X9_looks := by
  rintro av M K KX hA0 hM ⟨B, n, e, lo, hi, rfl, hY, hP, hlh, hK⟩
  have hz : RXn M M := RXn.rf
  have hok := hP.2.2.2
  have hkr := tkK_r B n e.2.2
  have hrt := rtk_r (tkK B n e.2.2) ⟨hkr.1, hkr.2.1⟩
  have her := tkE_r B hok.2
  unfold eOK at hok
  have hn5 := hP.1.2.1
  have hv := hP.2.2.1.2.2.2.1
  refine ⟨rfl, fun Φ hΦ => ?_⟩
  refine zGoR hΦ [] 400 (fun hL9 _ hM _ _ => ?_)
  obtain ⟨qL1, qL2, _⟩ : zrg lo ∧ zrg hi ∧ True := hL9
  refine ⟨⟨⟨rfl, rfl⟩, hY.w.rcv⟩, ⟨rfl, ⟨hY.w, zIr hP.2.1.1 (⟨fun (qc1 : e.1 ≠ 0) => ⟨(Or.inl rfl), fun _ _ => ⟨fun _ => ⟨⟨⟨rfl, rfl⟩, hY.w.rcv⟩, ⟨rfl, ⟨hY.w, zIr hP.2.1.1 (⟨fun (qc3 : e.1 ≠ 0) => ⟨(Or.inl rfl), fun _ _ => ⟨fun _ => (show K none M from ?g367l1), fun (h : (0 : Int) ≠ 0) => absurd h (by decide)⟩⟩, fun (qc5 : e.1 = 0) => ⟨(Or.inr rfl), fun _ _ => ⟨fun (h : (1 : Int) = 0) => absurd h (by decide), fun _ => ⟨hY.w, ⟨⟨⟨rfl, rfl⟩, trivial⟩, ⟨rfl, ⟨fun h => (have qc7 : zI M 670 11 < lo := zc_lt h; ⟨(Or.inl rfl), fun _ _ => ⟨fun (h : (0 : Int) ≠ 0) => absurd h (by decide), fun _ => ⟨⟨⟨rfl, rfl⟩, hY.w.rcv⟩, ⟨B, n, e, 2, rfl, hY, hP, (by decide), fun M1 hx1 hP1 => (have hY1 := LY.fr hY hx1.1; have hz1 := hz.tr hx1; have hn1 : ((eErr 2 e)).1 ≠ 0 := eErr_n (by decide); fun qg9 qm10 => (show K none M1 from ?g367l2))⟩⟩⟩⟩), fun h => (have qc11 : zI M 670 11 ≥ lo := zc_ge h; ⟨fun h => (have qc12 : zI M 670 11 > hi := zc_gt h; ⟨(Or.inl rfl), fun _ _ => ⟨fun (h : (0 : Int) ≠ 0) => absurd h (by decide), fun _ => ⟨⟨⟨rfl, rfl⟩, hY.w.rcv⟩, ⟨B, n, e, 2, rfl, hY, hP, (by decide), fun M2 hx2 hP2 => (have hY2 := LY.fr hY hx2.1; have hz2 := hz.tr hx2; have hn2 : ((eErr 2 e)).1 ≠ 0 := eErr_n (by decide); fun qg14 qm15 => (show K none M2 from ?g367l3))⟩⟩⟩⟩), fun h => (have qc16 : zI M 670 11 ≤ hi := zc_le h; ⟨(Or.inr rfl), fun _ _ => ⟨fun _ => (show K none M from ?g367l4), fun (h : (1 : Int) = 0) => absurd h (by decide)⟩⟩)⟩)⟩⟩⟩⟩⟩⟩⟩)⟩⟩⟩, fun (h : (0 : Int) ≠ 0) => absurd h (by decide)⟩⟩, fun (qc18 : e.1 = 0) => ⟨(Or.inr rfl), fun _ _ => ⟨fun (h : (1 : Int) = 0) => absurd h (by decide), fun _ => ⟨hY.w, zIr hP.2.2.1.2.2.1 (⟨fun (qc20 : rtk (tkK B n e.2.2) = 2) => ⟨⟨⟨rfl, rfl⟩, hY.w.rcv⟩, ⟨rfl, ⟨hY.w, zIr hP.2.1.1 (⟨fun (qc21 : e.1 ≠ 0) => ⟨(Or.inl rfl), fun _ _ => ⟨fun _ => (show K none M from ?g367l5), fun (h : (0 : Int) ≠ 0) => absurd h (by decide)⟩⟩, fun (qc23 : e.1 = 0) => ⟨(Or.inr rfl), fun _ _ => ⟨fun (h : (1 : Int) = 0) => absurd h (by decide), fun _ => ⟨hY.w, ⟨⟨⟨rfl, rfl⟩, trivial⟩, ⟨rfl, ⟨fun h => (have qc25 : zI M 670 11 < lo := zc_lt h; ⟨(Or.inl rfl), fun _ _ => ⟨fun (h : (0 : Int) ≠ 0) => absurd h (by decide), fun _ => ⟨⟨⟨rfl, rfl⟩, hY.w.rcv⟩, ⟨B, n, e, 2, rfl, hY, hP, (by decide), fun M3 hx3 hP3 => (have hY3 := LY.fr hY hx3.1; have hz3 := hz.tr hx3; have hn3 : ((eErr 2 e)).1 ≠ 0 := eErr_n (by decide); fun qg27 qm28 => (show K none M3 from ?g367l6))⟩⟩⟩⟩), fun h => (have qc29 : zI M 670 11 ≥ lo := zc_ge h; ⟨fun h => (have qc30 : zI M 670 11 > hi := zc_gt h; ⟨(Or.inl rfl), fun _ _ => ⟨fun (h : (0 : Int) ≠ 0) => absurd h (by decide), fun _ => ⟨⟨⟨rfl, rfl⟩, hY.w.rcv⟩, ⟨B, n, e, 2, rfl, hY, hP, (by decide), fun M4 hx4 hP4 => (have hY4 := LY.fr hY hx4.1; have hz4 := hz.tr hx4; have hn4 : ((eErr 2 e)).1 ≠ 0 := eErr_n (by decide); fun qg32 qm33 => (show K none M4 from ?g367l7))⟩⟩⟩⟩), fun h => (have qc34 : zI M 670 11 ≤ hi := zc_le h; ⟨(Or.inr rfl), fun _ _ => ⟨fun _ => (show K none M from ?g367l8), fun (h : (1 : Int) = 0) => absurd h (by decide)⟩⟩)⟩)⟩⟩⟩⟩⟩⟩⟩)⟩⟩⟩, fun (qc36 : rtk (tkK B n e.2.2) ≠ 2) => ⟨⟨⟨rfl, rfl⟩, hY.w.rcv⟩, ⟨B, n, e, 1, rfl, hY, hP, (by decide), fun M5 hx5 hP5 => (have hY5 := LY.fr hY hx5.1; have hz5 := hz.tr hx5; have hn5 : ((eErr 1 e)).1 ≠ 0 := eErr_n (by decide); fun qg37 qm38 => ⟨⟨⟨rfl, rfl⟩, hY5.w.rcv⟩, ⟨rfl, ⟨hY5.w, zIr hP5.2.1.1 (⟨fun (qc39 : (eErr 1 e).1 ≠ 0) => ⟨(Or.inl rfl), fun _ _ => ⟨fun _ => (show K none M5 from ?g367l9), fun (h : (0 : Int) ≠ 0) => absurd h (by decide)⟩⟩, fun (qc41 : (eErr 1 e).1 = 0) => ⟨(Or.inr rfl), fun _ _ => ⟨fun (h : (1 : Int) = 0) => absurd h (by decide), fun _ => ⟨hY5.w, ⟨⟨⟨rfl, rfl⟩, trivial⟩, ⟨rfl, ⟨fun h => (have qc43 : zI M5 670 11 < lo := zc_lt h; ⟨(Or.inl rfl), fun _ _ => ⟨fun (h : (0 : Int) ≠ 0) => absurd h (by decide), fun _ => ⟨⟨⟨rfl, rfl⟩, hY5.w.rcv⟩, ⟨B, n, (eErr 1 e), 2, rfl, hY5, hP5, (by decide), fun M6 hx6 hP6 => (have hY6 := LY.fr hY5 hx6.1; have hz6 := hz5.tr hx6; have hn6 : ((eErr 2 (eErr 1 e))).1 ≠ 0 := eErr_n (by decide); fun qg45 qm46 => (show K none M6 from ?g367l10))⟩⟩⟩⟩), fun h => (have qc47 : zI M5 670 11 ≥ lo := zc_ge h; ⟨fun h => (have qc48 : zI M5 670 11 > hi := zc_gt h; ⟨(Or.inl rfl), fun _ _ => ⟨fun (h : (0 : Int) ≠ 0) => absurd h (by decide), fun _ => ⟨⟨⟨rfl, rfl⟩, hY5.w.rcv⟩, ⟨B, n, (eErr 1 e), 2, rfl, hY5, hP5, (by decide), fun M7 hx7 hP7 => (have hY7 := LY.fr hY5 hx7.1; have hz7 := hz5.tr hx7; have hn7 : ((eErr 2 (eErr 1 e))).1 ≠ 0 := eErr_n (by decide); fun qg50 qm51 => (show K none M7 from ?g367l11))⟩⟩⟩⟩), fun h => (have qc52 : zI M5 670 11 ≤ hi := zc_le h; ⟨(Or.inr rfl), fun _ _ => ⟨fun _ => (show K none M5 from ?g367l12), fun (h : (1 : Int) = 0) => absurd h (by decide)⟩⟩)⟩)⟩⟩⟩⟩⟩⟩⟩)⟩⟩⟩)⟩⟩⟩)⟩⟩⟩⟩)⟩⟩⟩
  case g367l1 =>
    refine hK M RXn.rf ?_
    unfold eLook
    by_cases q : e.1 = 0
    · have h1 : tkK B n e.2.2 = 1 := by omega
      have h2 := hv h1
      have h3 := min9_r (tkV B e.2.2 (tkE B n e.2.2))
      rw [if_pos q, if_pos h1, if_pos (show lo ≤ tkV B e.2.2 (tkE B n e.2.2) ∧ tkV B e.2.2 (tkE B n e.2.2) ≤ hi by omega)]
      exact hP
    · rw [if_neg q]
      exact hP
  case g367l2 =>
    first
    | (exfalso; omega)
    | skip
      have h9 := hP1
      refine hK _ hx1 ?_
      unfold eLook
      rw [if_pos (show e.1 = 0 by omega)]
      by_cases h1 : tkK B n e.2.2 = 1
      · first
        | (exfalso; omega)
        | skip
          have h2 := hv h1
          have h3 := min9_r (tkV B e.2.2 (tkE B n e.2.2))
          have h4 := (tkV_t hok.2 h1 _ her.1 (Int.le_refl _)).1
          rw [if_pos h1, if_neg (show ¬ (lo ≤ tkV B e.2.2 (tkE B n e.2.2) ∧ tkV B e.2.2 (tkE B n e.2.2) ≤ hi) by omega)]
          exact h9
      · first
        | (exfalso; omega)
        | skip
          rw [if_neg h1]
          exact h9
  case g367l3 =>
    first
    | (exfalso; omega)
    | skip
      have h9 := hP2
      refine hK _ hx2 ?_
      unfold eLook
      rw [if_pos (show e.1 = 0 by omega)]
      by_cases h1 : tkK B n e.2.2 = 1
      · first
        | (exfalso; omega)
        | skip
          have h2 := hv h1
          have h3 := min9_r (tkV B e.2.2 (tkE B n e.2.2))
          have h4 := (tkV_t hok.2 h1 _ her.1 (Int.le_refl _)).1
          rw [if_pos h1, if_neg (show ¬ (lo ≤ tkV B e.2.2 (tkE B n e.2.2) ∧ tkV B e.2.2 (tkE B n e.2.2) ≤ hi) by omega)]
          exact h9
      · first
        | (exfalso; omega)
        | skip
          rw [if_neg h1]
          exact h9
  case g367l4 =>
    refine hK M RXn.rf ?_
    unfold eLook
    by_cases q : e.1 = 0
    · have h1 : tkK B n e.2.2 = 1 := by omega
      have h2 := hv h1
      have h3 := min9_r (tkV B e.2.2 (tkE B n e.2.2))
      rw [if_pos q, if_pos h1, if_pos (show lo ≤ tkV B e.2.2 (tkE B n e.2.2) ∧ tkV B e.2.2 (tkE B n e.2.2) ≤ hi by omega)]
      exact hP
    · rw [if_neg q]
      exact hP
  case g367l5 =>
    refine hK M RXn.rf ?_
    unfold eLook
    by_cases q : e.1 = 0
    · have h1 : tkK B n e.2.2 = 1 := by omega
      have h2 := hv h1
      have h3 := min9_r (tkV B e.2.2 (tkE B n e.2.2))
      rw [if_pos q, if_pos h1, if_pos (show lo ≤ tkV B e.2.2 (tkE B n e.2.2) ∧ tkV B e.2.2 (tkE B n e.2.2) ≤ hi by omega)]
      exact hP
    · rw [if_neg q]
      exact hP
  case g367l6 =>
    first
    | (exfalso; omega)
    | skip
      have h9 := hP3
      refine hK _ hx3 ?_
      unfold eLook
      rw [if_pos (show e.1 = 0 by omega)]
      by_cases h1 : tkK B n e.2.2 = 1
      · first
        | (exfalso; omega)
        | skip
          have h2 := hv h1
          have h3 := min9_r (tkV B e.2.2 (tkE B n e.2.2))
          have h4 := (tkV_t hok.2 h1 _ her.1 (Int.le_refl _)).1
          rw [if_pos h1, if_neg (show ¬ (lo ≤ tkV B e.2.2 (tkE B n e.2.2) ∧ tkV B e.2.2 (tkE B n e.2.2) ≤ hi) by omega)]
          exact h9
      · first
        | (exfalso; omega)
        | skip
          rw [if_neg h1]
          exact h9
  case g367l7 =>
    first
    | (exfalso; omega)
    | skip
      have h9 := hP4
      refine hK _ hx4 ?_
      unfold eLook
      rw [if_pos (show e.1 = 0 by omega)]
      by_cases h1 : tkK B n e.2.2 = 1
      · first
        | (exfalso; omega)
        | skip
          have h2 := hv h1
          have h3 := min9_r (tkV B e.2.2 (tkE B n e.2.2))
          have h4 := (tkV_t hok.2 h1 _ her.1 (Int.le_refl _)).1
          rw [if_pos h1, if_neg (show ¬ (lo ≤ tkV B e.2.2 (tkE B n e.2.2) ∧ tkV B e.2.2 (tkE B n e.2.2) ≤ hi) by omega)]
          exact h9
      · first
        | (exfalso; omega)
        | skip
          rw [if_neg h1]
          exact h9
  case g367l8 =>
    refine hK M RXn.rf ?_
    unfold eLook
    by_cases q : e.1 = 0
    · have h1 : tkK B n e.2.2 = 1 := by omega
      have h2 := hv h1
      have h3 := min9_r (tkV B e.2.2 (tkE B n e.2.2))
      rw [if_pos q, if_pos h1, if_pos (show lo ≤ tkV B e.2.2 (tkE B n e.2.2) ∧ tkV B e.2.2 (tkE B n e.2.2) ≤ hi by omega)]
      exact hP
    · rw [if_neg q]
      exact hP
  case g367l9 =>
    first
    | (exfalso; omega)
    | skip
      have h9 := hP5
      refine hK _ hx5 ?_
      unfold eLook
      rw [if_pos (show e.1 = 0 by omega)]
      by_cases h1 : tkK B n e.2.2 = 1
      · first
        | (exfalso; omega)
        | skip
          have h2 := hv h1
          have h3 := min9_r (tkV B e.2.2 (tkE B n e.2.2))
          have h4 := (tkV_t hok.2 h1 _ her.1 (Int.le_refl _)).1
          rw [if_pos h1, if_neg (show ¬ (lo ≤ tkV B e.2.2 (tkE B n e.2.2) ∧ tkV B e.2.2 (tkE B n e.2.2) ≤ hi) by omega)]
          exact h9
      · first
        | (exfalso; omega)
        | skip
          rw [if_neg h1]
          exact h9
  case g367l10 =>
    first
    | (exfalso; omega)
    | skip
      have h9 := hP6
      refine hK _ hx6 ?_
      unfold eLook
      rw [if_pos (show e.1 = 0 by omega)]
      by_cases h1 : tkK B n e.2.2 = 1
      · first
        | (exfalso; omega)
        | skip
          have h2 := hv h1
          have h3 := min9_r (tkV B e.2.2 (tkE B n e.2.2))
          have h4 := (tkV_t hok.2 h1 _ her.1 (Int.le_refl _)).1
          rw [if_pos h1, if_neg (show ¬ (lo ≤ tkV B e.2.2 (tkE B n e.2.2) ∧ tkV B e.2.2 (tkE B n e.2.2) ≤ hi) by omega)]
          exact h9
      · first
        | (exfalso; omega)
        | skip
          rw [if_neg h1]
          exact h9
  case g367l11 =>
    first
    | (exfalso; omega)
    | skip
      have h9 := hP7
      refine hK _ hx7 ?_
      unfold eLook
      rw [if_pos (show e.1 = 0 by omega)]
      by_cases h1 : tkK B n e.2.2 = 1
      · first
        | (exfalso; omega)
        | skip
          have h2 := hv h1
          have h3 := min9_r (tkV B e.2.2 (tkE B n e.2.2))
          have h4 := (tkV_t hok.2 h1 _ her.1 (Int.le_refl _)).1
          rw [if_pos h1, if_neg (show ¬ (lo ≤ tkV B e.2.2 (tkE B n e.2.2) ∧ tkV B e.2.2 (tkE B n e.2.2) ≤ hi) by omega)]
          exact h9
      · first
        | (exfalso; omega)
        | skip
          rw [if_neg h1]
          exact h9
  case g367l12 =>
    first
    | (exfalso; omega)
    | skip
      have h9 := hP5
      refine hK _ hx5 ?_
      unfold eLook
      rw [if_pos (show e.1 = 0 by omega)]
      by_cases h1 : tkK B n e.2.2 = 1
      · first
        | (exfalso; omega)
        | skip
          have h2 := hv h1
          have h3 := min9_r (tkV B e.2.2 (tkE B n e.2.2))
          have h4 := (tkV_t hok.2 h1 _ her.1 (Int.le_refl _)).1
          rw [if_pos h1, if_neg (show ¬ (lo ≤ tkV B e.2.2 (tkE B n e.2.2) ∧ tkV B e.2.2 (tkE B n e.2.2) ≤ hi) by omega)]
          exact h9
      · first
        | (exfalso; omega)
        | skip
          rw [if_neg h1]
          exact h9
theorem M_X9_looks {l : Launch} (hl : l.stackTraces = false) : zMet l yX9_looks (Cond.code yX9_looks cX9_looks 3 (Option.none : Option Jvm.ClassFile.FieldType) :: zG) rm_X9_looks 0 0 T_X9_looks := met_X9_looks hl (M_X9_good hl) (M_X9_errs hl) (M_X9_in hl) bd_X9_looks

def T_X9_number : ZTf := fun av M K KX => ∃ (B : Gm) (n : Int) (e : E3) (lo hi : Int), av = [zo 670, zi lo, zi hi] ∧ (LY M) ∧ (RP M B n e) ∧ (0 ≤ lo ∧ hi ≤ 5000) ∧  (∀ M' : ZM, (RXn M M') → (RP M' B n (eNum B n lo hi e)) → K (some (zi (eVal B n lo hi e))) M')
set_option maxRecDepth 100000 in
set_option maxHeartbeats 1500000 in
theorem bd_X9_number : zBd (cd_X9_number T_X9_looks T_X9_good T_X9_goOn) 4 0 0 T_X9_number := by
  rintro av M K KX hA0 hM ⟨B, n, e, lo, hi, rfl, hY, hP, hlh, hK⟩
  have hz : RXn M M := RXn.rf
  have hok := hP.2.2.2
  have hkr := tkK_r B n e.2.2
  have hrt := rtk_r (tkK B n e.2.2) ⟨hkr.1, hkr.2.1⟩
  have her := tkE_r B hok.2
  unfold eOK at hok
  have hn5 := hP.1.2.1
  refine ⟨rfl, fun Φ hΦ => ?_⟩
  refine zGoR hΦ [] 400 (fun hL9 _ hM _ _ => ?_)
  obtain ⟨qL1, qL2, _⟩ : zrg lo ∧ zrg hi ∧ True := hL9
  refine ⟨⟨⟨rfl, rfl⟩, hY.w.rcv⟩, ⟨B, n, e, lo, hi, rfl, hY, hP, hlh, fun M1 hx1 hP1 => (have hY1 := LY.fr hY hx1.1; have hz1 := hz.tr hx1; fun qg1 qm2 => ⟨⟨⟨rfl, rfl⟩, hY1.w.rcv⟩, ⟨rfl, ⟨hY1.w, zIr hP1.2.1.1 (⟨fun (qc3 : (eLook B n lo hi e).1 ≠ 0) => ⟨(Or.inl rfl), fun _ _ => ⟨fun _ => ⟨⟨⟨rfl, rfl⟩, hY1.w.rcv⟩, ⟨B, n, (eLook B n lo hi e), rfl, hY1, hP1, fun M2 hx2 hP2 => (have hY2 := LY.fr hY1 hx2.1; have hz2 := hz1.tr hx2; fun qg5 qm6 => ⟨trivial, (show K (some (zi lo)) M2 from ?g368l1)⟩)⟩⟩, fun (h : (0 : Int) ≠ 0) => absurd h (by decide)⟩⟩, fun (qc7 : (eLook B n lo hi e).1 = 0) => ⟨(Or.inr rfl), fun _ _ => ⟨fun (h : (1 : Int) = 0) => absurd h (by decide), fun _ => ⟨hY1.w, ⟨⟨⟨rfl, rfl⟩, hY1.w.rcv⟩, ⟨B, n, (eLook B n lo hi e), rfl, hY1, hP1, fun M3 hx3 hP3 => (have hY3 := LY.fr hY1 hx3.1; have hz3 := hz1.tr hx3; fun qg9 qm10 => ⟨trivial, (show K (some (zi (zI M1 670 11))) M3 from ?g368l2)⟩)⟩⟩⟩⟩⟩⟩)⟩⟩⟩)⟩⟩
  case g368l1 =>
    by_cases h0 : (eLook B n lo hi e).1 = 0
    · have h7 := RP.val hP1 h0 (by omega)
      have h6 := hK _ hz2 hP2
      unfold eVal at h6
      rw [if_pos h0, ← h7] at h6
      first | (exfalso; omega) | exact h6
    · have h6 := hK _ hz2 hP2
      unfold eVal at h6
      rw [if_neg h0] at h6
      first | (exfalso; omega) | exact h6
  case g368l2 =>
    by_cases h0 : (eLook B n lo hi e).1 = 0
    · have h7 := RP.val hP1 h0 (by omega)
      have h6 := hK _ hz3 hP3
      unfold eVal at h6
      rw [if_pos h0, ← h7] at h6
      first | (exfalso; omega) | exact h6
    · have h6 := hK _ hz3 hP3
      unfold eVal at h6
      rw [if_neg h0] at h6
      first | (exfalso; omega) | exact h6
theorem M_X9_number {l : Launch} (hl : l.stackTraces = false) : zMet l yX9_number (Cond.code yX9_number cX9_number 4 (Option.some Jvm.ClassFile.FieldType.int) :: zG) rm_X9_number 0 0 T_X9_number := met_X9_number hl (M_X9_looks hl) (M_X9_good hl) (M_X9_goOn hl) bd_X9_number

def T_X9_numberBehind : ZTf := fun av M K KX => ∃ (B : Gm) (n : Int) (e : E3) (s : Nat) (l : List Int) (lo hi : Int), av = [zo 670, zo s, zi lo, zi hi] ∧ (LY M) ∧ (RP M B n e) ∧ (zTx M s l) ∧ (l.length ≤ 100) ∧ (∀ k : Nat, k < l.length → 0 ≤ l.getD k 0 ∧ l.getD k 0 < 128) ∧ (0 ≤ lo ∧ hi ≤ 5000) ∧  (∀ M' : ZM, (RXn M M') → (RP M' B n (eNum B n lo hi (eKw B n l e))) → K (some (zi (eVal B n lo hi (eKw B n l e)))) M')
set_option maxRecDepth 100000 in
set_option maxHeartbeats 1500000 in
theorem bd_X9_numberBehind : zBd (cd_X9_numberBehind T_X9_isWord T_X9_errs T_X9_goOn T_X9_number) 4 0 0 T_X9_numberBehind := by
  rintro av M K KX hA0 hM ⟨B, n, e, s, l, lo, hi, rfl, hY, hP, hz9, hb, hlt, hlh, hK⟩
  have hz : RXn M M := RXn.rf
  have hok := hP.2.2.2
  have hkr := tkK_r B n e.2.2
  have hrt := rtk_r (tkK B n e.2.2) ⟨hkr.1, hkr.2.1⟩
  have her := tkE_r B hok.2
  unfold eOK at hok
  have hn5 := hP.1.2.1
  refine ⟨rfl, fun Φ hΦ => ?_⟩
  refine zGoR hΦ [] 400 (fun hL9 _ hM _ _ => ?_)
  obtain ⟨qL1, qL2, _⟩ : zrg lo ∧ zrg hi ∧ True := hL9
  refine ⟨⟨⟨rfl, rfl⟩, hY.w.rcv⟩, ⟨B, n, e, s, l, rfl, hY, hP, hz9, hb, hlt, fun (qg1 : zrg (b2i (eIs B n l e))) qm2 => ⟨fun h => (have qc3 : (eIs B n l e) = true := b2i_n0 h; ⟨⟨⟨rfl, rfl⟩, hY.w.rcv⟩, ⟨B, n, e, rfl, hY, hP, fun M1 hx1 hP1 => (have hY1 := LY.fr hY hx1.1; have hz1 := hz.tr hx1; fun qg4 qm5 => ⟨⟨⟨rfl, rfl⟩, hY1.w.rcv⟩, ⟨B, n, (eGo B n e), lo, hi, rfl, hY1, hP1, hlh, fun M2 hx2 hP2 => (have hY2 := LY.fr hY1 hx2.1; have hz2 := hz1.tr hx2; fun (qg6 : zrg (eVal B n lo hi (eGo B n e))) qm7 => ⟨trivial, (show K (some (zi (eVal B n lo hi (eGo B n e)))) M2 from ?g369l1)⟩)⟩⟩)⟩⟩), fun h => (have qc8 : (eIs B n l e) = false := b2i_e0 h; ⟨⟨⟨rfl, rfl⟩, hY.w.rcv⟩, ⟨B, n, e, 1, rfl, hY, hP, (by decide), fun M3 hx3 hP3 => (have hY3 := LY.fr hY hx3.1; have hz3 := hz.tr hx3; have hn3 : ((eErr 1 e)).1 ≠ 0 := eErr_n (by decide); fun qg9 qm10 => ⟨⟨⟨rfl, rfl⟩, hY3.w.rcv⟩, ⟨B, n, (eErr 1 e), rfl, hY3, hP3, fun M4 hx4 hP4 => (have hY4 := LY.fr hY3 hx4.1; have hz4 := hz3.tr hx4; fun qg11 qm12 => ⟨⟨⟨rfl, rfl⟩, hY4.w.rcv⟩, ⟨B, n, (eGo B n (eErr 1 e)), lo, hi, rfl, hY4, hP4, hlh, fun M5 hx5 hP5 => (have hY5 := LY.fr hY4 hx5.1; have hz5 := hz4.tr hx5; fun (qg13 : zrg (eVal B n lo hi (eGo B n (eErr 1 e)))) qm14 => ⟨trivial, (show K (some (zi (eVal B n lo hi (eGo B n (eErr 1 e))))) M5 from ?g369l2)⟩)⟩⟩)⟩⟩)⟩⟩)⟩⟩⟩
  case g369l1 =>
    have h9 := hP2
    have h8 := hK
    unfold eKw at h8
    first
    | (rw [if_pos (show eIs B n l e = true by assumption)] at h8; exact h8 _ hz2 h9)
    | (rw [if_neg (show ¬ eIs B n l e = true by rw [show eIs B n l e = false by assumption]; exact Bool.false_ne_true)] at h8; exact h8 _ hz2 h9)
  case g369l2 =>
    have h9 := hP5
    have h8 := hK
    unfold eKw at h8
    first
    | (rw [if_pos (show eIs B n l e = true by assumption)] at h8; exact h8 _ hz5 h9)
    | (rw [if_neg (show ¬ eIs B n l e = true by rw [show eIs B n l e = false by assumption]; exact Bool.false_ne_true)] at h8; exact h8 _ hz5 h9)
theorem M_X9_numberBehind {l : Launch} (hl : l.stackTraces = false) : zMet l yX9_numberBehind (Cond.code yX9_numberBehind cX9_numberBehind 4 (Option.some Jvm.ClassFile.FieldType.int) :: zG) rm_X9_numberBehind 0 0 T_X9_numberBehind := met_X9_numberBehind hl (M_X9_isWord hl) (M_X9_errs hl) (M_X9_goOn hl) (M_X9_number hl) bd_X9_numberBehind

def T_X9_semicolon : ZTf := fun av M K KX => ∃ (B : Gm) (n : Int) (e : E3), av = [zo 670] ∧ (LY M) ∧ (RP M B n e) ∧  (∀ M' : ZM, (RXn M M') → (RP M' B n (eSemi B n e)) → K none M')
set_option maxRecDepth 100000 in
set_option maxHeartbeats 1500000 in
theorem bd_X9_semicolon : zBd (cd_X9_semicolon T_X9_good T_X9_errs T_X9_goOn) 1 0 0 T_X9_semicolon := by
  rintro av M K KX hA0 hM ⟨B, n, e, rfl, hY, hP, hK⟩
  have hz : RXn M M := RXn.rf
  have hok := hP.2.2.2
  have hkr := tkK_r B n e.2.2
  have hrt := rtk_r (tkK B n e.2.2) ⟨hkr.1, hkr.2.1⟩
  have her := tkE_r B hok.2
  unfold eOK at hok
  have hn5 := hP.1.2.1
  have hv := hP.2.2.1.2.2.2.2
  refine ⟨rfl, fun Φ hΦ => ?_⟩
  refine zGoR hΦ [] 400 (fun hL9 _ hM _ _ => ?_)
  obtain ⟨_⟩ : True := hL9
  refine ⟨⟨⟨rfl, rfl⟩, hY.w.rcv⟩, ⟨rfl, ⟨hY.w, zIr hP.2.1.1 (⟨fun (qc1 : e.1 ≠ 0) => ⟨(Or.inl rfl), fun _ _ => ⟨fun _ => ⟨⟨⟨rfl, rfl⟩, hY.w.rcv⟩, ⟨B, n, e, rfl, hY, hP, fun M1 hx1 hP1 => (have hY1 := LY.fr hY hx1.1; have hz1 := hz.tr hx1; fun qg3 qm4 => (show K none M1 from ?g370l1))⟩⟩, fun (h : (0 : Int) ≠ 0) => absurd h (by decide)⟩⟩, fun (qc5 : e.1 = 0) => ⟨(Or.inr rfl), fun _ _ => ⟨fun (h : (1 : Int) = 0) => absurd h (by decide), fun _ => ⟨hY.w, zIr hP.2.2.1.2.2.1 (⟨fun (qc7 : rtk (tkK B n e.2.2) ≠ 3) => ⟨⟨⟨rfl, rfl⟩, hY.w.rcv⟩, ⟨B, n, e, 1, rfl, hY, hP, (by decide), fun M2 hx2 hP2 => (have hY2 := LY.fr hY hx2.1; have hz2 := hz.tr hx2; have hn2 : ((eErr 1 e)).1 ≠ 0 := eErr_n (by decide); fun qg8 qm9 => ⟨⟨⟨rfl, rfl⟩, hY2.w.rcv⟩, ⟨B, n, (eErr 1 e), rfl, hY2, hP2, fun M3 hx3 hP3 => (have hY3 := LY.fr hY2 hx3.1; have hz3 := hz2.tr hx3; fun qg10 qm11 => (show K none M3 from ?g370l2))⟩⟩)⟩⟩, fun (qc12 : rtk (tkK B n e.2.2) = 3) => ⟨hY.w, ⟨fun (qc13 : zI M 670 11 = 59) => ⟨⟨⟨rfl, rfl⟩, hY.w.rcv⟩, ⟨B, n, e, rfl, hY, hP, fun M4 hx4 hP4 => (have hY4 := LY.fr hY hx4.1; have hz4 := hz.tr hx4; fun qg14 qm15 => (show K none M4 from ?g370l3))⟩⟩, fun (qc16 : zI M 670 11 ≠ 59) => ⟨⟨⟨rfl, rfl⟩, hY.w.rcv⟩, ⟨B, n, e, 1, rfl, hY, hP, (by decide), fun M5 hx5 hP5 => (have hY5 := LY.fr hY hx5.1; have hz5 := hz.tr hx5; have hn5 : ((eErr 1 e)).1 ≠ 0 := eErr_n (by decide); fun qg17 qm18 => ⟨⟨⟨rfl, rfl⟩, hY5.w.rcv⟩, ⟨B, n, (eErr 1 e), rfl, hY5, hP5, fun M6 hx6 hP6 => (have hY6 := LY.fr hY5 hx6.1; have hz6 := hz5.tr hx6; fun qg19 qm20 => (show K none M6 from ?g370l4))⟩⟩)⟩⟩⟩⟩⟩)⟩⟩⟩⟩)⟩⟩⟩
  case g370l1 =>
    first
    | (exfalso; omega)
    | skip
      have h9 := hP1
      refine hK _ hz1 ?_
      unfold eSemi
      first
      | (rw [if_pos (show e.1 = 0 ∧ ¬ (tkK B n e.2.2 = 2 ∧ B e.2.2.toNat = 59) by first | omega | (refine ⟨by omega, fun z => ?_⟩; have := hv z.1; omega))]; exact h9)
      | (rw [if_neg (show ¬ (e.1 = 0 ∧ ¬ (tkK B n e.2.2 = 2 ∧ B e.2.2.toNat = 59)) by first | omega | (refine fun z => z.2 ⟨by omega, ?_⟩; have := hv (by omega); omega))]; exact h9)
  case g370l2 =>
    first
    | (exfalso; omega)
    | skip
      have h9 := hP3
      refine hK _ hz3 ?_
      unfold eSemi
      first
      | (rw [if_pos (show e.1 = 0 ∧ ¬ (tkK B n e.2.2 = 2 ∧ B e.2.2.toNat = 59) by first | omega | (refine ⟨by omega, fun z => ?_⟩; have := hv z.1; omega))]; exact h9)
      | (rw [if_neg (show ¬ (e.1 = 0 ∧ ¬ (tkK B n e.2.2 = 2 ∧ B e.2.2.toNat = 59)) by first | omega | (refine fun z => z.2 ⟨by omega, ?_⟩; have := hv (by omega); omega))]; exact h9)
  case g370l3 =>
    first
    | (exfalso; omega)
    | skip
      have h9 := hP4
      refine hK _ hz4 ?_
      unfold eSemi
      first
      | (rw [if_pos (show e.1 = 0 ∧ ¬ (tkK B n e.2.2 = 2 ∧ B e.2.2.toNat = 59) by first | omega | (refine ⟨by omega, fun z => ?_⟩; have := hv z.1; omega))]; exact h9)
      | (rw [if_neg (show ¬ (e.1 = 0 ∧ ¬ (tkK B n e.2.2 = 2 ∧ B e.2.2.toNat = 59)) by first | omega | (refine fun z => z.2 ⟨by omega, ?_⟩; have := hv (by omega); omega))]; exact h9)
  case g370l4 =>
    first
    | (exfalso; omega)
    | skip
      have h9 := hP6
      refine hK _ hz6 ?_
      unfold eSemi
      first
      | (rw [if_pos (show e.1 = 0 ∧ ¬ (tkK B n e.2.2 = 2 ∧ B e.2.2.toNat = 59) by first | omega | (refine ⟨by omega, fun z => ?_⟩; have := hv z.1; omega))]; exact h9)
      | (rw [if_neg (show ¬ (e.1 = 0 ∧ ¬ (tkK B n e.2.2 = 2 ∧ B e.2.2.toNat = 59)) by first | omega | (refine fun z => z.2 ⟨by omega, ?_⟩; have := hv (by omega); omega))]; exact h9)
theorem M_X9_semicolon {l : Launch} (hl : l.stackTraces = false) : zMet l yX9_semicolon (Cond.code yX9_semicolon cX9_semicolon 1 (Option.none : Option Jvm.ClassFile.FieldType) :: zG) rm_X9_semicolon 0 0 T_X9_semicolon := met_X9_semicolon hl (M_X9_good hl) (M_X9_errs hl) (M_X9_goOn hl) bd_X9_semicolon

def T_X9_isKeyword : ZTf := fun av M K KX => ∃ (B : Gm) (n : Int) (e : E3), av = [zo 670] ∧ (LY M) ∧ (RP M B n e) ∧ (KC M) ∧  K (some (zi (b2i (isKey B n e)))) M
set_option maxRecDepth 100000 in
set_option maxHeartbeats 1500000 in
theorem bd_X9_isKeyword : zBd (cd_X9_isKeyword T_X9_isWord) 2 0 0 T_X9_isKeyword := by
  rintro av M K KX hA0 hM ⟨B, n, e, rfl, hY, hP, kc, hK⟩
  have hz : RXn M M := RXn.rf
  have hok := hP.2.2.2
  have hkr := tkK_r B n e.2.2
  have hrt := rtk_r (tkK B n e.2.2) ⟨hkr.1, hkr.2.1⟩
  have her := tkE_r B hok.2
  unfold eOK at hok
  have hn5 := hP.1.2.1
  refine ⟨rfl, fun Φ hΦ => ?_⟩
  refine zGoR hΦ [] 400 (fun hL9 _ hM _ _ => ?_)
  obtain ⟨_⟩ : True := hL9
  refine ⟨⟨⟨rfl, rfl⟩, hY.w.rcv⟩, ⟨B, n, e, 35, (kwT 0), rfl, hY, hP, (show zTx _ 35 (kwT 0) from (kc.fr hz.1).w 0 (by decide)), (by have := kwT_r (i := 0) (by decide); omega), (fun k hk => by have := (kwT_r (i := 0) (by decide)).2 k hk; omega), fun (qg1 : zrg (b2i (eIs B n (kwT 0) e))) qm2 => ⟨fun h => (have qc3 : (eIs B n (kwT 0) e) = true := b2i_n0 h; ⟨fun _ => ⟨(Or.inr rfl), (show K (some (zi 1)) M from ?g371l1)⟩, fun (h : (1 : Int) = 0) => absurd h (by decide)⟩), fun h => (have qc4 : (eIs B n (kwT 0) e) = false := b2i_e0 h; ⟨⟨⟨rfl, rfl⟩, hY.w.rcv⟩, ⟨B, n, e, 36, (kwT 1), rfl, hY, hP, (show zTx _ 36 (kwT 1) from (kc.fr hz.1).w 1 (by decide)), (by have := kwT_r (i := 1) (by decide); omega), (fun k hk => by have := (kwT_r (i := 1) (by decide)).2 k hk; omega), fun (qg5 : zrg (b2i (eIs B n (kwT 1) e))) qm6 => ⟨fun h => (have qc7 : (eIs B n (kwT 1) e) = true := b2i_n0 h; ⟨fun _ => ⟨(Or.inr rfl), (show K (some (zi 1)) M from ?g371l2)⟩, fun (h : (1 : Int) = 0) => absurd h (by decide)⟩), fun h => (have qc8 : (eIs B n (kwT 1) e) = false := b2i_e0 h; ⟨⟨⟨rfl, rfl⟩, hY.w.rcv⟩, ⟨B, n, e, 37, (kwT 2), rfl, hY, hP, (show zTx _ 37 (kwT 2) from (kc.fr hz.1).w 2 (by decide)), (by have := kwT_r (i := 2) (by decide); omega), (fun k hk => by have := (kwT_r (i := 2) (by decide)).2 k hk; omega), fun (qg9 : zrg (b2i (eIs B n (kwT 2) e))) qm10 => ⟨fun h => (have qc11 : (eIs B n (kwT 2) e) = true := b2i_n0 h; ⟨fun _ => ⟨(Or.inr rfl), (show K (some (zi 1)) M from ?g371l3)⟩, fun (h : (1 : Int) = 0) => absurd h (by decide)⟩), fun h => (have qc12 : (eIs B n (kwT 2) e) = false := b2i_e0 h; ⟨⟨⟨rfl, rfl⟩, hY.w.rcv⟩, ⟨B, n, e, 38, (kwT 3), rfl, hY, hP, (show zTx _ 38 (kwT 3) from (kc.fr hz.1).w 3 (by decide)), (by have := kwT_r (i := 3) (by decide); omega), (fun k hk => by have := (kwT_r (i := 3) (by decide)).2 k hk; omega), fun (qg13 : zrg (b2i (eIs B n (kwT 3) e))) qm14 => ⟨fun h => (have qc15 : (eIs B n (kwT 3) e) = true := b2i_n0 h; ⟨fun _ => ⟨(Or.inr rfl), (show K (some (zi 1)) M from ?g371l4)⟩, fun (h : (1 : Int) = 0) => absurd h (by decide)⟩), fun h => (have qc16 : (eIs B n (kwT 3) e) = false := b2i_e0 h; ⟨⟨⟨rfl, rfl⟩, hY.w.rcv⟩, ⟨B, n, e, 39, (kwT 4), rfl, hY, hP, (show zTx _ 39 (kwT 4) from (kc.fr hz.1).w 4 (by decide)), (by have := kwT_r (i := 4) (by decide); omega), (fun k hk => by have := (kwT_r (i := 4) (by decide)).2 k hk; omega), fun (qg17 : zrg (b2i (eIs B n (kwT 4) e))) qm18 => ⟨fun h => (have qc19 : (eIs B n (kwT 4) e) = true := b2i_n0 h; ⟨fun _ => ⟨(Or.inr rfl), (show K (some (zi 1)) M from ?g371l5)⟩, fun (h : (1 : Int) = 0) => absurd h (by decide)⟩), fun h => (have qc20 : (eIs B n (kwT 4) e) = false := b2i_e0 h; ⟨⟨⟨rfl, rfl⟩, hY.w.rcv⟩, ⟨B, n, e, 40, (kwT 5), rfl, hY, hP, (show zTx _ 40 (kwT 5) from (kc.fr hz.1).w 5 (by decide)), (by have := kwT_r (i := 5) (by decide); omega), (fun k hk => by have := (kwT_r (i := 5) (by decide)).2 k hk; omega), fun (qg21 : zrg (b2i (eIs B n (kwT 5) e))) qm22 => ⟨fun h => (have qc23 : (eIs B n (kwT 5) e) = false := b2i_e0 h; ⟨fun (h : (0 : Int) ≠ 0) => absurd h (by decide), fun _ => ⟨⟨⟨rfl, rfl⟩, hY.w.rcv⟩, ⟨B, n, e, 41, (kwT 6), rfl, hY, hP, (show zTx _ 41 (kwT 6) from (kc.fr hz.1).w 6 (by decide)), (by have := kwT_r (i := 6) (by decide); omega), (fun k hk => by have := (kwT_r (i := 6) (by decide)).2 k hk; omega), fun (qg24 : zrg (b2i (eIs B n (kwT 6) e))) qm25 => ⟨fun h => (have qc26 : (eIs B n (kwT 6) e) = true := b2i_n0 h; ⟨(Or.inr rfl), (show K (some (zi 1)) M from ?g371l6)⟩), fun h => (have qc27 : (eIs B n (kwT 6) e) = false := b2i_e0 h; ⟨⟨⟨rfl, rfl⟩, hY.w.rcv⟩, ⟨B, n, e, 42, (kwT 7), rfl, hY, hP, (show zTx _ 42 (kwT 7) from (kc.fr hz.1).w 7 (by decide)), (by have := kwT_r (i := 7) (by decide); omega), (fun k hk => by have := (kwT_r (i := 7) (by decide)).2 k hk; omega), fun (qg28 : zrg (b2i (eIs B n (kwT 7) e))) qm29 => ⟨fun h => (have qc30 : (eIs B n (kwT 7) e) = true := b2i_n0 h; ⟨(Or.inr rfl), (show K (some (zi 1)) M from ?g371l7)⟩), fun h => (have qc31 : (eIs B n (kwT 7) e) = false := b2i_e0 h; ⟨⟨⟨rfl, rfl⟩, hY.w.rcv⟩, ⟨B, n, e, 43, (kwT 8), rfl, hY, hP, (show zTx _ 43 (kwT 8) from (kc.fr hz.1).w 8 (by decide)), (by have := kwT_r (i := 8) (by decide); omega), (fun k hk => by have := (kwT_r (i := 8) (by decide)).2 k hk; omega), fun (qg32 : zrg (b2i (eIs B n (kwT 8) e))) qm33 => ⟨fun h => (have qc34 : (eIs B n (kwT 8) e) = true := b2i_n0 h; ⟨(Or.inr rfl), (show K (some (zi 1)) M from ?g371l8)⟩), fun h => (have qc35 : (eIs B n (kwT 8) e) = false := b2i_e0 h; ⟨⟨⟨rfl, rfl⟩, hY.w.rcv⟩, ⟨B, n, e, 44, (kwT 9), rfl, hY, hP, (show zTx _ 44 (kwT 9) from (kc.fr hz.1).w 9 (by decide)), (by have := kwT_r (i := 9) (by decide); omega), (fun k hk => by have := (kwT_r (i := 9) (by decide)).2 k hk; omega), fun (qg36 : zrg (b2i (eIs B n (kwT 9) e))) qm37 => ⟨fun h => (have qc38 : (eIs B n (kwT 9) e) = true := b2i_n0 h; ⟨(Or.inr rfl), (show K (some (zi 1)) M from ?g371l9)⟩), fun h => (have qc39 : (eIs B n (kwT 9) e) = false := b2i_e0 h; ⟨⟨⟨rfl, rfl⟩, hY.w.rcv⟩, ⟨B, n, e, 45, (kwT 10), rfl, hY, hP, (show zTx _ 45 (kwT 10) from (kc.fr hz.1).w 10 (by decide)), (by have := kwT_r (i := 10) (by decide); omega), (fun k hk => by have := (kwT_r (i := 10) (by decide)).2 k hk; omega), fun (qg40 : zrg (b2i (eIs B n (kwT 10) e))) qm41 => ⟨fun h => (have qc42 : (eIs B n (kwT 10) e) = false := b2i_e0 h; ⟨(Or.inl rfl), (show K (some (zi 0)) M from ?g371l10)⟩), fun h => (have qc43 : (eIs B n (kwT 10) e) = true := b2i_n0 h; ⟨(Or.inr rfl), (show K (some (zi 1)) M from ?g371l11)⟩)⟩⟩⟩)⟩⟩⟩)⟩⟩⟩)⟩⟩⟩)⟩⟩⟩⟩), fun h => (have qc44 : (eIs B n (kwT 5) e) = true := b2i_n0 h; ⟨fun _ => ⟨(Or.inr rfl), (show K (some (zi 1)) M from ?g371l12)⟩, fun (h : (1 : Int) = 0) => absurd h (by decide)⟩)⟩⟩⟩)⟩⟩⟩)⟩⟩⟩)⟩⟩⟩)⟩⟩⟩)⟩⟩⟩
  case g371l1 =>
    refine zKi hK ?_
    unfold isKey
    simp only [qc3, Bool.true_or, Bool.or_true, Bool.false_or, Bool.or_false]
    rfl
  case g371l2 =>
    refine zKi hK ?_
    unfold isKey
    simp only [qc4, qc7, Bool.true_or, Bool.or_true, Bool.false_or, Bool.or_false]
    rfl
  case g371l3 =>
    refine zKi hK ?_
    unfold isKey
    simp only [qc4, qc8, qc11, Bool.true_or, Bool.or_true, Bool.false_or, Bool.or_false]
    rfl
  case g371l4 =>
    refine zKi hK ?_
    unfold isKey
    simp only [qc4, qc8, qc12, qc15, Bool.true_or, Bool.or_true, Bool.false_or, Bool.or_false]
    rfl
  case g371l5 =>
    refine zKi hK ?_
    unfold isKey
    simp only [qc4, qc8, qc12, qc16, qc19, Bool.true_or, Bool.or_true, Bool.false_or, Bool.or_false]
    rfl
  case g371l6 =>
    refine zKi hK ?_
    unfold isKey
    simp only [qc4, qc8, qc12, qc16, qc20, qc23, qc26, Bool.true_or, Bool.or_true, Bool.false_or, Bool.or_false]
    rfl
  case g371l7 =>
    refine zKi hK ?_
    unfold isKey
    simp only [qc4, qc8, qc12, qc16, qc20, qc23, qc27, qc30, Bool.true_or, Bool.or_true, Bool.false_or, Bool.or_false]
    rfl
  case g371l8 =>
    refine zKi hK ?_
    unfold isKey
    simp only [qc4, qc8, qc12, qc16, qc20, qc23, qc27, qc31, qc34, Bool.true_or, Bool.or_true, Bool.false_or, Bool.or_false]
    rfl
  case g371l9 =>
    refine zKi hK ?_
    unfold isKey
    simp only [qc4, qc8, qc12, qc16, qc20, qc23, qc27, qc31, qc35, qc38, Bool.true_or, Bool.or_true, Bool.false_or, Bool.or_false]
    rfl
  case g371l10 =>
    refine zKi hK ?_
    unfold isKey
    simp only [qc4, qc8, qc12, qc16, qc20, qc23, qc27, qc31, qc35, qc39, qc42, Bool.true_or, Bool.or_true, Bool.false_or, Bool.or_false]
    rfl
  case g371l11 =>
    refine zKi hK ?_
    unfold isKey
    simp only [qc4, qc8, qc12, qc16, qc20, qc23, qc27, qc31, qc35, qc39, qc43, Bool.true_or, Bool.or_true, Bool.false_or, Bool.or_false]
    rfl
  case g371l12 =>
    refine zKi hK ?_
    unfold isKey
    simp only [qc4, qc8, qc12, qc16, qc20, qc44, Bool.true_or, Bool.or_true, Bool.false_or, Bool.or_false]
    rfl
theorem M_X9_isKeyword {l : Launch} (hl : l.stackTraces = false) : zMet l yX9_isKeyword (Cond.code yX9_isKeyword cX9_isKeyword 2 (Option.some Jvm.ClassFile.FieldType.boolean) :: zG) rm_X9_isKeyword 0 0 T_X9_isKeyword := met_X9_isKeyword hl (M_X9_isWord hl) bd_X9_isKeyword

theorem fNm_BB {B F : Gm} {a e : Int} (hF : ∀ k : Int, a ≤ k → k < e → F k.toNat = sgn (B k.toNat) ∧ 0 ≤ B k.toNat ∧ B k.toNat < 256) (hl : ∀ k : Int, a ≤ k → k < e → 97 ≤ B k.toNat ∧ B k.toNat ≤ 122) (ha : 0 ≤ a) : fNmF F a e = fNmF B a e := by
  unfold fNmF foldF
  refine foldI_c (fun k x k0 k1 => ?_)
  have h1 := hF (a + k) (by omega) (by omega)
  have h2 := hl (a + k) (by omega) (by omega)
  have h3 : F (a + k).toNat = B (a + k).toNat := by
    rw [h1.1]
    exact if_pos (by omega)
  show 27 * x + F (a + k).toNat - 96 = 27 * x + B (a + k).toNat - 96
  rw [h3]
theorem let_S {M : ZM} {B : Gm} {n : Int} {e : E3} (h : RTx M B n) (hok : 0 ≤ e.2.2 ∧ e.2.2 ≤ n) (hk : tkK B n e.2.2 = 0) : ∀ k : Int, e.2.2 ≤ k → k < tkE B n e.2.2 → 97 ≤ zI M 674 k.toNat ∧ zI M 674 k.toNat ≤ 122 := fun k k0 k1 => by
  have h1 := tk_let hok.2 hk k k0 k1
  have h2 := (tkE_r B hok.2).2.1
  have h3 := h.2.2 k.toNat (by omega)
  rw [h3.1]
  unfold sgn
  rw [if_pos (by omega)]
  exact h1

def T_X9_nameHere : ZTf := fun av M K KX => ∃ (B : Gm) (n : Int) (e : E3), av = [zo 670] ∧ (LY M) ∧ (RP M B n e) ∧ (KC M) ∧  (∀ M' : ZM, (RXn M M') → (RP M' B n (eName B n e)) → K (some (zi (eNm B n e))) M')
set_option maxRecDepth 100000 in
set_option maxHeartbeats 1500000 in
theorem bd_X9_nameHere : zBd (cd_X9_nameHere T_X9_good T_X9_isKeyword T_X9_errs T_X9_nameOf) 1 0 0 T_X9_nameHere := by
  rintro av M K KX hA0 hM ⟨B, n, e, rfl, hY, hP, kc, hK⟩
  have hz : RXn M M := RXn.rf
  have hok := hP.2.2.2
  have hkr := tkK_r B n e.2.2
  have hrt := rtk_r (tkK B n e.2.2) ⟨hkr.1, hkr.2.1⟩
  have her := tkE_r B hok.2
  unfold eOK at hok
  have hn5 := hP.1.2.1
  obtain ⟨hb1, hb2, hb3⟩ := id hP.1
  refine ⟨rfl, fun Φ hΦ => ?_⟩
  refine zGoR hΦ [] 400 (fun hL9 _ hM _ _ => ?_)
  obtain ⟨_⟩ : True := hL9
  refine ⟨⟨⟨rfl, rfl⟩, hY.w.rcv⟩, ⟨rfl, ⟨hY.w, zIr hP.2.1.1 (⟨fun (qc1 : e.1 ≠ 0) => ⟨(Or.inl rfl), fun _ _ => ⟨fun _ => ⟨⟨⟨rfl, rfl⟩, hY.w.rcv⟩, ⟨rfl, ⟨hY.w, zIr hP.2.1.1 (⟨fun (qc3 : e.1 ≠ 0) => ⟨(Or.inl rfl), fun _ _ => ⟨fun _ => ⟨trivial, (show K (some (zi 0)) M from ?g372l1)⟩, fun (h : (0 : Int) ≠ 0) => absurd h (by decide)⟩⟩, fun (qc5 : e.1 = 0) => ⟨(Or.inr rfl), fun _ _ => ⟨fun (h : (1 : Int) = 0) => absurd h (by decide), fun _ => ⟨hY.w, _, hY.r5, ⟨hY.w, zIr hP.2.2.1.1 (⟨hY.w, zIr hP.2.2.1.2.1 (⟨⟨⟨rfl, rfl⟩, trivial⟩, ⟨e.2.2, (tkE B n e.2.2), rfl, hY, (by omega), (let_S hP.1 hP.2.2.2 (by omega)), fun (qg7 : zrg (fNmF (zI M 674) e.2.2 (tkE B n e.2.2))) qm8 => ⟨trivial, (show K (some (zi (fNmF (zI M 674) e.2.2 (tkE B n e.2.2)))) M from ?g372l2)⟩⟩⟩)⟩)⟩⟩⟩⟩⟩)⟩⟩⟩, fun (h : (0 : Int) ≠ 0) => absurd h (by decide)⟩⟩, fun (qc9 : e.1 = 0) => ⟨(Or.inr rfl), fun _ _ => ⟨fun (h : (1 : Int) = 0) => absurd h (by decide), fun _ => ⟨hY.w, zIr hP.2.2.1.2.2.1 (⟨fun (qc11 : rtk (tkK B n e.2.2) ≠ 1) => ⟨⟨⟨rfl, rfl⟩, hY.w.rcv⟩, ⟨B, n, e, 1, rfl, hY, hP, (by decide), fun M1 hx1 hP1 => (have hY1 := LY.fr hY hx1.1; have hz1 := hz.tr hx1; have hn1 : ((eErr 1 e)).1 ≠ 0 := eErr_n (by decide); fun qg12 qm13 => ⟨⟨⟨rfl, rfl⟩, hY1.w.rcv⟩, ⟨rfl, ⟨hY1.w, zIr hP1.2.1.1 (⟨fun (qc14 : (eErr 1 e).1 ≠ 0) => ⟨(Or.inl rfl), fun _ _ => ⟨fun _ => ⟨trivial, (show K (some (zi 0)) M1 from ?g372l3)⟩, fun (h : (0 : Int) ≠ 0) => absurd h (by decide)⟩⟩, fun (qc16 : (eErr 1 e).1 = 0) => ⟨(Or.inr rfl), fun _ _ => ⟨fun (h : (1 : Int) = 0) => absurd h (by decide), fun _ => ⟨hY1.w, _, hY1.r5, ⟨hY1.w, zIr hP1.2.2.1.1 (⟨hY1.w, zIr hP1.2.2.1.2.1 (⟨⟨⟨rfl, rfl⟩, trivial⟩, ⟨((eErr 1 e).2.2), (tkE B n (eErr 1 e).2.2), rfl, hY1, (by omega), (let_S hP1.1 hP1.2.2.2 (by omega)), fun (qg18 : zrg (fNmF (zI M1 674) ((eErr 1 e).2.2) (tkE B n (eErr 1 e).2.2))) qm19 => ⟨trivial, (show K (some (zi (fNmF (zI M1 674) ((eErr 1 e).2.2) (tkE B n (eErr 1 e).2.2)))) M1 from ?g372l4)⟩⟩⟩)⟩)⟩⟩⟩⟩⟩)⟩⟩⟩)⟩⟩, fun (qc20 : rtk (tkK B n e.2.2) = 1) => ⟨hY.w, zIr hP.2.2.1.2.1 (⟨hY.w, zIr hP.2.2.1.1 (⟨(zrgI (x := tkE B n e.2.2 - e.2.2) (by omega)), ⟨fun (qc21 : tkE B n e.2.2 - e.2.2 > 6) => ⟨⟨⟨rfl, rfl⟩, hY.w.rcv⟩, ⟨B, n, e, 1, rfl, hY, hP, (by decide), fun M2 hx2 hP2 => (have hY2 := LY.fr hY hx2.1; have hz2 := hz.tr hx2; have hn2 : ((eErr 1 e)).1 ≠ 0 := eErr_n (by decide); fun qg22 qm23 => ⟨⟨⟨rfl, rfl⟩, hY2.w.rcv⟩, ⟨rfl, ⟨hY2.w, zIr hP2.2.1.1 (⟨fun (qc24 : (eErr 1 e).1 ≠ 0) => ⟨(Or.inl rfl), fun _ _ => ⟨fun _ => ⟨trivial, (show K (some (zi 0)) M2 from ?g372l5)⟩, fun (h : (0 : Int) ≠ 0) => absurd h (by decide)⟩⟩, fun (qc26 : (eErr 1 e).1 = 0) => ⟨(Or.inr rfl), fun _ _ => ⟨fun (h : (1 : Int) = 0) => absurd h (by decide), fun _ => ⟨hY2.w, _, hY2.r5, ⟨hY2.w, zIr hP2.2.2.1.1 (⟨hY2.w, zIr hP2.2.2.1.2.1 (⟨⟨⟨rfl, rfl⟩, trivial⟩, ⟨((eErr 1 e).2.2), (tkE B n (eErr 1 e).2.2), rfl, hY2, (by omega), (let_S hP2.1 hP2.2.2.2 (by omega)), fun (qg28 : zrg (fNmF (zI M2 674) ((eErr 1 e).2.2) (tkE B n (eErr 1 e).2.2))) qm29 => ⟨trivial, (show K (some (zi (fNmF (zI M2 674) ((eErr 1 e).2.2) (tkE B n (eErr 1 e).2.2)))) M2 from ?g372l6)⟩⟩⟩)⟩)⟩⟩⟩⟩⟩)⟩⟩⟩)⟩⟩, fun (qc30 : tkE B n e.2.2 - e.2.2 ≤ 6) => ⟨⟨⟨rfl, rfl⟩, hY.w.rcv⟩, ⟨B, n, e, rfl, hY, hP, (kc.fr hz.1), fun (qg31 : zrg (b2i (isKey B n e))) qm32 => ⟨fun h => (have qc33 : (isKey B n e) = false := b2i_e0 h; ⟨⟨⟨rfl, rfl⟩, hY.w.rcv⟩, ⟨rfl, ⟨hY.w, zIr hP.2.1.1 (⟨fun (qc34 : e.1 ≠ 0) => ⟨(Or.inl rfl), fun _ _ => ⟨fun _ => ⟨trivial, (show K (some (zi 0)) M from ?g372l7)⟩, fun (h : (0 : Int) ≠ 0) => absurd h (by decide)⟩⟩, fun (qc36 : e.1 = 0) => ⟨(Or.inr rfl), fun _ _ => ⟨fun (h : (1 : Int) = 0) => absurd h (by decide), fun _ => ⟨hY.w, _, hY.r5, ⟨hY.w, zIr hP.2.2.1.1 (⟨hY.w, zIr hP.2.2.1.2.1 (⟨⟨⟨rfl, rfl⟩, trivial⟩, ⟨e.2.2, (tkE B n e.2.2), rfl, hY, (by omega), (let_S hP.1 hP.2.2.2 (by omega)), fun (qg38 : zrg (fNmF (zI M 674) e.2.2 (tkE B n e.2.2))) qm39 => ⟨trivial, (show K (some (zi (fNmF (zI M 674) e.2.2 (tkE B n e.2.2)))) M from ?g372l8)⟩⟩⟩)⟩)⟩⟩⟩⟩⟩)⟩⟩⟩), fun h => (have qc40 : (isKey B n e) = true := b2i_n0 h; ⟨⟨⟨rfl, rfl⟩, hY.w.rcv⟩, ⟨B, n, e, 1, rfl, hY, hP, (by decide), fun M3 hx3 hP3 => (have hY3 := LY.fr hY hx3.1; have hz3 := hz.tr hx3; have hn3 : ((eErr 1 e)).1 ≠ 0 := eErr_n (by decide); fun qg41 qm42 => ⟨⟨⟨rfl, rfl⟩, hY3.w.rcv⟩, ⟨rfl, ⟨hY3.w, zIr hP3.2.1.1 (⟨fun (qc43 : (eErr 1 e).1 ≠ 0) => ⟨(Or.inl rfl), fun _ _ => ⟨fun _ => ⟨trivial, (show K (some (zi 0)) M3 from ?g372l9)⟩, fun (h : (0 : Int) ≠ 0) => absurd h (by decide)⟩⟩, fun (qc45 : (eErr 1 e).1 = 0) => ⟨(Or.inr rfl), fun _ _ => ⟨fun (h : (1 : Int) = 0) => absurd h (by decide), fun _ => ⟨hY3.w, _, hY3.r5, ⟨hY3.w, zIr hP3.2.2.1.1 (⟨hY3.w, zIr hP3.2.2.1.2.1 (⟨⟨⟨rfl, rfl⟩, trivial⟩, ⟨((eErr 1 e).2.2), (tkE B n (eErr 1 e).2.2), rfl, hY3, (by omega), (let_S hP3.1 hP3.2.2.2 (by omega)), fun (qg47 : zrg (fNmF (zI M3 674) ((eErr 1 e).2.2) (tkE B n (eErr 1 e).2.2))) qm48 => ⟨trivial, (show K (some (zi (fNmF (zI M3 674) ((eErr 1 e).2.2) (tkE B n (eErr 1 e).2.2)))) M3 from ?g372l10)⟩⟩⟩)⟩)⟩⟩⟩⟩⟩)⟩⟩⟩)⟩⟩)⟩⟩⟩⟩⟩)⟩)⟩⟩)⟩⟩⟩⟩)⟩⟩⟩
  case g372l1 =>
    first
    | (exfalso; omega)
    | skip
      have h9 := hP
      first
      | (have h8 : eName B n e = e := if_neg (fun z => by rcases z.2 with y | y | y <;> first | omega | (rw [y] at *; contradiction) | (exact absurd y (by assumption)) | (exact absurd y (by rw [show isKey B n e = false by assumption]; exact Bool.false_ne_true)))
         rw [← h8] at h9
         have h7 := hK _ hz h9
         unfold eNm at h7
         rw [h8] at h7
         first
         | (rw [if_pos (show e.1 = 0 by omega)] at h7; refine zKi h7 ?_; exact (fNm_BB (fun k k0 k1 => hb3 k.toNat (by omega)) (tk_let hok.2 (by omega)) hok.1).symm)
         | (rw [if_neg (show ¬ e.1 = 0 by omega)] at h7; exact h7))
      | (have h8 : eName B n e = eErr 1 e := if_pos ⟨by omega, by first | (exact Or.inl (by omega)) | (exact Or.inr (Or.inl (by omega))) | (exact Or.inr (Or.inr (by assumption)))⟩
         rw [← h8] at h9
         have h7 := hK _ hz h9
         unfold eNm at h7
         rw [h8, if_neg (eErr_n (by decide))] at h7
         exact h7)
  case g372l2 =>
    first
    | (exfalso; omega)
    | skip
      have h9 := hP
      first
      | (have h8 : eName B n e = e := if_neg (fun z => by rcases z.2 with y | y | y <;> first | omega | (rw [y] at *; contradiction) | (exact absurd y (by assumption)) | (exact absurd y (by rw [show isKey B n e = false by assumption]; exact Bool.false_ne_true)))
         rw [← h8] at h9
         have h7 := hK _ hz h9
         unfold eNm at h7
         rw [h8] at h7
         first
         | (rw [if_pos (show e.1 = 0 by omega)] at h7; refine zKi h7 ?_; exact (fNm_BB (fun k k0 k1 => hb3 k.toNat (by omega)) (tk_let hok.2 (by omega)) hok.1).symm)
         | (rw [if_neg (show ¬ e.1 = 0 by omega)] at h7; exact h7))
      | (have h8 : eName B n e = eErr 1 e := if_pos ⟨by omega, by first | (exact Or.inl (by omega)) | (exact Or.inr (Or.inl (by omega))) | (exact Or.inr (Or.inr (by assumption)))⟩
         rw [← h8] at h9
         have h7 := hK _ hz h9
         unfold eNm at h7
         rw [h8, if_neg (eErr_n (by decide))] at h7
         exact h7)
  case g372l3 =>
    first
    | (exfalso; omega)
    | skip
      have h9 := hP1
      first
      | (have h8 : eName B n e = e := if_neg (fun z => by rcases z.2 with y | y | y <;> first | omega | (rw [y] at *; contradiction) | (exact absurd y (by assumption)) | (exact absurd y (by rw [show isKey B n e = false by assumption]; exact Bool.false_ne_true)))
         rw [← h8] at h9
         have h7 := hK _ hz1 h9
         unfold eNm at h7
         rw [h8] at h7
         first
         | (rw [if_pos (show e.1 = 0 by omega)] at h7; refine zKi h7 ?_; exact (fNm_BB (fun k k0 k1 => hb3 k.toNat (by omega)) (tk_let hok.2 (by omega)) hok.1).symm)
         | (rw [if_neg (show ¬ e.1 = 0 by omega)] at h7; exact h7))
      | (have h8 : eName B n e = eErr 1 e := if_pos ⟨by omega, by first | (exact Or.inl (by omega)) | (exact Or.inr (Or.inl (by omega))) | (exact Or.inr (Or.inr (by assumption)))⟩
         rw [← h8] at h9
         have h7 := hK _ hz1 h9
         unfold eNm at h7
         rw [h8, if_neg (eErr_n (by decide))] at h7
         exact h7)
  case g372l4 =>
    first
    | (exfalso; omega)
    | skip
      have h9 := hP1
      first
      | (have h8 : eName B n e = e := if_neg (fun z => by rcases z.2 with y | y | y <;> first | omega | (rw [y] at *; contradiction) | (exact absurd y (by assumption)) | (exact absurd y (by rw [show isKey B n e = false by assumption]; exact Bool.false_ne_true)))
         rw [← h8] at h9
         have h7 := hK _ hz1 h9
         unfold eNm at h7
         rw [h8] at h7
         first
         | (rw [if_pos (show e.1 = 0 by omega)] at h7; refine zKi h7 ?_; exact (fNm_BB (fun k k0 k1 => hb3 k.toNat (by omega)) (tk_let hok.2 (by omega)) hok.1).symm)
         | (rw [if_neg (show ¬ e.1 = 0 by omega)] at h7; exact h7))
      | (have h8 : eName B n e = eErr 1 e := if_pos ⟨by omega, by first | (exact Or.inl (by omega)) | (exact Or.inr (Or.inl (by omega))) | (exact Or.inr (Or.inr (by assumption)))⟩
         rw [← h8] at h9
         have h7 := hK _ hz1 h9
         unfold eNm at h7
         rw [h8, if_neg (eErr_n (by decide))] at h7
         exact h7)
  case g372l5 =>
    first
    | (exfalso; omega)
    | skip
      have h9 := hP2
      first
      | (have h8 : eName B n e = e := if_neg (fun z => by rcases z.2 with y | y | y <;> first | omega | (rw [y] at *; contradiction) | (exact absurd y (by assumption)) | (exact absurd y (by rw [show isKey B n e = false by assumption]; exact Bool.false_ne_true)))
         rw [← h8] at h9
         have h7 := hK _ hz2 h9
         unfold eNm at h7
         rw [h8] at h7
         first
         | (rw [if_pos (show e.1 = 0 by omega)] at h7; refine zKi h7 ?_; exact (fNm_BB (fun k k0 k1 => hb3 k.toNat (by omega)) (tk_let hok.2 (by omega)) hok.1).symm)
         | (rw [if_neg (show ¬ e.1 = 0 by omega)] at h7; exact h7))
      | (have h8 : eName B n e = eErr 1 e := if_pos ⟨by omega, by first | (exact Or.inl (by omega)) | (exact Or.inr (Or.inl (by omega))) | (exact Or.inr (Or.inr (by assumption)))⟩
         rw [← h8] at h9
         have h7 := hK _ hz2 h9
         unfold eNm at h7
         rw [h8, if_neg (eErr_n (by decide))] at h7
         exact h7)
  case g372l6 =>
    first
    | (exfalso; omega)
    | skip
      have h9 := hP2
      first
      | (have h8 : eName B n e = e := if_neg (fun z => by rcases z.2 with y | y | y <;> first | omega | (rw [y] at *; contradiction) | (exact absurd y (by assumption)) | (exact absurd y (by rw [show isKey B n e = false by assumption]; exact Bool.false_ne_true)))
         rw [← h8] at h9
         have h7 := hK _ hz2 h9
         unfold eNm at h7
         rw [h8] at h7
         first
         | (rw [if_pos (show e.1 = 0 by omega)] at h7; refine zKi h7 ?_; exact (fNm_BB (fun k k0 k1 => hb3 k.toNat (by omega)) (tk_let hok.2 (by omega)) hok.1).symm)
         | (rw [if_neg (show ¬ e.1 = 0 by omega)] at h7; exact h7))
      | (have h8 : eName B n e = eErr 1 e := if_pos ⟨by omega, by first | (exact Or.inl (by omega)) | (exact Or.inr (Or.inl (by omega))) | (exact Or.inr (Or.inr (by assumption)))⟩
         rw [← h8] at h9
         have h7 := hK _ hz2 h9
         unfold eNm at h7
         rw [h8, if_neg (eErr_n (by decide))] at h7
         exact h7)
  case g372l7 =>
    first
    | (exfalso; omega)
    | skip
      have h9 := hP
      first
      | (have h8 : eName B n e = e := if_neg (fun z => by rcases z.2 with y | y | y <;> first | omega | (rw [y] at *; contradiction) | (exact absurd y (by assumption)) | (exact absurd y (by rw [show isKey B n e = false by assumption]; exact Bool.false_ne_true)))
         rw [← h8] at h9
         have h7 := hK _ hz h9
         unfold eNm at h7
         rw [h8] at h7
         first
         | (rw [if_pos (show e.1 = 0 by omega)] at h7; refine zKi h7 ?_; exact (fNm_BB (fun k k0 k1 => hb3 k.toNat (by omega)) (tk_let hok.2 (by omega)) hok.1).symm)
         | (rw [if_neg (show ¬ e.1 = 0 by omega)] at h7; exact h7))
      | (have h8 : eName B n e = eErr 1 e := if_pos ⟨by omega, by first | (exact Or.inl (by omega)) | (exact Or.inr (Or.inl (by omega))) | (exact Or.inr (Or.inr (by assumption)))⟩
         rw [← h8] at h9
         have h7 := hK _ hz h9
         unfold eNm at h7
         rw [h8, if_neg (eErr_n (by decide))] at h7
         exact h7)
  case g372l8 =>
    first
    | (exfalso; omega)
    | skip
      have h9 := hP
      first
      | (have h8 : eName B n e = e := if_neg (fun z => by rcases z.2 with y | y | y <;> first | omega | (rw [y] at *; contradiction) | (exact absurd y (by assumption)) | (exact absurd y (by rw [show isKey B n e = false by assumption]; exact Bool.false_ne_true)))
         rw [← h8] at h9
         have h7 := hK _ hz h9
         unfold eNm at h7
         rw [h8] at h7
         first
         | (rw [if_pos (show e.1 = 0 by omega)] at h7; refine zKi h7 ?_; exact (fNm_BB (fun k k0 k1 => hb3 k.toNat (by omega)) (tk_let hok.2 (by omega)) hok.1).symm)
         | (rw [if_neg (show ¬ e.1 = 0 by omega)] at h7; exact h7))
      | (have h8 : eName B n e = eErr 1 e := if_pos ⟨by omega, by first | (exact Or.inl (by omega)) | (exact Or.inr (Or.inl (by omega))) | (exact Or.inr (Or.inr (by assumption)))⟩
         rw [← h8] at h9
         have h7 := hK _ hz h9
         unfold eNm at h7
         rw [h8, if_neg (eErr_n (by decide))] at h7
         exact h7)
  case g372l9 =>
    first
    | (exfalso; omega)
    | skip
      have h9 := hP3
      first
      | (have h8 : eName B n e = e := if_neg (fun z => by rcases z.2 with y | y | y <;> first | omega | (rw [y] at *; contradiction) | (exact absurd y (by assumption)) | (exact absurd y (by rw [show isKey B n e = false by assumption]; exact Bool.false_ne_true)))
         rw [← h8] at h9
         have h7 := hK _ hz3 h9
         unfold eNm at h7
         rw [h8] at h7
         first
         | (rw [if_pos (show e.1 = 0 by omega)] at h7; refine zKi h7 ?_; exact (fNm_BB (fun k k0 k1 => hb3 k.toNat (by omega)) (tk_let hok.2 (by omega)) hok.1).symm)
         | (rw [if_neg (show ¬ e.1 = 0 by omega)] at h7; exact h7))
      | (have h8 : eName B n e = eErr 1 e := if_pos ⟨by omega, by first | (exact Or.inl (by omega)) | (exact Or.inr (Or.inl (by omega))) | (exact Or.inr (Or.inr (by assumption)))⟩
         rw [← h8] at h9
         have h7 := hK _ hz3 h9
         unfold eNm at h7
         rw [h8, if_neg (eErr_n (by decide))] at h7
         exact h7)
  case g372l10 =>
    first
    | (exfalso; omega)
    | skip
      have h9 := hP3
      first
      | (have h8 : eName B n e = e := if_neg (fun z => by rcases z.2 with y | y | y <;> first | omega | (rw [y] at *; contradiction) | (exact absurd y (by assumption)) | (exact absurd y (by rw [show isKey B n e = false by assumption]; exact Bool.false_ne_true)))
         rw [← h8] at h9
         have h7 := hK _ hz3 h9
         unfold eNm at h7
         rw [h8] at h7
         first
         | (rw [if_pos (show e.1 = 0 by omega)] at h7; refine zKi h7 ?_; exact (fNm_BB (fun k k0 k1 => hb3 k.toNat (by omega)) (tk_let hok.2 (by omega)) hok.1).symm)
         | (rw [if_neg (show ¬ e.1 = 0 by omega)] at h7; exact h7))
      | (have h8 : eName B n e = eErr 1 e := if_pos ⟨by omega, by first | (exact Or.inl (by omega)) | (exact Or.inr (Or.inl (by omega))) | (exact Or.inr (Or.inr (by assumption)))⟩
         rw [← h8] at h9
         have h7 := hK _ hz3 h9
         unfold eNm at h7
         rw [h8, if_neg (eErr_n (by decide))] at h7
         exact h7)
theorem M_X9_nameHere {l : Launch} (hl : l.stackTraces = false) : zMet l yX9_nameHere (Cond.code yX9_nameHere cX9_nameHere 1 (Option.some Jvm.ClassFile.FieldType.int) :: zG) rm_X9_nameHere 0 0 T_X9_nameHere := met_X9_nameHere hl (M_X9_good hl) (M_X9_isKeyword hl) (M_X9_errs hl) (M_X9_nameOf hl) bd_X9_nameHere
