/-! the class: the states of the rows, written -/
/-- what holds of the output's text under way -/
def CQ (M0 : ZM) (G : Gm) : Prop := LV M0 ∧ TR M0 129 G ∧ KD M0 ∧ GI G ∧ GV G ∧ GX G
theorem CQ.L {M0 M : ZM} {G : Gm} {c : Nat} {o : List Int} (h : CQ M0 G) (hO : OC M0 M c o) : LV M := h.1.fr hO.fr
theorem CQ.T {M0 M : ZM} {G : Gm} {c : Nat} {o : List Int} (h : CQ M0 G) (hO : OC M0 M c o) : TR M 129 G := h.2.1.fr9 h.1.tab hO.fr h.2.2.2.1 (fun j j0 j1 => by unfold SOC; omega)
theorem CQ.K {M0 M : ZM} {G : Gm} {c : Nat} {o : List Int} (h : CQ M0 G) (hO : OC M0 M c o) : KD M := h.2.2.1.fr hO.fr (by unfold SOC; omega) (by unfold SOC; omega)
theorem len1 (o : List Int) (x : Int) : (o ++ [x]).length = o.length + 1 := by rw [List.length_append, List.length_singleton]
theorem LV.r7o {M : ZM} (h : LV M) : zR M 64 7 = some 668 := h.r7
def rowPc (G : Gm) (i : Int) : List Nat := if (G (132 + 16 * i + 1).toNat) = 2 then (if (G (132 + 16 * i + 3).toNat) = -1 then [1, (dig (G (132 + 16 * i + 2).toNat)).length] else [1, (dig (G (132 + 16 * i + 2).toNat)).length, 1]) else [1]

def T_X8_separate (ca cb : Nat) : ZTf := fun av M K KX => ∃ (M0 : ZM) (G : Gm) (c d : Nat) (o : List Int) (i : Int), av = [zo 64, zi i] ∧ (CQ M0 G) ∧ (OC M0 M c o) ∧ (o.length < 700) ∧ ((0 < i → ncap c (o.length + 1) = d) ∧ (i ≤ 0 → c = d)) ∧ (d ≤ c + ca ∧ 2 * d ≤ 2 * c + cb) ∧  (∀ M' : ZM, (OC M0 M' d (if 0 < i then o ++ [32] else o)) → K none M')
set_option maxRecDepth 100000 in
set_option maxHeartbeats 1500000 in
theorem bd_X8_separate (ca cb : Nat) : zBd (cd_X8_separate T_J4_append_cf468) 2 ca cb (T_X8_separate ca cb) := by
  rintro av M K KX hA0 hM ⟨M0, G, c, d, o, i, rfl, hCq, hO, hn, hd, hab, hK⟩
  have hL := hCq.L hO
  have g1 := ncap_g (c := c) (n := o.length + 1) rfl
  refine ⟨rfl, fun Φ hΦ => ?_⟩
  refine zGoR hΦ [] 400 (fun hL9 _ hM _ _ => ?_)
  obtain ⟨qL1, _⟩ : zrg i ∧ True := hL9
  refine ⟨fun (qc1 : i ≤ 0) => (show K none M from ?g348l1), fun (qc2 : i > 0) => ⟨hL.w, _, hL.r7, ⟨(ncap c (o.length + 1) - c), (2 * (ncap c (o.length + 1) - c)), ⟨(by omega), (by omega)⟩, ⟨⟨rfl, rfl⟩, hL.wSB.rcv⟩, ⟨668, c, (ncap c (o.length + 1)), o, 32, rfl, hO.2.2, (by first | omega | (simp only [List.length_append, List.length_singleton]; omega)), (congrArg (ncap _) (by first | rfl | (simp only [List.length_append, List.length_singleton]; done) | (simp only [List.length_append, List.length_singleton]; omega))), (by omega), fun M1 hS1 hx1 hvu1 => (have hO1 := hO.nx hS1 hx1; have hL1 := hCq.L hO1; have hT1 := hCq.T hO1; fun qg3 qm4 => ⟨rfl, (show K none M1 from ?g348l2)⟩)⟩⟩⟩⟩
  case g348l1 =>
    have h0 : ¬ 0 < i := by omega
    have h9 := hd.2 (by omega)
    subst h9
    refine hK _ ?_
    rw [if_neg h0]
    exact hO
  case g348l2 =>
    have h0 : 0 < i := by omega
    have h9 := hO1
    rw [hd.1 h0] at h9
    refine hK _ ?_
    rw [if_pos h0]
    exact h9
theorem M_X8_separate {l : Launch} (hl : l.stackTraces = false) (ca cb : Nat) : zMet l yX8_separate (Cond.code yX8_separate cX8_separate 2 (Option.none : Option Jvm.ClassFile.FieldType) :: zG) (rm_X8_separate ca cb) ca cb (T_X8_separate ca cb) := met_X8_separate hl (M_J4_append_cf468 hl) (bd_X8_separate ca cb)

def T_X8_putRowState (ca cb : Nat) : ZTf := fun av M K KX => ∃ (M0 : ZM) (G : Gm) (c d : Nat) (o : List Int) (r : Int), av = [zo 64, zo (129 + 11 + 2 * r.toNat)] ∧ (CQ M0 G) ∧ (0 ≤ r ∧ r < G 5) ∧ (OC M0 M c o) ∧ (o.length < 700) ∧ (ncs c o.length (rowPc G r) = d) ∧ (d ≤ c + ca ∧ 2 * d ≤ 2 * c + cb) ∧  (∀ M' : ZM, (OC M0 M' d (o ++ rowTx G r)) → K none M')
set_option maxRecDepth 100000 in
set_option maxHeartbeats 1500000 in
theorem bd_X8_putRowState (ca cb : Nat) : zBd (cd_X8_putRowState T_J4_append_cf468 T_J4_append_bf812) 2 ca cb (T_X8_putRowState ca cb) := by
  rintro av M K KX hA0 hM ⟨M0, G, c, d, o, r, rfl, hCq, hr, hO, hn, hd, hab, hK⟩
  have hL := hCq.L hO
  have hT := hCq.T hO
  obtain ⟨-, -, -, hG, hV9, hX9⟩ := id hCq
  obtain ⟨hw5, hr5, hR5⟩ := id hG
  have hrv := hV9.2.2.2.2.2.1 r hr.1 hr.2
  have hx1 := (hX9.1 r hr.1 hr.2).2.2.1
  have hx2 := (hX9.1 r hr.1 hr.2).2.2.2.1
  have hv1 := hrv.2.1
  have hv2 := hrv.2.2.1
  unfold rowPc at hd
  unfold rowTx at hK
  obtain ⟨st, hst⟩ : ∃ x, (G (132 + 16 * r + 1).toNat) = x := ⟨_, rfl⟩
  obtain ⟨rs, hrs⟩ : ∃ x, (G (132 + 16 * r + 2).toNat) = x := ⟨_, rfl⟩
  obtain ⟨rt, hrt⟩ : ∃ x, (G (132 + 16 * r + 3).toNat) = x := ⟨_, rfl⟩
  rw [hst, hrs, hrt] at hd hK
  rw [hst] at hv1
  rw [hrs] at hv2
  rw [hst, hrs, hrt] at hx1
  rw [hst, hrs] at hx2
  have hrtb : b2i (decide ((G (132 + 16 * r + 3).toNat) ≠ -1)) = b2i (decide (rt ≠ -1)) := by rw [hrt]
  clear hrv hX9 hV9
  have hdl := dig_len rs
  have g1 := ncap_g (c := c) (n := o.length + 1) rfl
  have g2 := ncap_g (c := ncap c (o.length + 1)) (n := o.length + 1 + (dig rs).length) rfl
  have g3 := ncap_g (c := ncap (ncap c (o.length + 1)) (o.length + 1 + (dig rs).length)) (n := o.length + 1 + (dig rs).length + 1) rfl
  have hd1 : st = 2 → rt ≠ -1 → ncap (ncap (ncap c (o.length + 1)) (o.length + 1 + (dig rs).length)) (o.length + 1 + (dig rs).length + 1) = d := fun a b => by rw [if_pos a, if_neg b] at hd; exact hd
  have hd2 : st = 2 → rt = -1 → ncap (ncap c (o.length + 1)) (o.length + 1 + (dig rs).length) = d := fun a b => by rw [if_pos a, if_pos b] at hd; exact hd
  have hd3 : st ≠ 2 → ncap c (o.length + 1) = d := fun a => by rw [if_neg a] at hd; exact hd
  refine ⟨rfl, fun Φ hΦ => ?_⟩
  refine zGoR hΦ [] 400 (fun hL9 _ hM _ _ => ?_)
  obtain ⟨_⟩ : True := hL9
  refine ⟨(hL.tab.row (by omega) (by omega)).2.w, zIr ((hT.r1 (r := r) (by omega) (by omega)).trans (hst)) (⟨fun (qc1 : st = 0) => ⟨hL.w, _, hL.r7, ⟨(ncap c (o.length + 1) - c), (2 * (ncap c (o.length + 1) - c)), ⟨(by omega), (by omega)⟩, ⟨⟨rfl, rfl⟩, hL.wSB.rcv⟩, ⟨668, c, (ncap c (o.length + 1)), o, 111, rfl, hO.2.2, (by first | omega | (simp only [List.length_append, List.length_singleton]; omega)), (congrArg (ncap _) (by first | rfl | (simp only [List.length_append, List.length_singleton]; done) | (simp only [List.length_append, List.length_singleton]; omega))), (by omega), fun M1 hS1 hx1 hvu1 => (have hO1 := hO.nx hS1 hx1; have hL1 := hCq.L hO1; have hT1 := hCq.T hO1; fun qg2 qm3 => ⟨rfl, ⟨(hL1.tab.row (by omega) (by omega)).2.w, zIr ((hT1.r3 (r := r) (by omega) (by omega)).trans (hrtb)) (⟨fun h => (have qc4 : rt = -1 := Decidable.not_not.mp (of_decide_eq_false (b2i_e0 h)); (show K none M1 from ?g349l1)), fun h => (have qc5 : rt ≠ -1 := of_decide_eq_true (b2i_n0 h); ⟨hL1.w, _, hL1.r7, ⟨(ncap (ncap c (o.length + 1)) (o.length + 1 + 1) - (ncap c (o.length + 1))), (2 * (ncap (ncap c (o.length + 1)) (o.length + 1 + 1) - (ncap c (o.length + 1)))), ⟨(by omega), (by omega)⟩, ⟨⟨rfl, rfl⟩, hL1.wSB.rcv⟩, ⟨668, (ncap c (o.length + 1)), (ncap (ncap c (o.length + 1)) (o.length + 1 + 1)), (o ++ [111]), 42, rfl, hO1.2.2, (by first | omega | (simp only [List.length_append, List.length_singleton]; omega)), (congrArg (ncap _) (by first | rfl | (simp only [List.length_append, List.length_singleton]; done) | (simp only [List.length_append, List.length_singleton]; omega))), (by omega), fun M2 hS2 hx2 hvu2 => (have hO2 := hO1.nx hS2 hx2; have hL2 := hCq.L hO2; have hT2 := hCq.T hO2; fun qg6 qm7 => ⟨rfl, (show K none M2 from ?g349l2)⟩)⟩⟩⟩)⟩)⟩⟩)⟩⟩⟩, fun (qc1 : st ≠ 0) => ⟨fun (qc8 : st = 1) => ⟨hL.w, _, hL.r7, ⟨(ncap c (o.length + 1) - c), (2 * (ncap c (o.length + 1) - c)), ⟨(by omega), (by omega)⟩, ⟨⟨rfl, rfl⟩, hL.wSB.rcv⟩, ⟨668, c, (ncap c (o.length + 1)), o, 100, rfl, hO.2.2, (by first | omega | (simp only [List.length_append, List.length_singleton]; omega)), (congrArg (ncap _) (by first | rfl | (simp only [List.length_append, List.length_singleton]; done) | (simp only [List.length_append, List.length_singleton]; omega))), (by omega), fun M3 hS3 hx3 hvu3 => (have hO3 := hO.nx hS3 hx3; have hL3 := hCq.L hO3; have hT3 := hCq.T hO3; fun qg9 qm10 => ⟨rfl, ⟨(hL3.tab.row (by omega) (by omega)).2.w, zIr ((hT3.r3 (r := r) (by omega) (by omega)).trans (hrtb)) (⟨fun h => (have qc11 : rt = -1 := Decidable.not_not.mp (of_decide_eq_false (b2i_e0 h)); (show K none M3 from ?g349l3)), fun h => (have qc12 : rt ≠ -1 := of_decide_eq_true (b2i_n0 h); ⟨hL3.w, _, hL3.r7, ⟨(ncap (ncap c (o.length + 1)) (o.length + 1 + 1) - (ncap c (o.length + 1))), (2 * (ncap (ncap c (o.length + 1)) (o.length + 1 + 1) - (ncap c (o.length + 1)))), ⟨(by omega), (by omega)⟩, ⟨⟨rfl, rfl⟩, hL3.wSB.rcv⟩, ⟨668, (ncap c (o.length + 1)), (ncap (ncap c (o.length + 1)) (o.length + 1 + 1)), (o ++ [100]), 42, rfl, hO3.2.2, (by first | omega | (simp only [List.length_append, List.length_singleton]; omega)), (congrArg (ncap _) (by first | rfl | (simp only [List.length_append, List.length_singleton]; done) | (simp only [List.length_append, List.length_singleton]; omega))), (by omega), fun M4 hS4 hx4 hvu4 => (have hO4 := hO3.nx hS4 hx4; have hL4 := hCq.L hO4; have hT4 := hCq.T hO4; fun qg13 qm14 => ⟨rfl, (show K none M4 from ?g349l4)⟩)⟩⟩⟩)⟩)⟩⟩)⟩⟩⟩, fun (qc8 : st ≠ 1) => ⟨fun (qc15 : st = 2) => ⟨hL.w, _, hL.r7, ⟨(ncap c (o.length + 1) - c), (2 * (ncap c (o.length + 1) - c)), ⟨(by omega), (by omega)⟩, ⟨⟨rfl, rfl⟩, hL.wSB.rcv⟩, ⟨668, c, (ncap c (o.length + 1)), o, 102, rfl, hO.2.2, (by first | omega | (simp only [List.length_append, List.length_singleton]; omega)), (congrArg (ncap _) (by first | rfl | (simp only [List.length_append, List.length_singleton]; done) | (simp only [List.length_append, List.length_singleton]; omega))), (by omega), fun M5 hS5 hx5 hvu5 => (have hO5 := hO.nx hS5 hx5; have hL5 := hCq.L hO5; have hT5 := hCq.T hO5; fun qg16 qm17 => ⟨rfl, ⟨hL5.w, _, hL5.r7, ⟨(hL5.tab.row (by omega) (by omega)).2.w, zIr ((hT5.r2 (r := r) (by omega) (by omega)).trans (hrs)) (⟨(ncap (ncap c (o.length + 1)) (o.length + 1 + (dig rs).length) - (ncap c (o.length + 1))), (2 * (ncap (ncap c (o.length + 1)) (o.length + 1 + (dig rs).length) - (ncap c (o.length + 1)))), ⟨(by omega), (by omega)⟩, ⟨⟨rfl, rfl⟩, hL5.wSB.rcv⟩, ⟨668, (ncap c (o.length + 1)), (ncap (ncap c (o.length + 1)) (o.length + 1 + (dig rs).length)), (o ++ [102]), rs, rfl, hO5.2.2, (by first | omega | (simp only [List.length_append, List.length_singleton]; omega)), (congrArg (ncap _) (by first | rfl | (simp only [List.length_append, List.length_singleton]; done) | (simp only [List.length_append, List.length_singleton]; omega))), (hCq.K hO5), (by omega), fun M6 hS6 hx6 => (have hO6 := hO5.nx hS6 hx6; have hL6 := hCq.L hO6; have hT6 := hCq.T hO6; fun qg18 qm19 => ⟨rfl, ⟨(hL6.tab.row (by omega) (by omega)).2.w, zIr ((hT6.r3 (r := r) (by omega) (by omega)).trans (hrtb)) (⟨fun h => (have qc20 : rt = -1 := Decidable.not_not.mp (of_decide_eq_false (b2i_e0 h)); (show K none M6 from ?g349l5)), fun h => (have qc21 : rt ≠ -1 := of_decide_eq_true (b2i_n0 h); ⟨hL6.w, _, hL6.r7, ⟨(ncap (ncap (ncap c (o.length + 1)) (o.length + 1 + (dig rs).length)) (o.length + 1 + (dig rs).length + 1) - (ncap (ncap c (o.length + 1)) (o.length + 1 + (dig rs).length))), (2 * (ncap (ncap (ncap c (o.length + 1)) (o.length + 1 + (dig rs).length)) (o.length + 1 + (dig rs).length + 1) - (ncap (ncap c (o.length + 1)) (o.length + 1 + (dig rs).length)))), ⟨(by omega), (by omega)⟩, ⟨⟨rfl, rfl⟩, hL6.wSB.rcv⟩, ⟨668, (ncap (ncap c (o.length + 1)) (o.length + 1 + (dig rs).length)), (ncap (ncap (ncap c (o.length + 1)) (o.length + 1 + (dig rs).length)) (o.length + 1 + (dig rs).length + 1)), (o ++ [102] ++ dig rs), 42, rfl, hO6.2.2, (by first | omega | (simp only [List.length_append, List.length_singleton]; omega)), (congrArg (ncap _) (by first | rfl | (simp only [List.length_append, List.length_singleton]; done) | (simp only [List.length_append, List.length_singleton]; omega))), (by omega), fun M7 hS7 hx7 hvu7 => (have hO7 := hO6.nx hS7 hx7; have hL7 := hCq.L hO7; have hT7 := hCq.T hO7; fun qg22 qm23 => ⟨rfl, (show K none M7 from ?g349l6)⟩)⟩⟩⟩)⟩)⟩⟩)⟩⟩)⟩⟩⟩)⟩⟩⟩, fun (qc15 : st ≠ 2) => ⟨hL.w, _, hL.r7, ⟨(ncap c (o.length + 1) - c), (2 * (ncap c (o.length + 1) - c)), ⟨(by omega), (by omega)⟩, ⟨⟨rfl, rfl⟩, hL.wSB.rcv⟩, ⟨668, c, (ncap c (o.length + 1)), o, 97, rfl, hO.2.2, (by first | omega | (simp only [List.length_append, List.length_singleton]; omega)), (congrArg (ncap _) (by first | rfl | (simp only [List.length_append, List.length_singleton]; done) | (simp only [List.length_append, List.length_singleton]; omega))), (by omega), fun M8 hS8 hx8 hvu8 => (have hO8 := hO.nx hS8 hx8; have hL8 := hCq.L hO8; have hT8 := hCq.T hO8; fun qg24 qm25 => ⟨rfl, ⟨(hL8.tab.row (by omega) (by omega)).2.w, zIr ((hT8.r3 (r := r) (by omega) (by omega)).trans (hrtb)) (⟨fun h => (have qc26 : rt = -1 := Decidable.not_not.mp (of_decide_eq_false (b2i_e0 h)); (show K none M8 from ?g349l7)), fun h => (have qc27 : rt ≠ -1 := of_decide_eq_true (b2i_n0 h); ⟨hL8.w, _, hL8.r7, ⟨(ncap (ncap c (o.length + 1)) (o.length + 1 + 1) - (ncap c (o.length + 1))), (2 * (ncap (ncap c (o.length + 1)) (o.length + 1 + 1) - (ncap c (o.length + 1)))), ⟨(by omega), (by omega)⟩, ⟨⟨rfl, rfl⟩, hL8.wSB.rcv⟩, ⟨668, (ncap c (o.length + 1)), (ncap (ncap c (o.length + 1)) (o.length + 1 + 1)), (o ++ [97]), 42, rfl, hO8.2.2, (by first | omega | (simp only [List.length_append, List.length_singleton]; omega)), (congrArg (ncap _) (by first | rfl | (simp only [List.length_append, List.length_singleton]; done) | (simp only [List.length_append, List.length_singleton]; omega))), (by omega), fun M9 hS9 hx9 hvu9 => (have hO9 := hO8.nx hS9 hx9; have hL9 := hCq.L hO9; have hT9 := hCq.T hO9; fun qg28 qm29 => ⟨rfl, (show K none M9 from ?g349l8)⟩)⟩⟩⟩)⟩)⟩⟩)⟩⟩⟩⟩⟩⟩)⟩
  case g349l1 =>
    first
    | (exfalso; omega)
    | skip
      have h9 := hO1
      refine hK _ ?_
      first
      | (rw [hd1 (by omega) (by omega)] at h9; rw [if_neg (show ¬ st = 0 by omega), if_neg (show ¬ st = 1 by omega), if_pos (show st = 2 by omega), if_neg (show ¬ rt = -1 by omega)]; simp only [List.append_assoc] at h9 ⊢; exact h9)
      | (rw [hd2 (by omega) (by omega)] at h9; rw [if_neg (show ¬ st = 0 by omega), if_neg (show ¬ st = 1 by omega), if_pos (show st = 2 by omega), if_pos (show rt = -1 by omega)]; simp only [List.append_assoc] at h9 ⊢; exact h9)
      | (rw [hd3 (by omega)] at h9; first | (rw [if_pos (show st = 0 by omega)]; exact h9) | (rw [if_neg (show ¬ st = 0 by omega), if_pos (show st = 1 by omega)]; exact h9) | (rw [if_neg (show ¬ st = 0 by omega), if_neg (show ¬ st = 1 by omega), if_neg (show ¬ st = 2 by omega)]; exact h9))
  case g349l2 =>
    first
    | (exfalso; omega)
    | skip
      have h9 := hO2
      refine hK _ ?_
      first
      | (rw [hd1 (by omega) (by omega)] at h9; rw [if_neg (show ¬ st = 0 by omega), if_neg (show ¬ st = 1 by omega), if_pos (show st = 2 by omega), if_neg (show ¬ rt = -1 by omega)]; simp only [List.append_assoc] at h9 ⊢; exact h9)
      | (rw [hd2 (by omega) (by omega)] at h9; rw [if_neg (show ¬ st = 0 by omega), if_neg (show ¬ st = 1 by omega), if_pos (show st = 2 by omega), if_pos (show rt = -1 by omega)]; simp only [List.append_assoc] at h9 ⊢; exact h9)
      | (rw [hd3 (by omega)] at h9; first | (rw [if_pos (show st = 0 by omega)]; exact h9) | (rw [if_neg (show ¬ st = 0 by omega), if_pos (show st = 1 by omega)]; exact h9) | (rw [if_neg (show ¬ st = 0 by omega), if_neg (show ¬ st = 1 by omega), if_neg (show ¬ st = 2 by omega)]; exact h9))
  case g349l3 =>
    first
    | (exfalso; omega)
    | skip
      have h9 := hO3
      refine hK _ ?_
      first
      | (rw [hd1 (by omega) (by omega)] at h9; rw [if_neg (show ¬ st = 0 by omega), if_neg (show ¬ st = 1 by omega), if_pos (show st = 2 by omega), if_neg (show ¬ rt = -1 by omega)]; simp only [List.append_assoc] at h9 ⊢; exact h9)
      | (rw [hd2 (by omega) (by omega)] at h9; rw [if_neg (show ¬ st = 0 by omega), if_neg (show ¬ st = 1 by omega), if_pos (show st = 2 by omega), if_pos (show rt = -1 by omega)]; simp only [List.append_assoc] at h9 ⊢; exact h9)
      | (rw [hd3 (by omega)] at h9; first | (rw [if_pos (show st = 0 by omega)]; exact h9) | (rw [if_neg (show ¬ st = 0 by omega), if_pos (show st = 1 by omega)]; exact h9) | (rw [if_neg (show ¬ st = 0 by omega), if_neg (show ¬ st = 1 by omega), if_neg (show ¬ st = 2 by omega)]; exact h9))
  case g349l4 =>
    first
    | (exfalso; omega)
    | skip
      have h9 := hO4
      refine hK _ ?_
      first
      | (rw [hd1 (by omega) (by omega)] at h9; rw [if_neg (show ¬ st = 0 by omega), if_neg (show ¬ st = 1 by omega), if_pos (show st = 2 by omega), if_neg (show ¬ rt = -1 by omega)]; simp only [List.append_assoc] at h9 ⊢; exact h9)
      | (rw [hd2 (by omega) (by omega)] at h9; rw [if_neg (show ¬ st = 0 by omega), if_neg (show ¬ st = 1 by omega), if_pos (show st = 2 by omega), if_pos (show rt = -1 by omega)]; simp only [List.append_assoc] at h9 ⊢; exact h9)
      | (rw [hd3 (by omega)] at h9; first | (rw [if_pos (show st = 0 by omega)]; exact h9) | (rw [if_neg (show ¬ st = 0 by omega), if_pos (show st = 1 by omega)]; exact h9) | (rw [if_neg (show ¬ st = 0 by omega), if_neg (show ¬ st = 1 by omega), if_neg (show ¬ st = 2 by omega)]; exact h9))
  case g349l5 =>
    first
    | (exfalso; omega)
    | skip
      have h9 := hO6
      refine hK _ ?_
      first
      | (rw [hd1 (by omega) (by omega)] at h9; rw [if_neg (show ¬ st = 0 by omega), if_neg (show ¬ st = 1 by omega), if_pos (show st = 2 by omega), if_neg (show ¬ rt = -1 by omega)]; simp only [List.append_assoc] at h9 ⊢; exact h9)
      | (rw [hd2 (by omega) (by omega)] at h9; rw [if_neg (show ¬ st = 0 by omega), if_neg (show ¬ st = 1 by omega), if_pos (show st = 2 by omega), if_pos (show rt = -1 by omega)]; simp only [List.append_assoc] at h9 ⊢; exact h9)
      | (rw [hd3 (by omega)] at h9; first | (rw [if_pos (show st = 0 by omega)]; exact h9) | (rw [if_neg (show ¬ st = 0 by omega), if_pos (show st = 1 by omega)]; exact h9) | (rw [if_neg (show ¬ st = 0 by omega), if_neg (show ¬ st = 1 by omega), if_neg (show ¬ st = 2 by omega)]; exact h9))
  case g349l6 =>
    first
    | (exfalso; omega)
    | skip
      have h9 := hO7
      refine hK _ ?_
      first
      | (rw [hd1 (by omega) (by omega)] at h9; rw [if_neg (show ¬ st = 0 by omega), if_neg (show ¬ st = 1 by omega), if_pos (show st = 2 by omega), if_neg (show ¬ rt = -1 by omega)]; simp only [List.append_assoc] at h9 ⊢; exact h9)
      | (rw [hd2 (by omega) (by omega)] at h9; rw [if_neg (show ¬ st = 0 by omega), if_neg (show ¬ st = 1 by omega), if_pos (show st = 2 by omega), if_pos (show rt = -1 by omega)]; simp only [List.append_assoc] at h9 ⊢; exact h9)
      | (rw [hd3 (by omega)] at h9; first | (rw [if_pos (show st = 0 by omega)]; exact h9) | (rw [if_neg (show ¬ st = 0 by omega), if_pos (show st = 1 by omega)]; exact h9) | (rw [if_neg (show ¬ st = 0 by omega), if_neg (show ¬ st = 1 by omega), if_neg (show ¬ st = 2 by omega)]; exact h9))
  case g349l7 =>
    first
    | (exfalso; omega)
    | skip
      have h9 := hO8
      refine hK _ ?_
      first
      | (rw [hd1 (by omega) (by omega)] at h9; rw [if_neg (show ¬ st = 0 by omega), if_neg (show ¬ st = 1 by omega), if_pos (show st = 2 by omega), if_neg (show ¬ rt = -1 by omega)]; simp only [List.append_assoc] at h9 ⊢; exact h9)
      | (rw [hd2 (by omega) (by omega)] at h9; rw [if_neg (show ¬ st = 0 by omega), if_neg (show ¬ st = 1 by omega), if_pos (show st = 2 by omega), if_pos (show rt = -1 by omega)]; simp only [List.append_assoc] at h9 ⊢; exact h9)
      | (rw [hd3 (by omega)] at h9; first | (rw [if_pos (show st = 0 by omega)]; exact h9) | (rw [if_neg (show ¬ st = 0 by omega), if_pos (show st = 1 by omega)]; exact h9) | (rw [if_neg (show ¬ st = 0 by omega), if_neg (show ¬ st = 1 by omega), if_neg (show ¬ st = 2 by omega)]; exact h9))
  case g349l8 =>
    first
    | (exfalso; omega)
    | skip
      have h9 := hO9
      refine hK _ ?_
      first
      | (rw [hd1 (by omega) (by omega)] at h9; rw [if_neg (show ¬ st = 0 by omega), if_neg (show ¬ st = 1 by omega), if_pos (show st = 2 by omega), if_neg (show ¬ rt = -1 by omega)]; simp only [List.append_assoc] at h9 ⊢; exact h9)
      | (rw [hd2 (by omega) (by omega)] at h9; rw [if_neg (show ¬ st = 0 by omega), if_neg (show ¬ st = 1 by omega), if_pos (show st = 2 by omega), if_pos (show rt = -1 by omega)]; simp only [List.append_assoc] at h9 ⊢; exact h9)
      | (rw [hd3 (by omega)] at h9; first | (rw [if_pos (show st = 0 by omega)]; exact h9) | (rw [if_neg (show ¬ st = 0 by omega), if_pos (show st = 1 by omega)]; exact h9) | (rw [if_neg (show ¬ st = 0 by omega), if_neg (show ¬ st = 1 by omega), if_neg (show ¬ st = 2 by omega)]; exact h9))
theorem M_X8_putRowState {l : Launch} (hl : l.stackTraces = false) (ca cb : Nat) : zMet l yX8_putRowState (Cond.code yX8_putRowState cX8_putRowState 2 (Option.none : Option Jvm.ClassFile.FieldType) :: zG) (rm_X8_putRowState ca cb) ca cb (T_X8_putRowState ca cb) := met_X8_putRowState hl (M_J4_append_cf468 hl) (M_J4_append_bf812 hl) (bd_X8_putRowState ca cb)
