/-! the class: takings and workers, written -/
def tkPc (G : Gm) (r k : Int) : List Nat := [(dgn (G (6 + 9 * (G (132 + 16 * r + (7 + 3 * k + 0)).toNat) + 0).toNat)).length, 1, (dig (if (G (132 + 16 * r + (7 + 3 * k + 1)).toNat) = -1 then (G (132 + 16 * r + (7 + 3 * k + 2)).toNat) else (G (132 + 16 * r + (7 + 3 * k + 1)).toNat))).length]
def wkPc (G : Gm) (w : Int) : List Nat := if (G (6 + 9 * w + 3).toNat) < G 2 then [(dgn (G (6 + 9 * w + 0).toNat)).length, 1, (dig (G (6 + 9 * w + 3).toNat)).length, 1, 1, (dig (G (6 + 9 * w + 8).toNat)).length] else [(dgn (G (6 + 9 * w + 0).toNat)).length, 1, (dig (G (6 + 9 * w + 3).toNat)).length, 1, (dig (G (6 + 9 * w + 8).toNat)).length]
theorem tkPc_s (G : Gm) (r k : Int) : (tkPc G r k).sum = (tkTx G r k).length ∧ 1 ≤ (tkTx G r k).length ∧ (tkTx G r k).length ≤ 13 := by
  refine ⟨?_, ?_, tkTx_len G r k⟩
  · unfold tkPc tkTx
    split <;> simp only [List.length_append, List.length_singleton, List.sum_cons, List.sum_nil] <;> omega
  · unfold tkTx
    split <;> simp only [List.length_append, List.length_singleton] <;> omega
theorem wkPc_s (G : Gm) (w : Int) : (wkPc G w).sum = (wkTx G w).length ∧ 1 ≤ (wkTx G w).length ∧ (wkTx G w).length ≤ 21 := by
  refine ⟨?_, ?_, wkTx_len G w⟩
  · unfold wkPc wkTx
    split <;> simp only [List.length_append, List.length_singleton, List.length_cons, List.length_nil, List.sum_cons, List.sum_nil] <;> omega
  · unfold wkTx
    split <;> simp only [List.length_append, List.length_singleton, List.length_cons, List.length_nil] <;> omega
theorem nm_out {M : ZM} {s c : Nat} {l o : List Int} (hz : zTx M s l) (hS : SB M 668 c o) : vu M s ≠ vu M 668 := by
  obtain ⟨-, -, v, b3, -, -, b7, -⟩ := hz
  intro e
  refine b7.2 ?_
  rw [hS.r0, ← e]
  unfold vu
  rw [b3]
  rfl
theorem nm_lt {l : List Int} (h : nmOK l) : ∀ k : Nat, k < l.length → 0 ≤ l.getD k 0 ∧ l.getD k 0 < 128 := fun k hk => by
  have h9 := h.2.2 (l.getD k 0) (by rw [List.getD_eq_getElem?_getD, List.getElem?_eq_getElem hk]; exact List.getElem_mem hk)
  omega

def T_X8_putTaking (ca cb : Nat) : ZTf := fun av M K KX => ∃ (M0 : ZM) (G : Gm) (c d : Nat) (o : List Int) (r k : Int), av = [zo 64, zo (129 + 11 + 2 * r.toNat), zi k] ∧ (CQ M0 G) ∧ (0 ≤ r ∧ r < G 5) ∧ (0 ≤ k ∧ k < (G (132 + 16 * r + 6).toNat)) ∧ (OC M0 M c o) ∧ (o.length < 700) ∧ (ncs c o.length (tkPc G r k) = d) ∧ (d ≤ c + ca ∧ 2 * d ≤ 2 * c + cb) ∧  (∀ M' : ZM, (OC M0 M' d (o ++ tkTx G r k)) → K none M')
set_option maxRecDepth 100000 in
set_option maxHeartbeats 1500000 in
theorem bd_X8_putTaking (ca cb : Nat) : zBd (cd_X8_putTaking T_X4_workerAt T_J4_append_15ec4 T_X4_isInWork T_J4_append_cf468 T_X4_dueAt T_J4_append_bf812 T_X4_resultAt) 3 ca cb (T_X8_putTaking ca cb) := by
  rintro av M K KX hA0 hM ⟨M0, G, c, d, o, r, k, rfl, hCq, hr, hk, hO, hn, hd, hab, hK⟩
  have hL := hCq.L hO
  have hT := hCq.T hO
  have h46 := hL.wSB.2.2
  obtain ⟨-, -, -, hG, hV9, hX9⟩ := id hCq
  obtain ⟨hw5, hr5, hR5⟩ := id hG
  have hR9 := hR5 r hr.1 hr.2
  have hrv := (hV9.2.2.2.2.2.1 r hr.1 hr.2).2.2.2.2.2 k hk.1 hk.2
  have hwi := hR9.2.2 k hk.1 hk.2
  have hw4 := ((hX9.1 r hr.1 hr.2).1 k hk.1 hk.2).1
  have hm3 := hR9.2.1.2
  unfold tkPc at hd
  unfold tkTx at hK
  obtain ⟨m9, hm9⟩ : ∃ x, (G (132 + 16 * r + 6).toNat) = x := ⟨_, rfl⟩
  obtain ⟨wk, hwk⟩ : ∃ x, (G (132 + 16 * r + (7 + 3 * k + 0)).toNat) = x := ⟨_, rfl⟩
  obtain ⟨rs, hrs⟩ : ∃ x, (G (132 + 16 * r + (7 + 3 * k + 1)).toNat) = x := ⟨_, rfl⟩
  obtain ⟨du, hdu⟩ : ∃ x, (G (132 + 16 * r + (7 + 3 * k + 2)).toNat) = x := ⟨_, rfl⟩
  rw [hwk, hrs, hdu] at hd hK
  rw [hrs, hdu] at hrv
  rw [hwk] at hwi hw4
  rw [hm9] at hm3
  obtain ⟨s8, l8, hr8, hz8, ⟨hn8, h64⟩, hnv⟩ := hT.wn hwi.1 hw4
  have e8 := dgn_nm hn8
  rw [hnv] at e8
  rw [e8] at hd hK
  have hne8 := nm_out hz8 hO.2.2
  have hlt8 := nm_lt hn8
  have hl8 := hn8.2.1
  clear hR9 hX9 hV9
  have hdl := dig_len (if rs = -1 then du else rs)
  have hdl1 : rs = -1 → (dig (if rs = -1 then du else rs)) = dig du := fun z => by rw [if_pos z]
  have hdl2 : rs ≠ -1 → (dig (if rs = -1 then du else rs)) = dig rs := fun z => by rw [if_neg z]
  have g1 := ncap_g (c := c) (n := o.length + l8.length) rfl
  have g2 := ncap_g (c := ncap c (o.length + l8.length)) (n := o.length + l8.length + 1) rfl
  have g3 := ncap_g (c := ncap (ncap c (o.length + l8.length)) (o.length + l8.length + 1)) (n := o.length + l8.length + 1 + (dig rs).length) rfl
  have g4 := ncap_g (c := ncap (ncap c (o.length + l8.length)) (o.length + l8.length + 1)) (n := o.length + l8.length + 1 + (dig du).length) rfl
  have hd1 : rs = -1 → ncap (ncap (ncap c (o.length + l8.length)) (o.length + l8.length + 1)) (o.length + l8.length + 1 + (dig du).length) = d := fun z => by rw [hdl1 z] at hd; exact hd
  have hd2 : rs ≠ -1 → ncap (ncap (ncap c (o.length + l8.length)) (o.length + l8.length + 1)) (o.length + l8.length + 1 + (dig rs).length) = d := fun z => by rw [hdl2 z] at hd; exact hd
  have hdr := dig_len rs
  have hdd := dig_len du
  refine ⟨rfl, fun Φ hΦ => ?_⟩
  refine zGoR hΦ [] 400 (fun hL9 _ hM _ _ => ?_)
  obtain ⟨qL1, _⟩ : zrg k ∧ True := hL9
  refine ⟨hL.w, _, hL.r7, ⟨hL.w, _, hL.r2, ⟨hL.tab.w, _, hL.tab.r6, ⟨⟨⟨rfl, rfl⟩, (hL.tab.row (by omega) (by omega)).2.w.rcv⟩, ⟨rfl, ⟨(hL.tab.row (by omega) (by omega)).2.w, _, (hL.tab.row (by omega) (by omega)).2.r9, ⟨(zrgI (x := k * 3) (by omega)), ⟨(zrgI (x := k * 3 + 0) (by omega)), zIr (Int.add_zero _) (⟨zixO (hL.tab.row (by omega) (by omega)).2.a9 (hL.tab.row (by omega) (by omega)).2.l9 (i := k * 3) (by omega) (by decide), zIr ((hT.k0 (r := r) (k := k) (by omega) (by omega) (by omega) (by omega)).trans (hwk)) (⟨trivial, fun (qg1 : zrg (wk)) _ => ⟨zixW hL.tab.aTwk hL.tab.lTwk (i := wk) (by omega) (by decide), _, (hL.tab.wk (by omega) (by omega)).1, ⟨(hL.tab.wk (by omega) (by omega)).2, _, hr8, ⟨(ncap c (o.length + l8.length) - c), (2 * (ncap c (o.length + l8.length) - c)), ⟨(by omega), (by omega)⟩, ⟨⟨rfl, rfl⟩, hL.wSB.rcv⟩, ⟨668, s8, c, (ncap c (o.length + l8.length)), o, l8, rfl, hO.2.2, hz8, h64, (by omega), hne8, hlt8, (by first | omega | (simp only [List.length_append, List.length_singleton]; omega)), h46, (congrArg (ncap _) (by first | rfl | (simp only [List.length_append, List.length_singleton]; done) | (simp only [List.length_append, List.length_singleton]; omega))), (by omega), fun M1 hS1 hx1 => (have hO1 := hO.nx hS1 hx1; have hL1 := hCq.L hO1; have hT1 := hCq.T hO1; fun qg2 qm3 => ⟨rfl, ⟨⟨⟨rfl, rfl⟩, (hL1.tab.row (by omega) (by omega)).2.w.rcv⟩, ⟨rfl, ⟨⟨⟨rfl, rfl⟩, (hL1.tab.row (by omega) (by omega)).2.w.rcv⟩, ⟨rfl, ⟨(hL1.tab.row (by omega) (by omega)).2.w, _, (hL1.tab.row (by omega) (by omega)).2.r9, ⟨(zrgI (x := k * 3) (by omega)), ⟨(zrgI (x := k * 3 + 1) (by omega)), ⟨zixO (hL1.tab.row (by omega) (by omega)).2.a9 (hL1.tab.row (by omega) (by omega)).2.l9 (i := k * 3 + 1) (by omega) (by decide), zIr ((hT1.k1 (r := r) (k := k) (by omega) (by omega) (by omega) (by omega)).trans (hrs)) (⟨trivial, fun (qg4 : zrg (rs)) _ => ⟨fun (qc5 : rs ≠ (-1)) => ⟨(Or.inl rfl), fun _ _ => ⟨fun _ => ⟨hL1.w, _, hL1.r7, ⟨(ncap (ncap c (o.length + l8.length)) (o.length + l8.length + 1) - (ncap c (o.length + l8.length))), (2 * (ncap (ncap c (o.length + l8.length)) (o.length + l8.length + 1) - (ncap c (o.length + l8.length)))), ⟨(by omega), (by omega)⟩, ⟨⟨rfl, rfl⟩, hL1.wSB.rcv⟩, ⟨668, (ncap c (o.length + l8.length)), (ncap (ncap c (o.length + l8.length)) (o.length + l8.length + 1)), (o ++ l8), 61, rfl, hO1.2.2, (by first | omega | (simp only [List.length_append, List.length_singleton]; omega)), (congrArg (ncap _) (by first | rfl | (simp only [List.length_append, List.length_singleton]; done) | (simp only [List.length_append, List.length_singleton]; omega))), (by omega), fun M2 hS2 hx2 hvu2 => (have hO2 := hO1.nx hS2 hx2; have hL2 := hCq.L hO2; have hT2 := hCq.T hO2; fun qg7 qm8 => ⟨rfl, ⟨hL2.w, _, hL2.r7, ⟨⟨⟨rfl, rfl⟩, (hL2.tab.row (by omega) (by omega)).2.w.rcv⟩, ⟨rfl, ⟨(hL2.tab.row (by omega) (by omega)).2.w, _, (hL2.tab.row (by omega) (by omega)).2.r9, ⟨(zrgI (x := k * 3) (by omega)), ⟨(zrgI (x := k * 3 + 1) (by omega)), ⟨zixO (hL2.tab.row (by omega) (by omega)).2.a9 (hL2.tab.row (by omega) (by omega)).2.l9 (i := k * 3 + 1) (by omega) (by decide), zIr ((hT2.k1 (r := r) (k := k) (by omega) (by omega) (by omega) (by omega)).trans (hrs)) (⟨trivial, fun (qg9 : zrg (rs)) _ => ⟨(ncap (ncap (ncap c (o.length + l8.length)) (o.length + l8.length + 1)) (o.length + l8.length + 1 + (dig rs).length) - (ncap (ncap c (o.length + l8.length)) (o.length + l8.length + 1))), (2 * (ncap (ncap (ncap c (o.length + l8.length)) (o.length + l8.length + 1)) (o.length + l8.length + 1 + (dig rs).length) - (ncap (ncap c (o.length + l8.length)) (o.length + l8.length + 1)))), ⟨(by omega), (by omega)⟩, ⟨⟨rfl, rfl⟩, hL2.wSB.rcv⟩, ⟨668, (ncap (ncap c (o.length + l8.length)) (o.length + l8.length + 1)), (ncap (ncap (ncap c (o.length + l8.length)) (o.length + l8.length + 1)) (o.length + l8.length + 1 + (dig rs).length)), (o ++ l8 ++ [61]), rs, rfl, hO2.2.2, (by first | omega | (simp only [List.length_append, List.length_singleton]; omega)), (congrArg (ncap _) (by first | rfl | (simp only [List.length_append, List.length_singleton]; done) | (simp only [List.length_append, List.length_singleton]; omega))), (hCq.K hO2), (by omega), fun M3 hS3 hx3 => (have hO3 := hO2.nx hS3 hx3; have hL3 := hCq.L hO3; have hT3 := hCq.T hO3; fun qg10 qm11 => ⟨rfl, (show K none M3 from ?g352l1)⟩)⟩⟩⟩)⟩⟩⟩⟩⟩⟩⟩⟩)⟩⟩⟩, fun (h : (0 : Int) ≠ 0) => absurd h (by decide)⟩⟩, fun (qc12 : rs = (-1)) => ⟨(Or.inr rfl), fun _ _ => ⟨fun (h : (1 : Int) = 0) => absurd h (by decide), fun _ => ⟨hL1.w, _, hL1.r7, ⟨(ncap (ncap c (o.length + l8.length)) (o.length + l8.length + 1) - (ncap c (o.length + l8.length))), (2 * (ncap (ncap c (o.length + l8.length)) (o.length + l8.length + 1) - (ncap c (o.length + l8.length)))), ⟨(by omega), (by omega)⟩, ⟨⟨rfl, rfl⟩, hL1.wSB.rcv⟩, ⟨668, (ncap c (o.length + l8.length)), (ncap (ncap c (o.length + l8.length)) (o.length + l8.length + 1)), (o ++ l8), 64, rfl, hO1.2.2, (by first | omega | (simp only [List.length_append, List.length_singleton]; omega)), (congrArg (ncap _) (by first | rfl | (simp only [List.length_append, List.length_singleton]; done) | (simp only [List.length_append, List.length_singleton]; omega))), (by omega), fun M4 hS4 hx4 hvu4 => (have hO4 := hO1.nx hS4 hx4; have hL4 := hCq.L hO4; have hT4 := hCq.T hO4; fun qg14 qm15 => ⟨rfl, ⟨hL4.w, _, hL4.r7, ⟨⟨⟨rfl, rfl⟩, (hL4.tab.row (by omega) (by omega)).2.w.rcv⟩, ⟨rfl, ⟨(hL4.tab.row (by omega) (by omega)).2.w, _, (hL4.tab.row (by omega) (by omega)).2.r9, ⟨(zrgI (x := k * 3) (by omega)), ⟨(zrgI (x := k * 3 + 2) (by omega)), ⟨zixO (hL4.tab.row (by omega) (by omega)).2.a9 (hL4.tab.row (by omega) (by omega)).2.l9 (i := k * 3 + 2) (by omega) (by decide), zIr ((hT4.k2 (r := r) (k := k) (by omega) (by omega) (by omega) (by omega)).trans (hdu)) (⟨trivial, fun (qg16 : zrg (du)) _ => ⟨(ncap (ncap (ncap c (o.length + l8.length)) (o.length + l8.length + 1)) (o.length + l8.length + 1 + (dig du).length) - (ncap (ncap c (o.length + l8.length)) (o.length + l8.length + 1))), (2 * (ncap (ncap (ncap c (o.length + l8.length)) (o.length + l8.length + 1)) (o.length + l8.length + 1 + (dig du).length) - (ncap (ncap c (o.length + l8.length)) (o.length + l8.length + 1)))), ⟨(by omega), (by omega)⟩, ⟨⟨rfl, rfl⟩, hL4.wSB.rcv⟩, ⟨668, (ncap (ncap c (o.length + l8.length)) (o.length + l8.length + 1)), (ncap (ncap (ncap c (o.length + l8.length)) (o.length + l8.length + 1)) (o.length + l8.length + 1 + (dig du).length)), (o ++ l8 ++ [64]), du, rfl, hO4.2.2, (by first | omega | (simp only [List.length_append, List.length_singleton]; omega)), (congrArg (ncap _) (by first | rfl | (simp only [List.length_append, List.length_singleton]; done) | (simp only [List.length_append, List.length_singleton]; omega))), (hCq.K hO4), (by omega), fun M5 hS5 hx5 => (have hO5 := hO4.nx hS5 hx5; have hL5 := hCq.L hO5; have hT5 := hCq.T hO5; fun qg17 qm18 => ⟨rfl, (show K none M5 from ?g352l2)⟩)⟩⟩⟩)⟩⟩⟩⟩⟩⟩⟩⟩)⟩⟩⟩⟩⟩⟩⟩)⟩⟩⟩⟩⟩⟩⟩⟩⟩)⟩⟩⟩⟩⟩)⟩)⟩⟩⟩⟩⟩⟩⟩⟩
  case g352l1 =>
    first
    | (exfalso; omega)
    | skip
      have h9 := hO3
      refine hK _ ?_
      first
      | (have z : rs = -1 := by omega
         rw [hd1 z] at h9; rw [if_pos z]; simp only [List.append_assoc] at h9 ⊢; exact h9)
      | (have z : rs ≠ -1 := by omega
         rw [hd2 z] at h9; rw [if_neg z]; simp only [List.append_assoc] at h9 ⊢; exact h9)
  case g352l2 =>
    first
    | (exfalso; omega)
    | skip
      have h9 := hO5
      refine hK _ ?_
      first
      | (have z : rs = -1 := by omega
         rw [hd1 z] at h9; rw [if_pos z]; simp only [List.append_assoc] at h9 ⊢; exact h9)
      | (have z : rs ≠ -1 := by omega
         rw [hd2 z] at h9; rw [if_neg z]; simp only [List.append_assoc] at h9 ⊢; exact h9)
theorem M_X8_putTaking {l : Launch} (hl : l.stackTraces = false) (ca cb : Nat) : zMet l yX8_putTaking (Cond.code yX8_putTaking cX8_putTaking 3 (Option.none : Option Jvm.ClassFile.FieldType) :: zG) (rm_X8_putTaking ca cb) ca cb (T_X8_putTaking ca cb) := met_X8_putTaking hl (M_X4_workerAt hl) (M_J4_append_15ec4 hl) (M_X4_isInWork hl) (M_J4_append_cf468 hl) (M_X4_dueAt hl) (M_J4_append_bf812 hl) (M_X4_resultAt hl) (bd_X8_putTaking ca cb)

def T_X8_putWorker (ca cb : Nat) : ZTf := fun av M K KX => ∃ (M0 : ZM) (G : Gm) (c d : Nat) (o : List Int) (w : Int), av = [zo 64, zi w] ∧ (CQ M0 G) ∧ (0 ≤ w ∧ w < G 4) ∧ (OC M0 M c o) ∧ (o.length < 700) ∧ (ncs c o.length (wkPc G w) = d) ∧ (d ≤ c + ca ∧ 2 * d ≤ 2 * c + cb) ∧  (∀ M' : ZM, (OC M0 M' d (o ++ wkTx G w)) → K none M')
set_option maxRecDepth 100000 in
set_option maxHeartbeats 1500000 in
theorem bd_X8_putWorker (ca cb : Nat) : zBd (cd_X8_putWorker T_J4_append_15ec4 T_J4_append_cf468 T_J4_append_bf812 T_X5_isSuspended) 3 ca cb (T_X8_putWorker ca cb) := by
  rintro av M K KX hA0 hM ⟨M0, G, c, d, o, w, rfl, hCq, hr, hO, hn, hd, hab, hK⟩
  have hL := hCq.L hO
  have hT := hCq.T hO
  have h46 := hL.wSB.2.2
  obtain ⟨-, -, -, hG, hV9, hX9⟩ := id hCq
  obtain ⟨hw5, hr5, hR5⟩ := id hG
  have hwv := hV9.2.2.2.2.1 w hr.1 hr.2
  have ht3 := hwv.2.2.1
  have ht8 := hwv.2.2.2.2.2.2.2
  have hl2 := hV9.2.2.1
  unfold wkPc at hd
  unfold wkTx at hK
  obtain ⟨tr, htr⟩ : ∃ x, (G (6 + 9 * w + 3).toNat) = x := ⟨_, rfl⟩
  obtain ⟨po, hpo⟩ : ∃ x, (G (6 + 9 * w + 8).toNat) = x := ⟨_, rfl⟩
  obtain ⟨le, hle⟩ : ∃ x, G 2 = x := ⟨_, rfl⟩
  obtain ⟨s8, l8, hr8, hz8, ⟨hn8, h64⟩, hnv⟩ := hT.wn hr.1 hr.2
  have e8 := dgn_nm hn8
  rw [hnv] at e8
  rw [htr, hpo, hle, e8] at hd hK
  rw [htr] at ht3
  rw [hpo] at ht8
  rw [hle] at hl2
  have hne8 := nm_out hz8 hO.2.2
  have hlt8 := nm_lt hn8
  have hl8 := hn8.2.1
  clear hwv hX9 hV9
  have hdr := dig_len tr
  have hdp := dig_len po
  have g0 := ncap_g (c := c) (n := o.length + l8.length) rfl
  have g1 := ncap_g (c := ncap c (o.length + l8.length)) (n := o.length + l8.length + 1) rfl
  have g2 := ncap_g (c := ncap (ncap c (o.length + l8.length)) (o.length + l8.length + 1)) (n := o.length + l8.length + 1 + (dig tr).length) rfl
  have g3 := ncap_g (c := ncap (ncap (ncap c (o.length + l8.length)) (o.length + l8.length + 1)) (o.length + l8.length + 1 + (dig tr).length)) (n := o.length + l8.length + 1 + (dig tr).length + 1) rfl
  have g4 := ncap_g (c := ncap (ncap (ncap (ncap c (o.length + l8.length)) (o.length + l8.length + 1)) (o.length + l8.length + 1 + (dig tr).length)) (o.length + l8.length + 1 + (dig tr).length + 1)) (n := o.length + l8.length + 1 + (dig tr).length + 1 + 1) rfl
  have g5 := ncap_g (c := ncap (ncap (ncap (ncap (ncap c (o.length + l8.length)) (o.length + l8.length + 1)) (o.length + l8.length + 1 + (dig tr).length)) (o.length + l8.length + 1 + (dig tr).length + 1)) (o.length + l8.length + 1 + (dig tr).length + 1 + 1)) (n := o.length + l8.length + 1 + (dig tr).length + 1 + 1 + (dig po).length) rfl
  have g6 := ncap_g (c := c) (n := o.length + l8.length) rfl
  have g7 := ncap_g (c := ncap c (o.length + l8.length)) (n := o.length + l8.length + 1) rfl
  have g8 := ncap_g (c := ncap (ncap c (o.length + l8.length)) (o.length + l8.length + 1)) (n := o.length + l8.length + 1 + (dig tr).length) rfl
  have g9 := ncap_g (c := ncap (ncap (ncap c (o.length + l8.length)) (o.length + l8.length + 1)) (o.length + l8.length + 1 + (dig tr).length)) (n := o.length + l8.length + 1 + (dig tr).length + 1) rfl
  have g10 := ncap_g (c := ncap (ncap (ncap (ncap c (o.length + l8.length)) (o.length + l8.length + 1)) (o.length + l8.length + 1 + (dig tr).length)) (o.length + l8.length + 1 + (dig tr).length + 1)) (n := o.length + l8.length + 1 + (dig tr).length + 1 + (dig po).length) rfl
  have hd1 : tr < le → ncap (ncap (ncap (ncap (ncap (ncap c (o.length + l8.length)) (o.length + l8.length + 1)) (o.length + l8.length + 1 + (dig tr).length)) (o.length + l8.length + 1 + (dig tr).length + 1)) (o.length + l8.length + 1 + (dig tr).length + 1 + 1)) (o.length + l8.length + 1 + (dig tr).length + 1 + 1 + (dig po).length) = d := fun z => by rw [if_pos z] at hd; exact hd
  have hd2 : ¬ tr < le → ncap (ncap (ncap (ncap (ncap c (o.length + l8.length)) (o.length + l8.length + 1)) (o.length + l8.length + 1 + (dig tr).length)) (o.length + l8.length + 1 + (dig tr).length + 1)) (o.length + l8.length + 1 + (dig tr).length + 1 + (dig po).length) = d := fun z => by rw [if_neg z] at hd; exact hd
  refine ⟨rfl, fun Φ hΦ => ?_⟩
  refine zGoR hΦ [] 400 (fun hL9 _ hM _ _ => ?_)
  obtain ⟨qL1, _⟩ : zrg w ∧ True := hL9
  refine ⟨hL.w, _, hL.r2, ⟨hL.tab.w, _, hL.tab.r6, ⟨zixW hL.tab.aTwk hL.tab.lTwk (i := w) (by omega) (by decide), _, (hL.tab.wk (by omega) (by omega)).1, ⟨hL.w, _, hL.r7, ⟨(hL.tab.wk (by omega) (by omega)).2, _, hr8, ⟨(ncap c (o.length + l8.length) - c), (2 * (ncap c (o.length + l8.length) - c)), ⟨(by omega), (by omega)⟩, ⟨⟨rfl, rfl⟩, hL.wSB.rcv⟩, ⟨668, s8, c, (ncap c (o.length + l8.length)), o, l8, rfl, hO.2.2, hz8, h64, (by omega), hne8, hlt8, (by first | omega | (simp only [List.length_append, List.length_singleton]; omega)), h46, (congrArg (ncap _) (by first | rfl | (simp only [List.length_append, List.length_singleton]; done) | (simp only [List.length_append, List.length_singleton]; omega))), (by omega), fun M1 hS1 hx1 => (have hO1 := hO.nx hS1 hx1; have hL1 := hCq.L hO1; have hT1 := hCq.T hO1; fun qg1 qm2 => ⟨rfl, ⟨hL1.w, _, hL1.r7, ⟨(ncap (ncap c (o.length + l8.length)) (o.length + l8.length + 1) - (ncap c (o.length + l8.length))), (2 * (ncap (ncap c (o.length + l8.length)) (o.length + l8.length + 1) - (ncap c (o.length + l8.length)))), ⟨(by omega), (by omega)⟩, ⟨⟨rfl, rfl⟩, hL1.wSB.rcv⟩, ⟨668, (ncap c (o.length + l8.length)), (ncap (ncap c (o.length + l8.length)) (o.length + l8.length + 1)), (o ++ l8), 58, rfl, hO1.2.2, (by first | omega | (simp only [List.length_append, List.length_singleton]; omega)), (congrArg (ncap _) (by first | rfl | (simp only [List.length_append, List.length_singleton]; done) | (simp only [List.length_append, List.length_singleton]; omega))), (by omega), fun M2 hS2 hx2 hvu2 => (have hO2 := hO1.nx hS2 hx2; have hL2 := hCq.L hO2; have hT2 := hCq.T hO2; fun qg3 qm4 => ⟨rfl, ⟨hL2.w, _, hL2.r7, ⟨(hL2.tab.wk (by omega) (by omega)).2, zIr ((hT2.w3 (w := w) (by omega) (by omega)).trans (htr)) (⟨(ncap (ncap (ncap c (o.length + l8.length)) (o.length + l8.length + 1)) (o.length + l8.length + 1 + (dig tr).length) - (ncap (ncap c (o.length + l8.length)) (o.length + l8.length + 1))), (2 * (ncap (ncap (ncap c (o.length + l8.length)) (o.length + l8.length + 1)) (o.length + l8.length + 1 + (dig tr).length) - (ncap (ncap c (o.length + l8.length)) (o.length + l8.length + 1)))), ⟨(by omega), (by omega)⟩, ⟨⟨rfl, rfl⟩, hL2.wSB.rcv⟩, ⟨668, (ncap (ncap c (o.length + l8.length)) (o.length + l8.length + 1)), (ncap (ncap (ncap c (o.length + l8.length)) (o.length + l8.length + 1)) (o.length + l8.length + 1 + (dig tr).length)), (o ++ l8 ++ [58]), tr, rfl, hO2.2.2, (by first | omega | (simp only [List.length_append, List.length_singleton]; omega)), (congrArg (ncap _) (by first | rfl | (simp only [List.length_append, List.length_singleton]; done) | (simp only [List.length_append, List.length_singleton]; omega))), (hCq.K hO2), (by omega), fun M3 hS3 hx3 => (have hO3 := hO2.nx hS3 hx3; have hL3 := hCq.L hO3; have hT3 := hCq.T hO3; fun qg5 qm6 => ⟨rfl, ⟨hL3.w, _, hL3.r2, ⟨⟨⟨rfl, rfl⟩, hL3.tab.w.rcv⟩, ⟨rfl, ⟨hL3.tab.w, _, hL3.tab.r6, ⟨zixW hL3.tab.aTwk hL3.tab.lTwk (i := w) (by omega) (by decide), _, (hL3.tab.wk (by omega) (by omega)).1, ⟨(hL3.tab.wk (by omega) (by omega)).2, zIr ((hT3.w3 (w := w) (by omega) (by omega)).trans (htr)) (⟨hL3.tab.w, zIr (hT3.t2.trans (hle)) (⟨fun (qc7 : tr ≥ le) => ⟨(Or.inl rfl), fun _ _ => ⟨fun _ => ⟨hL3.w, _, hL3.r7, ⟨(ncap (ncap (ncap (ncap c (o.length + l8.length)) (o.length + l8.length + 1)) (o.length + l8.length + 1 + (dig tr).length)) (o.length + l8.length + 1 + (dig tr).length + 1) - (ncap (ncap (ncap c (o.length + l8.length)) (o.length + l8.length + 1)) (o.length + l8.length + 1 + (dig tr).length))), (2 * (ncap (ncap (ncap (ncap c (o.length + l8.length)) (o.length + l8.length + 1)) (o.length + l8.length + 1 + (dig tr).length)) (o.length + l8.length + 1 + (dig tr).length + 1) - (ncap (ncap (ncap c (o.length + l8.length)) (o.length + l8.length + 1)) (o.length + l8.length + 1 + (dig tr).length)))), ⟨(by omega), (by omega)⟩, ⟨⟨rfl, rfl⟩, hL3.wSB.rcv⟩, ⟨668, (ncap (ncap (ncap c (o.length + l8.length)) (o.length + l8.length + 1)) (o.length + l8.length + 1 + (dig tr).length)), (ncap (ncap (ncap (ncap c (o.length + l8.length)) (o.length + l8.length + 1)) (o.length + l8.length + 1 + (dig tr).length)) (o.length + l8.length + 1 + (dig tr).length + 1)), (o ++ l8 ++ [58] ++ dig tr), 47, rfl, hO3.2.2, (by first | omega | (simp only [List.length_append, List.length_singleton]; omega)), (congrArg (ncap _) (by first | rfl | (simp only [List.length_append, List.length_singleton]; done) | (simp only [List.length_append, List.length_singleton]; omega))), (by omega), fun M4 hS4 hx4 hvu4 => (have hO4 := hO3.nx hS4 hx4; have hL4 := hCq.L hO4; have hT4 := hCq.T hO4; fun qg9 qm10 => ⟨rfl, ⟨hL4.w, _, hL4.r7, ⟨(hL4.tab.wk (by omega) (by omega)).2, zIr ((hT4.w9 (w := w) (by omega) (by omega)).trans (hpo)) (⟨(ncap (ncap (ncap (ncap (ncap c (o.length + l8.length)) (o.length + l8.length + 1)) (o.length + l8.length + 1 + (dig tr).length)) (o.length + l8.length + 1 + (dig tr).length + 1)) (o.length + l8.length + 1 + (dig tr).length + 1 + (dig po).length) - (ncap (ncap (ncap (ncap c (o.length + l8.length)) (o.length + l8.length + 1)) (o.length + l8.length + 1 + (dig tr).length)) (o.length + l8.length + 1 + (dig tr).length + 1))), (2 * (ncap (ncap (ncap (ncap (ncap c (o.length + l8.length)) (o.length + l8.length + 1)) (o.length + l8.length + 1 + (dig tr).length)) (o.length + l8.length + 1 + (dig tr).length + 1)) (o.length + l8.length + 1 + (dig tr).length + 1 + (dig po).length) - (ncap (ncap (ncap (ncap c (o.length + l8.length)) (o.length + l8.length + 1)) (o.length + l8.length + 1 + (dig tr).length)) (o.length + l8.length + 1 + (dig tr).length + 1)))), ⟨(by omega), (by omega)⟩, ⟨⟨rfl, rfl⟩, hL4.wSB.rcv⟩, ⟨668, (ncap (ncap (ncap (ncap c (o.length + l8.length)) (o.length + l8.length + 1)) (o.length + l8.length + 1 + (dig tr).length)) (o.length + l8.length + 1 + (dig tr).length + 1)), (ncap (ncap (ncap (ncap (ncap c (o.length + l8.length)) (o.length + l8.length + 1)) (o.length + l8.length + 1 + (dig tr).length)) (o.length + l8.length + 1 + (dig tr).length + 1)) (o.length + l8.length + 1 + (dig tr).length + 1 + (dig po).length)), (o ++ l8 ++ [58] ++ dig tr ++ [47]), po, rfl, hO4.2.2, (by first | omega | (simp only [List.length_append, List.length_singleton]; omega)), (congrArg (ncap _) (by first | rfl | (simp only [List.length_append, List.length_singleton]; done) | (simp only [List.length_append, List.length_singleton]; omega))), (hCq.K hO4), (by omega), fun M5 hS5 hx5 => (have hO5 := hO4.nx hS5 hx5; have hL5 := hCq.L hO5; have hT5 := hCq.T hO5; fun qg11 qm12 => ⟨rfl, (show K none M5 from ?g353l1)⟩)⟩⟩)⟩⟩⟩)⟩⟩⟩, fun (h : (0 : Int) ≠ 0) => absurd h (by decide)⟩⟩, fun (qc13 : tr < le) => ⟨(Or.inr rfl), fun _ _ => ⟨fun (h : (1 : Int) = 0) => absurd h (by decide), fun _ => ⟨hL3.w, _, hL3.r7, ⟨(ncap (ncap (ncap (ncap c (o.length + l8.length)) (o.length + l8.length + 1)) (o.length + l8.length + 1 + (dig tr).length)) (o.length + l8.length + 1 + (dig tr).length + 1) - (ncap (ncap (ncap c (o.length + l8.length)) (o.length + l8.length + 1)) (o.length + l8.length + 1 + (dig tr).length))), (2 * (ncap (ncap (ncap (ncap c (o.length + l8.length)) (o.length + l8.length + 1)) (o.length + l8.length + 1 + (dig tr).length)) (o.length + l8.length + 1 + (dig tr).length + 1) - (ncap (ncap (ncap c (o.length + l8.length)) (o.length + l8.length + 1)) (o.length + l8.length + 1 + (dig tr).length)))), ⟨(by omega), (by omega)⟩, ⟨⟨rfl, rfl⟩, hL3.wSB.rcv⟩, ⟨668, (ncap (ncap (ncap c (o.length + l8.length)) (o.length + l8.length + 1)) (o.length + l8.length + 1 + (dig tr).length)), (ncap (ncap (ncap (ncap c (o.length + l8.length)) (o.length + l8.length + 1)) (o.length + l8.length + 1 + (dig tr).length)) (o.length + l8.length + 1 + (dig tr).length + 1)), (o ++ l8 ++ [58] ++ dig tr), 33, rfl, hO3.2.2, (by first | omega | (simp only [List.length_append, List.length_singleton]; omega)), (congrArg (ncap _) (by first | rfl | (simp only [List.length_append, List.length_singleton]; done) | (simp only [List.length_append, List.length_singleton]; omega))), (by omega), fun M6 hS6 hx6 hvu6 => (have hO6 := hO3.nx hS6 hx6; have hL6 := hCq.L hO6; have hT6 := hCq.T hO6; fun qg15 qm16 => ⟨rfl, ⟨hL6.w, _, hL6.r7, ⟨(ncap (ncap (ncap (ncap (ncap c (o.length + l8.length)) (o.length + l8.length + 1)) (o.length + l8.length + 1 + (dig tr).length)) (o.length + l8.length + 1 + (dig tr).length + 1)) (o.length + l8.length + 1 + (dig tr).length + 1 + 1) - (ncap (ncap (ncap (ncap c (o.length + l8.length)) (o.length + l8.length + 1)) (o.length + l8.length + 1 + (dig tr).length)) (o.length + l8.length + 1 + (dig tr).length + 1))), (2 * (ncap (ncap (ncap (ncap (ncap c (o.length + l8.length)) (o.length + l8.length + 1)) (o.length + l8.length + 1 + (dig tr).length)) (o.length + l8.length + 1 + (dig tr).length + 1)) (o.length + l8.length + 1 + (dig tr).length + 1 + 1) - (ncap (ncap (ncap (ncap c (o.length + l8.length)) (o.length + l8.length + 1)) (o.length + l8.length + 1 + (dig tr).length)) (o.length + l8.length + 1 + (dig tr).length + 1)))), ⟨(by omega), (by omega)⟩, ⟨⟨rfl, rfl⟩, hL6.wSB.rcv⟩, ⟨668, (ncap (ncap (ncap (ncap c (o.length + l8.length)) (o.length + l8.length + 1)) (o.length + l8.length + 1 + (dig tr).length)) (o.length + l8.length + 1 + (dig tr).length + 1)), (ncap (ncap (ncap (ncap (ncap c (o.length + l8.length)) (o.length + l8.length + 1)) (o.length + l8.length + 1 + (dig tr).length)) (o.length + l8.length + 1 + (dig tr).length + 1)) (o.length + l8.length + 1 + (dig tr).length + 1 + 1)), (o ++ l8 ++ [58] ++ dig tr ++ [33]), 47, rfl, hO6.2.2, (by first | omega | (simp only [List.length_append, List.length_singleton]; omega)), (congrArg (ncap _) (by first | rfl | (simp only [List.length_append, List.length_singleton]; done) | (simp only [List.length_append, List.length_singleton]; omega))), (by omega), fun M7 hS7 hx7 hvu7 => (have hO7 := hO6.nx hS7 hx7; have hL7 := hCq.L hO7; have hT7 := hCq.T hO7; fun qg17 qm18 => ⟨rfl, ⟨hL7.w, _, hL7.r7, ⟨(hL7.tab.wk (by omega) (by omega)).2, zIr ((hT7.w9 (w := w) (by omega) (by omega)).trans (hpo)) (⟨(ncap (ncap (ncap (ncap (ncap (ncap c (o.length + l8.length)) (o.length + l8.length + 1)) (o.length + l8.length + 1 + (dig tr).length)) (o.length + l8.length + 1 + (dig tr).length + 1)) (o.length + l8.length + 1 + (dig tr).length + 1 + 1)) (o.length + l8.length + 1 + (dig tr).length + 1 + 1 + (dig po).length) - (ncap (ncap (ncap (ncap (ncap c (o.length + l8.length)) (o.length + l8.length + 1)) (o.length + l8.length + 1 + (dig tr).length)) (o.length + l8.length + 1 + (dig tr).length + 1)) (o.length + l8.length + 1 + (dig tr).length + 1 + 1))), (2 * (ncap (ncap (ncap (ncap (ncap (ncap c (o.length + l8.length)) (o.length + l8.length + 1)) (o.length + l8.length + 1 + (dig tr).length)) (o.length + l8.length + 1 + (dig tr).length + 1)) (o.length + l8.length + 1 + (dig tr).length + 1 + 1)) (o.length + l8.length + 1 + (dig tr).length + 1 + 1 + (dig po).length) - (ncap (ncap (ncap (ncap (ncap c (o.length + l8.length)) (o.length + l8.length + 1)) (o.length + l8.length + 1 + (dig tr).length)) (o.length + l8.length + 1 + (dig tr).length + 1)) (o.length + l8.length + 1 + (dig tr).length + 1 + 1)))), ⟨(by omega), (by omega)⟩, ⟨⟨rfl, rfl⟩, hL7.wSB.rcv⟩, ⟨668, (ncap (ncap (ncap (ncap (ncap c (o.length + l8.length)) (o.length + l8.length + 1)) (o.length + l8.length + 1 + (dig tr).length)) (o.length + l8.length + 1 + (dig tr).length + 1)) (o.length + l8.length + 1 + (dig tr).length + 1 + 1)), (ncap (ncap (ncap (ncap (ncap (ncap c (o.length + l8.length)) (o.length + l8.length + 1)) (o.length + l8.length + 1 + (dig tr).length)) (o.length + l8.length + 1 + (dig tr).length + 1)) (o.length + l8.length + 1 + (dig tr).length + 1 + 1)) (o.length + l8.length + 1 + (dig tr).length + 1 + 1 + (dig po).length)), (o ++ l8 ++ [58] ++ dig tr ++ [33] ++ [47]), po, rfl, hO7.2.2, (by first | omega | (simp only [List.length_append, List.length_singleton]; omega)), (congrArg (ncap _) (by first | rfl | (simp only [List.length_append, List.length_singleton]; done) | (simp only [List.length_append, List.length_singleton]; omega))), (hCq.K hO7), (by omega), fun M8 hS8 hx8 => (have hO8 := hO7.nx hS8 hx8; have hL8 := hCq.L hO8; have hT8 := hCq.T hO8; fun qg19 qm20 => ⟨rfl, (show K none M8 from ?g353l2)⟩)⟩⟩)⟩⟩⟩)⟩⟩⟩⟩)⟩⟩⟩⟩⟩⟩)⟩)⟩⟩⟩⟩⟩⟩⟩)⟩⟩)⟩⟩⟩)⟩⟩⟩⟩)⟩⟩⟩⟩⟩⟩⟩
  case g353l1 =>
    first
    | (exfalso; omega)
    | skip
      have h9 := hO5
      refine hK _ ?_
      first
      | (have z : tr < le := by omega
         rw [hd1 z] at h9; rw [if_pos z]; simp only [List.append_assoc, List.cons_append, List.nil_append] at h9 ⊢; exact h9)
      | (have z : ¬ tr < le := by omega
         rw [hd2 z] at h9; rw [if_neg z]; simp only [List.append_assoc, List.cons_append, List.nil_append] at h9 ⊢; exact h9)
  case g353l2 =>
    first
    | (exfalso; omega)
    | skip
      have h9 := hO8
      refine hK _ ?_
      first
      | (have z : tr < le := by omega
         rw [hd1 z] at h9; rw [if_pos z]; simp only [List.append_assoc, List.cons_append, List.nil_append] at h9 ⊢; exact h9)
      | (have z : ¬ tr < le := by omega
         rw [hd2 z] at h9; rw [if_neg z]; simp only [List.append_assoc, List.cons_append, List.nil_append] at h9 ⊢; exact h9)
theorem M_X8_putWorker {l : Launch} (hl : l.stackTraces = false) (ca cb : Nat) : zMet l yX8_putWorker (Cond.code yX8_putWorker cX8_putWorker 3 (Option.none : Option Jvm.ClassFile.FieldType) :: zG) (rm_X8_putWorker ca cb) ca cb (T_X8_putWorker ca cb) := met_X8_putWorker hl (M_J4_append_15ec4 hl) (M_J4_append_cf468 hl) (M_J4_append_bf812 hl) (M_X5_isSuspended hl) (bd_X8_putWorker ca cb)
