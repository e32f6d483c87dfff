theorem fRisk_0 {G : Gm} {r : Int} (h : 0 ≤ G 4 ∧ G 4 ≤ 6) (hb : (G (132 + 16 * r + 5).toNat) = 0) : fRisk G r = -1 := by
  refine foldI_inv (fun i l => l = -1) rfl (fun i x h0 h1 hx => ?_) (G 4) h.1 (Int.le_refl _)
  unfold fRiskS
  rw [hb, hasB_0 h0 (by omega), if_neg (fun q => Bool.false_ne_true q.1)]
  exact hx
theorem hasB_2 {a b k : Int} (ha : 0 ≤ a ∧ a < 6) (hb : 0 ≤ b ∧ b < 6) (hk : 0 ≤ k ∧ k < 6) : hasB (zor (zshl 1 a) (zshl 1 b)) k = (decide (k = a) || decide (k = b)) := by
  have e : zshl 1 a = zor 0 (zshl 1 a) := by
    have h9 := zshl_1r ha.1 (by omega : a < 31)
    rw [zor_nat (by decide) (by decide) (by omega) h9.2]
    simp only [Int.toNat_zero, Nat.zero_or]
    omega
  have z1 := zor_b (s := 0) (i := a) (by decide) (by decide) ha.1 (by omega)
  have z2 := zor_b (s := zor 0 (zshl 1 a)) (i := b) z1.1.1 z1.1.2 hb.1 (by omega)
  rw [e, z2.2 k hk.1 (by omega), z1.2 k hk.1 (by omega), hasB_0 hk.1 (by omega), Bool.false_or]
theorem fRisk_2 {G : Gm} {r a b : Int} (h : 0 ≤ G 4 ∧ G 4 ≤ 6) (hV : GV G) (ha : 0 ≤ a ∧ a < G 4) (hb : 0 ≤ b ∧ b < G 4) (hy : (G (132 + 16 * r + 5).toNat) = zor (zshl 1 a) (zshl 1 b)) : fRisk G r = zmin (G (6 + 9 * a + 3).toNat) (G (6 + 9 * b + 3).toNat) := by
  have hw := fun w q0 q1 => (hV.2.2.2.2.1 w q0 q1).2.2.1
  have hwa := hw a ha.1 ha.2
  have hwb := hw b hb.1 hb.2
  have key := foldI_inv (s := fRiskS G r) (a := -1) (n := G 4) (fun i l => l = if a < i then (if b < i then zmin (G (6 + 9 * a + 3).toNat) (G (6 + 9 * b + 3).toNat) else (G (6 + 9 * a + 3).toNat)) else (if b < i then (G (6 + 9 * b + 3).toNat) else -1)) (by rw [if_neg (by omega), if_neg (by omega)]) (fun i x h0 h1 hx => ?_) (G 4) h.1 (Int.le_refl _)
  · rw [if_pos ha.2, if_pos hb.2] at key
    exact key
  · unfold fRiskS
    have hwi := hw i h0 h1
    rw [hy, hasB_2 ⟨ha.1, by omega⟩ ⟨hb.1, by omega⟩ ⟨h0, by omega⟩, hx]
    unfold zmin
    clear hw hx hV hy
    grind
theorem fRisk_b {G : Gm} {r : Int} (h : 0 ≤ G 4 ∧ G 4 ≤ 6) (hV : GV G) : -1 ≤ fRisk G r ∧ fRisk G r ≤ 20 := by
  refine foldI_inv (fun i l => -1 ≤ l ∧ l ≤ 20) (by decide) (fun i x h0 h1 hx => ?_) (G 4) h.1 (Int.le_refl _)
  have hw := (hV.2.2.2.2.1 i h0 h1).2.2.1
  unfold fRiskS
  split <;> omega
theorem fDueR_l {G : Gm} {r l : Int} (hm : 0 ≤ (G (132 + 16 * r + 6).toNat)) (hp : ∀ k, 0 ≤ k → k < (G (132 + 16 * r + 6).toNat) → 0 ≤ (G (132 + 16 * r + (7 + 3 * k + 2)).toNat)) (hl : -1 ≤ l) : fDueR G r l = (if fDueR G r (-1) ≠ -1 ∧ (l = -1 ∨ fDueR G r (-1) < l) then fDueR G r (-1) else l) ∧ -1 ≤ fDueR G r (-1) := by
  have key : ∀ k, 0 ≤ k → k ≤ (G (132 + 16 * r + 6).toNat) → foldI (fDueS G r) l k = (if foldI (fDueS G r) (-1) k ≠ -1 ∧ (l = -1 ∨ foldI (fDueS G r) (-1) k < l) then foldI (fDueS G r) (-1) k else l) ∧ -1 ≤ foldI (fDueS G r) (-1) k := by
    refine zup (fun k => foldI (fDueS G r) l k = (if foldI (fDueS G r) (-1) k ≠ -1 ∧ (l = -1 ∨ foldI (fDueS G r) (-1) k < l) then foldI (fDueS G r) (-1) k else l) ∧ -1 ≤ foldI (fDueS G r) (-1) k) ⟨by rw [foldI_0, foldI_0, if_neg (fun q => q.1 rfl)], by rw [foldI_0]; decide⟩ (fun k h0 h1 ⟨e1, e2⟩ => ?_)
    rw [foldI_s h0, foldI_s h0, e1]
    have hd := hp k h0 h1
    generalize foldI (fDueS G r) (-1) k = x at *
    unfold fDueS
    generalize (G (132 + 16 * r + (7 + 3 * k + 2)).toNat) = d at *
    generalize (G (132 + 16 * r + (7 + 3 * k + 1)).toNat) = s at *
    clear hp hm
    grind
  exact key _ hm (Int.le_refl _)
def T_X8_requireRange : ZTf := fun av M K KX => ∃ (v a b : Int), av = [zi v, zi a, zi b] ∧  ((a ≤ v ∧ v ≤ b) → K none M) ∧ ((¬(a ≤ v ∧ v ≤ b)) → KX 1 M)
set_option maxRecDepth 100000 in
set_option maxHeartbeats 4000000 in
theorem bd_X8_requireRange : zBd (cd_X8_requireRange) 3 1 6 T_X8_requireRange := by
  rintro av M K KX hA0 hM ⟨v, a, b, rfl, hK, hX9e⟩
  refine ⟨rfl, fun Φ hΦ => ?_⟩
  refine zGoR hΦ [] 400 (fun hL9 _ hM _ _ => ?_)
  obtain ⟨qL1, qL2, qL3, _⟩ : zrg v ∧ zrg a ∧ zrg b ∧ True := hL9
  refine ⟨fun (qc1 : v < a) => ⟨⟨(by decide), (by decide)⟩, (Nat.le_of_ble_eq_true rfl), (show KX 1 M from ?g101l1)⟩, fun (qc2 : v ≥ a) => ⟨fun (qc3 : v ≤ b) => (show K none M from ?g101l2), fun (qc4 : v > b) => ⟨⟨(by decide), (by decide)⟩, (Nat.le_of_ble_eq_true rfl), (show KX 1 M from ?g101l3)⟩⟩⟩
  case g101l1 => first | (exfalso; omega) | (exact (hX9e (by omega))) | (exact (hX9e (by omega)) (by omega)) | (refine (hX9e (by omega)) ?_; simp [qc1, Int.not_le.mpr qc1]) | (simpa [qc1, Int.not_le.mpr qc1] using (hX9e (by omega)))
  case g101l2 => first | (exfalso; omega) | (exact (hK (by omega)))
  case g101l3 => first | (exfalso; omega) | (exact (hX9e (by omega))) | (exact (hX9e (by omega)) (by omega)) | (refine (hX9e (by omega)) ?_; simp [qc2, qc4, Int.not_lt.mpr qc2, Int.not_le.mpr qc4]) | (simpa [qc2, qc4, Int.not_lt.mpr qc2, Int.not_le.mpr qc4] using (hX9e (by omega)))
theorem M_X8_requireRange {l : Launch} (hl : l.stackTraces = false) : zMet l yX8_requireRange (Cond.code yX8_requireRange cX8_requireRange 3 (Option.none : Option Jvm.ClassFile.FieldType) :: zG) rm_X8_requireRange 1 6 T_X8_requireRange := met_X8_requireRange hl bd_X8_requireRange
def T_X8_requireWorker : ZTf := fun av M K KX => ∃ (G : Gm) (w : Int), av = [zo 64, zi w] ∧ (LV M) ∧ (TR M 129 G) ∧  ((0 ≤ w ∧ w < G 4) → K none M) ∧ ((¬(0 ≤ w ∧ w < G 4)) → KX 0 M)
set_option maxRecDepth 100000 in
set_option maxHeartbeats 4000000 in
theorem bd_X8_requireWorker : zBd (cd_X8_requireWorker) 2 1 6 T_X8_requireWorker := by
  rintro av M K KX hA0 hM ⟨G, w, rfl, hL, hT, hK, hX9e⟩
  refine ⟨rfl, fun Φ hΦ => ?_⟩
  refine zGoR hΦ [] 400 (fun hL9 _ hM _ _ => ?_)
  obtain ⟨qL1, _⟩ : zrg w ∧ True := hL9
  refine ⟨fun (qc1 : w < 0) => ⟨⟨(by decide), (by decide)⟩, (Nat.le_of_ble_eq_true rfl), (show KX 0 M from ?g103l1)⟩, fun (qc2 : w ≥ 0) => ⟨hL.w, _, hL.r2, ⟨hL.tab.w, zIr hT.t4 (⟨fun (qc3 : w < G 4) => (show K none M from ?g103l2), fun (qc4 : w ≥ G 4) => ⟨⟨(by decide), (by decide)⟩, (Nat.le_of_ble_eq_true rfl), (show KX 0 M from ?g103l3)⟩⟩)⟩⟩⟩
  case g103l1 => first | (exfalso; omega) | (exact (hX9e (by omega))) | (exact (hX9e (by omega)) (by omega)) | (refine (hX9e (by omega)) ?_; simp [qc1, Int.not_le.mpr qc1]) | (simpa [qc1, Int.not_le.mpr qc1] using (hX9e (by omega)))
  case g103l2 => first | (exfalso; omega) | (exact (hK (by omega)))
  case g103l3 => first | (exfalso; omega) | (exact (hX9e (by omega))) | (exact (hX9e (by omega)) (by omega)) | (refine (hX9e (by omega)) ?_; simp [qc2, qc4, Int.not_lt.mpr qc2, Int.not_lt.mpr qc4]) | (simpa [qc2, qc4, Int.not_lt.mpr qc2, Int.not_lt.mpr qc4] using (hX9e (by omega)))
theorem M_X8_requireWorker {l : Launch} (hl : l.stackTraces = false) : zMet l yX8_requireWorker (Cond.code yX8_requireWorker cX8_requireWorker 2 (Option.none : Option Jvm.ClassFile.FieldType) :: zG) rm_X8_requireWorker 1 6 T_X8_requireWorker := met_X8_requireWorker hl bd_X8_requireWorker
def T_X8_requireRow : ZTf := fun av M K KX => ∃ (G : Gm) (r : Int), av = [zo 64, zi r] ∧ (LV M) ∧ (TR M 129 G) ∧  ((0 ≤ r ∧ r < G 5) → K none M) ∧ ((¬(0 ≤ r ∧ r < G 5)) → KX 0 M)
set_option maxRecDepth 100000 in
set_option maxHeartbeats 4000000 in
theorem bd_X8_requireRow : zBd (cd_X8_requireRow) 2 1 6 T_X8_requireRow := by
  rintro av M K KX hA0 hM ⟨G, r, rfl, hL, hT, hK, hX9e⟩
  refine ⟨rfl, fun Φ hΦ => ?_⟩
  refine zGoR hΦ [] 400 (fun hL9 _ hM _ _ => ?_)
  obtain ⟨qL1, _⟩ : zrg r ∧ True := hL9
  refine ⟨fun (qc1 : r < 0) => ⟨⟨(by decide), (by decide)⟩, (Nat.le_of_ble_eq_true rfl), (show KX 0 M from ?g104l1)⟩, fun (qc2 : r ≥ 0) => ⟨hL.w, _, hL.r2, ⟨hL.tab.w, zIr hT.t5 (⟨fun (qc3 : r < G 5) => (show K none M from ?g104l2), fun (qc4 : r ≥ G 5) => ⟨⟨(by decide), (by decide)⟩, (Nat.le_of_ble_eq_true rfl), (show KX 0 M from ?g104l3)⟩⟩)⟩⟩⟩
  case g104l1 => first | (exfalso; omega) | (exact (hX9e (by omega))) | (exact (hX9e (by omega)) (by omega)) | (refine (hX9e (by omega)) ?_; simp [qc1, Int.not_le.mpr qc1]) | (simpa [qc1, Int.not_le.mpr qc1] using (hX9e (by omega)))
  case g104l2 => first | (exfalso; omega) | (exact (hK (by omega)))
  case g104l3 => first | (exfalso; omega) | (exact (hX9e (by omega))) | (exact (hX9e (by omega)) (by omega)) | (refine (hX9e (by omega)) ?_; simp [qc2, qc4, Int.not_lt.mpr qc2, Int.not_lt.mpr qc4]) | (simpa [qc2, qc4, Int.not_lt.mpr qc2, Int.not_lt.mpr qc4] using (hX9e (by omega)))
theorem M_X8_requireRow {l : Launch} (hl : l.stackTraces = false) : zMet l yX8_requireRow (Cond.code yX8_requireRow cX8_requireRow 2 (Option.none : Option Jvm.ClassFile.FieldType) :: zG) rm_X8_requireRow 1 6 T_X8_requireRow := met_X8_requireRow hl bd_X8_requireRow
def T_X8_requireInWork : ZTf := fun av M K KX => ∃ (G : Gm) (w r : Int), av = [zo 64, zi w, zi r] ∧ (LV M) ∧ (TR M 129 G) ∧ (0 ≤ r ∧ r < G 5) ∧ (GI G) ∧  ((fWorksAt G w r = true) → K (some (zi (fTakingOf G w r))) M) ∧ ((fWorksAt G w r = false) → KX 2 M)
set_option maxRecDepth 100000 in
set_option maxHeartbeats 4000000 in
theorem bd_X8_requireInWork : zBd (cd_X8_requireInWork T_X4_takingBy T_X4_isInWork) 4 1 6 T_X8_requireInWork := by
  rintro av M K KX hA0 hM ⟨G, w, r, rfl, hL, hT, hp0, hG, hK, hX9e⟩
  obtain ⟨hw5, hr5, hR5⟩ := id hG
  have hRr := hR5 r hp0.1 hp0.2
  obtain ⟨hr, hm, hk⟩ := id hRr
  have ht := fTakingOf_r G w r hm.1
  refine ⟨rfl, fun Φ hΦ => ?_⟩
  refine zGoR hΦ [] 400 (fun hL9 _ hM _ _ => ?_)
  obtain ⟨qL1, qL2, _⟩ : zrg w ∧ zrg r ∧ True := hL9
  refine ⟨hL.w, _, hL.r2, ⟨hL.tab.w, _, hL.tab.r7, ⟨zixW hL.tab.aTrow hL.tab.lTrow (i := r) (by omega) (by decide), _, (hL.tab.row (by omega) (by omega)).1, ⟨⟨⟨rfl, rfl⟩, (hL.tab.row (by omega) (by omega)).2.w.rcv⟩, ⟨129, G, r, w, rfl, hL.tab, hT, (by omega), hG, fun (qg1 : zrg (fTakingOf G w r)) qm2 => ⟨fun (qc3 : fTakingOf G w r = (-1)) => ⟨⟨(by decide), (by decide)⟩, (Nat.le_of_ble_eq_true rfl), (show KX 2 M from ?g105l1)⟩, fun (qc4 : fTakingOf G w r ≠ (-1)) => ⟨hL.w, _, hL.r2, ⟨hL.tab.w, _, hL.tab.r7, ⟨zixW hL.tab.aTrow hL.tab.lTrow (i := r) (by omega) (by decide), _, (hL.tab.row (by omega) (by omega)).1, ⟨⟨⟨rfl, rfl⟩, (hL.tab.row (by omega) (by omega)).2.w.rcv⟩, ⟨rfl, ⟨⟨⟨rfl, rfl⟩, (hL.tab.row (by omega) (by omega)).2.w.rcv⟩, ⟨rfl, ⟨(hL.tab.row (by omega) (by omega)).2.w, _, (hL.tab.row (by omega) (by omega)).2.r9, ⟨(zrgI (x := (fTakingOf G w r) * 3) (by omega)), ⟨(zrgI (x := (fTakingOf G w r) * 3 + 1) (by omega)), ⟨zixO (hL.tab.row (by omega) (by omega)).2.a9 (hL.tab.row (by omega) (by omega)).2.l9 (i := (fTakingOf G w r) * 3 + 1) (by omega) (by decide), zIr (hT.k1 (r := r) (k := fTakingOf G w r) (by omega) (by omega) (by omega) (by omega)) (⟨trivial, fun (qg5 : zrg ((G (132 + 16 * r + (7 + 3 * (fTakingOf G w r) + 1)).toNat))) _ => ⟨fun (qc6 : (G (132 + 16 * r + (7 + 3 * (fTakingOf G w r) + 1)).toNat) ≠ (-1)) => ⟨(Or.inl rfl), fun _ _ => ⟨fun (h : (0 : Int) ≠ 0) => absurd h (by decide), fun _ => ⟨⟨(by decide), (by decide)⟩, (Nat.le_of_ble_eq_true rfl), (show KX 2 M from ?g105l2)⟩⟩⟩, fun (qc8 : (G (132 + 16 * r + (7 + 3 * (fTakingOf G w r) + 1)).toNat) = (-1)) => ⟨(Or.inr rfl), fun _ _ => ⟨fun _ => ⟨trivial, (show K (some (zi (fTakingOf G w r))) M from ?g105l3)⟩, fun (h : (1 : Int) = 0) => absurd h (by decide)⟩⟩⟩⟩)⟩⟩⟩⟩⟩⟩⟩⟩⟩⟩⟩⟩⟩⟩⟩⟩⟩
  case g105l1 => exact hX9e (by simp [fWorksAt, qc3])
  case g105l2 => exact hX9e (by simp [fWorksAt, qc4, qc6])
  case g105l3 => exact hK (by simp [fWorksAt, qc4, qc8])
theorem M_X8_requireInWork {l : Launch} (hl : l.stackTraces = false) : zMet l yX8_requireInWork (Cond.code yX8_requireInWork cX8_requireInWork 4 (Option.some Jvm.ClassFile.FieldType.int) :: zG) rm_X8_requireInWork 1 6 T_X8_requireInWork := met_X8_requireInWork hl (M_X4_takingBy hl) (M_X4_isInWork hl) bd_X8_requireInWork
