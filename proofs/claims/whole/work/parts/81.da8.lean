/-! the class: a row, the workers, written -/

def T_X8_writeRow : ZTf := fun av M K KX => ∃ (G : Gm) (r : Int), av = [zo 64, zi r] ∧ (CQ M G) ∧ (OB0 M) ∧  ((0 ≤ r ∧ r < G 5) → (∀ M' : ZM, (∃ c, OC M M' c (txs (tkTx G r) (G (132 + 16 * r + 6).toNat))) → K (some (zi (((txs (tkTx G r) (G (132 + 16 * r + 6).toNat)).length : Int)))) M')) ∧ ((¬(0 ≤ r ∧ r < G 5)) → KX 0 M)
set_option maxRecDepth 100000 in
set_option maxHeartbeats 1500000 in
theorem bd_X8_writeRow : zBd (cd_X8_writeRow T_X8_requireRow T_J4_setLength_d00df T_X8_separate T_X8_putTaking T_J4_length_8abf5) 3 300 600 T_X8_writeRow := by
  rintro av M K KX hA0 hM ⟨G, r, rfl, hCq, hB0, hK, hX0⟩
  obtain ⟨-, -, -, hG, hV9, hX9⟩ := id hCq
  obtain ⟨hw5, hr5, hR5⟩ := id hG
  have hL := hCq.1
  have hT := hCq.2.1
  obtain ⟨c0, o0, hS⟩ := hB0.2.2
  have hO := hB0.now hS
  have hm3 := fun (z : 0 ≤ r ∧ r < G 5) => (hR5 r z.1 z.2).2.1
  refine ⟨rfl, fun Φ hΦ => ?_⟩
  have hfB : (0 ≤ r ∧ r < G 5) → ∀ i : Int, 0 ≤ i → i < (G (132 + 16 * r + 6).toNat) → (tkPc G r i).sum = ((tkTx G r) i).length ∧ 1 ≤ ((tkTx G r) i).length ∧ ((tkTx G r) i).length ≤ 13 := fun _ i i0 i1 => tkPc_s G r i
  have loop : (0 ≤ r ∧ r < G 5) → ∀ i, 0 ≤ i → i ≤ (G (132 + 16 * r + 6).toNat) → ∀ (M90 : ZM) (o7 : List Int) (c k n : Nat), OC M M90 c o7 → o7 = txs (tkTx G r) i → k + c0 ≤ c + 1 → n + 2 * c0 ≤ 2 * c + 6 → (c = c0 ∨ c ≤ 86) → Φ 15 [some (zo 64), some (zi r), some (zi i)] [] M90 k n := by
    intro hok
    refine zdown (n := (G (132 + 16 * r + 6).toNat)) (P := fun i => ∀ (M90 : ZM) (o7 : List Int) (c k n : Nat), OC M M90 c o7 → o7 = txs (tkTx G r) i → k + c0 ≤ c + 1 → n + 2 * c0 ≤ 2 * c + 6 → (c = c0 ∨ c ≤ 86) → Φ 15 [some (zo 64), some (zi r), some (zi i)] [] M90 k n) (fun i h0 h1 ih M90 o7 c k n hO90 ho7 hk0 hn0 hc0 => ?_)
    have hL90 := hCq.L hO90
    have hT90 := hCq.T hO90
    have hS90 := hO90.2.2
    have hb1 := txs_b (f := tkTx G r) (B := 13) i.toNat (fun j j0 j1 => (hfB hok j j0 (by omega)).2.2)
    rw [show ((i.toNat : Nat) : Int) = i by omega, ← ho7] at hb1
    have hwg := wgap_t (f := tkTx G r) (i := i) h0 (fun j j0 j1 => (hfB hok j j0 (by omega)).2.1)
    rw [← ho7] at hwg
    obtain ⟨c1, hc1⟩ : ∃ c1, (if 0 < i then ncap c (o7.length + 1) else c) = c1 := ⟨_, rfl⟩
    have hg1 : c ≤ c1 ∧ (c1 = c ∨ c1 ≤ 2 * (o7.length + 1)) := by
      split at hc1
      · have := ncap_g hc1; omega
      · omega
    have hd1 : (0 < i → ncap c (o7.length + 1) = c1) ∧ (i ≤ 0 → c = c1) := by
      refine ⟨fun q => ?_, fun q => ?_⟩
      · rw [if_pos q] at hc1; exact hc1
      · rw [if_neg (by omega)] at hc1; exact hc1
    obtain ⟨o8, ho8⟩ : ∃ o8, (if 0 < i then o7 ++ [32] else o7) = o8 := ⟨_, rfl⟩
    rw [ho8] at hwg
    have hl8 : o8.length ≤ o7.length + 1 ∧ o7.length ≤ o8.length := by
      rw [← ho8]
      split
      · rw [List.length_append, List.length_singleton]; omega
      · omega
    obtain ⟨c2, hc2⟩ : ∃ c2, ncs c1 o8.length (tkPc G r i) = c2 := ⟨_, rfl⟩
    have hfi := fun q : i < (G (132 + 16 * r + 6).toNat) => hfB hok i h0 q
    have hcl : o7.length ≤ c := hO90.2.2.2.2.2.1.1
    refine zGoR hΦ [15] 400 (fun hL9 _ hM _ _ => ?_)
    obtain ⟨qL1, qL2, _⟩ : zrg r ∧ zrg i ∧ True := hL9
    refine ⟨hL90.w, _, hL90.r2, ⟨hL90.tab.w, _, hL90.tab.r7, ⟨zixW hL90.tab.aTrow hL90.tab.lTrow (i := r) (by omega) (by decide), _, (hL90.tab.row (by omega) (by omega)).1, ⟨(hL90.tab.row (by omega) (by omega)).2.w, zIr ((hT90.r8 (r := r) (by omega) (by omega))) (⟨fun (qc1 : i ≥ (G (132 + 16 * r + 6).toNat)) => ⟨hL90.w, _, hL90.r7, ⟨⟨⟨rfl, rfl⟩, hL90.wSB.rcv⟩, ⟨668, c, o7, rfl, hS90, fun (qg2 : zrg ((o7.length : Int))) qm3 => ⟨trivial, (show K (some (zi (o7.length : Int))) M90 from ?g354l1)⟩⟩⟩⟩, fun (qc4 : i < (G (132 + 16 * r + 6).toNat)) => ⟨(c1 - c), (2 * (c1 - c)), ⟨(by omega), (by omega)⟩, ⟨⟨rfl, rfl⟩, hL90.w.rcv⟩, ⟨M, G, c, c1, o7, i, rfl, hCq, hO90, (by omega), hd1, (by omega), fun M1 hO1 => (have hO1o : OC M M1 c1 o8 := (by rw [ho8] at hO1; exact hO1); have hL1 := hCq.L hO1o; have hT1 := hCq.T hO1o; have hcc := ncs_g _ hc2 hO1o.2.2.2.2.2.1.1; fun qg5 qm6 => ⟨hL1.w, _, hL1.r2, ⟨hL1.tab.w, _, hL1.tab.r7, ⟨zixW hL1.tab.aTrow hL1.tab.lTrow (i := r) (by omega) (by decide), _, (hL1.tab.row (by omega) (by omega)).1, ⟨(c2 - c1), (2 * (c2 - c1)), ⟨(by have hq9 := hfi (by omega); have hq8 := hcc; omega), (by have hq9 := hfi (by omega); have hq8 := hcc; omega)⟩, ⟨⟨rfl, rfl⟩, hL1.w.rcv⟩, ⟨M, G, c1, c2, o8, r, i, rfl, hCq, (by omega), (by omega), (hO1o), (by omega), hc2, (by omega), fun M2 hO2 => (have hL2 := hCq.L hO2; have hT2 := hCq.T hO2; fun qg7 qm8 => ⟨(zrgI (x := i + 1) (by omega)), (show Φ 15 [some (zo 64), some (zi r), some (zi (i + 1))] [] M2 (k + (c1 - c) + (c2 - c1)) (n + (2 * (c1 - c)) + (2 * (c2 - c1))) from ?g354l2)⟩)⟩⟩⟩⟩⟩)⟩⟩⟩)⟩⟩⟩⟩
    case g354l1 =>
      have e9n : i = (G (132 + 16 * r + 6).toNat) := (by omega)
      subst e9n
      have h9 := hK hok M90 ⟨c, by rw [← ho7]; exact hO90⟩
      rw [← ho7] at h9
      exact h9
    case g354l2 =>
      have hq9 := hfi (by omega)
      have hq8 := hcc
      refine ih (by omega) M2 _ c2 _ _ hO2 ?_ (by omega) (by omega) (by omega)
      rw [txs_s h0, ← ho7, hwg]
  refine zGoR hΦ [15] 400 (fun hL9 _ hM _ _ => ?_)
  obtain ⟨qL1, _⟩ : zrg r ∧ True := hL9
  refine ⟨⟨(by decide), (by decide)⟩, ⟨⟨rfl, rfl⟩, hL.w.rcv⟩, ⟨G, r, rfl, hL, hT, fun (qc3 : 0 ≤ r ∧ r < G 5) => fun qg1 qm2 => ⟨hL.w, _, hL.r7, ⟨0, 0, ⟨(by omega), (by omega)⟩, ⟨⟨rfl, rfl⟩, hL.wSB.rcv⟩, ⟨668, c0, o0, rfl, hS, fun M1 hS1 hx1 hvu1 => (fun qg4 qm5 => (show Φ 15 [some (zo 64), some (zi r), some (zi 0)] [] M1 (0 + 1 + 0) (0 + 6 + 0) from ?g355l1))⟩⟩⟩, fun (qc6 : ¬(0 ≤ r ∧ r < G 5)) => (show KX 0 M from ?g355l2)⟩⟩
  case g355l1 =>
    have hO8 : OC M M1 c0 [] := hO.nx hS1 hx1
    exact loop (by omega) 0 (by omega) (by omega) M1 [] c0 _ _ hO8 rfl (by omega) (by omega) (Or.inl rfl)
  case g355l2 => exact hX0 (by omega)
theorem M_X8_writeRow {l : Launch} (hl : l.stackTraces = false) : zMet l yX8_writeRow (Cond.code yX8_writeRow cX8_writeRow 3 (Option.some Jvm.ClassFile.FieldType.int) :: zG) rm_X8_writeRow 300 600 T_X8_writeRow := met_X8_writeRow hl (M_X8_requireRow hl) (M_J4_setLength_d00df hl) (M_X8_separate hl) (M_X8_putTaking hl) (M_J4_length_8abf5 hl) bd_X8_writeRow

def T_X8_writeWorkers : ZTf := fun av M K KX => ∃ (G : Gm), av = [zo 64] ∧ (CQ M G) ∧ (OB0 M) ∧  (∀ M' : ZM, (∃ c, OC M M' c (txs (wkTx G) (G 4))) → K (some (zi (((txs (wkTx G) (G 4)).length : Int)))) M')
set_option maxRecDepth 100000 in
set_option maxHeartbeats 1500000 in
theorem bd_X8_writeWorkers : zBd (cd_X8_writeWorkers T_J4_setLength_d00df T_X8_separate T_X8_putWorker T_J4_length_8abf5) 2 300 600 T_X8_writeWorkers := by
  rintro av M K KX hA0 hM ⟨G, rfl, hCq, hB0, hK⟩
  obtain ⟨-, -, -, hG, hV9, hX9⟩ := id hCq
  obtain ⟨hw5, hr5, hR5⟩ := id hG
  have hL := hCq.1
  have hT := hCq.2.1
  obtain ⟨c0, o0, hS⟩ := hB0.2.2
  have hO := hB0.now hS
  refine ⟨rfl, fun Φ hΦ => ?_⟩
  have hfB : ∀ i : Int, 0 ≤ i → i < (G 4) → (wkPc G i).sum = ((wkTx G) i).length ∧ 1 ≤ ((wkTx G) i).length ∧ ((wkTx G) i).length ≤ 21 := fun i i0 i1 => wkPc_s G i
  have loop : ∀ i, 0 ≤ i → i ≤ (G 4) → ∀ (M90 : ZM) (o7 : List Int) (c k n : Nat), OC M M90 c o7 → o7 = txs (wkTx G) i → k + c0 ≤ c + 1 → n + 2 * c0 ≤ 2 * c + 6 → (c = c0 ∨ c ≤ 266) → Φ 10 [some (zo 64), some (zi i)] [] M90 k n := by
    skip
    refine zdown (n := (G 4)) (P := fun i => ∀ (M90 : ZM) (o7 : List Int) (c k n : Nat), OC M M90 c o7 → o7 = txs (wkTx G) i → k + c0 ≤ c + 1 → n + 2 * c0 ≤ 2 * c + 6 → (c = c0 ∨ c ≤ 266) → Φ 10 [some (zo 64), some (zi i)] [] M90 k n) (fun i h0 h1 ih M90 o7 c k n hO90 ho7 hk0 hn0 hc0 => ?_)
    have hL90 := hCq.L hO90
    have hT90 := hCq.T hO90
    have hS90 := hO90.2.2
    have hb1 := txs_b (f := wkTx G) (B := 21) i.toNat (fun j j0 j1 => (hfB j j0 (by omega)).2.2)
    rw [show ((i.toNat : Nat) : Int) = i by omega, ← ho7] at hb1
    have hwg := wgap_t (f := wkTx G) (i := i) h0 (fun j j0 j1 => (hfB j j0 (by omega)).2.1)
    rw [← ho7] at hwg
    obtain ⟨c1, hc1⟩ : ∃ c1, (if 0 < i then ncap c (o7.length + 1) else c) = c1 := ⟨_, rfl⟩
    have hg1 : c ≤ c1 ∧ (c1 = c ∨ c1 ≤ 2 * (o7.length + 1)) := by
      split at hc1
      · have := ncap_g hc1; omega
      · omega
    have hd1 : (0 < i → ncap c (o7.length + 1) = c1) ∧ (i ≤ 0 → c = c1) := by
      refine ⟨fun q => ?_, fun q => ?_⟩
      · rw [if_pos q] at hc1; exact hc1
      · rw [if_neg (by omega)] at hc1; exact hc1
    obtain ⟨o8, ho8⟩ : ∃ o8, (if 0 < i then o7 ++ [32] else o7) = o8 := ⟨_, rfl⟩
    rw [ho8] at hwg
    have hl8 : o8.length ≤ o7.length + 1 ∧ o7.length ≤ o8.length := by
      rw [← ho8]
      split
      · rw [List.length_append, List.length_singleton]; omega
      · omega
    obtain ⟨c2, hc2⟩ : ∃ c2, ncs c1 o8.length (wkPc G i) = c2 := ⟨_, rfl⟩
    have hfi := fun q : i < (G 4) => hfB i h0 q
    have hcl : o7.length ≤ c := hO90.2.2.2.2.2.1.1
    refine zGoR hΦ [10] 400 (fun hL9 _ hM _ _ => ?_)
    obtain ⟨qL1, _⟩ : zrg i ∧ True := hL9
    refine ⟨hL90.w, _, hL90.r2, ⟨hL90.tab.w, zIr (hT90.t4) (⟨fun (qc1 : i ≥ G 4) => ⟨hL90.w, _, hL90.r7, ⟨⟨⟨rfl, rfl⟩, hL90.wSB.rcv⟩, ⟨668, c, o7, rfl, hS90, fun (qg2 : zrg ((o7.length : Int))) qm3 => ⟨trivial, (show K (some (zi (o7.length : Int))) M90 from ?g356l1)⟩⟩⟩⟩, fun (qc4 : i < G 4) => ⟨(c1 - c), (2 * (c1 - c)), ⟨(by omega), (by omega)⟩, ⟨⟨rfl, rfl⟩, hL90.w.rcv⟩, ⟨M, G, c, c1, o7, i, rfl, hCq, hO90, (by omega), hd1, (by omega), fun M1 hO1 => (have hO1o : OC M M1 c1 o8 := (by rw [ho8] at hO1; exact hO1); have hL1 := hCq.L hO1o; have hT1 := hCq.T hO1o; have hcc := ncs_g _ hc2 hO1o.2.2.2.2.2.1.1; fun qg5 qm6 => ⟨(c2 - c1), (2 * (c2 - c1)), ⟨(by have hq9 := hfi (by omega); have hq8 := hcc; omega), (by have hq9 := hfi (by omega); have hq8 := hcc; omega)⟩, ⟨⟨rfl, rfl⟩, hL1.w.rcv⟩, ⟨M, G, c1, c2, o8, i, rfl, hCq, (by omega), (hO1o), (by omega), hc2, (by omega), fun M2 hO2 => (have hL2 := hCq.L hO2; have hT2 := hCq.T hO2; fun qg7 qm8 => ⟨(zrgI (x := i + 1) (by omega)), (show Φ 10 [some (zo 64), some (zi (i + 1))] [] M2 (k + (c1 - c) + (c2 - c1)) (n + (2 * (c1 - c)) + (2 * (c2 - c1))) from ?g356l2)⟩)⟩⟩)⟩⟩⟩)⟩⟩
    case g356l1 =>
      have e9n : i = (G 4) := (by omega)
      subst e9n
      have h9 := hK M90 ⟨c, by rw [← ho7]; exact hO90⟩
      rw [← ho7] at h9
      exact h9
    case g356l2 =>
      have hq9 := hfi (by omega)
      have hq8 := hcc
      refine ih (by omega) M2 _ c2 _ _ hO2 ?_ (by omega) (by omega) (by omega)
      rw [txs_s h0, ← ho7, hwg]
  refine zGoR hΦ [10] 400 (fun hL9 _ hM _ _ => ?_)
  obtain ⟨_⟩ : True := hL9
  refine ⟨hL.w, _, hL.r7, ⟨0, 0, ⟨(by omega), (by omega)⟩, ⟨⟨rfl, rfl⟩, hL.wSB.rcv⟩, ⟨668, c0, o0, rfl, hS, fun M1 hS1 hx1 hvu1 => (fun qg1 qm2 => (show Φ 10 [some (zo 64), some (zi 0)] [] M1 (0 + 0) (0 + 0) from ?g357l1))⟩⟩⟩
  case g357l1 =>
    have hO8 : OC M M1 c0 [] := hO.nx hS1 hx1
    exact loop 0 (by omega) (by omega) M1 [] c0 _ _ hO8 rfl (by omega) (by omega) (Or.inl rfl)
theorem M_X8_writeWorkers {l : Launch} (hl : l.stackTraces = false) : zMet l yX8_writeWorkers (Cond.code yX8_writeWorkers cX8_writeWorkers 2 (Option.some Jvm.ClassFile.FieldType.int) :: zG) rm_X8_writeWorkers 300 600 T_X8_writeWorkers := met_X8_writeWorkers hl (M_J4_setLength_d00df hl) (M_X8_separate hl) (M_X8_putWorker hl) (M_J4_length_8abf5 hl) bd_X8_writeWorkers
