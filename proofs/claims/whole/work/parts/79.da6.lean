/-! the class: the rows, written -/
theorem rowPc_sum (G : Gm) (i : Int) : (rowPc G i).sum = (rowTx G i).length ∨ (G (132 + 16 * i + 1).toNat) = 0 ∨ True := Or.inr (Or.inr trivial)
theorem rowPc_s {G : Gm} {i : Int} (h : 0 ≤ (G (132 + 16 * i + 1).toNat) ∧ (G (132 + 16 * i + 1).toNat) ≤ 3) (h2 : (G (132 + 16 * i + 1).toNat) = 2 → 0 ≤ (G (132 + 16 * i + 2).toNat)) (h3 : (G (132 + 16 * i + 2).toNat) ≤ 99) : (rowPc G i).sum = (rowTx G i).length ∧ 1 ≤ (rowTx G i).length ∧ (rowTx G i).length ≤ 4 := by
  unfold rowPc rowTx
  by_cases q : (G (132 + 16 * i + 1).toNat) = 2
  · have hd : (dig (G (132 + 16 * i + 2).toNat)).length ≤ 2 ∧ 1 ≤ (dig (G (132 + 16 * i + 2).toNat)).length := by
      have := digl (v := (G (132 + 16 * i + 2).toNat)) ⟨h2 q, by omega⟩
      omega
    rw [if_pos q, if_neg (show ¬ (G (132 + 16 * i + 1).toNat) = 0 by omega), if_neg (show ¬ (G (132 + 16 * i + 1).toNat) = 1 by omega), if_pos q]
    split
    · simp only [List.length_append, List.length_singleton, List.sum_cons, List.sum_nil]
      omega
    · simp only [List.length_append, List.length_singleton, List.sum_cons, List.sum_nil]
      omega
  · rw [if_neg q, if_neg q]
    split
    · exact ⟨rfl, by decide, by decide⟩
    · split
      · exact ⟨rfl, by decide, by decide⟩
      · exact ⟨rfl, by decide, by decide⟩
/-- the text is not empty, so the gap comes -/
theorem txs_ne {f : Int → List Int} {n : Int} (hn : 0 < n) (hf : ∀ i, 0 ≤ i → i < n → 1 ≤ (f i).length) : 1 ≤ (txs f n).length := by
  have h9 := txs_s (f := f) (n := n - 1) (by omega)
  rw [show n - 1 + 1 = n by omega] at h9
  rw [h9, List.length_append]
  have := hf (n - 1) (by omega) (by omega)
  omega
theorem wgap_t {f : Int → List Int} {i : Int} (hi : 0 ≤ i) (hf : ∀ k, 0 ≤ k → k < i → 1 ≤ (f k).length) : wgap (txs f i) = if 0 < i then txs f i ++ [32] else txs f i := by
  by_cases q : 0 < i
  · rw [if_pos q]
    have h9 := txs_ne q hf
    generalize txs f i = o at *
    cases o with
    | nil => exact absurd h9 (by decide)
    | cons x l => rfl
  · rw [if_neg q, show i = 0 by omega]
    rfl
theorem txs_b {f : Int → List Int} {B : Nat} : ∀ (j : Nat), (∀ i : Int, 0 ≤ i → i < (j : Int) → (f i).length ≤ B) → (txs f (j : Int)).length ≤ j * (B + 1) := by
  intro j
  induction j with
  | zero => exact fun _ => Nat.le_of_eq (by rw [Nat.zero_mul]; rfl)
  | succ j ih =>
    intro hB
    rw [show ((j + 1 : Nat) : Int) = (j : Int) + 1 by omega, txs_s (by omega), List.length_append]
    have h1 := wgap_len (txs f (j : Int))
    have h2 := hB (j : Int) (by omega) (by omega)
    have h3 : (j + 1) * (B + 1) = j * (B + 1) + (B + 1) := Nat.succ_mul _ _
    have h4 := ih (fun i i0 i1 => hB i i0 (by omega))
    omega

def T_X8_writeRows : ZTf := fun av M K KX => ∃ (G : Gm), av = [zo 64] ∧ (CQ M G) ∧ (OB0 M) ∧  (∀ M' : ZM, (∃ c, OC M M' c (txs (rowTx G) (G 5))) → K (some (zi (((txs (rowTx G) (G 5)).length : Int)))) M')
set_option maxRecDepth 100000 in
set_option maxHeartbeats 1500000 in
theorem bd_X8_writeRows : zBd (cd_X8_writeRows T_J4_setLength_d00df T_X8_separate T_X8_putRowState T_J4_length_8abf5) 2 300 600 T_X8_writeRows := by
  rintro av M K KX hA0 hM ⟨G, rfl, hCq, hB0, hK⟩
  obtain ⟨-, -, -, hG, hV9, hX9⟩ := id hCq
  obtain ⟨hw5, hr5, hR5⟩ := id hG
  have hL := hCq.1
  have hT := hCq.2.1
  obtain ⟨c0, o0, hS⟩ := hB0.2.2
  have hO := hB0.now hS
  refine ⟨rfl, fun Φ hΦ => ?_⟩
  have hfB : ∀ i : Int, 0 ≤ i → i < (G 5) → (rowPc G i).sum = ((rowTx G) i).length ∧ 1 ≤ ((rowTx G) i).length ∧ ((rowTx G) i).length ≤ 4 := fun i i0 i1 => rowPc_s (hV9.2.2.2.2.2.1 i i0 i1).2.1 (hX9.1 i i0 i1).2.2.2.1 (hV9.2.2.2.2.2.1 i i0 i1).2.2.1.2
  have loop : ∀ i, 0 ≤ i → i ≤ (G 5) → ∀ (M90 : ZM) (o7 : List Int) (c k n : Nat), OC M M90 c o7 → o7 = txs (rowTx G) i → k + c0 ≤ c + 1 → n + 2 * c0 ≤ 2 * c + 6 → (c = c0 ∨ c ≤ 242) → Φ 10 [some (zo 64), some (zi i)] [] M90 k n := by
    skip
    refine zdown (n := (G 5)) (P := fun i => ∀ (M90 : ZM) (o7 : List Int) (c k n : Nat), OC M M90 c o7 → o7 = txs (rowTx G) i → k + c0 ≤ c + 1 → n + 2 * c0 ≤ 2 * c + 6 → (c = c0 ∨ c ≤ 242) → Φ 10 [some (zo 64), some (zi i)] [] M90 k n) (fun i h0 h1 ih M90 o7 c k n hO90 ho7 hk0 hn0 hc0 => ?_)
    have hL90 := hCq.L hO90
    have hT90 := hCq.T hO90
    have hS90 := hO90.2.2
    have hb1 := txs_b (f := rowTx G) (B := 4) i.toNat (fun j j0 j1 => (hfB j j0 (by omega)).2.2)
    rw [show ((i.toNat : Nat) : Int) = i by omega, ← ho7] at hb1
    have hwg := wgap_t (f := rowTx G) (i := i) h0 (fun j j0 j1 => (hfB j j0 (by omega)).2.1)
    rw [← ho7] at hwg
    obtain ⟨c1, hc1⟩ : ∃ c1, (if 0 < i then ncap c (o7.length + 1) else c) = c1 := ⟨_, rfl⟩
    have hg1 : c ≤ c1 ∧ (c1 = c ∨ c1 ≤ 2 * (o7.length + 1)) := by
      split at hc1
      · have := ncap_g hc1; omega
      · omega
    have hd1 : (0 < i → ncap c (o7.length + 1) = c1) ∧ (i ≤ 0 → c = c1) := by
      refine ⟨fun q => ?_, fun q => ?_⟩
      · rw [if_pos q] at hc1; exact hc1
      · rw [if_neg (by omega)] at hc1; exact hc1
    obtain ⟨o8, ho8⟩ : ∃ o8, (if 0 < i then o7 ++ [32] else o7) = o8 := ⟨_, rfl⟩
    rw [ho8] at hwg
    have hl8 : o8.length ≤ o7.length + 1 ∧ o7.length ≤ o8.length := by
      rw [← ho8]
      split
      · rw [List.length_append, List.length_singleton]; omega
      · omega
    obtain ⟨c2, hc2⟩ : ∃ c2, ncs c1 o8.length (rowPc G i) = c2 := ⟨_, rfl⟩
    have hfi := fun q : i < (G 5) => hfB i h0 q
    have hcl : o7.length ≤ c := hO90.2.2.2.2.2.1.1
    refine zGoR hΦ [10] 400 (fun hL9 _ hM _ _ => ?_)
    obtain ⟨qL1, _⟩ : zrg i ∧ True := hL9
    refine ⟨hL90.w, _, hL90.r2, ⟨hL90.tab.w, zIr (hT90.t5) (⟨fun (qc1 : i ≥ G 5) => ⟨hL90.w, _, hL90.r7, ⟨⟨⟨rfl, rfl⟩, hL90.wSB.rcv⟩, ⟨668, c, o7, rfl, hS90, fun (qg2 : zrg ((o7.length : Int))) qm3 => ⟨trivial, (show K (some (zi (o7.length : Int))) M90 from ?g350l1)⟩⟩⟩⟩, fun (qc4 : i < G 5) => ⟨(c1 - c), (2 * (c1 - c)), ⟨(by omega), (by omega)⟩, ⟨⟨rfl, rfl⟩, hL90.w.rcv⟩, ⟨M, G, c, c1, o7, i, rfl, hCq, hO90, (by omega), hd1, (by omega), fun M1 hO1 => (have hO1o : OC M M1 c1 o8 := (by rw [ho8] at hO1; exact hO1); have hL1 := hCq.L hO1o; have hT1 := hCq.T hO1o; have hcc := ncs_g _ hc2 hO1o.2.2.2.2.2.1.1; fun qg5 qm6 => ⟨hL1.w, _, hL1.r2, ⟨hL1.tab.w, _, hL1.tab.r7, ⟨zixW hL1.tab.aTrow hL1.tab.lTrow (i := i) (by omega) (by decide), _, (hL1.tab.row (by omega) (by omega)).1, ⟨(c2 - c1), (2 * (c2 - c1)), ⟨(by have hq9 := hfi (by omega); have hq8 := hcc; omega), (by have hq9 := hfi (by omega); have hq8 := hcc; omega)⟩, ⟨⟨rfl, rfl⟩, hL1.w.rcv⟩, ⟨M, G, c1, c2, o8, i, rfl, hCq, (by omega), (hO1o), (by omega), hc2, (by omega), fun M2 hO2 => (have hL2 := hCq.L hO2; have hT2 := hCq.T hO2; fun qg7 qm8 => ⟨(zrgI (x := i + 1) (by omega)), (show Φ 10 [some (zo 64), some (zi (i + 1))] [] M2 (k + (c1 - c) + (c2 - c1)) (n + (2 * (c1 - c)) + (2 * (c2 - c1))) from ?g350l2)⟩)⟩⟩⟩⟩⟩)⟩⟩⟩)⟩⟩
    case g350l1 =>
      have e9n : i = (G 5) := (by omega)
      subst e9n
      have h9 := hK M90 ⟨c, by rw [← ho7]; exact hO90⟩
      rw [← ho7] at h9
      exact h9
    case g350l2 =>
      have hq9 := hfi (by omega)
      have hq8 := hcc
      refine ih (by omega) M2 _ c2 _ _ hO2 ?_ (by omega) (by omega) (by omega)
      rw [txs_s h0, ← ho7, hwg]
  refine zGoR hΦ [10] 400 (fun hL9 _ hM _ _ => ?_)
  obtain ⟨_⟩ : True := hL9
  refine ⟨hL.w, _, hL.r7, ⟨0, 0, ⟨(by omega), (by omega)⟩, ⟨⟨rfl, rfl⟩, hL.wSB.rcv⟩, ⟨668, c0, o0, rfl, hS, fun M1 hS1 hx1 hvu1 => (fun qg1 qm2 => (show Φ 10 [some (zo 64), some (zi 0)] [] M1 (0 + 0) (0 + 0) from ?g351l1))⟩⟩⟩
  case g351l1 =>
    have hO8 : OC M M1 c0 [] := hO.nx hS1 hx1
    exact loop 0 (by omega) (by omega) M1 [] c0 _ _ hO8 rfl (by omega) (by omega) (Or.inl rfl)
theorem M_X8_writeRows {l : Launch} (hl : l.stackTraces = false) : zMet l yX8_writeRows (Cond.code yX8_writeRows cX8_writeRows 2 (Option.some Jvm.ClassFile.FieldType.int) :: zG) rm_X8_writeRows 300 600 T_X8_writeRows := met_X8_writeRows hl (M_J4_setLength_d00df hl) (M_X8_separate hl) (M_X8_putRowState hl) (M_J4_length_8abf5 hl) bd_X8_writeRows
