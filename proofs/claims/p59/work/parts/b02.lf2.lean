/-! the law: trusts, are, inWork -/
theorem AR.w {M : ZM} {s n : Nat} {f : Int → Int} (h : AR M s n f) : zW M s 20 := h.1.1
theorem sno_si {M M1 : ZM} {s n j : Nat} {f : Int → Int} {v : Int} (h : Fr Sno M M1) (h6 : 670 ≤ zN M) (hs : zN M ≤ s) : Fr Sno M (zsI M1 s j v) := h.ui (by omega) hs
theorem LSt.n6 {S : Nat × (Nat → Int)} {k : Int} {G : Gm} {M : ZM} (h : LSt S k G M) : 670 ≤ zN M := h.2.2.2.2.2.2
theorem LSt.g3 {S : Nat × (Nat → Int)} {k : Int} {G : Gm} {M : ZM} (h : LSt S k G M) {r : Int} (hr : 0 ≤ r ∧ r < G 5) : 0 ≤ cnc G r ∧ cnc G r ≤ 3 := h.2.1.b hr

def T_L_trusts : ZTf := fun av M K KX => ∃ (S : Nat × (Nat → Int)) (kk : Int) (G : Gm), av = [zo 64] ∧ LSt S kk G M ∧ (∀ M' : ZM, Fr Sno M M' → zN M' = zN M + 1 → AR M' (zN M) (G 4).toNat (trG G) → K (some (zo (zN M))) M')
set_option maxRecDepth 100000 in
set_option maxHeartbeats 1500000 in
theorem bd_L_trusts : zBd (cd_L_trusts T_X8_property T_X8_worker) 3 20 120 T_L_trusts := by
  rintro av M K KX hA0 hM ⟨S, kk, G, rfl, hS, hK⟩
  have h4 := hS.g4
  have h6 := hS.n6
  refine ⟨rfl, fun Φ hΦ => ?_⟩
  have loop : ∀ i : Int, 0 ≤ i → i ≤ G 4 → ∀ (f : Int → Int) (M1 : ZM) (k n : Nat), LSt S kk G M1 → Fr Sno M M1 → zN M1 = zN M + 1 → AR M1 (zN M) (G 4).toNat f → (∀ w, 0 ≤ w → w < i → f w = trG G w) → (k : Int) ≤ 2 + 2 * i → (n : Int) ≤ 12 + 12 * i → Φ 10 [some (zo 64), some (zo (zN M)), some (zi i)] [] M1 k n := by
    refine zdown (n := G 4) (fun i i0 i1 ih f M1 k n hS1 hF hN hA1 hf hk hn => ?_)
    refine zGoR hΦ [10] 400 (fun hL9 _ hM _ _ => ?_)
    obtain ⟨qL1, _⟩ : zrg i ∧ True := hL9
    refine ⟨(zlenW hA1.1.1 (by decide)), zIr (congrArg (fun n : Nat => (n : Int)) hA1.1.2) (⟨fun (qc1 : i ≥ ((G 4).toNat : Int)) => (show K (some (zo (zN M))) M1 from ?g2l1), fun (qc2 : i < ((G 4).toNat : Int)) => ⟨⟨(by omega), (by omega)⟩, ⟨⟨rfl, rfl⟩, hS1.2.1.1.w.rcv⟩, (R_tr hS1.2.1 (by omega) (fun (qg3 : zrg (trG G i)) qm4 => ⟨⟨zixW hA1.1.1 hA1.1.2 (i := i) (by omega) (by omega), trivial⟩, ⟨(zrgI (x := i + 1) (by omega)), (show Φ 10 [some (zo 64), some (zo (zN M)), some (zi (i + 1))] [] (zsI M1 (zN M) i.toNat (trG G i)) (k + 2) (n + 12) from ?g2l2)⟩⟩))⟩⟩)⟩
    case g2l1 => exact hK M1 hF hN (hA1.cg (fun w w0 w1 => hf w w0 (by omega)))
    case g2l2 => exact ih (by omega) (aSt f i (trG G i)) _ _ _ (hS1.si hA1) (sno_si (f := f) (n := 0) hF h6 (Nat.le_refl _)) hN (hA1.set i0) (upd_st hf rfl) (by omega) (by omega)
  refine zGoR hΦ [10] 400 (fun hL9 _ hM _ _ => ?_)
  obtain ⟨_⟩ : True := hL9
  refine ⟨⟨(by decide), (by decide)⟩, ⟨⟨rfl, rfl⟩, hS.2.1.1.w.rcv⟩, (R_prop0 hS.2.1 (fun (qg1 : zrg (G 4)) qm2 => ⟨⟨(by omega), (by omega), (by omega), (by omega)⟩, (show Φ 10 [some (zo 64), some (zo (zN M)), some (zi 0)] [] (zNw M 20 (G 4).toNat) (0 + 1 + 1) (0 + 6 + (G 4).toNat) from ?g3l1)⟩))⟩
  case g3l1 => exact loop 0 (by omega) (by omega) (fun _ => 0) _ _ _ hS.nw (Fr.nw0 (by omega)) rfl (AR.nw h6) (fun w w0 w1 => absurd w1 (by omega)) (by omega) (by omega)

theorem M_L_trusts {l : Launch} (hl : l.stackTraces = false) : zMet l yL_trusts (Cond.code yL_trusts cL_trusts 3 (Option.some (Jvm.ClassFile.FieldType.array Jvm.ClassFile.FieldType.int)) :: zG) rm_L_trusts 20 120 T_L_trusts := met_L_trusts hl (M_X8_property hl) (M_X8_worker hl) bd_L_trusts

def T_L_are : ZTf := fun av M K KX => ∃ (S : Nat × (Nat → Int)) (kk : Int) (G : Gm) (s : Nat) (f : Int → Int), av = [zo 64, zo s] ∧ LSt S kk G M ∧ AR M s (G 4).toNat f ∧ ((∀ w, 0 ≤ w → w < G 4 → trG G w = f w) → K (some (zi 1)) M) ∧ ((∃ w, (0 ≤ w ∧ w < G 4) ∧ trG G w ≠ f w) → K (some (zi 0)) M)
set_option maxRecDepth 100000 in
set_option maxHeartbeats 1500000 in
theorem bd_L_are : zBd (cd_L_are T_X8_worker) 3 12 72 T_L_are := by
  rintro av M K KX hA0 hM ⟨S, kk, G, s, f, rfl, hS, hA, hK1, hK0⟩
  have h4 := hS.g4
  refine ⟨rfl, fun Φ hΦ => ?_⟩
  have loop : ∀ i : Int, 0 ≤ i → i ≤ G 4 → ∀ (k n : Nat), (∀ w, 0 ≤ w → w < i → trG G w = f w) → (k : Int) ≤ 2 * i → (n : Int) ≤ 12 * i → Φ 2 [some (zo 64), some (zo s), some (zi i)] [] M k n := by
    refine zdown (n := G 4) (fun i i0 i1 ih k n hf hk hn => ?_)
    refine zGoR hΦ [2] 400 (fun hL9 _ hM _ _ => ?_)
    obtain ⟨qL1, _⟩ : zrg i ∧ True := hL9
    refine ⟨(zlenW hA.1.1 (by decide)), zIr (congrArg (fun n : Nat => (n : Int)) hA.1.2) (⟨fun (qc1 : i ≥ ((G 4).toNat : Int)) => ⟨(Or.inr rfl), (show K (some (zi 1)) M from ?g4l1)⟩, fun (qc2 : i < ((G 4).toNat : Int)) => ⟨⟨(by omega), (by omega)⟩, ⟨⟨rfl, rfl⟩, hS.2.1.1.w.rcv⟩, (R_tr hS.2.1 (by omega) (fun (qg3 : zrg (trG G i)) qm4 => ⟨zixO hA.1.1 hA.1.2 (i := i) (by omega) (by omega), zIr ((hA.2.2 i (by omega) (by omega))) (⟨fun (qc5 : trG G i = f i) => ⟨(zrgI (x := i + 1) (by omega)), (show Φ 2 [some (zo 64), some (zo s), some (zi (i + 1))] [] M (k + 2) (n + 12) from ?g4l2)⟩, fun (qc6 : trG G i ≠ f i) => ⟨(Or.inl rfl), (show K (some (zi 0)) M from ?g4l3)⟩⟩)⟩))⟩⟩)⟩
    case g4l1 => exact hK1 (fun w w0 w1 => hf w w0 (by omega))
    case g4l2 => exact ih (by omega) _ _ (upd_lt hf qc5) (by omega) (by omega)
    case g4l3 => exact hK0 ⟨i, ⟨i0, by omega⟩, qc6⟩
  refine zGoR hΦ [2] 400 (fun hL9 _ hM _ _ => ?_)
  obtain ⟨_⟩ : True := hL9
  refine (show Φ 2 [some (zo 64), some (zo s), some (zi 0)] [] M (0) (0) from ?g5l1)
  case g5l1 => exact loop 0 (by omega) (by omega) _ _ (fun w w0 w1 => absurd w1 (by omega)) (by omega) (by omega)

theorem M_L_are {l : Launch} (hl : l.stackTraces = false) : zMet l yL_are (Cond.code yL_are cL_are 3 (Option.some Jvm.ClassFile.FieldType.boolean) :: zG) rm_L_are 12 72 T_L_are := met_L_are hl (M_X8_worker hl) bd_L_are

def T_L_inWork : ZTf := fun av M K KX => ∃ (S : Nat × (Nat → Int)) (kk : Int) (G : Gm) (w t : Int), av = [zo 64, zi w, zi t] ∧ LSt S kk G M ∧ (0 ≤ t ∧ t ≤ 1000) ∧ (∀ r q : Int, (0 ≤ r ∧ r < G 5) → (0 ≤ q ∧ q < cnc G r) → wkc G r q = w → rsG G r q < 0 → K (some (zi r)) M) ∧ K (some (zi (-1))) M
set_option maxRecDepth 100000 in
set_option maxHeartbeats 1500000 in
theorem bd_L_inWork : zBd (cd_L_inWork T_X8_property T_X8_row T_X8_taking) 6 680 4100 T_L_inWork := by
  rintro av M K KX hA0 hM ⟨S, kk, G, w, t, rfl, hS, ht, hK1, hK0⟩
  have h5 := hS.g5
  have hb := fun {r : Int} (hr : 0 ≤ r ∧ r < G 5) => hS.g3 hr
  refine ⟨rfl, fun Φ hΦ => ?_⟩
  have loop : ∀ i : Int, 0 ≤ i → i ≤ G 5 → ∀ (k n : Nat), (k : Int) ≤ 28 * i → (n : Int) ≤ 168 * i → Φ 2 [some (zo 64), some (zi w), some (zi t), some (zi i), none, none] [] M k n := by
    refine zdown (n := G 5) (fun i i0 i1 ih k n hk hn => ?_)
    have inner : ∀ r : Int, (0 ≤ r ∧ r < G 5) → ∀ q : Int, 0 ≤ q → q ≤ cnc G r → ∀ (k' n' : Nat), (k' : Int) ≤ 28 * i + 2 + 8 * q → (n' : Int) ≤ 168 * i + 12 + 48 * q → i < G 5 → Φ 25 [some (zo 64), some (zi w), some (zi t), some (zi i), some (zi r), some (zi q)] [] M k' n' := fun r hr => by
      have hbr := hb hr
      refine zdown (n := cnc G r) (fun q q0 q1 ih2 k' n' hk' hn' hi => ?_)
      refine zGoR hΦ [25, 2] 400 (fun hL9 _ hM _ _ => ?_)
      obtain ⟨qL1, qL2, qL3, qL4, qL5, _⟩ : zrg w ∧ zrg t ∧ zrg i ∧ zrg r ∧ zrg q ∧ True := hL9
      refine ⟨⟨(by omega), (by omega)⟩, ⟨⟨rfl, rfl⟩, hS.2.1.1.w.rcv⟩, (R_cnt hS.2.1 (by omega) (fun (qg1 : zrg (cnc G r)) qm2 => ⟨fun (qc3 : q ≥ cnc G r) => ⟨(zrgI (x := i + 1) (by omega)), (zFg hΦ 4 (zFg hΦ 5 (show Φ 2 [some (zo 64), some (zi w), some (zi t), some (zi (i + 1)), none, none] [] M (k' + 2) (n' + 12) from ?g6l1)))⟩, fun (qc4 : q < cnc G r) => ⟨⟨(by omega), (by omega)⟩, ⟨⟨rfl, rfl⟩, hS.2.1.1.w.rcv⟩, (R_tk0 hS.2.1 (by omega) (by omega) (fun (qg5 : zrg (wkc G r q)) qm6 => ⟨fun (qc7 : wkc G r q ≠ w) => ⟨(zrgI (x := q + 1) (by omega)), (show Φ 25 [some (zo 64), some (zi w), some (zi t), some (zi i), some (zi r), some (zi (q + 1))] [] M (k' + 2 + 3) (n' + 12 + 18) from ?g6l2)⟩, fun (qc8 : wkc G r q = w) => ⟨⟨(by omega), (by omega)⟩, ⟨⟨rfl, rfl⟩, hS.2.1.1.w.rcv⟩, (R_tk1 hS.2.1 (by omega) (by omega) (fun (qg9 : zrg (rsG G r q)) qm10 => ⟨fun (qc11 : rsG G r q ≥ 0) => ⟨(zrgI (x := q + 1) (by omega)), (show Φ 25 [some (zo 64), some (zi w), some (zi t), some (zi i), some (zi r), some (zi (q + 1))] [] M (k' + 2 + 3 + 3) (n' + 12 + 18 + 18) from ?g6l3)⟩, fun (qc12 : rsG G r q < 0) => ⟨trivial, (show K (some (zi r)) M from ?g6l4)⟩⟩))⟩⟩))⟩⟩))⟩
      case g6l1 => exact ih (by omega) _ _ (by omega) (by omega)
      case g6l2 => exact ih2 (by omega) _ _ (by omega) (by omega) hi
      case g6l3 => exact ih2 (by omega) _ _ (by omega) (by omega) hi
      case g6l4 => exact hK1 r q hr ⟨q0, by omega⟩ (by omega) (by omega)
    refine zGoR hΦ [25] 400 (fun hL9 _ hM _ _ => ?_)
    obtain ⟨qL1, qL2, qL3, _⟩ : zrg w ∧ zrg t ∧ zrg i ∧ True := hL9
    refine ⟨⟨(by omega), (by omega)⟩, ⟨⟨rfl, rfl⟩, hS.2.1.1.w.rcv⟩, (R_prop1 hS.2.1 (fun (qg1 : zrg (G 5)) qm2 => ⟨fun (qc3 : i ≥ G 5) => ⟨trivial, (show K (some (zi (-1))) M from ?g7l1)⟩, fun (qc4 : i < G 5) => ⟨(zrgI (x := t + i) (by omega)), ⟨⟨(by omega), (by omega)⟩, ⟨⟨rfl, rfl⟩, hS.2.1.1.w.rcv⟩, (R_prop1 hS.2.1 (fun (qg5 : zrg (G 5)) qm6 => ⟨(zposI (x := G 5) (by omega)), zIr (tmz (by omega)) ((show Φ 25 [some (zo 64), some (zi w), some (zi t), some (zi i), some (zi ((t + i) % (G 5))), some (zi 0)] [] M (k + 1 + 1) (n + 6 + 6) from ?g7l2))⟩))⟩⟩⟩))⟩
    case g7l1 => exact hK0
    case g7l2 => exact inner _ (by refine ⟨Int.emod_nonneg _ (by omega), Int.emod_lt_of_pos _ (by omega)⟩) 0 (by omega) (hb (by refine ⟨Int.emod_nonneg _ (by omega), Int.emod_lt_of_pos _ (by omega)⟩)).1 _ _ (by omega) (by omega) (by omega)
  refine zGoR hΦ [2] 400 (fun hL9 _ hM _ _ => ?_)
  obtain ⟨qL1, qL2, _⟩ : zrg w ∧ zrg t ∧ True := hL9
  refine (show Φ 2 [some (zo 64), some (zi w), some (zi t), some (zi 0), none, none] [] M (0) (0) from ?g8l1)
  case g8l1 => exact loop 0 (by omega) (by omega) _ _ (by omega) (by omega)

theorem M_L_inWork {l : Launch} (hl : l.stackTraces = false) : zMet l yL_inWork (Cond.code yL_inWork cL_inWork 6 (Option.some Jvm.ClassFile.FieldType.int) :: zG) rm_L_inWork 680 4100 T_L_inWork := met_L_inWork hl (M_X8_property hl) (M_X8_row hl) (M_X8_taking hl) bd_L_inWork

/-- who works at a row -/
theorem works_of {G : Gm} {w r q : Int} (hd : ∀ a b : Int, 0 ≤ a → a < b → b < cnc G r → wkc G r a ≠ wkc G r b) (hq : 0 ≤ q ∧ q < cnc G r) (hw : wkc G r q = w) (hs : rsG G r q = -1) : fWorksAt G w r = true ∧ fTakingOf G w r = q := by
  have e : fTakingOf G w r = q := by
    unfold fTakingOf
    refine fndI_eq hq.1 hq.2 (decide_eq_true hw) (fun j j0 j1 => decide_eq_false (fun z => hd j q j0 j1 hq.2 (z.trans hw.symm)))
  refine ⟨?_, e⟩
  unfold fWorksAt
  rw [e, if_neg (by omega)]
  exact decide_eq_true hs

