/-! the class: the most takings -/
theorem Fr.nw0 {M : ZM} {κ n : Nat} (h46 : 668 < zN M) : Fr Sno M (zNw M κ n) := F0_mk (Nat.le_succ _) h46 (fun j hj => ⟨up1_n _ _ _ (Nat.ne_of_lt hj), up1_n _ _ _ (Nat.ne_of_lt hj), up1_n _ _ _ (Nat.ne_of_lt hj), up1_n _ _ _ (Nat.ne_of_lt hj)⟩)
theorem Fr.ui {M M9 : ZM} {A k : Nat} {v : Int} (f : Fr Sno M M9) (h46 : 668 < zN M) (hA : zN M ≤ A) : Fr Sno M (zsI M9 A k v) := F0_mk f.1 h46 (fun j hj => by
  obtain ⟨a1, a2, a3, -⟩ := f.2.1 j hj
  have a5 := a3 (fun z => z)
  exact ⟨a1, a2, (zI_In M9 k v (by omega)).trans a5.1, a5.2⟩)
theorem pow_64 {n : Int} (h : 0 ≤ n ∧ n ≤ 6) : 1 ≤ ((2 ^ n.toNat : Nat) : Int) ∧ ((2 ^ n.toNat : Nat) : Int) ≤ 64 := by
  have h8 : 2 ^ n.toNat ≤ 2 ^ 6 := Nat.pow_le_pow_right (by decide) (by omega)
  have h9 : 0 < 2 ^ n.toNat := Nat.pow_pos (by decide)
  omega

def T_X5_greatestMatching : ZTf := fun av M K KX => ∃ (t : Nat) (G : Gm), av = [zo t] ∧ (LTab M t) ∧ (TR M t G) ∧ (GI G) ∧ (GV G) ∧ (GX G) ∧ (668 < zN M) ∧ (∀ (M' : ZM) (c : Int), Fr Sno M M' → MTk (fCan G) (G 4) (G 5) c → K (some (zi c)) M')
set_option maxRecDepth 100000 in
set_option maxHeartbeats 1500000 in
theorem bd_X5_greatestMatching : zBd (cd_X5_greatestMatching T_X5_rowsFor T_J6_bitCount_0f7a4) 6 1 6 T_X5_greatestMatching := by
  rintro av M K KX hA0 hM ⟨t, G, rfl, hX, hT, hG, hV9, hX9, hN9, hK⟩
  obtain ⟨hw5, hr5, hR5⟩ := id hG
  obtain ⟨A, hAe⟩ : ∃ A, zN M = A := ⟨_, rfl⟩
  obtain ⟨N, hN⟩ : ∃ N, zshl 1 (G 4) = N := ⟨_, rfl⟩
  have hN2 : N = ((2 ^ (G 4).toNat : Nat) : Int) := by rw [← hN]; exact zshl_1 (by omega) (by omega)
  have hN6 := pow_64 hw5
  rw [← hN2] at hN6
  refine ⟨rfl, fun Φ hΦ => ?_⟩
  have ph2 : ∀ (M90 : ZM), Fr Sno M M90 → zW M90 A 20 → zLn M90 A = 6 → (∀ w : Int, 0 ≤ w → w < G 4 → zI M90 A w.toNat = setI (fun r => fCan G w r) (G 5)) → Φ 29 [some (zo t), some (zo A), some (zi (G 4)), none, none, none] [] M90 1 6 := by
    intro M90 f90 hW90 hl90 hv90
    have hX90 := hX.fr f90
    have hT90 := hT.fr9 hX f90 hG (fun j j0 j1 z => z)
    have lo3 : ∀ (least g : Int), 0 ≤ g → g < N → (∀ s, GU (fCan G) (G 5) g (G 4) s → Φ 85 [some (zo t), some (zo A), some (zi least), some (zi g), some (zi s), some (zi (G 4))] [] M90 1 6) → ∀ i, 0 ≤ i → i ≤ G 4 → ∀ s, GU (fCan G) (G 5) g i s → Φ 52 [some (zo t), some (zo A), some (zi least), some (zi g), some (zi s), some (zi i)] [] M90 1 6 := by
      intro least g g0 g1 hk
      refine zdown (n := G 4) (P := fun i => ∀ s, GU (fCan G) (G 5) g i s → Φ 52 [some (zo t), some (zo A), some (zi least), some (zi g), some (zi s), some (zi i)] [] M90 1 6) (fun i h0 h1 ih s hs => ?_)
      have hvi := fun q : i < G 4 => hv90 i h0 q
      refine zGoR hΦ [52, 85] 400 (fun hL9 _ hM _ _ => ?_)
      obtain ⟨qL1, qL2, qL3, qL4, _⟩ : zrg least ∧ zrg g ∧ zrg s ∧ zrg i ∧ True := hL9
      refine ⟨hX90.w, zIr (hT90.t4) (⟨fun (qc1 : i ≥ G 4) => (show Φ 85 [some (zo t), some (zo A), some (zi least), some (zi g), some (zi s), some (zi i)] [] M90 (1) (6) from ?g445l1), fun (qc2 : i < G 4) => ⟨fun (qc3 : zand g (zshl 1 i) = 0) => ⟨(zrgI (x := i + 1) (by omega)), (show Φ 52 [some (zo t), some (zo A), some (zi least), some (zi g), some (zi s), some (zi (i + 1))] [] M90 (1) (6) from ?g445l2)⟩, fun (qc4 : zand g (zshl 1 i) ≠ 0) => ⟨zixO hW90 hl90 (i := i) (by omega) (by decide), zIr ((hvi (by omega))) (⟨(zrgI (x := i + 1) (by omega)), (show Φ 52 [some (zo t), some (zo A), some (zi least), some (zi g), some (zi (zor s (setI (fun r => fCan G i r) (G 5)))), some (zi (i + 1))] [] M90 (1) (6) from ?g445l3)⟩)⟩⟩⟩)⟩
      case g445l1 =>
        first
        | (exfalso; omega)
        | skip
          have e9 : i = G 4 := (by omega)
          subst e9
          exact hk s hs
      case g445l2 =>
        first
        | (exfalso; omega)
        | skip
          exact ih (by omega) _ (hs.n ((zand_b (s := g) (k := i) g0 (by omega) h0 (by omega)).mp (by assumption)))
      case g445l3 =>
        first
        | (exfalso; omega)
        | skip
          refine ih (by omega) _ (hs.o (by omega) h0 ?_)
          have hq := zand_b (s := g) (k := i) g0 (by omega) h0 (by omega)
          cases e : hasB g i with
          | true => rfl
          | false => exact absurd (hq.mpr e) (by assumption)
    have lo2 : ∀ g, 0 ≤ g → g ≤ N → ∀ least, GL (fCan G) (G 4) (G 5) g least → Φ 36 [some (zo t), some (zo A), some (zi least), some (zi g), none, none] [] M90 1 6 := by
      refine zdown (n := N) (P := fun g => ∀ least, GL (fCan G) (G 4) (G 5) g least → Φ 36 [some (zo t), some (zo A), some (zi least), some (zi g), none, none] [] M90 1 6) (fun g g0 g1 ih least hgl => ?_)
      have s85 : g < N → ∀ s, GU (fCan G) (G 5) g (G 4) s → Φ 85 [some (zo t), some (zo A), some (zi least), some (zi g), some (zi s), some (zi (G 4))] [] M90 1 6 := by
        intro q s hs
        have hmv := hs.mv hw5 hr5 g0 (by omega)
        have hgs := hgl.s (g := g) (by omega) (by omega)
        rw [← hmv] at hgs
        have hs0 := hs.1
        have hl0 := hgl.1
        have hca := cntI_r (fun k => hasB g k) 24 (by decide)
        have hcb := cntI_r (fun k => hasB s k) 24 (by decide)
        refine zGoR hΦ [36] 400 (fun hL9 _ hM _ _ => ?_)
        obtain ⟨qL1, qL2, qL3, qL4, _⟩ : zrg least ∧ zrg g ∧ zrg s ∧ zrg (G 4) ∧ True := hL9
        refine ⟨hX90.w, zIr (hT90.t4) (⟨⟨⟨rfl, rfl⟩, trivial⟩, ⟨g, rfl, (by omega), fun (qg1 : zrg (cntI (fun k => hasB g k) 24)) qm2 => ⟨(zrgI (x := G 4 - (cntI (fun k => hasB g k) 24)) (by omega)), ⟨⟨⟨rfl, rfl⟩, trivial⟩, ⟨s, rfl, (by omega), fun (qg3 : zrg (cntI (fun k => hasB s k) 24)) qm4 => ⟨(zrgI (x := G 4 - (cntI (fun k => hasB g k) 24) + cntI (fun k => hasB s k) 24) (by omega)), ⟨rfl, ⟨(zrgI (x := g + 1) (by omega)), (zFg hΦ 4 (zFg hΦ 5 (show Φ 36 [some (zo t), some (zo A), some (zi (zmin least (G 4 - (cntI (fun k => hasB g k) 24) + cntI (fun k => hasB s k) 24))), some (zi (g + 1)), none, none] [] M90 (1) (6) from ?g446l1)))⟩⟩⟩⟩⟩⟩⟩⟩)⟩
        case g446l1 =>
          exact ih q _ hgs
      refine zGoR hΦ [36, 52] 400 (fun hL9 _ hM _ _ => ?_)
      obtain ⟨qL1, qL2, _⟩ : zrg least ∧ zrg g ∧ True := hL9
      refine ⟨hX90.w, zIr (hT90.t4) (⟨fun (qc1 : g ≥ zshl 1 (G 4)) => ⟨trivial, (show K (some (zi least)) M90 from ?g447l1)⟩, fun (qc2 : g < zshl 1 (G 4)) => (show Φ 52 [some (zo t), some (zo A), some (zi least), some (zi g), some (zi 0), some (zi 0)] [] M90 (1) (6) from ?g447l2)⟩)⟩
      case g447l1 =>
        have e9 : g = ((2 ^ (G 4).toNat : Nat) : Int) := by omega
        rw [e9] at hgl
        exact hK _ _ f90 (hgl.e hw5)
      case g447l2 =>
        exact lo3 least g g0 (by omega) (s85 (by omega)) 0 (by omega) (by omega) 0 GU.z
    refine zGoR hΦ [36] 400 (fun hL9 _ hM _ _ => ?_)
    obtain ⟨qL1, _⟩ : zrg (G 4) ∧ True := hL9
    refine ⟨hX90.w, zIr (hT90.t4) ((show Φ 36 [some (zo t), some (zo A), some (zi (G 4)), some (zi 0), none, none] [] M90 (1) (6) from ?g448l1))⟩
    case g448l1 =>
      exact lo2 0 (by omega) (by omega) _ (GL.z hw5 hr5)
  have lo1 : ∀ i, 0 ≤ i → i ≤ G 4 → ∀ (M90 : ZM), Fr Sno M M90 → zW M90 A 20 → zLn M90 A = 6 → (∀ w : Int, 0 ≤ w → w < i → zI M90 A w.toNat = setI (fun r => fCan G w r) (G 5)) → Φ 7 [some (zo t), some (zo A), some (zi i), none, none, none] [] M90 1 6 := by
    refine zdown (n := G 4) (P := fun i => ∀ (M90 : ZM), Fr Sno M M90 → zW M90 A 20 → zLn M90 A = 6 → (∀ w : Int, 0 ≤ w → w < i → zI M90 A w.toNat = setI (fun r => fCan G w r) (G 5)) → Φ 7 [some (zo t), some (zo A), some (zi i), none, none, none] [] M90 1 6) (fun i h0 h1 ih M90 f90 hW90 hl90 hv90 => ?_)
    have hX90 := hX.fr f90
    have hT90 := hT.fr9 hX f90 hG (fun j j0 j1 z => z)
    refine zGoR hΦ [7, 29] 400 (fun hL9 _ hM _ _ => ?_)
    obtain ⟨qL1, _⟩ : zrg i ∧ True := hL9
    refine ⟨hX90.w, zIr (hT90.t4) (⟨fun (qc1 : i ≥ G 4) => (show Φ 29 [some (zo t), some (zo A), some (zi i), none, none, none] [] M90 (1) (6) from ?g449l1), fun (qc2 : i < G 4) => ⟨⟨⟨rfl, rfl⟩, hX90.w.rcv⟩, ⟨t, G, i, rfl, hX90, hT90, hG, (by omega), hV9, hX9, fun (qg3 : zrg (setI (fun r => fCan G i r) (G 5))) qm4 => ⟨⟨zixW hW90 hl90 (i := i) (by omega) (by decide), trivial⟩, ⟨(zrgI (x := i + 1) (by omega)), (show Φ 7 [some (zo t), some (zo A), some (zi (i + 1)), none, none, none] [] (zsI M90 A i.toNat (setI (fun r => fCan G i r) (G 5))) (1) (6) from ?g449l2)⟩⟩⟩⟩⟩)⟩
    case g449l1 =>
      have e9 : i = G 4 := (by omega)
      subst e9
      exact ph2 M90 f90 hW90 hl90 hv90
    case g449l2 =>
      refine ih (by omega) _ (f90.ui hN9 (by omega)) hW90 hl90 (fun w w0 w1 => ?_)
      by_cases e : w = i
      · subst e
        exact zI_Is _ _ _ _
      · rw [zI_Im _ _ _ (by omega)]
        exact hv90 w w0 (by omega)
  refine zGoR hΦ [7] 400 (fun hL9 _ hM _ _ => ?_)
  obtain ⟨_⟩ : True := hL9
  refine ⟨⟨(by omega), (by omega), (by omega), (by omega)⟩, (show Φ 7 [some (zo t), some (zo (zN M)), some (zi 0), none, none, none] [] (zNw M 20 6) (0 + 1) (0 + 6) from ?g450l1)⟩
  case g450l1 =>
    have h9 := lo1 0 (by omega) (by omega) _ (Fr.nw0 hN9) ⟨(hAe ▸ up1_s _ _ _ : zK (zNw M 20 6) A = 20), by unfold zCC; omega, by rw [← hAe]; exact Nat.lt_succ_self _⟩ (hAe ▸ up1_s _ _ _ : zLn (zNw M 20 6) A = 6) (fun w w0 w1 => by omega)
    rw [← hAe] at h9
    exact h9
theorem M_X5_greatestMatching {l : Launch} (hl : l.stackTraces = false) : zMet l yX5_greatestMatching (Cond.code yX5_greatestMatching cX5_greatestMatching 6 (Option.some Jvm.ClassFile.FieldType.int) :: zG) rm_X5_greatestMatching 1 6 T_X5_greatestMatching := met_X5_greatestMatching hl (M_X5_rowsFor hl) (M_J6_bitCount_0f7a4 hl) bd_X5_greatestMatching

def T_X8_mostTakings : ZTf := fun av M K KX => ∃ (G : Gm), av = [zo 64] ∧ (LV M) ∧ (TR M 129 G) ∧ (GI G) ∧ (GV G) ∧ (GX G) ∧ (∀ (M' : ZM) (c : Int), Fr Sno M M' → MTk (fCan G) (G 4) (G 5) c → K (some (zi c)) M')
set_option maxRecDepth 100000 in
set_option maxHeartbeats 1500000 in
theorem bd_X8_mostTakings : zBd (cd_X8_mostTakings T_X5_greatestMatching) 1 1 6 T_X8_mostTakings := by
  rintro av M K KX hA0 hM ⟨G, rfl, hL, hT, hG, hV9, hX9, hK⟩
  have hN9 : 668 < zN M := hL.wSB.2.2
  refine ⟨rfl, fun Φ hΦ => ?_⟩
  refine zGoR hΦ [] 400 (fun hL9 _ hM _ _ => ?_)
  obtain ⟨_⟩ : True := hL9
  refine ⟨hL.w, _, hL.r2, ⟨⟨(by decide), (by decide)⟩, ⟨⟨rfl, rfl⟩, hL.tab.w.rcv⟩, ⟨129, G, rfl, hL.tab, hT, hG, hV9, hX9, hN9, fun M1 s1 hf1 hq1 => (fun (qg1 : zrg (s1)) qm2 => ⟨trivial, (show K (some (zi s1)) M1 from ?g451l1)⟩)⟩⟩⟩
  case g451l1 =>
    exact hK _ _ hf1 hq1
theorem M_X8_mostTakings {l : Launch} (hl : l.stackTraces = false) : zMet l yX8_mostTakings (Cond.code yX8_mostTakings cX8_mostTakings 1 (Option.some Jvm.ClassFile.FieldType.int) :: zG) rm_X8_mostTakings 1 6 T_X8_mostTakings := met_X8_mostTakings hl (M_X5_greatestMatching hl) bd_X8_mostTakings
