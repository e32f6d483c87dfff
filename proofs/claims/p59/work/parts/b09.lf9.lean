/-! the law: delivers -/
theorem zand_01 : zand 0 0 = 0 ∧ zand 0 1 = 0 ∧ zand 1 0 = 0 ∧ zand 1 1 = 1 := by decide +kernel
theorem dvv_b {S : Nat × (Nat → Int)} {kk : Int} {G : Gm} {M : ZM} (hS : LSt S kk G M) {r w x j : Int} (hr : 0 ≤ r ∧ r < G 5) (hx : 0 ≤ x ∧ x ≤ 99) (hj : 0 ≤ j ∧ j < cnc G r) : -1 ≤ dvv G r w x j ∧ dvv G r w x j ≤ 99 := by
  have h := (hS.du hr hj).1
  unfold dvv
  split <;> omega

theorem AR.nwo {M : ZM} {s n κ q : Nat} {f : Int → Int} (h : AR M s n f) (h6 : 670 ≤ zN M) : AR (zNw M κ q) s n f := h.fr (Fr.nw0 (by omega)) (fun z => z)
theorem nvd {M : ZM} {s n : Nat} {f : Int → Int} (h : AR M s n f) : ¬ SVd s := by
  have := h.2.1
  unfold SVd
  omega
theorem ncw {M : ZM} {s n : Nat} {f : Int → Int} (h : AR M s n f) : ¬ SCw s := by
  have := h.2.1
  unfold SCw
  omega

set_option maxRecDepth 100000 in
set_option maxHeartbeats 4000000 in
theorem DL_e692 {S : Nat × (Nat → Int)} {kk : Int} {G : Gm} {M : ZM} {w r x : Int} {K : ZRet} {KX : ZEx} {Φ : ZPhi} (hΦ : zClosed (cd_L_delivers T_X8_row T_X8_property T_X8_taking T_L_trusts T_X8_worker T_L_capped T_X8_stateIf T_X8_trustIf T_L_delivered T_X8_finishers T_L_are) K KX 160 1000 Φ) (hS : LSt S kk G M) (hkk : kk + 1 ≤ 1000) (hw : 0 ≤ w ∧ w < G 4) (hr : 0 ≤ r ∧ r < G 5) (hx : 0 ≤ x ∧ x ≤ 99) (hfw : fWorksAt G w r = true) (hK : ∀ (G' : Gm) (M' : ZM), LSt S (kk + 1) G' M' → K (some (zi 1)) M') : ∀ (c st tol : Int) (sp sq : Nat) (fu : Int) (G : Gm) (M1 : ZM) (sa sb : Nat) (fa fb : Int → Int) (due val bi giv : Int), LSt S (kk + 1) G M1 → AR M1 sa (G 4).toNat fa → AR M1 sb (G 4).toNat fb → (0 ≤ r ∧ r < G 5) → (∀ o, 0 ≤ o → o < G 4 → trG G o = fa o) → (∀ o, 0 ≤ o → o < G 4 → ptG G o = fb o + (if due = 2 ∧ zand (zshr bi o) 1 = 1 then szG G r else 0)) → ∀ i, 0 ≤ i → i ≤ G 4 → ∀ (k n : Nat), (k : Int) ≤ 112 + 4 * i → (n : Int) ≤ 670 + 24 * i → Φ 692 [some (zo 64), some (zi w), some (zi r), some (zi x), some (zi c), some (zi st), some (zi tol), some (zo sp), some (zo sq), some (zi fu), some (zo sa), some (zo sb), some (zi due), some (zi val), some (zi bi), some (zi giv), some (zi i), none] [] M1 k n := by
  have h4 := hS.g4
  have h5 := hS.g5
  have hI := hS.2.2.2.1
  have hcb := hS.g3 hr
  exact fun c st tol sp sq fu G M1 sa sb fa fb due val bi giv hS1 hA1 hB1 hr hf hpt => by
    have h4 := hS1.g4
    have hsz := (hS1.rv hr).2.1
    refine zdown (n := G 4) (fun i i0 i1 ih k n hk hn => ?_)
    have hp : i < G 4 → (due = 2 ∧ zand (zshr bi i) 1 = 1 → ptG G i = fb i + szG G r) ∧ (¬ (due = 2 ∧ zand (zshr bi i) 1 = 1) → ptG G i = fb i) ∧ 0 ≤ ptG G i ∧ ptG G i ≤ 100000 := fun z => by
      have h9 := hpt i i0 z
      have h8 : 0 ≤ ptG G i ∧ ptG G i ≤ 100000 := (hS1.2.1.2.2.2.1.2.2.2.2.1 i i0 z).2.2.2.2.2.2.2
      refine ⟨fun y => ?_, fun y => ?_, h8⟩
      · rw [if_pos y] at h9; exact h9
      · rw [if_neg y, Int.add_zero] at h9; exact h9
    have hfb : i < G 4 → -100 ≤ fb i ∧ fb i ≤ 100000 := fun z => by
      have h9 := hp z
      by_cases y : due = 2 ∧ zand (zshr bi i) 1 = 1
      · have := h9.1 y; omega
      · have := h9.2.1 y; omega
    refine zGoR hΦ [692] 400 (fun hL9 _ hM _ _ => ?_)
    obtain ⟨qL1, qL2, qL3, qL4, qL5, qL6, qL7, qL8, qL9, qL10, qL11, qL12, _⟩ : zrg w ∧ zrg r ∧ zrg x ∧ zrg c ∧ zrg st ∧ zrg tol ∧ zrg fu ∧ zrg due ∧ zrg val ∧ zrg bi ∧ zrg giv ∧ zrg i ∧ True := hL9
    refine ⟨(zlenW hB1.1.1 (by decide)), zIr (congrArg (fun n : Nat => (n : Int)) hB1.1.2) (⟨fun (qc1 : i ≥ ((G 4).toNat : Int)) => ⟨⟨(by omega), (by omega)⟩, ⟨⟨rfl, rfl⟩, trivial⟩, (R_are hS1 hA1 hf (fun _ _ => ⟨(Or.inr rfl), (show K (some (zi 1)) M1 from ?g43l1)⟩))⟩, fun (qc2 : i < ((G 4).toNat : Int)) => ⟨⟨(by omega), (by omega)⟩, ⟨⟨rfl, rfl⟩, hS1.2.1.1.w.rcv⟩, (R_pts hS1.2.1 (by omega) (fun (qg3 : zrg (ptG G i)) qm4 => ⟨zixO hB1.1.1 hB1.1.2 (i := i) (by omega) (by omega), zIr ((hB1.2.2 i (by omega) (by omega))) (⟨fun (qc5 : due ≠ 2) => ⟨(zrgI (x := fb i + 0) (by omega)), zIr (Int.add_zero _) (⟨fun (qc6 : ptG G i = fb i) => ⟨(zrgI (x := i + 1) (by omega)), (show Φ 692 [some (zo 64), some (zi w), some (zi r), some (zi x), some (zi c), some (zi st), some (zi tol), some (zo sp), some (zo sq), some (zi fu), some (zo sa), some (zo sb), some (zi due), some (zi val), some (zi bi), some (zi giv), some (zi (i + 1)), none] [] M1 (k + 2) (n + 12) from ?g43l2)⟩, fun (qc7 : ptG G i ≠ fb i) => ⟨(Or.inl rfl), (show K (some (zi 0)) M1 from ?g43l3)⟩⟩)⟩, fun (qc8 : due = 2) => ⟨fun (qc9 : zand (zshr bi i) 1 ≠ 1) => ⟨(zrgI (x := fb i + 0) (by omega)), zIr (Int.add_zero _) (⟨fun (qc10 : ptG G i = fb i) => ⟨(zrgI (x := i + 1) (by omega)), (show Φ 692 [some (zo 64), some (zi w), some (zi r), some (zi x), some (zi c), some (zi st), some (zi tol), some (zo sp), some (zo sq), some (zi fu), some (zo sa), some (zo sb), some (zi due), some (zi val), some (zi bi), some (zi giv), some (zi (i + 1)), none] [] M1 (k + 2) (n + 12) from ?g43l4)⟩, fun (qc11 : ptG G i ≠ fb i) => ⟨(Or.inl rfl), (show K (some (zi 0)) M1 from ?g43l5)⟩⟩)⟩, fun (qc12 : zand (zshr bi i) 1 = 1) => ⟨⟨(by omega), (by omega)⟩, ⟨⟨rfl, rfl⟩, hS1.2.1.1.w.rcv⟩, (R_sz hS1.2.1 (by omega) (fun (qg13 : zrg (szG G r)) qm14 => ⟨(zrgI (x := fb i + szG G r) (by omega)), ⟨fun (qc15 : ptG G i = fb i + szG G r) => ⟨(zrgI (x := i + 1) (by omega)), (show Φ 692 [some (zo 64), some (zi w), some (zi r), some (zi x), some (zi c), some (zi st), some (zi tol), some (zo sp), some (zo sq), some (zi fu), some (zo sa), some (zo sb), some (zi due), some (zi val), some (zi bi), some (zi giv), some (zi (i + 1)), none] [] M1 (k + 2 + 2) (n + 12 + 12) from ?g43l6)⟩, fun (qc16 : ptG G i ≠ fb i + szG G r) => ⟨(Or.inl rfl), (show K (some (zi 0)) M1 from ?g43l7)⟩⟩⟩))⟩⟩⟩)⟩))⟩⟩)⟩
    case g43l1 => exact hK _ _ hS1
    case g43l2 => exact ih (by omega) _ _ (by omega) (by omega)
    case g43l3 => exfalso; omega
    case g43l4 => exact ih (by omega) _ _ (by omega) (by omega)
    case g43l5 => exfalso; omega
    case g43l6 => exact ih (by omega) _ _ (by omega) (by omega)
    case g43l7 => exfalso; omega

set_option maxRecDepth 100000 in
set_option maxHeartbeats 4000000 in
theorem DL_e617 {S : Nat × (Nat → Int)} {kk : Int} {G : Gm} {M : ZM} {w r x : Int} {K : ZRet} {KX : ZEx} {Φ : ZPhi} (hΦ : zClosed (cd_L_delivers T_X8_row T_X8_property T_X8_taking T_L_trusts T_X8_worker T_L_capped T_X8_stateIf T_X8_trustIf T_L_delivered T_X8_finishers T_L_are) K KX 160 1000 Φ) (hS : LSt S kk G M) (hkk : kk + 1 ≤ 1000) (hw : 0 ≤ w ∧ w < G 4) (hr : 0 ≤ r ∧ r < G 5) (hx : 0 ≤ x ∧ x ≤ 99) (hfw : fWorksAt G w r = true) (hK : ∀ (G' : Gm) (M' : ZM), LSt S (kk + 1) G' M' → K (some (zi 1)) M') : ∀ (c st tol : Int) (sp sq : Nat) (fu : Int) (G : Gm) (M1 : ZM) (sa sb : Nat) (fa fb : Int → Int) (due val bi giv : Int) (k n : Nat), LSt S (kk + 1) G M1 → AR M1 sa (G 4).toNat fa → AR M1 sb (G 4).toNat fb → (0 ≤ w ∧ w < G 4) → (0 ≤ r ∧ r < G 5) → (∀ o, 0 ≤ o → o < G 4 → trG G o = fa o) → (∀ o, 0 ≤ o → o < G 4 → ptG G o = fb o + (if due = 2 ∧ zand (zshr bi o) 1 = 1 then szG G r else 0)) → stG G r = due → (due = 2 → vaG G r = val ∧ fiG G r = bi) → gvG G w = giv + 1 → k ≤ 104 → n ≤ 620 → Φ 617 [some (zo 64), some (zi w), some (zi r), some (zi x), some (zi c), some (zi st), some (zi tol), some (zo sp), some (zo sq), some (zi fu), some (zo sa), some (zo sb), some (zi due), some (zi val), some (zi bi), some (zi giv), none, none] [zi due] M1 k n := by
  have h4 := hS.g4
  have h5 := hS.g5
  have hI := hS.2.2.2.1
  have hcb := hS.g3 hr
  have e692 := @DL_e692 S kk G M w r x K KX Φ hΦ hS hkk hw hr hx hfw hK
  exact fun c st tol sp sq fu G M1 sa sb fa fb due val bi giv k n hS1 hA1 hB1 hw hr hf hpt hst hva hgv hk hn => by
    have h4 := hS1.g4
    have hg0 : 0 ≤ gvG G w ∧ gvG G w ≤ 100000 := (hS1.2.1.2.2.2.1.2.2.2.2.1 w hw.1 hw.2).2.2.2.2.1
    have hva2 : due ≠ 2 → vaG G r = -1 ∧ fiG G r = 0 := fun z => by
      have h9 := (hS1.2.1.2.2.2.2.1 r hr.1 hr.2).2.2.1 (by intro y; exact z (hst.symm.trans y))
      exact ⟨h9.1, h9.2.2⟩
    refine zGoR hΦ [692] 400 (fun hL9 _ hM _ _ => ?_)
    obtain ⟨qL1, qL2, qL3, qL4, qL5, qL6, qL7, qL8, qL9, qL10, qL11, _⟩ : zrg w ∧ zrg r ∧ zrg x ∧ zrg c ∧ zrg st ∧ zrg tol ∧ zrg fu ∧ zrg due ∧ zrg val ∧ zrg bi ∧ zrg giv ∧ True := hL9
    refine ⟨fun (qc1 : due ≠ due) => ⟨(Or.inl rfl), (show K (some (zi 0)) M1 from ?g44l1)⟩, fun (qc2 : due = due) => ⟨⟨(by omega), (by omega)⟩, ⟨⟨rfl, rfl⟩, hS1.2.1.1.w.rcv⟩, (R_st hS1.2.1 (by omega) (fun (qg3 : zrg (stG G r)) qm4 => ⟨fun (qc5 : stG G r ≠ due) => ⟨(Or.inl rfl), (show K (some (zi 0)) M1 from ?g44l2)⟩, fun (qc6 : stG G r = due) => ⟨⟨(by omega), (by omega)⟩, ⟨⟨rfl, rfl⟩, hS1.2.1.1.w.rcv⟩, (R_va hS1.2.1 (by omega) (fun (qg7 : zrg (vaG G r)) qm8 => ⟨fun (qc9 : due ≠ 2) => ⟨fun (qc10 : vaG G r ≠ (-1)) => ⟨(Or.inl rfl), (show K (some (zi 0)) M1 from ?g44l3)⟩, fun (qc11 : vaG G r = (-1)) => ⟨⟨(by omega), (by omega)⟩, ⟨⟨rfl, rfl⟩, hS1.2.1.1.w.rcv⟩, (R_fin hS1.2.1 (by omega) (fun (qg12 : zrg (fiG G r)) qm13 => ⟨fun (qc14 : due ≠ 2) => ⟨fun (qc15 : fiG G r ≠ 0) => ⟨(Or.inl rfl), (show K (some (zi 0)) M1 from ?g44l4)⟩, fun (qc16 : fiG G r = 0) => ⟨⟨(by omega), (by omega)⟩, ⟨⟨rfl, rfl⟩, hS1.2.1.1.w.rcv⟩, (R_gvn hS1.2.1 (by omega) (fun (qg17 : zrg (gvG G w)) qm18 => ⟨(zrgI (x := giv + 1) (by omega)), ⟨fun (qc19 : gvG G w = giv + 1) => (show Φ 692 [some (zo 64), some (zi w), some (zi r), some (zi x), some (zi c), some (zi st), some (zi tol), some (zo sp), some (zo sq), some (zi fu), some (zo sa), some (zo sb), some (zi due), some (zi val), some (zi bi), some (zi giv), some (zi 0), none] [] M1 (k + 2 + 2 + 1 + 2) (n + 12 + 12 + 6 + 12) from ?g44l5), fun (qc20 : gvG G w ≠ giv + 1) => ⟨(Or.inl rfl), (show K (some (zi 0)) M1 from ?g44l6)⟩⟩⟩))⟩⟩, fun (qc21 : due = 2) => ⟨fun (qc22 : fiG G r ≠ bi) => ⟨(Or.inl rfl), (show K (some (zi 0)) M1 from ?g44l7)⟩, fun (qc23 : fiG G r = bi) => ⟨⟨(by omega), (by omega)⟩, ⟨⟨rfl, rfl⟩, hS1.2.1.1.w.rcv⟩, (R_gvn hS1.2.1 (by omega) (fun (qg24 : zrg (gvG G w)) qm25 => ⟨(zrgI (x := giv + 1) (by omega)), ⟨fun (qc26 : gvG G w = giv + 1) => (show Φ 692 [some (zo 64), some (zi w), some (zi r), some (zi x), some (zi c), some (zi st), some (zi tol), some (zo sp), some (zo sq), some (zi fu), some (zo sa), some (zo sb), some (zi due), some (zi val), some (zi bi), some (zi giv), some (zi 0), none] [] M1 (k + 2 + 2 + 1 + 2) (n + 12 + 12 + 6 + 12) from ?g44l8), fun (qc27 : gvG G w ≠ giv + 1) => ⟨(Or.inl rfl), (show K (some (zi 0)) M1 from ?g44l9)⟩⟩⟩))⟩⟩⟩))⟩⟩, fun (qc28 : due = 2) => ⟨fun (qc29 : vaG G r ≠ val) => ⟨(Or.inl rfl), (show K (some (zi 0)) M1 from ?g44l10)⟩, fun (qc30 : vaG G r = val) => ⟨⟨(by omega), (by omega)⟩, ⟨⟨rfl, rfl⟩, hS1.2.1.1.w.rcv⟩, (R_fin hS1.2.1 (by omega) (fun (qg31 : zrg (fiG G r)) qm32 => ⟨fun (qc33 : due ≠ 2) => ⟨fun (qc34 : fiG G r ≠ 0) => ⟨(Or.inl rfl), (show K (some (zi 0)) M1 from ?g44l11)⟩, fun (qc35 : fiG G r = 0) => ⟨⟨(by omega), (by omega)⟩, ⟨⟨rfl, rfl⟩, hS1.2.1.1.w.rcv⟩, (R_gvn hS1.2.1 (by omega) (fun (qg36 : zrg (gvG G w)) qm37 => ⟨(zrgI (x := giv + 1) (by omega)), ⟨fun (qc38 : gvG G w = giv + 1) => (show Φ 692 [some (zo 64), some (zi w), some (zi r), some (zi x), some (zi c), some (zi st), some (zi tol), some (zo sp), some (zo sq), some (zi fu), some (zo sa), some (zo sb), some (zi due), some (zi val), some (zi bi), some (zi giv), some (zi 0), none] [] M1 (k + 2 + 2 + 1 + 2) (n + 12 + 12 + 6 + 12) from ?g44l12), fun (qc39 : gvG G w ≠ giv + 1) => ⟨(Or.inl rfl), (show K (some (zi 0)) M1 from ?g44l13)⟩⟩⟩))⟩⟩, fun (qc40 : due = 2) => ⟨fun (qc41 : fiG G r ≠ bi) => ⟨(Or.inl rfl), (show K (some (zi 0)) M1 from ?g44l14)⟩, fun (qc42 : fiG G r = bi) => ⟨⟨(by omega), (by omega)⟩, ⟨⟨rfl, rfl⟩, hS1.2.1.1.w.rcv⟩, (R_gvn hS1.2.1 (by omega) (fun (qg43 : zrg (gvG G w)) qm44 => ⟨(zrgI (x := giv + 1) (by omega)), ⟨fun (qc45 : gvG G w = giv + 1) => (show Φ 692 [some (zo 64), some (zi w), some (zi r), some (zi x), some (zi c), some (zi st), some (zi tol), some (zo sp), some (zo sq), some (zi fu), some (zo sa), some (zo sb), some (zi due), some (zi val), some (zi bi), some (zi giv), some (zi 0), none] [] M1 (k + 2 + 2 + 1 + 2) (n + 12 + 12 + 6 + 12) from ?g44l15), fun (qc46 : gvG G w ≠ giv + 1) => ⟨(Or.inl rfl), (show K (some (zi 0)) M1 from ?g44l16)⟩⟩⟩))⟩⟩⟩))⟩⟩⟩))⟩⟩))⟩⟩
    case g44l1 => exfalso; omega
    case g44l2 => exfalso; omega
    case g44l3 => exfalso; omega
    case g44l4 => exfalso; omega
    case g44l5 => exact e692 c st tol sp sq fu G M1 sa sb fa fb _ _ _ _ hS1 hA1 hB1 hr hf hpt 0 (by omega) (by omega) _ _ (by omega) (by omega)
    case g44l6 => exfalso; omega
    case g44l7 => exfalso; omega
    case g44l8 => exact e692 c st tol sp sq fu G M1 sa sb fa fb _ _ _ _ hS1 hA1 hB1 hr hf hpt 0 (by omega) (by omega) _ _ (by omega) (by omega)
    case g44l9 => exfalso; omega
    case g44l10 => exfalso; omega
    case g44l11 => exfalso; omega
    case g44l12 => exact e692 c st tol sp sq fu G M1 sa sb fa fb _ _ _ _ hS1 hA1 hB1 hr hf hpt 0 (by omega) (by omega) _ _ (by omega) (by omega)
    case g44l13 => exfalso; omega
    case g44l14 => exfalso; omega
    case g44l15 => exact e692 c st tol sp sq fu G M1 sa sb fa fb _ _ _ _ hS1 hA1 hB1 hr hf hpt 0 (by omega) (by omega) _ _ (by omega) (by omega)
    case g44l16 => exfalso; omega

set_option maxRecDepth 100000 in
set_option maxHeartbeats 4000000 in
theorem DL_e569 {S : Nat × (Nat → Int)} {kk : Int} {G : Gm} {M : ZM} {w r x : Int} {K : ZRet} {KX : ZEx} {Φ : ZPhi} (hΦ : zClosed (cd_L_delivers T_X8_row T_X8_property T_X8_taking T_L_trusts T_X8_worker T_L_capped T_X8_stateIf T_X8_trustIf T_L_delivered T_X8_finishers T_L_are) K KX 160 1000 Φ) (hS : LSt S kk G M) (hkk : kk + 1 ≤ 1000) (hw : 0 ≤ w ∧ w < G 4) (hr : 0 ≤ r ∧ r < G 5) (hx : 0 ≤ x ∧ x ≤ 99) (hfw : fWorksAt G w r = true) (hK : ∀ (G' : Gm) (M' : ZM), LSt S (kk + 1) G' M' → K (some (zi 1)) M') : ∀ (c st tol : Int) (sp sq : Nat) (fu : Int) (sa sb : Nat) (fa : Int → Int) (due val bi : Int), DR G (fDel G w r x) r w due val bi fa → ∀ i, 0 ≤ i → i ≤ G 4 → ∀ (M1 : ZM) (k n : Nat), LSt S kk G M1 → AR M1 sa (G 4).toNat fa → AR M1 sb (G 4).toNat (ptG G) → (k : Int) ≤ 62 + 5 * i → (n : Int) ≤ 366 + 30 * i → Φ 569 [some (zo 64), some (zi w), some (zi r), some (zi x), some (zi c), some (zi st), some (zi tol), some (zo sp), some (zo sq), some (zi fu), some (zo sa), some (zo sb), some (zi due), some (zi val), some (zi bi), some (zi i), none, none] [] M1 k n := by
  have h4 := hS.g4
  have h5 := hS.g5
  have hI := hS.2.2.2.1
  have hcb := hS.g3 hr
  have e617 := @DL_e617 S kk G M w r x K KX Φ hΦ hS hkk hw hr hx hfw hK
  exact fun c st tol sp sq fu sa sb fa due val bi hD => by
    refine zdown (n := G 4) (fun i i0 i1 ih M1 k n hS1 hA1 hB1 hk hn => ?_)
    have hg0 : 0 ≤ gvG G w ∧ gvG G w ≤ 100000 := (hS1.2.1.2.2.2.1.2.2.2.2.1 w hw.1 hw.2).2.2.2.2.1
    have hq := fun z : i < G 4 => (hD.2.2.2.1 i i0 z).1
    refine zGoR hΦ [569, 617] 400 (fun hL9 _ hM _ _ => ?_)
    obtain ⟨qL1, qL2, qL3, qL4, qL5, qL6, qL7, qL8, qL9, qL10, qL11, _⟩ : zrg w ∧ zrg r ∧ zrg x ∧ zrg c ∧ zrg st ∧ zrg tol ∧ zrg fu ∧ zrg due ∧ zrg val ∧ zrg bi ∧ zrg i ∧ True := hL9
    refine ⟨(zlenW hA1.1.1 (by decide)), zIr (congrArg (fun n : Nat => (n : Int)) hA1.1.2) (⟨fun (qc1 : i ≥ ((G 4).toNat : Int)) => ⟨⟨(by omega), (by omega)⟩, ⟨⟨rfl, rfl⟩, hS1.2.1.1.w.rcv⟩, (R_gvn hS1.2.1 (by omega) (fun (qg2 : zrg (gvG G w)) qm3 => ⟨⟨(by omega), (by omega)⟩, ⟨⟨rfl, rfl⟩, trivial⟩, (W_deliv hS1 hkk hw hr hx hfw (fun M2 hS2 hF2 => fun (qs : zrg (stG (fDel G w r x) r)) _ => (show Φ 617 [some (zo 64), some (zi w), some (zi r), some (zi x), some (zi c), some (zi st), some (zi tol), some (zo sp), some (zo sq), some (zi fu), some (zo sa), some (zo sb), some (zi due), some (zi val), some (zi bi), some (zi (gvG G w)), none, none] [zi (stG (fDel G w r x) r)] M2 (k + 2 + 4) (n + 12 + 24) from ?g45l1)))⟩))⟩, fun (qc4 : i < ((G 4).toNat : Int)) => ⟨⟨(by omega), (by omega)⟩, ⟨⟨rfl, rfl⟩, hS1.2.1.1.w.rcv⟩, (R_trIf hS1.2.1 hw hr hx (by omega) hfw (fun M2 hV2 => have hS2 := hS1.vd hV2; have hA2 := hA1.fr hV2 (nvd hA1); have hB2 := hB1.fr hV2 (nvd hB1); fun (qs : zrg (trG (fDel G w r x) i)) _ => ⟨zixO hA2.1.1 hA2.1.2 (i := i) (by omega) (by omega), zIr ((hA2.2.2 i (by omega) (by omega))) (⟨fun (qc5 : trG (fDel G w r x) i = fa i) => ⟨(zrgI (x := i + 1) (by omega)), (show Φ 569 [some (zo 64), some (zi w), some (zi r), some (zi x), some (zi c), some (zi st), some (zi tol), some (zo sp), some (zo sq), some (zi fu), some (zo sa), some (zo sb), some (zi due), some (zi val), some (zi bi), some (zi (i + 1)), none, none] [] M2 (k + 5) (n + 30) from ?g45l2)⟩, fun (qc6 : trG (fDel G w r x) i ≠ fa i) => ⟨(Or.inl rfl), (show K (some (zi 0)) M2 from ?g45l3)⟩⟩)⟩))⟩⟩)⟩
    case g45l1 =>
      obtain ⟨a1, a2, a3, a4, a5, a6, a7⟩ := hD
      rw [a1]
      refine e617 c st tol sp sq fu _ M2 sa sb fa (ptG G) due val bi _ _ _ hS2 (by rw [a6]; exact hA1.fr hF2 (ncw hA1)) (by rw [a6]; exact hB1.fr hF2 (ncw hB1)) (by rw [a6]; exact hw) (by rw [a7]; exact hr) (fun o o0 o1 => (a4 o o0 (by rw [a6] at o1; exact o1)).1) (fun o o0 o1 => ?_) a1 a2 a3 (by omega) (by omega)
      rw [a5]
      exact (a4 o o0 (by rw [a6] at o1; exact o1)).2
    case g45l2 => exact ih (by omega) _ _ _ hS2 hA2 hB2 (by omega) (by omega)
    case g45l3 => exact absurd (hq (by omega)) qc6

set_option maxRecDepth 100000 in
set_option maxHeartbeats 4000000 in
theorem DL_e552 {S : Nat × (Nat → Int)} {kk : Int} {G : Gm} {M : ZM} {w r x : Int} {K : ZRet} {KX : ZEx} {Φ : ZPhi} (hΦ : zClosed (cd_L_delivers T_X8_row T_X8_property T_X8_taking T_L_trusts T_X8_worker T_L_capped T_X8_stateIf T_X8_trustIf T_L_delivered T_X8_finishers T_L_are) K KX 160 1000 Φ) (hS : LSt S kk G M) (hkk : kk + 1 ≤ 1000) (hw : 0 ≤ w ∧ w < G 4) (hr : 0 ≤ r ∧ r < G 5) (hx : 0 ≤ x ∧ x ≤ 99) (hfw : fWorksAt G w r = true) (hK : ∀ (G' : Gm) (M' : ZM), LSt S (kk + 1) G' M' → K (some (zi 1)) M') : ∀ (c st tol : Int) (sp sq : Nat) (fu : Int) (sa sb : Nat) (fa : Int → Int) (due val bi : Int), DR G (fDel G w r x) r w due val bi fa → ∀ (M1 : ZM) (k n : Nat), LSt S kk G M1 → AR M1 sa (G 4).toNat fa → AR M1 sb (G 4).toNat (ptG G) → k ≤ 58 → n ≤ 342 → Φ 552 [some (zo 64), some (zi w), some (zi r), some (zi x), some (zi c), some (zi st), some (zi tol), some (zo sp), some (zo sq), some (zi fu), some (zo sa), some (zo sb), some (zi due), some (zi val), some (zi bi), none, none, none] [] M1 k n := by
  have h4 := hS.g4
  have h5 := hS.g5
  have hI := hS.2.2.2.1
  have hcb := hS.g3 hr
  have e569 := @DL_e569 S kk G M w r x K KX Φ hΦ hS hkk hw hr hx hfw hK
  exact fun c st tol sp sq fu sa sb fa due val bi hD M1 k n hS1 hA1 hB1 hk hn => by
    refine zGoR hΦ [569] 400 (fun hL9 _ hM _ _ => ?_)
    obtain ⟨qL1, qL2, qL3, qL4, qL5, qL6, qL7, qL8, qL9, qL10, _⟩ : zrg w ∧ zrg r ∧ zrg x ∧ zrg c ∧ zrg st ∧ zrg tol ∧ zrg fu ∧ zrg due ∧ zrg val ∧ zrg bi ∧ True := hL9
    refine ⟨⟨(by omega), (by omega)⟩, ⟨⟨rfl, rfl⟩, hS1.2.1.1.w.rcv⟩, (R_stIf hS1.2.1 hw hr hx hfw (fun M2 hV2 => have hS2 := hS1.vd hV2; have hA2 := hA1.fr hV2 (nvd hA1); have hB2 := hB1.fr hV2 (nvd hB1); fun (qs : zrg (stG (fDel G w r x) r)) _ => ⟨fun (qc1 : stG (fDel G w r x) r = due) => (show Φ 569 [some (zo 64), some (zi w), some (zi r), some (zi x), some (zi c), some (zi st), some (zi tol), some (zo sp), some (zo sq), some (zi fu), some (zo sa), some (zo sb), some (zi due), some (zi val), some (zi bi), some (zi 0), none, none] [] M2 (k + 4) (n + 24) from ?g46l1), fun (qc2 : stG (fDel G w r x) r ≠ due) => ⟨(Or.inl rfl), (show K (some (zi 0)) M2 from ?g46l2)⟩⟩))⟩
    case g46l1 => exact e569 c st tol sp sq fu sa sb fa due val bi hD 0 (by omega) (by omega) _ _ _ hS2 hA2 hB2 (by omega) (by omega)
    case g46l2 => exact absurd hD.1 qc2

set_option maxRecDepth 100000 in
set_option maxHeartbeats 4000000 in
theorem DL_eA3 {S : Nat × (Nat → Int)} {kk : Int} {G : Gm} {M : ZM} {w r x : Int} {K : ZRet} {KX : ZEx} {Φ : ZPhi} (hΦ : zClosed (cd_L_delivers T_X8_row T_X8_property T_X8_taking T_L_trusts T_X8_worker T_L_capped T_X8_stateIf T_X8_trustIf T_L_delivered T_X8_finishers T_L_are) K KX 160 1000 Φ) (hS : LSt S kk G M) (hkk : kk + 1 ≤ 1000) (hw : 0 ≤ w ∧ w < G 4) (hr : 0 ≤ r ∧ r < G 5) (hx : 0 ≤ x ∧ x ≤ 99) (hfw : fWorksAt G w r = true) (hK : ∀ (G' : Gm) (M' : ZM), LSt S (kk + 1) G' M' → K (some (zi 1)) M') : ∀ (c : Int) (sp sq sa sb : Nat) (M1 : ZM) (k n : Nat), ∀ due val bi : Int, cnc G r = 2 → (sb ≠ sa ∧ sp ≠ sa ∧ sq ≠ sa) → (due = 2 → DR G (fDel G w r x) r w due val bi (aSt (aSt (trG G) (wkc G r 0) (cpd (trG G (wkc G r 0) + 1))) (wkc G r 1) (cpd (trG G (wkc G r 1) + 1)))) → (due ≠ 2 → DR G (fDel G w r x) r w due val bi (trG G)) → LSt S kk G M1 → AR M1 sp (cnc G r).toNat (wkc G r) → AR M1 sq (cnc G r).toNat (dvv G r w x) → AR M1 sa (G 4).toNat (trG G) → AR M1 sb (G 4).toNat (ptG G) → k ≤ 58 → n ≤ 342 → Φ 262 [some (zo 64), some (zi w), some (zi r), some (zi x), some (zi c), some (zi 0), some (zi (G 0)), some (zo sp), some (zo sq), some (zi 1), some (zo sa), some (zo sb), some (zi due), some (zi val), some (zi bi), none, none, none] [] M1 k n := by
  have h4 := hS.g4
  have h5 := hS.g5
  have hI := hS.2.2.2.1
  have hcb := hS.g3 hr
  have e552 := @DL_e552 S kk G M w r x K KX Φ hΦ hS hkk hw hr hx hfw hK
  exact fun c sp sq sa sb M1 k n due val bi hcn hsab hd2 hd1 hS1 hP1 hQ1 hA1 hB1 hk hn => by
    have htb : ∀ j, 0 ≤ j → j < G 4 → 0 ≤ trG G j ∧ trG G j ≤ 20 := fun j a b => (hS.2.1.2.2.2.1.2.2.2.2.1 j a b).2.2.1
    have hwk := fun (j : Int) (a : 0 ≤ j) (b : j < cnc G r) => hS.2.1.wk (k := j) hr ⟨a, b⟩
    have hne := fun (i j : Int) (a : 0 ≤ i) (b : i < j) (d : j < cnc G r) => (hS.2.1.2.2.2.2.1 r hr.1 hr.2).2.1 i j a b d
    have hdb := fun (j : Int) (a : 0 ≤ j) (b : j < cnc G r) => dvv_b (w := w) (x := x) hS hr hx ⟨a, b⟩
    have w0 := hwk 0 (by decide) (by omega)
    have t0 := htb _ w0.1 w0.2
    have d0 := hdb 0 (by decide) (by omega)
    have w1 := hwk 1 (by decide) (by omega)
    have t1 := htb _ w1.1 w1.2
    have d1 := hdb 1 (by decide) (by omega)
    have n01 : wkc G r 0 ≠ wkc G r 1 := hne 0 1 (by decide) (by decide) (by omega)
    refine zGoR hΦ [552] 400 (fun hL9 _ hM _ _ => ?_)
    obtain ⟨qL1, qL2, qL3, qL4, qL5, qL6, qL7, qL8, qL9, qL10, _⟩ : zrg w ∧ zrg r ∧ zrg x ∧ zrg c ∧ zrg 0 ∧ zrg (G 0) ∧ zrg 1 ∧ zrg due ∧ zrg val ∧ zrg bi ∧ True := hL9
    refine ⟨fun (qc1 : due ≠ 2) => (show Φ 552 [some (zo 64), some (zi w), some (zi r), some (zi x), some (zi c), some (zi 0), some (zi (G 0)), some (zo sp), some (zo sq), some (zi 1), some (zo sa), some (zo sb), some (zi due), some (zi val), some (zi bi), none, none, none] [] M1 (k) (n) from ?g47l1), fun (qc2 : due = 2) => ⟨fun (h : (0 : Int) ≥ 2) => absurd h (by decide), fun _ => ⟨zixO hP1.1.1 hP1.1.2 (i := 0) (by omega) (by omega), zIr ((hP1.2.2 0 (by omega) (by omega))) (⟨zixO hP1.1.1 hP1.1.2 (i := 0) (by omega) (by omega), zIr ((hP1.2.2 0 (by omega) (by omega))) (⟨zixO hA1.1.1 hA1.1.2 (i := wkc G r 0) (by omega) (by omega), zIr ((hA1.2.2 (wkc G r 0) (by omega) (by omega))) (⟨(zrgI (x := trG G (wkc G r 0) + 1) (by omega)), ⟨⟨⟨rfl, rfl⟩, trivial⟩, (D_capped (fun (qg3 : zrg (cpd (trG G (wkc G r 0) + 1))) qm4 => ⟨⟨zixW hA1.1.1 hA1.1.2 (i := wkc G r 0) (by omega) (by omega), trivial⟩, ⟨(by decide), ⟨fun (h : (1 : Int) ≥ 2) => absurd h (by decide), fun _ => ⟨zixO hP1.1.1 hP1.1.2 (i := 1) (by omega) (by omega), zIr ((zIn _ _ _ (by omega)).trans ((hP1.2.2 1 (by omega) (by omega)))) (⟨zixO hP1.1.1 hP1.1.2 (i := 1) (by omega) (by omega), zIr ((zIn _ _ _ (by omega)).trans ((hP1.2.2 1 (by omega) (by omega)))) (⟨zixO hA1.1.1 hA1.1.2 (i := wkc G r 1) (by omega) (by omega), zIr ((zIm _ _ _ (by omega)).trans ((hA1.2.2 (wkc G r 1) (by omega) (by omega)))) (⟨(zrgI (x := trG G (wkc G r 1) + 1) (by omega)), ⟨⟨⟨rfl, rfl⟩, trivial⟩, (D_capped (fun (qg5 : zrg (cpd (trG G (wkc G r 1) + 1))) qm6 => ⟨⟨zixW hA1.1.1 hA1.1.2 (i := wkc G r 1) (by omega) (by omega), trivial⟩, ⟨(by decide), ⟨fun _ => (zFg hΦ 15 (show Φ 552 [some (zo 64), some (zi w), some (zi r), some (zi x), some (zi c), some (zi 0), some (zi (G 0)), some (zo sp), some (zo sq), some (zi 1), some (zo sa), some (zo sb), some (zi due), some (zi val), some (zi bi), none, none, none] [] (zsI (zsI M1 sa (wkc G r 0).toNat (cpd (trG G (wkc G r 0) + 1))) sa (wkc G r 1).toNat (cpd (trG G (wkc G r 1) + 1))) (k) (n) from ?g47l2)), fun (h : (2 : Int) < 2) => absurd h (by decide)⟩⟩⟩))⟩⟩)⟩)⟩)⟩⟩⟩⟩))⟩⟩)⟩)⟩)⟩⟩⟩
    case g47l1 => exact e552 _ _ _ _ _ _ _ _ _ _ _ _ (hd1 (by omega)) _ _ _ hS1 hA1 hB1 hk hn
    case g47l2 => exact e552 _ _ _ _ _ _ _ _ _ _ _ _ (hd2 (by omega)) _ _ _ ((hS1.si hA1).si (hA1.set (by omega))) ((hA1.set (by omega)).set (by omega)) ((hB1.so hA1 hsab.1).so (hA1.set (by omega)) hsab.1) hk hn

set_option maxRecDepth 100000 in
set_option maxHeartbeats 4000000 in
theorem DL_eA2 {S : Nat × (Nat → Int)} {kk : Int} {G : Gm} {M : ZM} {w r x : Int} {K : ZRet} {KX : ZEx} {Φ : ZPhi} (hΦ : zClosed (cd_L_delivers T_X8_row T_X8_property T_X8_taking T_L_trusts T_X8_worker T_L_capped T_X8_stateIf T_X8_trustIf T_L_delivered T_X8_finishers T_L_are) K KX 160 1000 Φ) (hS : LSt S kk G M) (hkk : kk + 1 ≤ 1000) (hw : 0 ≤ w ∧ w < G 4) (hr : 0 ≤ r ∧ r < G 5) (hx : 0 ≤ x ∧ x ≤ 99) (hfw : fWorksAt G w r = true) (hK : ∀ (G' : Gm) (M' : ZM), LSt S (kk + 1) G' M' → K (some (zi 1)) M') : ∀ (c : Int) (sp sq sa sb : Nat) (M1 : ZM) (k n : Nat), ∀ due val : Int, cnc G r = 2 → (sb ≠ sa ∧ sp ≠ sa ∧ sq ≠ sa) → val = (if trG G (wkc G r 0) < trG G (wkc G r 1) then dvv G r w x 1 else dvv G r w x 0) → (∀ v : Int, (due = 2 → v = (if trG G (wkc G r 0) < trG G (wkc G r 1) then dvv G r w x 1 else dvv G r w x 0) → DR G (fDel G w r x) r w due v (zor (zshl 1 (wkc G r 0)) (zshl 1 (wkc G r 1))) (aSt (aSt (trG G) (wkc G r 0) (cpd (trG G (wkc G r 0) + 1))) (wkc G r 1) (cpd (trG G (wkc G r 1) + 1)))) ∧ (due ≠ 2 → DR G (fDel G w r x) r w due v (zor (zshl 1 (wkc G r 0)) (zshl 1 (wkc G r 1))) (trG G))) → LSt S kk G M1 → AR M1 sp (cnc G r).toNat (wkc G r) → AR M1 sq (cnc G r).toNat (dvv G r w x) → AR M1 sa (G 4).toNat (trG G) → AR M1 sb (G 4).toNat (ptG G) → k ≤ 58 → n ≤ 342 → Φ 247 [some (zo 64), some (zi w), some (zi r), some (zi x), some (zi c), some (zi 0), some (zi (G 0)), some (zo sp), some (zo sq), some (zi 1), some (zo sa), some (zo sb), some (zi due), some (zi val), some (zi 0), none, none, none] [] M1 k n := by
  have h4 := hS.g4
  have h5 := hS.g5
  have hI := hS.2.2.2.1
  have hcb := hS.g3 hr
  have eA3 := @DL_eA3 S kk G M w r x K KX Φ hΦ hS hkk hw hr hx hfw hK
  exact fun c sp sq sa sb M1 k n due val hcn hsab hval hD hS1 hP1 hQ1 hA1 hB1 hk hn => by
    have htb : ∀ j, 0 ≤ j → j < G 4 → 0 ≤ trG G j ∧ trG G j ≤ 20 := fun j a b => (hS.2.1.2.2.2.1.2.2.2.2.1 j a b).2.2.1
    have hwk := fun (j : Int) (a : 0 ≤ j) (b : j < cnc G r) => hS.2.1.wk (k := j) hr ⟨a, b⟩
    have hne := fun (i j : Int) (a : 0 ≤ i) (b : i < j) (d : j < cnc G r) => (hS.2.1.2.2.2.2.1 r hr.1 hr.2).2.1 i j a b d
    have hdb := fun (j : Int) (a : 0 ≤ j) (b : j < cnc G r) => dvv_b (w := w) (x := x) hS hr hx ⟨a, b⟩
    have w0 := hwk 0 (by decide) (by omega)
    have t0 := htb _ w0.1 w0.2
    have d0 := hdb 0 (by decide) (by omega)
    have w1 := hwk 1 (by decide) (by omega)
    have t1 := htb _ w1.1 w1.2
    have d1 := hdb 1 (by decide) (by omega)
    have n01 : wkc G r 0 ≠ wkc G r 1 := hne 0 1 (by decide) (by decide) (by omega)
    refine zGoR hΦ [262] 400 (fun hL9 _ hM _ _ => ?_)
    obtain ⟨qL1, qL2, qL3, qL4, qL5, qL6, qL7, qL8, qL9, qL10, _⟩ : zrg w ∧ zrg r ∧ zrg x ∧ zrg c ∧ zrg 0 ∧ zrg (G 0) ∧ zrg 1 ∧ zrg due ∧ zrg val ∧ zrg 0 ∧ True := hL9
    refine ⟨zixO hP1.1.1 hP1.1.2 (i := 0) (by omega) (by omega), zIr ((hP1.2.2 0 (by omega) (by omega))) (⟨zixO hP1.1.1 hP1.1.2 (i := 1) (by omega) (by omega), zIr ((hP1.2.2 1 (by omega) (by omega))) ((show Φ 262 [some (zo 64), some (zi w), some (zi r), some (zi x), some (zi c), some (zi 0), some (zi (G 0)), some (zo sp), some (zo sq), some (zi 1), some (zo sa), some (zo sb), some (zi due), some (zi val), some (zi (zor (zshl 1 (wkc G r 0)) (zshl 1 (wkc G r 1)))), none, none, none] [] M1 (k) (n) from ?g48l1))⟩)⟩
    case g48l1 => exact eA3 _ _ _ _ _ _ _ _ _ _ _ hcn hsab (fun z => (hD val).1 z hval) (fun z => (hD val).2 z) hS1 hP1 hQ1 hA1 hB1 hk hn

set_option maxRecDepth 100000 in
set_option maxHeartbeats 4000000 in
theorem DL_eA1 {S : Nat × (Nat → Int)} {kk : Int} {G : Gm} {M : ZM} {w r x : Int} {K : ZRet} {KX : ZEx} {Φ : ZPhi} (hΦ : zClosed (cd_L_delivers T_X8_row T_X8_property T_X8_taking T_L_trusts T_X8_worker T_L_capped T_X8_stateIf T_X8_trustIf T_L_delivered T_X8_finishers T_L_are) K KX 160 1000 Φ) (hS : LSt S kk G M) (hkk : kk + 1 ≤ 1000) (hw : 0 ≤ w ∧ w < G 4) (hr : 0 ≤ r ∧ r < G 5) (hx : 0 ≤ x ∧ x ≤ 99) (hfw : fWorksAt G w r = true) (hK : ∀ (G' : Gm) (M' : ZM), LSt S (kk + 1) G' M' → K (some (zi 1)) M') : ∀ (c : Int) (sp sq sa sb : Nat) (M1 : ZM) (k n : Nat), ∀ due : Int, cnc G r = 2 → (sb ≠ sa ∧ sp ≠ sa ∧ sq ≠ sa) → (∀ v : Int, (due = 2 → v = (if trG G (wkc G r 0) < trG G (wkc G r 1) then dvv G r w x 1 else dvv G r w x 0) → DR G (fDel G w r x) r w due v (zor (zshl 1 (wkc G r 0)) (zshl 1 (wkc G r 1))) (aSt (aSt (trG G) (wkc G r 0) (cpd (trG G (wkc G r 0) + 1))) (wkc G r 1) (cpd (trG G (wkc G r 1) + 1)))) ∧ (due ≠ 2 → DR G (fDel G w r x) r w due v (zor (zshl 1 (wkc G r 0)) (zshl 1 (wkc G r 1))) (trG G))) → LSt S kk G M1 → AR M1 sp (cnc G r).toNat (wkc G r) → AR M1 sq (cnc G r).toNat (dvv G r w x) → AR M1 sa (G 4).toNat (trG G) → AR M1 sb (G 4).toNat (ptG G) → k ≤ 58 → n ≤ 342 → Φ 217 [some (zo 64), some (zi w), some (zi r), some (zi x), some (zi c), some (zi 0), some (zi (G 0)), some (zo sp), some (zo sq), some (zi 1), some (zo sa), some (zo sb), some (zi due), some (zi (-1)), some (zi 0), none, none, none] [] M1 k n := by
  have h4 := hS.g4
  have h5 := hS.g5
  have hI := hS.2.2.2.1
  have hcb := hS.g3 hr
  have eA2 := @DL_eA2 S kk G M w r x K KX Φ hΦ hS hkk hw hr hx hfw hK
  exact fun c sp sq sa sb M1 k n due hcn hsab hD hS1 hP1 hQ1 hA1 hB1 hk hn => by
    have htb : ∀ j, 0 ≤ j → j < G 4 → 0 ≤ trG G j ∧ trG G j ≤ 20 := fun j a b => (hS.2.1.2.2.2.1.2.2.2.2.1 j a b).2.2.1
    have hwk := fun (j : Int) (a : 0 ≤ j) (b : j < cnc G r) => hS.2.1.wk (k := j) hr ⟨a, b⟩
    have hne := fun (i j : Int) (a : 0 ≤ i) (b : i < j) (d : j < cnc G r) => (hS.2.1.2.2.2.2.1 r hr.1 hr.2).2.1 i j a b d
    have hdb := fun (j : Int) (a : 0 ≤ j) (b : j < cnc G r) => dvv_b (w := w) (x := x) hS hr hx ⟨a, b⟩
    have w0 := hwk 0 (by decide) (by omega)
    have t0 := htb _ w0.1 w0.2
    have d0 := hdb 0 (by decide) (by omega)
    have w1 := hwk 1 (by decide) (by omega)
    have t1 := htb _ w1.1 w1.2
    have d1 := hdb 1 (by decide) (by omega)
    have n01 : wkc G r 0 ≠ wkc G r 1 := hne 0 1 (by decide) (by decide) (by omega)
    refine zGoR hΦ [247] 400 (fun hL9 _ hM _ _ => ?_)
    obtain ⟨qL1, qL2, qL3, qL4, qL5, qL6, qL7, qL8, qL9, qL10, _⟩ : zrg w ∧ zrg r ∧ zrg x ∧ zrg c ∧ zrg 0 ∧ zrg (G 0) ∧ zrg 1 ∧ zrg due ∧ zrg (-1) ∧ zrg 0 ∧ True := hL9
    refine ⟨zixO hP1.1.1 hP1.1.2 (i := 1) (by omega) (by omega), zIr ((hP1.2.2 1 (by omega) (by omega))) (⟨zixO hA1.1.1 hA1.1.2 (i := wkc G r 1) (by omega) (by omega), zIr ((hA1.2.2 (wkc G r 1) (by omega) (by omega))) (⟨zixO hP1.1.1 hP1.1.2 (i := 0) (by omega) (by omega), zIr ((hP1.2.2 0 (by omega) (by omega))) (⟨zixO hA1.1.1 hA1.1.2 (i := wkc G r 0) (by omega) (by omega), zIr ((hA1.2.2 (wkc G r 0) (by omega) (by omega))) (⟨fun (qc1 : trG G (wkc G r 1) ≤ trG G (wkc G r 0)) => ⟨zixO hQ1.1.1 hQ1.1.2 (i := 0) (by omega) (by omega), zIr ((hQ1.2.2 0 (by omega) (by omega))) ((show Φ 247 [some (zo 64), some (zi w), some (zi r), some (zi x), some (zi c), some (zi 0), some (zi (G 0)), some (zo sp), some (zo sq), some (zi 1), some (zo sa), some (zo sb), some (zi due), some (zi (dvv G r w x 0)), some (zi 0), none, none, none] [] M1 (k) (n) from ?g49l1))⟩, fun (qc2 : trG G (wkc G r 1) > trG G (wkc G r 0)) => ⟨zixO hQ1.1.1 hQ1.1.2 (i := 1) (by omega) (by omega), zIr ((hQ1.2.2 1 (by omega) (by omega))) ((show Φ 247 [some (zo 64), some (zi w), some (zi r), some (zi x), some (zi c), some (zi 0), some (zi (G 0)), some (zo sp), some (zo sq), some (zi 1), some (zo sa), some (zo sb), some (zi due), some (zi (dvv G r w x 1)), some (zi 0), none, none, none] [] M1 (k) (n) from ?g49l2))⟩⟩)⟩)⟩)⟩)⟩
    case g49l1 =>
      refine eA2 _ _ _ _ _ _ _ _ _ _ hcn hsab ?_ hD hS1 hP1 hQ1 hA1 hB1 hk hn
      first
        | rw [if_pos (by omega)]
        | rw [if_neg (by omega)]
    case g49l2 =>
      refine eA2 _ _ _ _ _ _ _ _ _ _ hcn hsab ?_ hD hS1 hP1 hQ1 hA1 hB1 hk hn
      first
        | rw [if_pos (by omega)]
        | rw [if_neg (by omega)]

set_option maxRecDepth 100000 in
set_option maxHeartbeats 4000000 in
theorem DL_eA {S : Nat × (Nat → Int)} {kk : Int} {G : Gm} {M : ZM} {w r x : Int} {K : ZRet} {KX : ZEx} {Φ : ZPhi} (hΦ : zClosed (cd_L_delivers T_X8_row T_X8_property T_X8_taking T_L_trusts T_X8_worker T_L_capped T_X8_stateIf T_X8_trustIf T_L_delivered T_X8_finishers T_L_are) K KX 160 1000 Φ) (hS : LSt S kk G M) (hkk : kk + 1 ≤ 1000) (hw : 0 ≤ w ∧ w < G 4) (hr : 0 ≤ r ∧ r < G 5) (hx : 0 ≤ x ∧ x ≤ 99) (hfw : fWorksAt G w r = true) (hK : ∀ (G' : Gm) (M' : ZM), LSt S (kk + 1) G' M' → K (some (zi 1)) M') : ∀ (c : Int) (sp sq sa sb : Nat) (M1 : ZM) (k n : Nat), stG G r = 0 → cnc G r = 2 → (0 ≤ dvv G r w x 0 ∧ 0 ≤ dvv G r w x 1) → (sb ≠ sa ∧ sp ≠ sa ∧ sq ≠ sa) → LSt S kk G M1 → AR M1 sp (cnc G r).toNat (wkc G r) → AR M1 sq (cnc G r).toNat (dvv G r w x) → AR M1 sa (G 4).toNat (trG G) → AR M1 sb (G 4).toNat (ptG G) → k ≤ 58 → n ≤ 342 → Φ 183 [some (zo 64), some (zi w), some (zi r), some (zi x), some (zi c), some (zi 0), some (zi (G 0)), some (zo sp), some (zo sq), some (zi 1), some (zo sa), some (zo sb), some (zi 0), some (zi (-1)), some (zi 0), none, none, none] [] M1 k n := by
  have h4 := hS.g4
  have h5 := hS.g5
  have hI := hS.2.2.2.1
  have hcb := hS.g3 hr
  have eA1 := @DL_eA1 S kk G M w r x K KX Φ hΦ hS hkk hw hr hx hfw hK
  exact fun c sp sq sa sb M1 k n hst hcn hv hsab hS1 hP1 hQ1 hA1 hB1 hk hn => by
    have hDA := DR_A (x := x) hI hw hr hfw hst hcn hv
    have htb : ∀ j, 0 ≤ j → j < G 4 → 0 ≤ trG G j ∧ trG G j ≤ 20 := fun j a b => (hS.2.1.2.2.2.1.2.2.2.2.1 j a b).2.2.1
    have hwk := fun (j : Int) (a : 0 ≤ j) (b : j < cnc G r) => hS.2.1.wk (k := j) hr ⟨a, b⟩
    have hne := fun (i j : Int) (a : 0 ≤ i) (b : i < j) (d : j < cnc G r) => (hS.2.1.2.2.2.2.1 r hr.1 hr.2).2.1 i j a b d
    have hdb := fun (j : Int) (a : 0 ≤ j) (b : j < cnc G r) => dvv_b (w := w) (x := x) hS hr hx ⟨a, b⟩
    have w0 := hwk 0 (by decide) (by omega)
    have t0 := htb _ w0.1 w0.2
    have d0 := hdb 0 (by decide) (by omega)
    have w1 := hwk 1 (by decide) (by omega)
    have t1 := htb _ w1.1 w1.2
    have d1 := hdb 1 (by decide) (by omega)
    have n01 : wkc G r 0 ≠ wkc G r 1 := hne 0 1 (by decide) (by decide) (by omega)
    refine zGoR hΦ [217] 400 (fun hL9 _ hM _ _ => ?_)
    obtain ⟨qL1, qL2, qL3, qL4, qL5, qL6, qL7, qL8, qL9, qL10, _⟩ : zrg w ∧ zrg r ∧ zrg x ∧ zrg c ∧ zrg 0 ∧ zrg (G 0) ∧ zrg 1 ∧ zrg 0 ∧ zrg (-1) ∧ zrg 0 ∧ True := hL9
    refine ⟨fun (h : (1 : Int) = 0) => absurd h (by decide), fun _ => ⟨fun (h : (0 : Int) ≠ 0) => absurd h (by decide), fun _ => ⟨zixO hQ1.1.1 hQ1.1.2 (i := 0) (by omega) (by omega), zIr ((hQ1.2.2 0 (by omega) (by omega))) (⟨zixO hQ1.1.1 hQ1.1.2 (i := 1) (by omega) (by omega), zIr ((hQ1.2.2 1 (by omega) (by omega))) (⟨(zrgI (x := dvv G r w x 0 - (dvv G r w x 1)) (by omega)), ⟨⟨rfl, zabsL (x := dvv G r w x 0 - (dvv G r w x 1)) (by omega)⟩, ⟨fun (qc1 : zabs (dvv G r w x 0 - (dvv G r w x 1)) > G 0) => (show Φ 217 [some (zo 64), some (zi w), some (zi r), some (zi x), some (zi c), some (zi 0), some (zi (G 0)), some (zo sp), some (zo sq), some (zi 1), some (zo sa), some (zo sb), some (zi 1), some (zi (-1)), some (zi 0), none, none, none] [] M1 (k) (n) from ?g50l1), fun (qc2 : zabs (dvv G r w x 0 - (dvv G r w x 1)) ≤ G 0) => (show Φ 217 [some (zo 64), some (zi w), some (zi r), some (zi x), some (zi c), some (zi 0), some (zi (G 0)), some (zo sp), some (zo sq), some (zi 1), some (zo sa), some (zo sb), some (zi 2), some (zi (-1)), some (zi 0), none, none, none] [] M1 (k) (n) from ?g50l2)⟩⟩⟩)⟩)⟩⟩⟩
    case g50l1 =>
      have z := hDA.2 (by omega)
      exact eA1 _ _ _ _ _ _ _ _ _ hcn hsab (fun v => ⟨fun y => absurd y (by decide), fun _ => z _ _⟩) hS1 hP1 hQ1 hA1 hB1 hk hn
    case g50l2 =>
      have z := hDA.1 (by omega)
      exact eA1 _ _ _ _ _ _ _ _ _ hcn hsab (fun v => ⟨fun _ e => by rw [e]; exact z, fun y => absurd rfl y⟩) hS1 hP1 hQ1 hA1 hB1 hk hn


