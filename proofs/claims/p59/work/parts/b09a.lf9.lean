/-! the law: delivers, three that are near -/
set_option maxRecDepth 100000 in
set_option maxHeartbeats 4000000 in
theorem DL_eB5_1 {S : Nat × (Nat → Int)} {kk : Int} {G : Gm} {M : ZM} {w r x : Int} {K : ZRet} {KX : ZEx} {Φ : ZPhi} (hΦ : zClosed (cd_L_delivers T_X8_row T_X8_property T_X8_taking T_L_trusts T_X8_worker T_L_capped T_X8_stateIf T_X8_trustIf T_L_delivered T_X8_finishers T_L_are) K KX 160 1000 Φ) (hS : LSt S kk G M) (hkk : kk + 1 ≤ 1000) (hw : 0 ≤ w ∧ w < G 4) (hr : 0 ≤ r ∧ r < G 5) (hx : 0 ≤ x ∧ x ≤ 99) (hfw : fWorksAt G w r = true) (hK : ∀ (G' : Gm) (M' : ZM), LSt S (kk + 1) G' M' → K (some (zi 1)) M') : ∀ (c : Int) (sp sq sa sb : Nat) (M1 : ZM) (k n : Nat), ∀ due val bi : Int, cnc G r = 3 → due = 2 → (sb ≠ sa ∧ sp ≠ sa ∧ sq ≠ sa) → (due = 3 → DR G (fDel G w r x) r w due val bi (aSt (aSt (aSt (trG G) (wkc G r 0) (cpd (trG G (wkc G r 0) - 1))) (wkc G r 1) (cpd (trG G (wkc G r 1) - 1))) (wkc G r 2) (cpd (trG G (wkc G r 2) - 1)))) → (due = 2 → zabs (dvv G r w x 0 - dvv G r w x 2) ≤ G 0 → DR G (fDel G w r x) r w due val bi (aSt (aSt (trG G) (wkc G r 1) (cpd (trG G (wkc G r 1) + 1))) (wkc G r 2) (cpd (trG G (wkc G r 2) + 1)))) → (due = 2 → ¬ zabs (dvv G r w x 0 - dvv G r w x 2) ≤ G 0 → DR G (fDel G w r x) r w due val bi (aSt (aSt (aSt (trG G) (wkc G r 1) (cpd (trG G (wkc G r 1) + 1))) (wkc G r 2) (cpd (trG G (wkc G r 2) + 1))) (wkc G r 0) (cpd (trG G (wkc G r 0) - 3)))) → LSt S kk G M1 → AR M1 sp (cnc G r).toNat (wkc G r) → AR M1 sq (cnc G r).toNat (dvv G r w x) → AR M1 sa (G 4).toNat (trG G) → AR M1 sb (G 4).toNat (ptG G) → k ≤ 58 → n ≤ 342 → Φ 467 [some (zo 64), some (zi w), some (zi r), some (zi x), some (zi c), some (zi 1), some (zi (G 0)), some (zo sp), some (zo sq), some (zi 1), some (zo sa), some (zo sb), some (zi due), some (zi val), some (zi bi), some (zi 1), some (zi 0), none] [] M1 k n := by
  have h4 := hS.g4
  have h5 := hS.g5
  have hI := hS.2.2.2.1
  have hcb := hS.g3 hr
  have e552 := @DL_e552 S kk G M w r x K KX Φ hΦ hS hkk hw hr hx hfw hK
  exact fun c sp sq sa sb M1 k n due val bi hcn hdu hsab h3 h2 h2f hS1 hP1 hQ1 hA1 hB1 hk hn => by
    have htb : ∀ j, 0 ≤ j → j < G 4 → 0 ≤ trG G j ∧ trG G j ≤ 20 := fun j a b => (hS.2.1.2.2.2.1.2.2.2.2.1 j a b).2.2.1
    have hwk := fun (j : Int) (a : 0 ≤ j) (b : j < cnc G r) => hS.2.1.wk (k := j) hr ⟨a, b⟩
    have hne := fun (i j : Int) (a : 0 ≤ i) (b : i < j) (d : j < cnc G r) => (hS.2.1.2.2.2.2.1 r hr.1 hr.2).2.1 i j a b d
    have hdb := fun (j : Int) (a : 0 ≤ j) (b : j < cnc G r) => dvv_b (w := w) (x := x) hS hr hx ⟨a, b⟩
    have w0 := hwk 0 (by decide) (by omega)
    have t0 := htb _ w0.1 w0.2
    have d0 := hdb 0 (by decide) (by omega)
    have w1 := hwk 1 (by decide) (by omega)
    have t1 := htb _ w1.1 w1.2
    have d1 := hdb 1 (by decide) (by omega)
    have w2 := hwk 2 (by decide) (by omega)
    have t2 := htb _ w2.1 w2.2
    have d2 := hdb 2 (by decide) (by omega)
    have n01 : wkc G r 0 ≠ wkc G r 1 := hne 0 1 (by decide) (by decide) (by omega)
    have n02 : wkc G r 0 ≠ wkc G r 2 := hne 0 2 (by decide) (by decide) (by omega)
    have n12 : wkc G r 1 ≠ wkc G r 2 := hne 1 2 (by decide) (by decide) (by omega)
    refine zGoR hΦ [552] 400 (fun hL9 _ hM _ _ => ?_)
    obtain ⟨qL1, qL2, qL3, qL4, qL5, qL6, qL7, qL8, qL9, qL10, qL11, qL12, _⟩ : zrg w ∧ zrg r ∧ zrg x ∧ zrg c ∧ zrg 1 ∧ zrg (G 0) ∧ zrg 1 ∧ zrg due ∧ zrg val ∧ zrg bi ∧ zrg 1 ∧ zrg 0 ∧ True := hL9
    refine ⟨fun (qc1 : due ≠ 2) => (zFg hΦ 15 (zFg hΦ 16 (show Φ 552 [some (zo 64), some (zi w), some (zi r), some (zi x), some (zi c), some (zi 1), some (zi (G 0)), some (zo sp), some (zo sq), some (zi 1), some (zo sa), some (zo sb), some (zi due), some (zi val), some (zi bi), none, none, none] [] M1 (k) (n) from ?g51l1))), fun (qc2 : due = 2) => ⟨zixO hP1.1.1 hP1.1.2 (i := 1) (by omega) (by omega), zIr ((hP1.2.2 1 (by omega) (by omega))) (⟨zixO hP1.1.1 hP1.1.2 (i := 1) (by omega) (by omega), zIr ((hP1.2.2 1 (by omega) (by omega))) (⟨zixO hA1.1.1 hA1.1.2 (i := wkc G r 1) (by omega) (by omega), zIr ((hA1.2.2 (wkc G r 1) (by omega) (by omega))) (⟨(zrgI (x := trG G (wkc G r 1) + 1) (by omega)), ⟨⟨⟨rfl, rfl⟩, trivial⟩, (D_capped (fun (qg3 : zrg (cpd (trG G (wkc G r 1) + 1))) qm4 => ⟨⟨zixW hA1.1.1 hA1.1.2 (i := wkc G r 1) (by omega) (by omega), trivial⟩, ⟨zixO hP1.1.1 hP1.1.2 (i := 2) (by omega) (by omega), zIr ((zIn _ _ _ (by omega)).trans ((hP1.2.2 2 (by omega) (by omega)))) (⟨zixO hP1.1.1 hP1.1.2 (i := 2) (by omega) (by omega), zIr ((zIn _ _ _ (by omega)).trans ((hP1.2.2 2 (by omega) (by omega)))) (⟨zixO hA1.1.1 hA1.1.2 (i := wkc G r 2) (by omega) (by omega), zIr ((zIm _ _ _ (by omega)).trans ((hA1.2.2 (wkc G r 2) (by omega) (by omega)))) (⟨(zrgI (x := trG G (wkc G r 2) + 1) (by omega)), ⟨⟨⟨rfl, rfl⟩, trivial⟩, (D_capped (fun (qg5 : zrg (cpd (trG G (wkc G r 2) + 1))) qm6 => ⟨⟨zixW hA1.1.1 hA1.1.2 (i := wkc G r 2) (by omega) (by omega), trivial⟩, ⟨zixO hQ1.1.1 hQ1.1.2 (i := 0) (by omega) (by omega), zIr ((zIn _ _ _ (by omega)).trans ((zIn _ _ _ (by omega)).trans ((hQ1.2.2 0 (by omega) (by omega))))) (⟨zixO hQ1.1.1 hQ1.1.2 (i := 2) (by omega) (by omega), zIr ((zIn _ _ _ (by omega)).trans ((zIn _ _ _ (by omega)).trans ((hQ1.2.2 2 (by omega) (by omega))))) (⟨(zrgI (x := dvv G r w x 0 - (dvv G r w x 2)) (by omega)), ⟨⟨rfl, zabsL (x := dvv G r w x 0 - (dvv G r w x 2)) (by omega)⟩, ⟨fun (qc7 : zabs (dvv G r w x 0 - (dvv G r w x 2)) ≤ G 0) => (zFg hΦ 15 (zFg hΦ 16 (show Φ 552 [some (zo 64), some (zi w), some (zi r), some (zi x), some (zi c), some (zi 1), some (zi (G 0)), some (zo sp), some (zo sq), some (zi 1), some (zo sa), some (zo sb), some (zi due), some (zi val), some (zi bi), none, none, none] [] (zsI (zsI M1 sa (wkc G r 1).toNat (cpd (trG G (wkc G r 1) + 1))) sa (wkc G r 2).toNat (cpd (trG G (wkc G r 2) + 1))) (k) (n) from ?g51l2))), fun (qc8 : zabs (dvv G r w x 0 - (dvv G r w x 2)) > G 0) => ⟨zixO hP1.1.1 hP1.1.2 (i := 0) (by omega) (by omega), zIr ((zIn _ _ _ (by omega)).trans ((zIn _ _ _ (by omega)).trans ((hP1.2.2 0 (by omega) (by omega))))) (⟨zixO hP1.1.1 hP1.1.2 (i := 0) (by omega) (by omega), zIr ((zIn _ _ _ (by omega)).trans ((zIn _ _ _ (by omega)).trans ((hP1.2.2 0 (by omega) (by omega))))) (⟨zixO hA1.1.1 hA1.1.2 (i := wkc G r 0) (by omega) (by omega), zIr ((zIm _ _ _ (by omega)).trans ((zIm _ _ _ (by omega)).trans ((hA1.2.2 (wkc G r 0) (by omega) (by omega))))) (⟨(zrgI (x := (trG G (wkc G r 0)) - 3) (by omega)), ⟨⟨⟨rfl, rfl⟩, trivial⟩, (D_capped (fun (qg9 : zrg (cpd ((trG G (wkc G r 0)) - 3))) qm10 => ⟨⟨zixW hA1.1.1 hA1.1.2 (i := wkc G r 0) (by omega) (by omega), trivial⟩, (zFg hΦ 15 (zFg hΦ 16 (show Φ 552 [some (zo 64), some (zi w), some (zi r), some (zi x), some (zi c), some (zi 1), some (zi (G 0)), some (zo sp), some (zo sq), some (zi 1), some (zo sa), some (zo sb), some (zi due), some (zi val), some (zi bi), none, none, none] [] (zsI (zsI (zsI M1 sa (wkc G r 1).toNat (cpd (trG G (wkc G r 1) + 1))) sa (wkc G r 2).toNat (cpd (trG G (wkc G r 2) + 1))) sa (wkc G r 0).toNat (cpd ((trG G (wkc G r 0)) - 3))) (k) (n) from ?g51l3)))⟩))⟩⟩)⟩)⟩)⟩⟩⟩⟩)⟩)⟩⟩))⟩⟩)⟩)⟩)⟩⟩))⟩⟩)⟩)⟩)⟩⟩
    case g51l1 => exfalso; omega
    case g51l2 => exact e552 _ _ _ _ _ _ _ _ _ _ _ _ (h2 hdu (by omega)) _ _ _ ((hS1.si hA1).si (hA1.set (by omega))) ((hA1.set (by omega)).set (by omega)) ((hB1.so hA1 hsab.1).so (hA1.set (by omega)) hsab.1) hk hn
    case g51l3 => exact e552 _ _ _ _ _ _ _ _ _ _ _ _ (h2f hdu (by omega)) _ _ _ (((hS1.si hA1).si (hA1.set (by omega))).si ((hA1.set (by omega)).set (by omega))) (((hA1.set (by omega)).set (by omega)).set (by omega)) (((hB1.so hA1 hsab.1).so (hA1.set (by omega)) hsab.1).so ((hA1.set (by omega)).set (by omega)) hsab.1) hk hn

set_option maxRecDepth 100000 in
set_option maxHeartbeats 4000000 in
theorem DL_eB4_1 {S : Nat × (Nat → Int)} {kk : Int} {G : Gm} {M : ZM} {w r x : Int} {K : ZRet} {KX : ZEx} {Φ : ZPhi} (hΦ : zClosed (cd_L_delivers T_X8_row T_X8_property T_X8_taking T_L_trusts T_X8_worker T_L_capped T_X8_stateIf T_X8_trustIf T_L_delivered T_X8_finishers T_L_are) K KX 160 1000 Φ) (hS : LSt S kk G M) (hkk : kk + 1 ≤ 1000) (hw : 0 ≤ w ∧ w < G 4) (hr : 0 ≤ r ∧ r < G 5) (hx : 0 ≤ x ∧ x ≤ 99) (hfw : fWorksAt G w r = true) (hK : ∀ (G' : Gm) (M' : ZM), LSt S (kk + 1) G' M' → K (some (zi 1)) M') : ∀ (c : Int) (sp sq sa sb : Nat) (M1 : ZM) (k n : Nat), ∀ due val bi : Int, cnc G r = 3 → (due = 2 ∨ due = 3) → (sb ≠ sa ∧ sp ≠ sa ∧ sq ≠ sa) → (due = 3 → DR G (fDel G w r x) r w due val bi (aSt (aSt (aSt (trG G) (wkc G r 0) (cpd (trG G (wkc G r 0) - 1))) (wkc G r 1) (cpd (trG G (wkc G r 1) - 1))) (wkc G r 2) (cpd (trG G (wkc G r 2) - 1)))) → (due = 2 → zabs (dvv G r w x 0 - dvv G r w x 2) ≤ G 0 → DR G (fDel G w r x) r w due val bi (aSt (aSt (trG G) (wkc G r 1) (cpd (trG G (wkc G r 1) + 1))) (wkc G r 2) (cpd (trG G (wkc G r 2) + 1)))) → (due = 2 → ¬ zabs (dvv G r w x 0 - dvv G r w x 2) ≤ G 0 → DR G (fDel G w r x) r w due val bi (aSt (aSt (aSt (trG G) (wkc G r 1) (cpd (trG G (wkc G r 1) + 1))) (wkc G r 2) (cpd (trG G (wkc G r 2) + 1))) (wkc G r 0) (cpd (trG G (wkc G r 0) - 3)))) → LSt S kk G M1 → AR M1 sp (cnc G r).toNat (wkc G r) → AR M1 sq (cnc G r).toNat (dvv G r w x) → AR M1 sa (G 4).toNat (trG G) → AR M1 sb (G 4).toNat (ptG G) → k ≤ 58 → n ≤ 342 → Φ 425 [some (zo 64), some (zi w), some (zi r), some (zi x), some (zi c), some (zi 1), some (zi (G 0)), some (zo sp), some (zo sq), some (zi 1), some (zo sa), some (zo sb), some (zi due), some (zi val), some (zi bi), some (zi 1), some (zi 0), none] [] M1 k n := by
  have h4 := hS.g4
  have h5 := hS.g5
  have hI := hS.2.2.2.1
  have hcb := hS.g3 hr
  have e552 := @DL_e552 S kk G M w r x K KX Φ hΦ hS hkk hw hr hx hfw hK
  have eB5_1 := @DL_eB5_1 S kk G M w r x K KX Φ hΦ hS hkk hw hr hx hfw hK
  exact fun c sp sq sa sb M1 k n due val bi hcn hdu hsab h3 h2 h2f hS1 hP1 hQ1 hA1 hB1 hk hn => by
    have htb : ∀ j, 0 ≤ j → j < G 4 → 0 ≤ trG G j ∧ trG G j ≤ 20 := fun j a b => (hS.2.1.2.2.2.1.2.2.2.2.1 j a b).2.2.1
    have hwk := fun (j : Int) (a : 0 ≤ j) (b : j < cnc G r) => hS.2.1.wk (k := j) hr ⟨a, b⟩
    have hne := fun (i j : Int) (a : 0 ≤ i) (b : i < j) (d : j < cnc G r) => (hS.2.1.2.2.2.2.1 r hr.1 hr.2).2.1 i j a b d
    have hdb := fun (j : Int) (a : 0 ≤ j) (b : j < cnc G r) => dvv_b (w := w) (x := x) hS hr hx ⟨a, b⟩
    have w0 := hwk 0 (by decide) (by omega)
    have t0 := htb _ w0.1 w0.2
    have d0 := hdb 0 (by decide) (by omega)
    have w1 := hwk 1 (by decide) (by omega)
    have t1 := htb _ w1.1 w1.2
    have d1 := hdb 1 (by decide) (by omega)
    have w2 := hwk 2 (by decide) (by omega)
    have t2 := htb _ w2.1 w2.2
    have d2 := hdb 2 (by decide) (by omega)
    have n01 : wkc G r 0 ≠ wkc G r 1 := hne 0 1 (by decide) (by decide) (by omega)
    have n02 : wkc G r 0 ≠ wkc G r 2 := hne 0 2 (by decide) (by decide) (by omega)
    have n12 : wkc G r 1 ≠ wkc G r 2 := hne 1 2 (by decide) (by decide) (by omega)
    have e467x : due = 3 → ∀ (M1 : ZM), LSt S kk G M1 → AR M1 sa (G 4).toNat (aSt (aSt (aSt (trG G) (wkc G r 0) (cpd (trG G (wkc G r 0) - 1))) (wkc G r 1) (cpd (trG G (wkc G r 1) - 1))) (wkc G r 2) (cpd (trG G (wkc G r 2) - 1))) → AR M1 sb (G 4).toNat (ptG G) → Φ 467 [some (zo 64), some (zi w), some (zi r), some (zi x), some (zi c), some (zi 1), some (zi (G 0)), some (zo sp), some (zo sq), some (zi 1), some (zo sa), some (zo sb), some (zi due), some (zi val), some (zi bi), some (zi 1), some (zi 0), none] [] M1 k n := fun hd M1 hS1 hA1 hB1 => by
      subst hd
      refine zGoR hΦ [552] 400 (fun hL9 _ hM _ _ => ?_)
      obtain ⟨qL1, qL2, qL3, qL4, qL5, qL6, qL7, qL8, qL9, qL10, qL11, qL12, _⟩ : zrg w ∧ zrg r ∧ zrg x ∧ zrg c ∧ zrg 1 ∧ zrg (G 0) ∧ zrg 1 ∧ zrg 3 ∧ zrg val ∧ zrg bi ∧ zrg 1 ∧ zrg 0 ∧ True := hL9
      refine ⟨fun _ => (zFg hΦ 15 (zFg hΦ 16 (show Φ 552 [some (zo 64), some (zi w), some (zi r), some (zi x), some (zi c), some (zi 1), some (zi (G 0)), some (zo sp), some (zo sq), some (zi 1), some (zo sa), some (zo sb), some (zi 3), some (zi val), some (zi bi), none, none, none] [] M1 (k) (n) from ?g52l1))), fun (h : (3 : Int) = 2) => absurd h (by decide)⟩
      case g52l1 => exact e552 _ _ _ _ _ _ _ _ _ _ _ _ (h3 rfl) _ _ _ hS1 hA1 hB1 hk hn
    have e467 : due = 3 → ∀ (M1 : ZM), LSt S kk G M1 → AR M1 sa (G 4).toNat (aSt (aSt (aSt (trG G) (wkc G r 0) (cpd (trG G (wkc G r 0) - 1))) (wkc G r 1) (cpd (trG G (wkc G r 1) - 1))) (wkc G r 2) (cpd (trG G (wkc G r 2) - 1))) → AR M1 sb (G 4).toNat (ptG G) → Φ 467 [some (zo 64), some (zi w), some (zi r), some (zi x), some (zi c), some (zi 1), some (zi (G 0)), some (zo sp), some (zo sq), some (zi 1), some (zo sa), some (zo sb), some (zi due), some (zi val), some (zi bi), some (zi 1), some (zi 0), none] [] M1 k n := fun hd M1 hS1 hA1 hB1 => by
      exact e467x hd M1 hS1 hA1 hB1
    refine zGoR hΦ [467] 400 (fun hL9 _ hM _ _ => ?_)
    obtain ⟨qL1, qL2, qL3, qL4, qL5, qL6, qL7, qL8, qL9, qL10, qL11, qL12, _⟩ : zrg w ∧ zrg r ∧ zrg x ∧ zrg c ∧ zrg 1 ∧ zrg (G 0) ∧ zrg 1 ∧ zrg due ∧ zrg val ∧ zrg bi ∧ zrg 1 ∧ zrg 0 ∧ True := hL9
    refine ⟨fun (qc1 : due ≠ 3) => (show Φ 467 [some (zo 64), some (zi w), some (zi r), some (zi x), some (zi c), some (zi 1), some (zi (G 0)), some (zo sp), some (zo sq), some (zi 1), some (zo sa), some (zo sb), some (zi due), some (zi val), some (zi bi), some (zi 1), some (zi 0), none] [] M1 (k) (n) from ?g53l1), fun (qc2 : due = 3) => ⟨fun (h : (0 : Int) ≥ 3) => absurd h (by decide), fun _ => ⟨zixO hP1.1.1 hP1.1.2 (i := 0) (by omega) (by omega), zIr ((hP1.2.2 0 (by omega) (by omega))) (⟨zixO hP1.1.1 hP1.1.2 (i := 0) (by omega) (by omega), zIr ((hP1.2.2 0 (by omega) (by omega))) (⟨zixO hA1.1.1 hA1.1.2 (i := wkc G r 0) (by omega) (by omega), zIr ((hA1.2.2 (wkc G r 0) (by omega) (by omega))) (⟨(zrgI (x := (trG G (wkc G r 0)) - 1) (by omega)), ⟨⟨⟨rfl, rfl⟩, trivial⟩, (D_capped (fun (qg3 : zrg (cpd ((trG G (wkc G r 0)) - 1))) qm4 => ⟨⟨zixW hA1.1.1 hA1.1.2 (i := wkc G r 0) (by omega) (by omega), trivial⟩, ⟨(by decide), ⟨fun (h : (1 : Int) ≥ 3) => absurd h (by decide), fun _ => ⟨zixO hP1.1.1 hP1.1.2 (i := 1) (by omega) (by omega), zIr ((zIn _ _ _ (by omega)).trans ((hP1.2.2 1 (by omega) (by omega)))) (⟨zixO hP1.1.1 hP1.1.2 (i := 1) (by omega) (by omega), zIr ((zIn _ _ _ (by omega)).trans ((hP1.2.2 1 (by omega) (by omega)))) (⟨zixO hA1.1.1 hA1.1.2 (i := wkc G r 1) (by omega) (by omega), zIr ((zIm _ _ _ (by omega)).trans ((hA1.2.2 (wkc G r 1) (by omega) (by omega)))) (⟨(zrgI (x := (trG G (wkc G r 1)) - 1) (by omega)), ⟨⟨⟨rfl, rfl⟩, trivial⟩, (D_capped (fun (qg5 : zrg (cpd ((trG G (wkc G r 1)) - 1))) qm6 => ⟨⟨zixW hA1.1.1 hA1.1.2 (i := wkc G r 1) (by omega) (by omega), trivial⟩, ⟨(by decide), ⟨fun (h : (2 : Int) ≥ 3) => absurd h (by decide), fun _ => ⟨zixO hP1.1.1 hP1.1.2 (i := 2) (by omega) (by omega), zIr ((zIn _ _ _ (by omega)).trans ((zIn _ _ _ (by omega)).trans ((hP1.2.2 2 (by omega) (by omega))))) (⟨zixO hP1.1.1 hP1.1.2 (i := 2) (by omega) (by omega), zIr ((zIn _ _ _ (by omega)).trans ((zIn _ _ _ (by omega)).trans ((hP1.2.2 2 (by omega) (by omega))))) (⟨zixO hA1.1.1 hA1.1.2 (i := wkc G r 2) (by omega) (by omega), zIr ((zIm _ _ _ (by omega)).trans ((zIm _ _ _ (by omega)).trans ((hA1.2.2 (wkc G r 2) (by omega) (by omega))))) (⟨(zrgI (x := (trG G (wkc G r 2)) - 1) (by omega)), ⟨⟨⟨rfl, rfl⟩, trivial⟩, (D_capped (fun (qg7 : zrg (cpd ((trG G (wkc G r 2)) - 1))) qm8 => ⟨⟨zixW hA1.1.1 hA1.1.2 (i := wkc G r 2) (by omega) (by omega), trivial⟩, ⟨(by decide), ⟨fun _ => (zFg hΦ 17 (show Φ 467 [some (zo 64), some (zi w), some (zi r), some (zi x), some (zi c), some (zi 1), some (zi (G 0)), some (zo sp), some (zo sq), some (zi 1), some (zo sa), some (zo sb), some (zi due), some (zi val), some (zi bi), some (zi 1), some (zi 0), none] [] (zsI (zsI (zsI M1 sa (wkc G r 0).toNat (cpd ((trG G (wkc G r 0)) - 1))) sa (wkc G r 1).toNat (cpd ((trG G (wkc G r 1)) - 1))) sa (wkc G r 2).toNat (cpd ((trG G (wkc G r 2)) - 1))) (k) (n) from ?g53l2)), fun (h : (3 : Int) < 3) => absurd h (by decide)⟩⟩⟩))⟩⟩)⟩)⟩)⟩⟩⟩⟩))⟩⟩)⟩)⟩)⟩⟩⟩⟩))⟩⟩)⟩)⟩)⟩⟩⟩
    case g53l1 => exact eB5_1 _ _ _ _ _ _ _ _ _ _ _ hcn (by omega) hsab h3 h2 h2f hS1 hP1 hQ1 hA1 hB1 hk hn
    case g53l2 => exact e467 (by omega) _ (((hS1.si hA1).si (hA1.set (by omega))).si ((hA1.set (by omega)).set (by omega))) (((hA1.set (by omega)).set (by omega)).set (by omega)) (((hB1.so hA1 hsab.1).so (hA1.set (by omega)) hsab.1).so ((hA1.set (by omega)).set (by omega)) hsab.1)

set_option maxRecDepth 100000 in
set_option maxHeartbeats 4000000 in
theorem DL_eB3_1 {S : Nat × (Nat → Int)} {kk : Int} {G : Gm} {M : ZM} {w r x : Int} {K : ZRet} {KX : ZEx} {Φ : ZPhi} (hΦ : zClosed (cd_L_delivers T_X8_row T_X8_property T_X8_taking T_L_trusts T_X8_worker T_L_capped T_X8_stateIf T_X8_trustIf T_L_delivered T_X8_finishers T_L_are) K KX 160 1000 Φ) (hS : LSt S kk G M) (hkk : kk + 1 ≤ 1000) (hw : 0 ≤ w ∧ w < G 4) (hr : 0 ≤ r ∧ r < G 5) (hx : 0 ≤ x ∧ x ≤ 99) (hfw : fWorksAt G w r = true) (hK : ∀ (G' : Gm) (M' : ZM), LSt S (kk + 1) G' M' → K (some (zi 1)) M') : ∀ (c : Int) (sp sq sa sb : Nat) (M1 : ZM) (k n : Nat), ∀ due val : Int, cnc G r = 3 → (due = 2 ∨ due = 3) → (sb ≠ sa ∧ sp ≠ sa ∧ sq ≠ sa) → (due = 3 → DR G (fDel G w r x) r w due val (zor (zshl 1 (wkc G r 1)) (zshl 1 (wkc G r 2))) (aSt (aSt (aSt (trG G) (wkc G r 0) (cpd (trG G (wkc G r 0) - 1))) (wkc G r 1) (cpd (trG G (wkc G r 1) - 1))) (wkc G r 2) (cpd (trG G (wkc G r 2) - 1)))) → (due = 2 → zabs (dvv G r w x 0 - dvv G r w x 2) ≤ G 0 → DR G (fDel G w r x) r w due val (zor (zshl 1 (wkc G r 1)) (zshl 1 (wkc G r 2))) (aSt (aSt (trG G) (wkc G r 1) (cpd (trG G (wkc G r 1) + 1))) (wkc G r 2) (cpd (trG G (wkc G r 2) + 1)))) → (due = 2 → ¬ zabs (dvv G r w x 0 - dvv G r w x 2) ≤ G 0 → DR G (fDel G w r x) r w due val (zor (zshl 1 (wkc G r 1)) (zshl 1 (wkc G r 2))) (aSt (aSt (aSt (trG G) (wkc G r 1) (cpd (trG G (wkc G r 1) + 1))) (wkc G r 2) (cpd (trG G (wkc G r 2) + 1))) (wkc G r 0) (cpd (trG G (wkc G r 0) - 3)))) → LSt S kk G M1 → AR M1 sp (cnc G r).toNat (wkc G r) → AR M1 sq (cnc G r).toNat (dvv G r w x) → AR M1 sa (G 4).toNat (trG G) → AR M1 sb (G 4).toNat (ptG G) → k ≤ 58 → n ≤ 342 → Φ 409 [some (zo 64), some (zi w), some (zi r), some (zi x), some (zi c), some (zi 1), some (zi (G 0)), some (zo sp), some (zo sq), some (zi 1), some (zo sa), some (zo sb), some (zi due), some (zi val), some (zi 0), some (zi 1), some (zi 0), none] [] M1 k n := by
  have h4 := hS.g4
  have h5 := hS.g5
  have hI := hS.2.2.2.1
  have hcb := hS.g3 hr
  have eB4_1 := @DL_eB4_1 S kk G M w r x K KX Φ hΦ hS hkk hw hr hx hfw hK
  exact fun c sp sq sa sb M1 k n due val hcn hdu hsab h3 h2 h2f hS1 hP1 hQ1 hA1 hB1 hk hn => by
    have htb : ∀ j, 0 ≤ j → j < G 4 → 0 ≤ trG G j ∧ trG G j ≤ 20 := fun j a b => (hS.2.1.2.2.2.1.2.2.2.2.1 j a b).2.2.1
    have hwk := fun (j : Int) (a : 0 ≤ j) (b : j < cnc G r) => hS.2.1.wk (k := j) hr ⟨a, b⟩
    have hne := fun (i j : Int) (a : 0 ≤ i) (b : i < j) (d : j < cnc G r) => (hS.2.1.2.2.2.2.1 r hr.1 hr.2).2.1 i j a b d
    have hdb := fun (j : Int) (a : 0 ≤ j) (b : j < cnc G r) => dvv_b (w := w) (x := x) hS hr hx ⟨a, b⟩
    have w0 := hwk 0 (by decide) (by omega)
    have t0 := htb _ w0.1 w0.2
    have d0 := hdb 0 (by decide) (by omega)
    have w1 := hwk 1 (by decide) (by omega)
    have t1 := htb _ w1.1 w1.2
    have d1 := hdb 1 (by decide) (by omega)
    have w2 := hwk 2 (by decide) (by omega)
    have t2 := htb _ w2.1 w2.2
    have d2 := hdb 2 (by decide) (by omega)
    have n01 : wkc G r 0 ≠ wkc G r 1 := hne 0 1 (by decide) (by decide) (by omega)
    have n02 : wkc G r 0 ≠ wkc G r 2 := hne 0 2 (by decide) (by decide) (by omega)
    have n12 : wkc G r 1 ≠ wkc G r 2 := hne 1 2 (by decide) (by decide) (by omega)
    refine zGoR hΦ [425] 400 (fun hL9 _ hM _ _ => ?_)
    obtain ⟨qL1, qL2, qL3, qL4, qL5, qL6, qL7, qL8, qL9, qL10, qL11, qL12, _⟩ : zrg w ∧ zrg r ∧ zrg x ∧ zrg c ∧ zrg 1 ∧ zrg (G 0) ∧ zrg 1 ∧ zrg due ∧ zrg val ∧ zrg 0 ∧ zrg 1 ∧ zrg 0 ∧ True := hL9
    refine ⟨zixO hP1.1.1 hP1.1.2 (i := 1) (by omega) (by omega), zIr ((hP1.2.2 1 (by omega) (by omega))) (⟨zixO hP1.1.1 hP1.1.2 (i := 2) (by omega) (by omega), zIr ((hP1.2.2 2 (by omega) (by omega))) ((show Φ 425 [some (zo 64), some (zi w), some (zi r), some (zi x), some (zi c), some (zi 1), some (zi (G 0)), some (zo sp), some (zo sq), some (zi 1), some (zo sa), some (zo sb), some (zi due), some (zi val), some (zi (zor (zshl 1 (wkc G r 1)) (zshl 1 (wkc G r 2)))), some (zi 1), some (zi 0), none] [] M1 (k) (n) from ?g54l1))⟩)⟩
    case g54l1 => exact eB4_1 _ _ _ _ _ _ _ _ _ _ _ hcn hdu hsab h3 h2 h2f hS1 hP1 hQ1 hA1 hB1 hk hn

set_option maxRecDepth 100000 in
set_option maxHeartbeats 4000000 in
theorem DL_eB2_1 {S : Nat × (Nat → Int)} {kk : Int} {G : Gm} {M : ZM} {w r x : Int} {K : ZRet} {KX : ZEx} {Φ : ZPhi} (hΦ : zClosed (cd_L_delivers T_X8_row T_X8_property T_X8_taking T_L_trusts T_X8_worker T_L_capped T_X8_stateIf T_X8_trustIf T_L_delivered T_X8_finishers T_L_are) K KX 160 1000 Φ) (hS : LSt S kk G M) (hkk : kk + 1 ≤ 1000) (hw : 0 ≤ w ∧ w < G 4) (hr : 0 ≤ r ∧ r < G 5) (hx : 0 ≤ x ∧ x ≤ 99) (hfw : fWorksAt G w r = true) (hK : ∀ (G' : Gm) (M' : ZM), LSt S (kk + 1) G' M' → K (some (zi 1)) M') : ∀ (c : Int) (sp sq sa sb : Nat) (M1 : ZM) (k n : Nat), ∀ due : Int, cnc G r = 3 → (due = 2 ∨ due = 3) → (sb ≠ sa ∧ sp ≠ sa ∧ sq ≠ sa) → (∀ v : Int, v = (if trG G (wkc G r 1) < trG G (wkc G r 2) then dvv G r w x 2 else dvv G r w x 1) → (due = 3 → DR G (fDel G w r x) r w due v (zor (zshl 1 (wkc G r 1)) (zshl 1 (wkc G r 2))) (aSt (aSt (aSt (trG G) (wkc G r 0) (cpd (trG G (wkc G r 0) - 1))) (wkc G r 1) (cpd (trG G (wkc G r 1) - 1))) (wkc G r 2) (cpd (trG G (wkc G r 2) - 1)))) ∧ (due = 2 → zabs (dvv G r w x 0 - dvv G r w x 2) ≤ G 0 → DR G (fDel G w r x) r w due v (zor (zshl 1 (wkc G r 1)) (zshl 1 (wkc G r 2))) (aSt (aSt (trG G) (wkc G r 1) (cpd (trG G (wkc G r 1) + 1))) (wkc G r 2) (cpd (trG G (wkc G r 2) + 1)))) ∧ (due = 2 → ¬ zabs (dvv G r w x 0 - dvv G r w x 2) ≤ G 0 → DR G (fDel G w r x) r w due v (zor (zshl 1 (wkc G r 1)) (zshl 1 (wkc G r 2))) (aSt (aSt (aSt (trG G) (wkc G r 1) (cpd (trG G (wkc G r 1) + 1))) (wkc G r 2) (cpd (trG G (wkc G r 2) + 1))) (wkc G r 0) (cpd (trG G (wkc G r 0) - 3))))) → LSt S kk G M1 → AR M1 sp (cnc G r).toNat (wkc G r) → AR M1 sq (cnc G r).toNat (dvv G r w x) → AR M1 sa (G 4).toNat (trG G) → AR M1 sb (G 4).toNat (ptG G) → k ≤ 58 → n ≤ 342 → Φ 377 [some (zo 64), some (zi w), some (zi r), some (zi x), some (zi c), some (zi 1), some (zi (G 0)), some (zo sp), some (zo sq), some (zi 1), some (zo sa), some (zo sb), some (zi due), some (zi (-1)), some (zi 0), some (zi 1), some (zi 0), none] [] M1 k n := by
  have h4 := hS.g4
  have h5 := hS.g5
  have hI := hS.2.2.2.1
  have hcb := hS.g3 hr
  have eB3_1 := @DL_eB3_1 S kk G M w r x K KX Φ hΦ hS hkk hw hr hx hfw hK
  exact fun c sp sq sa sb M1 k n due hcn hdu hsab hD hS1 hP1 hQ1 hA1 hB1 hk hn => by
    have htb : ∀ j, 0 ≤ j → j < G 4 → 0 ≤ trG G j ∧ trG G j ≤ 20 := fun j a b => (hS.2.1.2.2.2.1.2.2.2.2.1 j a b).2.2.1
    have hwk := fun (j : Int) (a : 0 ≤ j) (b : j < cnc G r) => hS.2.1.wk (k := j) hr ⟨a, b⟩
    have hne := fun (i j : Int) (a : 0 ≤ i) (b : i < j) (d : j < cnc G r) => (hS.2.1.2.2.2.2.1 r hr.1 hr.2).2.1 i j a b d
    have hdb := fun (j : Int) (a : 0 ≤ j) (b : j < cnc G r) => dvv_b (w := w) (x := x) hS hr hx ⟨a, b⟩
    have w0 := hwk 0 (by decide) (by omega)
    have t0 := htb _ w0.1 w0.2
    have d0 := hdb 0 (by decide) (by omega)
    have w1 := hwk 1 (by decide) (by omega)
    have t1 := htb _ w1.1 w1.2
    have d1 := hdb 1 (by decide) (by omega)
    have w2 := hwk 2 (by decide) (by omega)
    have t2 := htb _ w2.1 w2.2
    have d2 := hdb 2 (by decide) (by omega)
    have n01 : wkc G r 0 ≠ wkc G r 1 := hne 0 1 (by decide) (by decide) (by omega)
    have n02 : wkc G r 0 ≠ wkc G r 2 := hne 0 2 (by decide) (by decide) (by omega)
    have n12 : wkc G r 1 ≠ wkc G r 2 := hne 1 2 (by decide) (by decide) (by omega)
    refine zGoR hΦ [409] 400 (fun hL9 _ hM _ _ => ?_)
    obtain ⟨qL1, qL2, qL3, qL4, qL5, qL6, qL7, qL8, qL9, qL10, qL11, qL12, _⟩ : zrg w ∧ zrg r ∧ zrg x ∧ zrg c ∧ zrg 1 ∧ zrg (G 0) ∧ zrg 1 ∧ zrg due ∧ zrg (-1) ∧ zrg 0 ∧ zrg 1 ∧ zrg 0 ∧ True := hL9
    refine ⟨zixO hP1.1.1 hP1.1.2 (i := 2) (by omega) (by omega), zIr ((hP1.2.2 2 (by omega) (by omega))) (⟨zixO hA1.1.1 hA1.1.2 (i := wkc G r 2) (by omega) (by omega), zIr ((hA1.2.2 (wkc G r 2) (by omega) (by omega))) (⟨zixO hP1.1.1 hP1.1.2 (i := 1) (by omega) (by omega), zIr ((hP1.2.2 1 (by omega) (by omega))) (⟨zixO hA1.1.1 hA1.1.2 (i := wkc G r 1) (by omega) (by omega), zIr ((hA1.2.2 (wkc G r 1) (by omega) (by omega))) (⟨fun (qc1 : trG G (wkc G r 2) ≤ trG G (wkc G r 1)) => ⟨zixO hQ1.1.1 hQ1.1.2 (i := 1) (by omega) (by omega), zIr ((hQ1.2.2 1 (by omega) (by omega))) ((show Φ 409 [some (zo 64), some (zi w), some (zi r), some (zi x), some (zi c), some (zi 1), some (zi (G 0)), some (zo sp), some (zo sq), some (zi 1), some (zo sa), some (zo sb), some (zi due), some (zi (dvv G r w x 1)), some (zi 0), some (zi 1), some (zi 0), none] [] M1 (k) (n) from ?g55l1))⟩, fun (qc2 : trG G (wkc G r 2) > trG G (wkc G r 1)) => ⟨zixO hQ1.1.1 hQ1.1.2 (i := 2) (by omega) (by omega), zIr ((hQ1.2.2 2 (by omega) (by omega))) ((show Φ 409 [some (zo 64), some (zi w), some (zi r), some (zi x), some (zi c), some (zi 1), some (zi (G 0)), some (zo sp), some (zo sq), some (zi 1), some (zo sa), some (zo sb), some (zi due), some (zi (dvv G r w x 2)), some (zi 0), some (zi 1), some (zi 0), none] [] M1 (k) (n) from ?g55l2))⟩⟩)⟩)⟩)⟩)⟩
    case g55l1 =>
      obtain ⟨h3, h2, h2f⟩ := hD _ rfl
      first
        | rw [if_pos (by omega)] at h3 h2 h2f
        | rw [if_neg (by omega)] at h3 h2 h2f
      exact eB3_1 _ _ _ _ _ _ _ _ _ _ hcn hdu hsab h3 h2 h2f hS1 hP1 hQ1 hA1 hB1 hk hn
    case g55l2 =>
      obtain ⟨h3, h2, h2f⟩ := hD _ rfl
      first
        | rw [if_pos (by omega)] at h3 h2 h2f
        | rw [if_neg (by omega)] at h3 h2 h2f
      exact eB3_1 _ _ _ _ _ _ _ _ _ _ hcn hdu hsab h3 h2 h2f hS1 hP1 hQ1 hA1 hB1 hk hn

set_option maxRecDepth 100000 in
set_option maxHeartbeats 4000000 in
theorem DL_eB1_1 {S : Nat × (Nat → Int)} {kk : Int} {G : Gm} {M : ZM} {w r x : Int} {K : ZRet} {KX : ZEx} {Φ : ZPhi} (hΦ : zClosed (cd_L_delivers T_X8_row T_X8_property T_X8_taking T_L_trusts T_X8_worker T_L_capped T_X8_stateIf T_X8_trustIf T_L_delivered T_X8_finishers T_L_are) K KX 160 1000 Φ) (hS : LSt S kk G M) (hkk : kk + 1 ≤ 1000) (hw : 0 ≤ w ∧ w < G 4) (hr : 0 ≤ r ∧ r < G 5) (hx : 0 ≤ x ∧ x ≤ 99) (hfw : fWorksAt G w r = true) (hK : ∀ (G' : Gm) (M' : ZM), LSt S (kk + 1) G' M' → K (some (zi 1)) M') : ∀ (c : Int) (sp sq sa sb : Nat) (M1 : ZM) (k n : Nat), stG G r = 1 → cnc G r = 3 → (0 ≤ dvv G r w x 0 ∧ 0 ≤ dvv G r w x 1 ∧ 0 ≤ dvv G r w x 2) → (zabs (dvv G r w x 1 - dvv G r w x 2) < zabs (dvv G r w x 0 - dvv G r w x 2)) → (sb ≠ sa ∧ sp ≠ sa ∧ sq ≠ sa) → LSt S kk G M1 → AR M1 sp (cnc G r).toNat (wkc G r) → AR M1 sq (cnc G r).toNat (dvv G r w x) → AR M1 sa (G 4).toNat (trG G) → AR M1 sb (G 4).toNat (ptG G) → k ≤ 58 → n ≤ 342 → Φ 352 [some (zo 64), some (zi w), some (zi r), some (zi x), some (zi c), some (zi 1), some (zi (G 0)), some (zo sp), some (zo sq), some (zi 1), some (zo sa), some (zo sb), some (zi 1), some (zi (-1)), some (zi 0), some (zi 1), some (zi 0), none] [] M1 k n := by
  have h4 := hS.g4
  have h5 := hS.g5
  have hI := hS.2.2.2.1
  have hcb := hS.g3 hr
  have eB2_1 := @DL_eB2_1 S kk G M w r x K KX Φ hΦ hS hkk hw hr hx hfw hK
  exact fun c sp sq sa sb M1 k n hst hcn hv hnr hsab hS1 hP1 hQ1 hA1 hB1 hk hn => by
    have hDB := DR_B (x := x) hI hw hr hfw hst hcn hv (p := 1) (q := 0) (Or.inl ⟨rfl, rfl, hnr⟩)
    have htb : ∀ j, 0 ≤ j → j < G 4 → 0 ≤ trG G j ∧ trG G j ≤ 20 := fun j a b => (hS.2.1.2.2.2.1.2.2.2.2.1 j a b).2.2.1
    have hwk := fun (j : Int) (a : 0 ≤ j) (b : j < cnc G r) => hS.2.1.wk (k := j) hr ⟨a, b⟩
    have hne := fun (i j : Int) (a : 0 ≤ i) (b : i < j) (d : j < cnc G r) => (hS.2.1.2.2.2.2.1 r hr.1 hr.2).2.1 i j a b d
    have hdb := fun (j : Int) (a : 0 ≤ j) (b : j < cnc G r) => dvv_b (w := w) (x := x) hS hr hx ⟨a, b⟩
    have w0 := hwk 0 (by decide) (by omega)
    have t0 := htb _ w0.1 w0.2
    have d0 := hdb 0 (by decide) (by omega)
    have w1 := hwk 1 (by decide) (by omega)
    have t1 := htb _ w1.1 w1.2
    have d1 := hdb 1 (by decide) (by omega)
    have w2 := hwk 2 (by decide) (by omega)
    have t2 := htb _ w2.1 w2.2
    have d2 := hdb 2 (by decide) (by omega)
    have n01 : wkc G r 0 ≠ wkc G r 1 := hne 0 1 (by decide) (by decide) (by omega)
    have n02 : wkc G r 0 ≠ wkc G r 2 := hne 0 2 (by decide) (by decide) (by omega)
    have n12 : wkc G r 1 ≠ wkc G r 2 := hne 1 2 (by decide) (by decide) (by omega)
    refine zGoR hΦ [377] 400 (fun hL9 _ hM _ _ => ?_)
    obtain ⟨qL1, qL2, qL3, qL4, qL5, qL6, qL7, qL8, qL9, qL10, qL11, qL12, _⟩ : zrg w ∧ zrg r ∧ zrg x ∧ zrg c ∧ zrg 1 ∧ zrg (G 0) ∧ zrg 1 ∧ zrg 1 ∧ zrg (-1) ∧ zrg 0 ∧ zrg 1 ∧ zrg 0 ∧ True := hL9
    refine ⟨zixO hQ1.1.1 hQ1.1.2 (i := 1) (by omega) (by omega), zIr ((hQ1.2.2 1 (by omega) (by omega))) (⟨zixO hQ1.1.1 hQ1.1.2 (i := 2) (by omega) (by omega), zIr ((hQ1.2.2 2 (by omega) (by omega))) (⟨(zrgI (x := dvv G r w x 1 - (dvv G r w x 2)) (by omega)), ⟨⟨rfl, zabsL (x := dvv G r w x 1 - (dvv G r w x 2)) (by omega)⟩, ⟨fun (qc1 : zabs (dvv G r w x 1 - (dvv G r w x 2)) > G 0) => (show Φ 377 [some (zo 64), some (zi w), some (zi r), some (zi x), some (zi c), some (zi 1), some (zi (G 0)), some (zo sp), some (zo sq), some (zi 1), some (zo sa), some (zo sb), some (zi 3), some (zi (-1)), some (zi 0), some (zi 1), some (zi 0), none] [] M1 (k) (n) from ?g56l1), fun (qc2 : zabs (dvv G r w x 1 - (dvv G r w x 2)) ≤ G 0) => (show Φ 377 [some (zo 64), some (zi w), some (zi r), some (zi x), some (zi c), some (zi 1), some (zi (G 0)), some (zo sp), some (zo sq), some (zi 1), some (zo sa), some (zo sb), some (zi 2), some (zi (-1)), some (zi 0), some (zi 1), some (zi 0), none] [] M1 (k) (n) from ?g56l2)⟩⟩⟩)⟩)⟩
    case g56l1 =>
      have z := hDB.1 (by omega)
      exact eB2_1 _ _ _ _ _ _ _ _ _ hcn (by omega) hsab (fun v e => ⟨fun _ => z _ _, fun y => absurd y (by decide), fun y => absurd y (by decide)⟩) hS1 hP1 hQ1 hA1 hB1 hk hn
    case g56l2 =>
      have z := hDB.2
      exact eB2_1 _ _ _ _ _ _ _ _ _ hcn (by omega) hsab (fun v e => by subst e; exact ⟨fun y => absurd y (by decide), fun _ y => z.1 (by omega) y, fun _ y => z.2 (by omega) y⟩) hS1 hP1 hQ1 hA1 hB1 hk hn


