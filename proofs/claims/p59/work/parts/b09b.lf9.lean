/-! the law: delivers, on -/
set_option maxRecDepth 100000 in
set_option maxHeartbeats 4000000 in
theorem DL_eB5_0 {S : Nat × (Nat → Int)} {kk : Int} {G : Gm} {M : ZM} {w r x : Int} {K : ZRet} {KX : ZEx} {Φ : ZPhi} (hΦ : zClosed (cd_L_delivers T_X8_row T_X8_property T_X8_taking T_L_trusts T_X8_worker T_L_capped T_X8_stateIf T_X8_trustIf T_L_delivered T_X8_finishers T_L_are) K KX 160 1000 Φ) (hS : LSt S kk G M) (hkk : kk + 1 ≤ 1000) (hw : 0 ≤ w ∧ w < G 4) (hr : 0 ≤ r ∧ r < G 5) (hx : 0 ≤ x ∧ x ≤ 99) (hfw : fWorksAt G w r = true) (hK : ∀ (G' : Gm) (M' : ZM), LSt S (kk + 1) G' M' → K (some (zi 1)) M') : ∀ (c : Int) (sp sq sa sb : Nat) (M1 : ZM) (k n : Nat), ∀ due val bi : Int, cnc G r = 3 → due = 2 → (sb ≠ sa ∧ sp ≠ sa ∧ sq ≠ sa) → (due = 3 → DR G (fDel G w r x) r w due val bi (aSt (aSt (aSt (trG G) (wkc G r 0) (cpd (trG G (wkc G r 0) - 1))) (wkc G r 1) (cpd (trG G (wkc G r 1) - 1))) (wkc G r 2) (cpd (trG G (wkc G r 2) - 1)))) → (due = 2 → zabs (dvv G r w x 1 - dvv G r w x 2) ≤ G 0 → DR G (fDel G w r x) r w due val bi (aSt (aSt (trG G) (wkc G r 0) (cpd (trG G (wkc G r 0) + 1))) (wkc G r 2) (cpd (trG G (wkc G r 2) + 1)))) → (due = 2 → ¬ zabs (dvv G r w x 1 - dvv G r w x 2) ≤ G 0 → DR G (fDel G w r x) r w due val bi (aSt (aSt (aSt (trG G) (wkc G r 0) (cpd (trG G (wkc G r 0) + 1))) (wkc G r 2) (cpd (trG G (wkc G r 2) + 1))) (wkc G r 1) (cpd (trG G (wkc G r 1) - 3)))) → LSt S kk G M1 → AR M1 sp (cnc G r).toNat (wkc G r) → AR M1 sq (cnc G r).toNat (dvv G r w x) → AR M1 sa (G 4).toNat (trG G) → AR M1 sb (G 4).toNat (ptG G) → k ≤ 58 → n ≤ 342 → Φ 467 [some (zo 64), some (zi w), some (zi r), some (zi x), some (zi c), some (zi 1), some (zi (G 0)), some (zo sp), some (zo sq), some (zi 1), some (zo sa), some (zo sb), some (zi due), some (zi val), some (zi bi), some (zi 0), some (zi 1), none] [] M1 k n := by
  have h4 := hS.g4
  have h5 := hS.g5
  have hI := hS.2.2.2.1
  have hcb := hS.g3 hr
  have e552 := @DL_e552 S kk G M w r x K KX Φ hΦ hS hkk hw hr hx hfw hK
  exact fun c sp sq sa sb M1 k n due val bi hcn hdu hsab h3 h2 h2f hS1 hP1 hQ1 hA1 hB1 hk hn => by
    have htb : ∀ j, 0 ≤ j → j < G 4 → 0 ≤ trG G j ∧ trG G j ≤ 20 := fun j a b => (hS.2.1.2.2.2.1.2.2.2.2.1 j a b).2.2.1
    have hwk := fun (j : Int) (a : 0 ≤ j) (b : j < cnc G r) => hS.2.1.wk (k := j) hr ⟨a, b⟩
    have hne := fun (i j : Int) (a : 0 ≤ i) (b : i < j) (d : j < cnc G r) => (hS.2.1.2.2.2.2.1 r hr.1 hr.2).2.1 i j a b d
    have hdb := fun (j : Int) (a : 0 ≤ j) (b : j < cnc G r) => dvv_b (w := w) (x := x) hS hr hx ⟨a, b⟩
    have w0 := hwk 0 (by decide) (by omega)
    have t0 := htb _ w0.1 w0.2
    have d0 := hdb 0 (by decide) (by omega)
    have w1 := hwk 1 (by decide) (by omega)
    have t1 := htb _ w1.1 w1.2
    have d1 := hdb 1 (by decide) (by omega)
    have w2 := hwk 2 (by decide) (by omega)
    have t2 := htb _ w2.1 w2.2
    have d2 := hdb 2 (by decide) (by omega)
    have n01 : wkc G r 0 ≠ wkc G r 1 := hne 0 1 (by decide) (by decide) (by omega)
    have n02 : wkc G r 0 ≠ wkc G r 2 := hne 0 2 (by decide) (by decide) (by omega)
    have n12 : wkc G r 1 ≠ wkc G r 2 := hne 1 2 (by decide) (by decide) (by omega)
    refine zGoR hΦ [552] 400 (fun hL9 _ hM _ _ => ?_)
    obtain ⟨qL1, qL2, qL3, qL4, qL5, qL6, qL7, qL8, qL9, qL10, qL11, qL12, _⟩ : zrg w ∧ zrg r ∧ zrg x ∧ zrg c ∧ zrg 1 ∧ zrg (G 0) ∧ zrg 1 ∧ zrg due ∧ zrg val ∧ zrg bi ∧ zrg 0 ∧ zrg 1 ∧ True := hL9
    refine ⟨fun (qc1 : due ≠ 2) => (zFg hΦ 15 (zFg hΦ 16 (show Φ 552 [some (zo 64), some (zi w), some (zi r), some (zi x), some (zi c), some (zi 1), some (zi (G 0)), some (zo sp), some (zo sq), some (zi 1), some (zo sa), some (zo sb), some (zi due), some (zi val), some (zi bi), none, none, none] [] M1 (k) (n) from ?g57l1))), fun (qc2 : due = 2) => ⟨zixO hP1.1.1 hP1.1.2 (i := 0) (by omega) (by omega), zIr ((hP1.2.2 0 (by omega) (by omega))) (⟨zixO hP1.1.1 hP1.1.2 (i := 0) (by omega) (by omega), zIr ((hP1.2.2 0 (by omega) (by omega))) (⟨zixO hA1.1.1 hA1.1.2 (i := wkc G r 0) (by omega) (by omega), zIr ((hA1.2.2 (wkc G r 0) (by omega) (by omega))) (⟨(zrgI (x := trG G (wkc G r 0) + 1) (by omega)), ⟨⟨⟨rfl, rfl⟩, trivial⟩, (D_capped (fun (qg3 : zrg (cpd (trG G (wkc G r 0) + 1))) qm4 => ⟨⟨zixW hA1.1.1 hA1.1.2 (i := wkc G r 0) (by omega) (by omega), trivial⟩, ⟨zixO hP1.1.1 hP1.1.2 (i := 2) (by omega) (by omega), zIr ((zIn _ _ _ (by omega)).trans ((hP1.2.2 2 (by omega) (by omega)))) (⟨zixO hP1.1.1 hP1.1.2 (i := 2) (by omega) (by omega), zIr ((zIn _ _ _ (by omega)).trans ((hP1.2.2 2 (by omega) (by omega)))) (⟨zixO hA1.1.1 hA1.1.2 (i := wkc G r 2) (by omega) (by omega), zIr ((zIm _ _ _ (by omega)).trans ((hA1.2.2 (wkc G r 2) (by omega) (by omega)))) (⟨(zrgI (x := trG G (wkc G r 2) + 1) (by omega)), ⟨⟨⟨rfl, rfl⟩, trivial⟩, (D_capped (fun (qg5 : zrg (cpd (trG G (wkc G r 2) + 1))) qm6 => ⟨⟨zixW hA1.1.1 hA1.1.2 (i := wkc G r 2) (by omega) (by omega), trivial⟩, ⟨zixO hQ1.1.1 hQ1.1.2 (i := 1) (by omega) (by omega), zIr ((zIn _ _ _ (by omega)).trans ((zIn _ _ _ (by omega)).trans ((hQ1.2.2 1 (by omega) (by omega))))) (⟨zixO hQ1.1.1 hQ1.1.2 (i := 2) (by omega) (by omega), zIr ((zIn _ _ _ (by omega)).trans ((zIn _ _ _ (by omega)).trans ((hQ1.2.2 2 (by omega) (by omega))))) (⟨(zrgI (x := dvv G r w x 1 - (dvv G r w x 2)) (by omega)), ⟨⟨rfl, zabsL (x := dvv G r w x 1 - (dvv G r w x 2)) (by omega)⟩, ⟨fun (qc7 : zabs (dvv G r w x 1 - (dvv G r w x 2)) ≤ G 0) => (zFg hΦ 15 (zFg hΦ 16 (show Φ 552 [some (zo 64), some (zi w), some (zi r), some (zi x), some (zi c), some (zi 1), some (zi (G 0)), some (zo sp), some (zo sq), some (zi 1), some (zo sa), some (zo sb), some (zi due), some (zi val), some (zi bi), none, none, none] [] (zsI (zsI M1 sa (wkc G r 0).toNat (cpd (trG G (wkc G r 0) + 1))) sa (wkc G r 2).toNat (cpd (trG G (wkc G r 2) + 1))) (k) (n) from ?g57l2))), fun (qc8 : zabs (dvv G r w x 1 - (dvv G r w x 2)) > G 0) => ⟨zixO hP1.1.1 hP1.1.2 (i := 1) (by omega) (by omega), zIr ((zIn _ _ _ (by omega)).trans ((zIn _ _ _ (by omega)).trans ((hP1.2.2 1 (by omega) (by omega))))) (⟨zixO hP1.1.1 hP1.1.2 (i := 1) (by omega) (by omega), zIr ((zIn _ _ _ (by omega)).trans ((zIn _ _ _ (by omega)).trans ((hP1.2.2 1 (by omega) (by omega))))) (⟨zixO hA1.1.1 hA1.1.2 (i := wkc G r 1) (by omega) (by omega), zIr ((zIm _ _ _ (by omega)).trans ((zIm _ _ _ (by omega)).trans ((hA1.2.2 (wkc G r 1) (by omega) (by omega))))) (⟨(zrgI (x := (trG G (wkc G r 1)) - 3) (by omega)), ⟨⟨⟨rfl, rfl⟩, trivial⟩, (D_capped (fun (qg9 : zrg (cpd ((trG G (wkc G r 1)) - 3))) qm10 => ⟨⟨zixW hA1.1.1 hA1.1.2 (i := wkc G r 1) (by omega) (by omega), trivial⟩, (zFg hΦ 15 (zFg hΦ 16 (show Φ 552 [some (zo 64), some (zi w), some (zi r), some (zi x), some (zi c), some (zi 1), some (zi (G 0)), some (zo sp), some (zo sq), some (zi 1), some (zo sa), some (zo sb), some (zi due), some (zi val), some (zi bi), none, none, none] [] (zsI (zsI (zsI M1 sa (wkc G r 0).toNat (cpd (trG G (wkc G r 0) + 1))) sa (wkc G r 2).toNat (cpd (trG G (wkc G r 2) + 1))) sa (wkc G r 1).toNat (cpd ((trG G (wkc G r 1)) - 3))) (k) (n) from ?g57l3)))⟩))⟩⟩)⟩)⟩)⟩⟩⟩⟩)⟩)⟩⟩))⟩⟩)⟩)⟩)⟩⟩))⟩⟩)⟩)⟩)⟩⟩
    case g57l1 => exfalso; omega
    case g57l2 => exact e552 _ _ _ _ _ _ _ _ _ _ _ _ (h2 hdu (by omega)) _ _ _ ((hS1.si hA1).si (hA1.set (by omega))) ((hA1.set (by omega)).set (by omega)) ((hB1.so hA1 hsab.1).so (hA1.set (by omega)) hsab.1) hk hn
    case g57l3 => exact e552 _ _ _ _ _ _ _ _ _ _ _ _ (h2f hdu (by omega)) _ _ _ (((hS1.si hA1).si (hA1.set (by omega))).si ((hA1.set (by omega)).set (by omega))) (((hA1.set (by omega)).set (by omega)).set (by omega)) (((hB1.so hA1 hsab.1).so (hA1.set (by omega)) hsab.1).so ((hA1.set (by omega)).set (by omega)) hsab.1) hk hn

set_option maxRecDepth 100000 in
set_option maxHeartbeats 4000000 in
theorem DL_eB4_0 {S : Nat × (Nat → Int)} {kk : Int} {G : Gm} {M : ZM} {w r x : Int} {K : ZRet} {KX : ZEx} {Φ : ZPhi} (hΦ : zClosed (cd_L_delivers T_X8_row T_X8_property T_X8_taking T_L_trusts T_X8_worker T_L_capped T_X8_stateIf T_X8_trustIf T_L_delivered T_X8_finishers T_L_are) K KX 160 1000 Φ) (hS : LSt S kk G M) (hkk : kk + 1 ≤ 1000) (hw : 0 ≤ w ∧ w < G 4) (hr : 0 ≤ r ∧ r < G 5) (hx : 0 ≤ x ∧ x ≤ 99) (hfw : fWorksAt G w r = true) (hK : ∀ (G' : Gm) (M' : ZM), LSt S (kk + 1) G' M' → K (some (zi 1)) M') : ∀ (c : Int) (sp sq sa sb : Nat) (M1 : ZM) (k n : Nat), ∀ due val bi : Int, cnc G r = 3 → (due = 2 ∨ due = 3) → (sb ≠ sa ∧ sp ≠ sa ∧ sq ≠ sa) → (due = 3 → DR G (fDel G w r x) r w due val bi (aSt (aSt (aSt (trG G) (wkc G r 0) (cpd (trG G (wkc G r 0) - 1))) (wkc G r 1) (cpd (trG G (wkc G r 1) - 1))) (wkc G r 2) (cpd (trG G (wkc G r 2) - 1)))) → (due = 2 → zabs (dvv G r w x 1 - dvv G r w x 2) ≤ G 0 → DR G (fDel G w r x) r w due val bi (aSt (aSt (trG G) (wkc G r 0) (cpd (trG G (wkc G r 0) + 1))) (wkc G r 2) (cpd (trG G (wkc G r 2) + 1)))) → (due = 2 → ¬ zabs (dvv G r w x 1 - dvv G r w x 2) ≤ G 0 → DR G (fDel G w r x) r w due val bi (aSt (aSt (aSt (trG G) (wkc G r 0) (cpd (trG G (wkc G r 0) + 1))) (wkc G r 2) (cpd (trG G (wkc G r 2) + 1))) (wkc G r 1) (cpd (trG G (wkc G r 1) - 3)))) → LSt S kk G M1 → AR M1 sp (cnc G r).toNat (wkc G r) → AR M1 sq (cnc G r).toNat (dvv G r w x) → AR M1 sa (G 4).toNat (trG G) → AR M1 sb (G 4).toNat (ptG G) → k ≤ 58 → n ≤ 342 → Φ 425 [some (zo 64), some (zi w), some (zi r), some (zi x), some (zi c), some (zi 1), some (zi (G 0)), some (zo sp), some (zo sq), some (zi 1), some (zo sa), some (zo sb), some (zi due), some (zi val), some (zi bi), some (zi 0), some (zi 1), none] [] M1 k n := by
  have h4 := hS.g4
  have h5 := hS.g5
  have hI := hS.2.2.2.1
  have hcb := hS.g3 hr
  have e552 := @DL_e552 S kk G M w r x K KX Φ hΦ hS hkk hw hr hx hfw hK
  have eB5_0 := @DL_eB5_0 S kk G M w r x K KX Φ hΦ hS hkk hw hr hx hfw hK
  exact fun c sp sq sa sb M1 k n due val bi hcn hdu hsab h3 h2 h2f hS1 hP1 hQ1 hA1 hB1 hk hn => by
    have htb : ∀ j, 0 ≤ j → j < G 4 → 0 ≤ trG G j ∧ trG G j ≤ 20 := fun j a b => (hS.2.1.2.2.2.1.2.2.2.2.1 j a b).2.2.1
    have hwk := fun (j : Int) (a : 0 ≤ j) (b : j < cnc G r) => hS.2.1.wk (k := j) hr ⟨a, b⟩
    have hne := fun (i j : Int) (a : 0 ≤ i) (b : i < j) (d : j < cnc G r) => (hS.2.1.2.2.2.2.1 r hr.1 hr.2).2.1 i j a b d
    have hdb := fun (j : Int) (a : 0 ≤ j) (b : j < cnc G r) => dvv_b (w := w) (x := x) hS hr hx ⟨a, b⟩
    have w0 := hwk 0 (by decide) (by omega)
    have t0 := htb _ w0.1 w0.2
    have d0 := hdb 0 (by decide) (by omega)
    have w1 := hwk 1 (by decide) (by omega)
    have t1 := htb _ w1.1 w1.2
    have d1 := hdb 1 (by decide) (by omega)
    have w2 := hwk 2 (by decide) (by omega)
    have t2 := htb _ w2.1 w2.2
    have d2 := hdb 2 (by decide) (by omega)
    have n01 : wkc G r 0 ≠ wkc G r 1 := hne 0 1 (by decide) (by decide) (by omega)
    have n02 : wkc G r 0 ≠ wkc G r 2 := hne 0 2 (by decide) (by decide) (by omega)
    have n12 : wkc G r 1 ≠ wkc G r 2 := hne 1 2 (by decide) (by decide) (by omega)
    have e467x : due = 3 → ∀ (M1 : ZM), LSt S kk G M1 → AR M1 sa (G 4).toNat (aSt (aSt (aSt (trG G) (wkc G r 0) (cpd (trG G (wkc G r 0) - 1))) (wkc G r 1) (cpd (trG G (wkc G r 1) - 1))) (wkc G r 2) (cpd (trG G (wkc G r 2) - 1))) → AR M1 sb (G 4).toNat (ptG G) → Φ 467 [some (zo 64), some (zi w), some (zi r), some (zi x), some (zi c), some (zi 1), some (zi (G 0)), some (zo sp), some (zo sq), some (zi 1), some (zo sa), some (zo sb), some (zi due), some (zi val), some (zi bi), some (zi 0), some (zi 1), none] [] M1 k n := fun hd M1 hS1 hA1 hB1 => by
      subst hd
      refine zGoR hΦ [552] 400 (fun hL9 _ hM _ _ => ?_)
      obtain ⟨qL1, qL2, qL3, qL4, qL5, qL6, qL7, qL8, qL9, qL10, qL11, qL12, _⟩ : zrg w ∧ zrg r ∧ zrg x ∧ zrg c ∧ zrg 1 ∧ zrg (G 0) ∧ zrg 1 ∧ zrg 3 ∧ zrg val ∧ zrg bi ∧ zrg 0 ∧ zrg 1 ∧ True := hL9
      refine ⟨fun _ => (zFg hΦ 15 (zFg hΦ 16 (show Φ 552 [some (zo 64), some (zi w), some (zi r), some (zi x), some (zi c), some (zi 1), some (zi (G 0)), some (zo sp), some (zo sq), some (zi 1), some (zo sa), some (zo sb), some (zi 3), some (zi val), some (zi bi), none, none, none] [] M1 (k) (n) from ?g58l1))), fun (h : (3 : Int) = 2) => absurd h (by decide)⟩
      case g58l1 => exact e552 _ _ _ _ _ _ _ _ _ _ _ _ (h3 rfl) _ _ _ hS1 hA1 hB1 hk hn
    have e467 : due = 3 → ∀ (M1 : ZM), LSt S kk G M1 → AR M1 sa (G 4).toNat (aSt (aSt (aSt (trG G) (wkc G r 0) (cpd (trG G (wkc G r 0) - 1))) (wkc G r 1) (cpd (trG G (wkc G r 1) - 1))) (wkc G r 2) (cpd (trG G (wkc G r 2) - 1))) → AR M1 sb (G 4).toNat (ptG G) → Φ 467 [some (zo 64), some (zi w), some (zi r), some (zi x), some (zi c), some (zi 1), some (zi (G 0)), some (zo sp), some (zo sq), some (zi 1), some (zo sa), some (zo sb), some (zi due), some (zi val), some (zi bi), some (zi 0), some (zi 1), none] [] M1 k n := fun hd M1 hS1 hA1 hB1 => by
      exact e467x hd M1 hS1 hA1 hB1
    refine zGoR hΦ [467] 400 (fun hL9 _ hM _ _ => ?_)
    obtain ⟨qL1, qL2, qL3, qL4, qL5, qL6, qL7, qL8, qL9, qL10, qL11, qL12, _⟩ : zrg w ∧ zrg r ∧ zrg x ∧ zrg c ∧ zrg 1 ∧ zrg (G 0) ∧ zrg 1 ∧ zrg due ∧ zrg val ∧ zrg bi ∧ zrg 0 ∧ zrg 1 ∧ True := hL9
    refine ⟨fun (qc1 : due ≠ 3) => (show Φ 467 [some (zo 64), some (zi w), some (zi r), some (zi x), some (zi c), some (zi 1), some (zi (G 0)), some (zo sp), some (zo sq), some (zi 1), some (zo sa), some (zo sb), some (zi due), some (zi val), some (zi bi), some (zi 0), some (zi 1), none] [] M1 (k) (n) from ?g59l1), fun (qc2 : due = 3) => ⟨fun (h : (0 : Int) ≥ 3) => absurd h (by decide), fun _ => ⟨zixO hP1.1.1 hP1.1.2 (i := 0) (by omega) (by omega), zIr ((hP1.2.2 0 (by omega) (by omega))) (⟨zixO hP1.1.1 hP1.1.2 (i := 0) (by omega) (by omega), zIr ((hP1.2.2 0 (by omega) (by omega))) (⟨zixO hA1.1.1 hA1.1.2 (i := wkc G r 0) (by omega) (by omega), zIr ((hA1.2.2 (wkc G r 0) (by omega) (by omega))) (⟨(zrgI (x := (trG G (wkc G r 0)) - 1) (by omega)), ⟨⟨⟨rfl, rfl⟩, trivial⟩, (D_capped (fun (qg3 : zrg (cpd ((trG G (wkc G r 0)) - 1))) qm4 => ⟨⟨zixW hA1.1.1 hA1.1.2 (i := wkc G r 0) (by omega) (by omega), trivial⟩, ⟨(by decide), ⟨fun (h : (1 : Int) ≥ 3) => absurd h (by decide), fun _ => ⟨zixO hP1.1.1 hP1.1.2 (i := 1) (by omega) (by omega), zIr ((zIn _ _ _ (by omega)).trans ((hP1.2.2 1 (by omega) (by omega)))) (⟨zixO hP1.1.1 hP1.1.2 (i := 1) (by omega) (by omega), zIr ((zIn _ _ _ (by omega)).trans ((hP1.2.2 1 (by omega) (by omega)))) (⟨zixO hA1.1.1 hA1.1.2 (i := wkc G r 1) (by omega) (by omega), zIr ((zIm _ _ _ (by omega)).trans ((hA1.2.2 (wkc G r 1) (by omega) (by omega)))) (⟨(zrgI (x := (trG G (wkc G r 1)) - 1) (by omega)), ⟨⟨⟨rfl, rfl⟩, trivial⟩, (D_capped (fun (qg5 : zrg (cpd ((trG G (wkc G r 1)) - 1))) qm6 => ⟨⟨zixW hA1.1.1 hA1.1.2 (i := wkc G r 1) (by omega) (by omega), trivial⟩, ⟨(by decide), ⟨fun (h : (2 : Int) ≥ 3) => absurd h (by decide), fun _ => ⟨zixO hP1.1.1 hP1.1.2 (i := 2) (by omega) (by omega), zIr ((zIn _ _ _ (by omega)).trans ((zIn _ _ _ (by omega)).trans ((hP1.2.2 2 (by omega) (by omega))))) (⟨zixO hP1.1.1 hP1.1.2 (i := 2) (by omega) (by omega), zIr ((zIn _ _ _ (by omega)).trans ((zIn _ _ _ (by omega)).trans ((hP1.2.2 2 (by omega) (by omega))))) (⟨zixO hA1.1.1 hA1.1.2 (i := wkc G r 2) (by omega) (by omega), zIr ((zIm _ _ _ (by omega)).trans ((zIm _ _ _ (by omega)).trans ((hA1.2.2 (wkc G r 2) (by omega) (by omega))))) (⟨(zrgI (x := (trG G (wkc G r 2)) - 1) (by omega)), ⟨⟨⟨rfl, rfl⟩, trivial⟩, (D_capped (fun (qg7 : zrg (cpd ((trG G (wkc G r 2)) - 1))) qm8 => ⟨⟨zixW hA1.1.1 hA1.1.2 (i := wkc G r 2) (by omega) (by omega), trivial⟩, ⟨(by decide), ⟨fun _ => (zFg hΦ 17 (show Φ 467 [some (zo 64), some (zi w), some (zi r), some (zi x), some (zi c), some (zi 1), some (zi (G 0)), some (zo sp), some (zo sq), some (zi 1), some (zo sa), some (zo sb), some (zi due), some (zi val), some (zi bi), some (zi 0), some (zi 1), none] [] (zsI (zsI (zsI M1 sa (wkc G r 0).toNat (cpd ((trG G (wkc G r 0)) - 1))) sa (wkc G r 1).toNat (cpd ((trG G (wkc G r 1)) - 1))) sa (wkc G r 2).toNat (cpd ((trG G (wkc G r 2)) - 1))) (k) (n) from ?g59l2)), fun (h : (3 : Int) < 3) => absurd h (by decide)⟩⟩⟩))⟩⟩)⟩)⟩)⟩⟩⟩⟩))⟩⟩)⟩)⟩)⟩⟩⟩⟩))⟩⟩)⟩)⟩)⟩⟩⟩
    case g59l1 => exact eB5_0 _ _ _ _ _ _ _ _ _ _ _ hcn (by omega) hsab h3 h2 h2f hS1 hP1 hQ1 hA1 hB1 hk hn
    case g59l2 => exact e467 (by omega) _ (((hS1.si hA1).si (hA1.set (by omega))).si ((hA1.set (by omega)).set (by omega))) (((hA1.set (by omega)).set (by omega)).set (by omega)) (((hB1.so hA1 hsab.1).so (hA1.set (by omega)) hsab.1).so ((hA1.set (by omega)).set (by omega)) hsab.1)

set_option maxRecDepth 100000 in
set_option maxHeartbeats 4000000 in
theorem DL_eB3_0 {S : Nat × (Nat → Int)} {kk : Int} {G : Gm} {M : ZM} {w r x : Int} {K : ZRet} {KX : ZEx} {Φ : ZPhi} (hΦ : zClosed (cd_L_delivers T_X8_row T_X8_property T_X8_taking T_L_trusts T_X8_worker T_L_capped T_X8_stateIf T_X8_trustIf T_L_delivered T_X8_finishers T_L_are) K KX 160 1000 Φ) (hS : LSt S kk G M) (hkk : kk + 1 ≤ 1000) (hw : 0 ≤ w ∧ w < G 4) (hr : 0 ≤ r ∧ r < G 5) (hx : 0 ≤ x ∧ x ≤ 99) (hfw : fWorksAt G w r = true) (hK : ∀ (G' : Gm) (M' : ZM), LSt S (kk + 1) G' M' → K (some (zi 1)) M') : ∀ (c : Int) (sp sq sa sb : Nat) (M1 : ZM) (k n : Nat), ∀ due val : Int, cnc G r = 3 → (due = 2 ∨ due = 3) → (sb ≠ sa ∧ sp ≠ sa ∧ sq ≠ sa) → (due = 3 → DR G (fDel G w r x) r w due val (zor (zshl 1 (wkc G r 0)) (zshl 1 (wkc G r 2))) (aSt (aSt (aSt (trG G) (wkc G r 0) (cpd (trG G (wkc G r 0) - 1))) (wkc G r 1) (cpd (trG G (wkc G r 1) - 1))) (wkc G r 2) (cpd (trG G (wkc G r 2) - 1)))) → (due = 2 → zabs (dvv G r w x 1 - dvv G r w x 2) ≤ G 0 → DR G (fDel G w r x) r w due val (zor (zshl 1 (wkc G r 0)) (zshl 1 (wkc G r 2))) (aSt (aSt (trG G) (wkc G r 0) (cpd (trG G (wkc G r 0) + 1))) (wkc G r 2) (cpd (trG G (wkc G r 2) + 1)))) → (due = 2 → ¬ zabs (dvv G r w x 1 - dvv G r w x 2) ≤ G 0 → DR G (fDel G w r x) r w due val (zor (zshl 1 (wkc G r 0)) (zshl 1 (wkc G r 2))) (aSt (aSt (aSt (trG G) (wkc G r 0) (cpd (trG G (wkc G r 0) + 1))) (wkc G r 2) (cpd (trG G (wkc G r 2) + 1))) (wkc G r 1) (cpd (trG G (wkc G r 1) - 3)))) → LSt S kk G M1 → AR M1 sp (cnc G r).toNat (wkc G r) → AR M1 sq (cnc G r).toNat (dvv G r w x) → AR M1 sa (G 4).toNat (trG G) → AR M1 sb (G 4).toNat (ptG G) → k ≤ 58 → n ≤ 342 → Φ 409 [some (zo 64), some (zi w), some (zi r), some (zi x), some (zi c), some (zi 1), some (zi (G 0)), some (zo sp), some (zo sq), some (zi 1), some (zo sa), some (zo sb), some (zi due), some (zi val), some (zi 0), some (zi 0), some (zi 1), none] [] M1 k n := by
  have h4 := hS.g4
  have h5 := hS.g5
  have hI := hS.2.2.2.1
  have hcb := hS.g3 hr
  have eB4_0 := @DL_eB4_0 S kk G M w r x K KX Φ hΦ hS hkk hw hr hx hfw hK
  exact fun c sp sq sa sb M1 k n due val hcn hdu hsab h3 h2 h2f hS1 hP1 hQ1 hA1 hB1 hk hn => by
    have htb : ∀ j, 0 ≤ j → j < G 4 → 0 ≤ trG G j ∧ trG G j ≤ 20 := fun j a b => (hS.2.1.2.2.2.1.2.2.2.2.1 j a b).2.2.1
    have hwk := fun (j : Int) (a : 0 ≤ j) (b : j < cnc G r) => hS.2.1.wk (k := j) hr ⟨a, b⟩
    have hne := fun (i j : Int) (a : 0 ≤ i) (b : i < j) (d : j < cnc G r) => (hS.2.1.2.2.2.2.1 r hr.1 hr.2).2.1 i j a b d
    have hdb := fun (j : Int) (a : 0 ≤ j) (b : j < cnc G r) => dvv_b (w := w) (x := x) hS hr hx ⟨a, b⟩
    have w0 := hwk 0 (by decide) (by omega)
    have t0 := htb _ w0.1 w0.2
    have d0 := hdb 0 (by decide) (by omega)
    have w1 := hwk 1 (by decide) (by omega)
    have t1 := htb _ w1.1 w1.2
    have d1 := hdb 1 (by decide) (by omega)
    have w2 := hwk 2 (by decide) (by omega)
    have t2 := htb _ w2.1 w2.2
    have d2 := hdb 2 (by decide) (by omega)
    have n01 : wkc G r 0 ≠ wkc G r 1 := hne 0 1 (by decide) (by decide) (by omega)
    have n02 : wkc G r 0 ≠ wkc G r 2 := hne 0 2 (by decide) (by decide) (by omega)
    have n12 : wkc G r 1 ≠ wkc G r 2 := hne 1 2 (by decide) (by decide) (by omega)
    refine zGoR hΦ [425] 400 (fun hL9 _ hM _ _ => ?_)
    obtain ⟨qL1, qL2, qL3, qL4, qL5, qL6, qL7, qL8, qL9, qL10, qL11, qL12, _⟩ : zrg w ∧ zrg r ∧ zrg x ∧ zrg c ∧ zrg 1 ∧ zrg (G 0) ∧ zrg 1 ∧ zrg due ∧ zrg val ∧ zrg 0 ∧ zrg 0 ∧ zrg 1 ∧ True := hL9
    refine ⟨zixO hP1.1.1 hP1.1.2 (i := 0) (by omega) (by omega), zIr ((hP1.2.2 0 (by omega) (by omega))) (⟨zixO hP1.1.1 hP1.1.2 (i := 2) (by omega) (by omega), zIr ((hP1.2.2 2 (by omega) (by omega))) ((show Φ 425 [some (zo 64), some (zi w), some (zi r), some (zi x), some (zi c), some (zi 1), some (zi (G 0)), some (zo sp), some (zo sq), some (zi 1), some (zo sa), some (zo sb), some (zi due), some (zi val), some (zi (zor (zshl 1 (wkc G r 0)) (zshl 1 (wkc G r 2)))), some (zi 0), some (zi 1), none] [] M1 (k) (n) from ?g60l1))⟩)⟩
    case g60l1 => exact eB4_0 _ _ _ _ _ _ _ _ _ _ _ hcn hdu hsab h3 h2 h2f hS1 hP1 hQ1 hA1 hB1 hk hn

set_option maxRecDepth 100000 in
set_option maxHeartbeats 4000000 in
theorem DL_eB2_0 {S : Nat × (Nat → Int)} {kk : Int} {G : Gm} {M : ZM} {w r x : Int} {K : ZRet} {KX : ZEx} {Φ : ZPhi} (hΦ : zClosed (cd_L_delivers T_X8_row T_X8_property T_X8_taking T_L_trusts T_X8_worker T_L_capped T_X8_stateIf T_X8_trustIf T_L_delivered T_X8_finishers T_L_are) K KX 160 1000 Φ) (hS : LSt S kk G M) (hkk : kk + 1 ≤ 1000) (hw : 0 ≤ w ∧ w < G 4) (hr : 0 ≤ r ∧ r < G 5) (hx : 0 ≤ x ∧ x ≤ 99) (hfw : fWorksAt G w r = true) (hK : ∀ (G' : Gm) (M' : ZM), LSt S (kk + 1) G' M' → K (some (zi 1)) M') : ∀ (c : Int) (sp sq sa sb : Nat) (M1 : ZM) (k n : Nat), ∀ due : Int, cnc G r = 3 → (due = 2 ∨ due = 3) → (sb ≠ sa ∧ sp ≠ sa ∧ sq ≠ sa) → (∀ v : Int, v = (if trG G (wkc G r 0) < trG G (wkc G r 2) then dvv G r w x 2 else dvv G r w x 0) → (due = 3 → DR G (fDel G w r x) r w due v (zor (zshl 1 (wkc G r 0)) (zshl 1 (wkc G r 2))) (aSt (aSt (aSt (trG G) (wkc G r 0) (cpd (trG G (wkc G r 0) - 1))) (wkc G r 1) (cpd (trG G (wkc G r 1) - 1))) (wkc G r 2) (cpd (trG G (wkc G r 2) - 1)))) ∧ (due = 2 → zabs (dvv G r w x 1 - dvv G r w x 2) ≤ G 0 → DR G (fDel G w r x) r w due v (zor (zshl 1 (wkc G r 0)) (zshl 1 (wkc G r 2))) (aSt (aSt (trG G) (wkc G r 0) (cpd (trG G (wkc G r 0) + 1))) (wkc G r 2) (cpd (trG G (wkc G r 2) + 1)))) ∧ (due = 2 → ¬ zabs (dvv G r w x 1 - dvv G r w x 2) ≤ G 0 → DR G (fDel G w r x) r w due v (zor (zshl 1 (wkc G r 0)) (zshl 1 (wkc G r 2))) (aSt (aSt (aSt (trG G) (wkc G r 0) (cpd (trG G (wkc G r 0) + 1))) (wkc G r 2) (cpd (trG G (wkc G r 2) + 1))) (wkc G r 1) (cpd (trG G (wkc G r 1) - 3))))) → LSt S kk G M1 → AR M1 sp (cnc G r).toNat (wkc G r) → AR M1 sq (cnc G r).toNat (dvv G r w x) → AR M1 sa (G 4).toNat (trG G) → AR M1 sb (G 4).toNat (ptG G) → k ≤ 58 → n ≤ 342 → Φ 377 [some (zo 64), some (zi w), some (zi r), some (zi x), some (zi c), some (zi 1), some (zi (G 0)), some (zo sp), some (zo sq), some (zi 1), some (zo sa), some (zo sb), some (zi due), some (zi (-1)), some (zi 0), some (zi 0), some (zi 1), none] [] M1 k n := by
  have h4 := hS.g4
  have h5 := hS.g5
  have hI := hS.2.2.2.1
  have hcb := hS.g3 hr
  have eB3_0 := @DL_eB3_0 S kk G M w r x K KX Φ hΦ hS hkk hw hr hx hfw hK
  exact fun c sp sq sa sb M1 k n due hcn hdu hsab hD hS1 hP1 hQ1 hA1 hB1 hk hn => by
    have htb : ∀ j, 0 ≤ j → j < G 4 → 0 ≤ trG G j ∧ trG G j ≤ 20 := fun j a b => (hS.2.1.2.2.2.1.2.2.2.2.1 j a b).2.2.1
    have hwk := fun (j : Int) (a : 0 ≤ j) (b : j < cnc G r) => hS.2.1.wk (k := j) hr ⟨a, b⟩
    have hne := fun (i j : Int) (a : 0 ≤ i) (b : i < j) (d : j < cnc G r) => (hS.2.1.2.2.2.2.1 r hr.1 hr.2).2.1 i j a b d
    have hdb := fun (j : Int) (a : 0 ≤ j) (b : j < cnc G r) => dvv_b (w := w) (x := x) hS hr hx ⟨a, b⟩
    have w0 := hwk 0 (by decide) (by omega)
    have t0 := htb _ w0.1 w0.2
    have d0 := hdb 0 (by decide) (by omega)
    have w1 := hwk 1 (by decide) (by omega)
    have t1 := htb _ w1.1 w1.2
    have d1 := hdb 1 (by decide) (by omega)
    have w2 := hwk 2 (by decide) (by omega)
    have t2 := htb _ w2.1 w2.2
    have d2 := hdb 2 (by decide) (by omega)
    have n01 : wkc G r 0 ≠ wkc G r 1 := hne 0 1 (by decide) (by decide) (by omega)
    have n02 : wkc G r 0 ≠ wkc G r 2 := hne 0 2 (by decide) (by decide) (by omega)
    have n12 : wkc G r 1 ≠ wkc G r 2 := hne 1 2 (by decide) (by decide) (by omega)
    refine zGoR hΦ [409] 400 (fun hL9 _ hM _ _ => ?_)
    obtain ⟨qL1, qL2, qL3, qL4, qL5, qL6, qL7, qL8, qL9, qL10, qL11, qL12, _⟩ : zrg w ∧ zrg r ∧ zrg x ∧ zrg c ∧ zrg 1 ∧ zrg (G 0) ∧ zrg 1 ∧ zrg due ∧ zrg (-1) ∧ zrg 0 ∧ zrg 0 ∧ zrg 1 ∧ True := hL9
    refine ⟨zixO hP1.1.1 hP1.1.2 (i := 2) (by omega) (by omega), zIr ((hP1.2.2 2 (by omega) (by omega))) (⟨zixO hA1.1.1 hA1.1.2 (i := wkc G r 2) (by omega) (by omega), zIr ((hA1.2.2 (wkc G r 2) (by omega) (by omega))) (⟨zixO hP1.1.1 hP1.1.2 (i := 0) (by omega) (by omega), zIr ((hP1.2.2 0 (by omega) (by omega))) (⟨zixO hA1.1.1 hA1.1.2 (i := wkc G r 0) (by omega) (by omega), zIr ((hA1.2.2 (wkc G r 0) (by omega) (by omega))) (⟨fun (qc1 : trG G (wkc G r 2) ≤ trG G (wkc G r 0)) => ⟨zixO hQ1.1.1 hQ1.1.2 (i := 0) (by omega) (by omega), zIr ((hQ1.2.2 0 (by omega) (by omega))) ((show Φ 409 [some (zo 64), some (zi w), some (zi r), some (zi x), some (zi c), some (zi 1), some (zi (G 0)), some (zo sp), some (zo sq), some (zi 1), some (zo sa), some (zo sb), some (zi due), some (zi (dvv G r w x 0)), some (zi 0), some (zi 0), some (zi 1), none] [] M1 (k) (n) from ?g61l1))⟩, fun (qc2 : trG G (wkc G r 2) > trG G (wkc G r 0)) => ⟨zixO hQ1.1.1 hQ1.1.2 (i := 2) (by omega) (by omega), zIr ((hQ1.2.2 2 (by omega) (by omega))) ((show Φ 409 [some (zo 64), some (zi w), some (zi r), some (zi x), some (zi c), some (zi 1), some (zi (G 0)), some (zo sp), some (zo sq), some (zi 1), some (zo sa), some (zo sb), some (zi due), some (zi (dvv G r w x 2)), some (zi 0), some (zi 0), some (zi 1), none] [] M1 (k) (n) from ?g61l2))⟩⟩)⟩)⟩)⟩)⟩
    case g61l1 =>
      obtain ⟨h3, h2, h2f⟩ := hD _ rfl
      first
        | rw [if_pos (by omega)] at h3 h2 h2f
        | rw [if_neg (by omega)] at h3 h2 h2f
      exact eB3_0 _ _ _ _ _ _ _ _ _ _ hcn hdu hsab h3 h2 h2f hS1 hP1 hQ1 hA1 hB1 hk hn
    case g61l2 =>
      obtain ⟨h3, h2, h2f⟩ := hD _ rfl
      first
        | rw [if_pos (by omega)] at h3 h2 h2f
        | rw [if_neg (by omega)] at h3 h2 h2f
      exact eB3_0 _ _ _ _ _ _ _ _ _ _ hcn hdu hsab h3 h2 h2f hS1 hP1 hQ1 hA1 hB1 hk hn

set_option maxRecDepth 100000 in
set_option maxHeartbeats 4000000 in
theorem DL_eB1_0 {S : Nat × (Nat → Int)} {kk : Int} {G : Gm} {M : ZM} {w r x : Int} {K : ZRet} {KX : ZEx} {Φ : ZPhi} (hΦ : zClosed (cd_L_delivers T_X8_row T_X8_property T_X8_taking T_L_trusts T_X8_worker T_L_capped T_X8_stateIf T_X8_trustIf T_L_delivered T_X8_finishers T_L_are) K KX 160 1000 Φ) (hS : LSt S kk G M) (hkk : kk + 1 ≤ 1000) (hw : 0 ≤ w ∧ w < G 4) (hr : 0 ≤ r ∧ r < G 5) (hx : 0 ≤ x ∧ x ≤ 99) (hfw : fWorksAt G w r = true) (hK : ∀ (G' : Gm) (M' : ZM), LSt S (kk + 1) G' M' → K (some (zi 1)) M') : ∀ (c : Int) (sp sq sa sb : Nat) (M1 : ZM) (k n : Nat), stG G r = 1 → cnc G r = 3 → (0 ≤ dvv G r w x 0 ∧ 0 ≤ dvv G r w x 1 ∧ 0 ≤ dvv G r w x 2) → (¬ zabs (dvv G r w x 1 - dvv G r w x 2) < zabs (dvv G r w x 0 - dvv G r w x 2)) → (sb ≠ sa ∧ sp ≠ sa ∧ sq ≠ sa) → LSt S kk G M1 → AR M1 sp (cnc G r).toNat (wkc G r) → AR M1 sq (cnc G r).toNat (dvv G r w x) → AR M1 sa (G 4).toNat (trG G) → AR M1 sb (G 4).toNat (ptG G) → k ≤ 58 → n ≤ 342 → Φ 352 [some (zo 64), some (zi w), some (zi r), some (zi x), some (zi c), some (zi 1), some (zi (G 0)), some (zo sp), some (zo sq), some (zi 1), some (zo sa), some (zo sb), some (zi 1), some (zi (-1)), some (zi 0), some (zi 0), some (zi 1), none] [] M1 k n := by
  have h4 := hS.g4
  have h5 := hS.g5
  have hI := hS.2.2.2.1
  have hcb := hS.g3 hr
  have eB2_0 := @DL_eB2_0 S kk G M w r x K KX Φ hΦ hS hkk hw hr hx hfw hK
  exact fun c sp sq sa sb M1 k n hst hcn hv hnr hsab hS1 hP1 hQ1 hA1 hB1 hk hn => by
    have hDB := DR_B (x := x) hI hw hr hfw hst hcn hv (p := 0) (q := 1) (Or.inr ⟨rfl, rfl, hnr⟩)
    have htb : ∀ j, 0 ≤ j → j < G 4 → 0 ≤ trG G j ∧ trG G j ≤ 20 := fun j a b => (hS.2.1.2.2.2.1.2.2.2.2.1 j a b).2.2.1
    have hwk := fun (j : Int) (a : 0 ≤ j) (b : j < cnc G r) => hS.2.1.wk (k := j) hr ⟨a, b⟩
    have hne := fun (i j : Int) (a : 0 ≤ i) (b : i < j) (d : j < cnc G r) => (hS.2.1.2.2.2.2.1 r hr.1 hr.2).2.1 i j a b d
    have hdb := fun (j : Int) (a : 0 ≤ j) (b : j < cnc G r) => dvv_b (w := w) (x := x) hS hr hx ⟨a, b⟩
    have w0 := hwk 0 (by decide) (by omega)
    have t0 := htb _ w0.1 w0.2
    have d0 := hdb 0 (by decide) (by omega)
    have w1 := hwk 1 (by decide) (by omega)
    have t1 := htb _ w1.1 w1.2
    have d1 := hdb 1 (by decide) (by omega)
    have w2 := hwk 2 (by decide) (by omega)
    have t2 := htb _ w2.1 w2.2
    have d2 := hdb 2 (by decide) (by omega)
    have n01 : wkc G r 0 ≠ wkc G r 1 := hne 0 1 (by decide) (by decide) (by omega)
    have n02 : wkc G r 0 ≠ wkc G r 2 := hne 0 2 (by decide) (by decide) (by omega)
    have n12 : wkc G r 1 ≠ wkc G r 2 := hne 1 2 (by decide) (by decide) (by omega)
    refine zGoR hΦ [377] 400 (fun hL9 _ hM _ _ => ?_)
    obtain ⟨qL1, qL2, qL3, qL4, qL5, qL6, qL7, qL8, qL9, qL10, qL11, qL12, _⟩ : zrg w ∧ zrg r ∧ zrg x ∧ zrg c ∧ zrg 1 ∧ zrg (G 0) ∧ zrg 1 ∧ zrg 1 ∧ zrg (-1) ∧ zrg 0 ∧ zrg 0 ∧ zrg 1 ∧ True := hL9
    refine ⟨zixO hQ1.1.1 hQ1.1.2 (i := 0) (by omega) (by omega), zIr ((hQ1.2.2 0 (by omega) (by omega))) (⟨zixO hQ1.1.1 hQ1.1.2 (i := 2) (by omega) (by omega), zIr ((hQ1.2.2 2 (by omega) (by omega))) (⟨(zrgI (x := dvv G r w x 0 - (dvv G r w x 2)) (by omega)), ⟨⟨rfl, zabsL (x := dvv G r w x 0 - (dvv G r w x 2)) (by omega)⟩, ⟨fun (qc1 : zabs (dvv G r w x 0 - (dvv G r w x 2)) > G 0) => (show Φ 377 [some (zo 64), some (zi w), some (zi r), some (zi x), some (zi c), some (zi 1), some (zi (G 0)), some (zo sp), some (zo sq), some (zi 1), some (zo sa), some (zo sb), some (zi 3), some (zi (-1)), some (zi 0), some (zi 0), some (zi 1), none] [] M1 (k) (n) from ?g62l1), fun (qc2 : zabs (dvv G r w x 0 - (dvv G r w x 2)) ≤ G 0) => (show Φ 377 [some (zo 64), some (zi w), some (zi r), some (zi x), some (zi c), some (zi 1), some (zi (G 0)), some (zo sp), some (zo sq), some (zi 1), some (zo sa), some (zo sb), some (zi 2), some (zi (-1)), some (zi 0), some (zi 0), some (zi 1), none] [] M1 (k) (n) from ?g62l2)⟩⟩⟩)⟩)⟩
    case g62l1 =>
      have z := hDB.1 (by omega)
      exact eB2_0 _ _ _ _ _ _ _ _ _ hcn (by omega) hsab (fun v e => ⟨fun _ => z _ _, fun y => absurd y (by decide), fun y => absurd y (by decide)⟩) hS1 hP1 hQ1 hA1 hB1 hk hn
    case g62l2 =>
      have z := hDB.2
      exact eB2_0 _ _ _ _ _ _ _ _ _ hcn (by omega) hsab (fun v e => by subst e; exact ⟨fun y => absurd y (by decide), fun _ y => z.1 (by omega) y, fun _ y => z.2 (by omega) y⟩) hS1 hP1 hQ1 hA1 hB1 hk hn

set_option maxRecDepth 100000 in
set_option maxHeartbeats 4000000 in
theorem DL_eB {S : Nat × (Nat → Int)} {kk : Int} {G : Gm} {M : ZM} {w r x : Int} {K : ZRet} {KX : ZEx} {Φ : ZPhi} (hΦ : zClosed (cd_L_delivers T_X8_row T_X8_property T_X8_taking T_L_trusts T_X8_worker T_L_capped T_X8_stateIf T_X8_trustIf T_L_delivered T_X8_finishers T_L_are) K KX 160 1000 Φ) (hS : LSt S kk G M) (hkk : kk + 1 ≤ 1000) (hw : 0 ≤ w ∧ w < G 4) (hr : 0 ≤ r ∧ r < G 5) (hx : 0 ≤ x ∧ x ≤ 99) (hfw : fWorksAt G w r = true) (hK : ∀ (G' : Gm) (M' : ZM), LSt S (kk + 1) G' M' → K (some (zi 1)) M') : ∀ (c : Int) (sp sq sa sb : Nat) (M1 : ZM) (k n : Nat), stG G r = 1 → cnc G r = 3 → (0 ≤ dvv G r w x 0 ∧ 0 ≤ dvv G r w x 1 ∧ 0 ≤ dvv G r w x 2) → (sb ≠ sa ∧ sp ≠ sa ∧ sq ≠ sa) → LSt S kk G M1 → AR M1 sp (cnc G r).toNat (wkc G r) → AR M1 sq (cnc G r).toNat (dvv G r w x) → AR M1 sa (G 4).toNat (trG G) → AR M1 sb (G 4).toNat (ptG G) → k ≤ 58 → n ≤ 342 → Φ 183 [some (zo 64), some (zi w), some (zi r), some (zi x), some (zi c), some (zi 1), some (zi (G 0)), some (zo sp), some (zo sq), some (zi 1), some (zo sa), some (zo sb), some (zi 1), some (zi (-1)), some (zi 0), none, none, none] [] M1 k n := by
  have h4 := hS.g4
  have h5 := hS.g5
  have hI := hS.2.2.2.1
  have hcb := hS.g3 hr
  have eB1_1 := @DL_eB1_1 S kk G M w r x K KX Φ hΦ hS hkk hw hr hx hfw hK
  have eB1_0 := @DL_eB1_0 S kk G M w r x K KX Φ hΦ hS hkk hw hr hx hfw hK
  exact fun c sp sq sa sb M1 k n hst hcn hv hsab hS1 hP1 hQ1 hA1 hB1 hk hn => by
    have htb : ∀ j, 0 ≤ j → j < G 4 → 0 ≤ trG G j ∧ trG G j ≤ 20 := fun j a b => (hS.2.1.2.2.2.1.2.2.2.2.1 j a b).2.2.1
    have hwk := fun (j : Int) (a : 0 ≤ j) (b : j < cnc G r) => hS.2.1.wk (k := j) hr ⟨a, b⟩
    have hne := fun (i j : Int) (a : 0 ≤ i) (b : i < j) (d : j < cnc G r) => (hS.2.1.2.2.2.2.1 r hr.1 hr.2).2.1 i j a b d
    have hdb := fun (j : Int) (a : 0 ≤ j) (b : j < cnc G r) => dvv_b (w := w) (x := x) hS hr hx ⟨a, b⟩
    have w0 := hwk 0 (by decide) (by omega)
    have t0 := htb _ w0.1 w0.2
    have d0 := hdb 0 (by decide) (by omega)
    have w1 := hwk 1 (by decide) (by omega)
    have t1 := htb _ w1.1 w1.2
    have d1 := hdb 1 (by decide) (by omega)
    have w2 := hwk 2 (by decide) (by omega)
    have t2 := htb _ w2.1 w2.2
    have d2 := hdb 2 (by decide) (by omega)
    have n01 : wkc G r 0 ≠ wkc G r 1 := hne 0 1 (by decide) (by decide) (by omega)
    have n02 : wkc G r 0 ≠ wkc G r 2 := hne 0 2 (by decide) (by decide) (by omega)
    have n12 : wkc G r 1 ≠ wkc G r 2 := hne 1 2 (by decide) (by decide) (by omega)
    refine zGoR hΦ [352] 400 (fun hL9 _ hM _ _ => ?_)
    obtain ⟨qL1, qL2, qL3, qL4, qL5, qL6, qL7, qL8, qL9, qL10, _⟩ : zrg w ∧ zrg r ∧ zrg x ∧ zrg c ∧ zrg 1 ∧ zrg (G 0) ∧ zrg 1 ∧ zrg 1 ∧ zrg (-1) ∧ zrg 0 ∧ True := hL9
    refine ⟨fun (h : (1 : Int) = 0) => absurd h (by decide), fun _ => ⟨fun _ => ⟨fun (h : (1 : Int) = 0) => absurd h (by decide), fun _ => ⟨zixO hQ1.1.1 hQ1.1.2 (i := 1) (by omega) (by omega), zIr ((hQ1.2.2 1 (by omega) (by omega))) (⟨zixO hQ1.1.1 hQ1.1.2 (i := 2) (by omega) (by omega), zIr ((hQ1.2.2 2 (by omega) (by omega))) (⟨(zrgI (x := dvv G r w x 1 - (dvv G r w x 2)) (by omega)), ⟨⟨rfl, zabsL (x := dvv G r w x 1 - (dvv G r w x 2)) (by omega)⟩, ⟨zixO hQ1.1.1 hQ1.1.2 (i := 0) (by omega) (by omega), zIr ((hQ1.2.2 0 (by omega) (by omega))) (⟨zixO hQ1.1.1 hQ1.1.2 (i := 2) (by omega) (by omega), zIr ((hQ1.2.2 2 (by omega) (by omega))) (⟨(zrgI (x := dvv G r w x 0 - (dvv G r w x 2)) (by omega)), ⟨⟨rfl, zabsL (x := dvv G r w x 0 - (dvv G r w x 2)) (by omega)⟩, ⟨fun (qc1 : zabs (dvv G r w x 1 - (dvv G r w x 2)) ≥ zabs (dvv G r w x 0 - (dvv G r w x 2))) => ⟨(by decide), (show Φ 352 [some (zo 64), some (zi w), some (zi r), some (zi x), some (zi c), some (zi 1), some (zi (G 0)), some (zo sp), some (zo sq), some (zi 1), some (zo sa), some (zo sb), some (zi 1), some (zi (-1)), some (zi 0), some (zi 0), some (zi 1), none] [] M1 (k) (n) from ?g63l1)⟩, fun (qc2 : zabs (dvv G r w x 1 - (dvv G r w x 2)) < zabs (dvv G r w x 0 - (dvv G r w x 2))) => ⟨(by decide), (show Φ 352 [some (zo 64), some (zi w), some (zi r), some (zi x), some (zi c), some (zi 1), some (zi (G 0)), some (zo sp), some (zo sq), some (zi 1), some (zo sa), some (zo sb), some (zi 1), some (zi (-1)), some (zi 0), some (zi 1), some (zi 0), none] [] M1 (k) (n) from ?g63l2)⟩⟩⟩⟩)⟩)⟩⟩⟩)⟩)⟩⟩, fun (h : (1 : Int) = 0) => absurd h (by decide)⟩⟩
    case g63l1 => exact eB1_0 _ _ _ _ _ _ _ _ hst hcn hv (by omega) hsab hS1 hP1 hQ1 hA1 hB1 hk hn
    case g63l2 => exact eB1_1 _ _ _ _ _ _ _ _ hst hcn hv (by omega) hsab hS1 hP1 hQ1 hA1 hB1 hk hn

set_option maxRecDepth 100000 in
set_option maxHeartbeats 4000000 in
theorem DL_eC {S : Nat × (Nat → Int)} {kk : Int} {G : Gm} {M : ZM} {w r x : Int} {K : ZRet} {KX : ZEx} {Φ : ZPhi} (hΦ : zClosed (cd_L_delivers T_X8_row T_X8_property T_X8_taking T_L_trusts T_X8_worker T_L_capped T_X8_stateIf T_X8_trustIf T_L_delivered T_X8_finishers T_L_are) K KX 160 1000 Φ) (hS : LSt S kk G M) (hkk : kk + 1 ≤ 1000) (hw : 0 ≤ w ∧ w < G 4) (hr : 0 ≤ r ∧ r < G 5) (hx : 0 ≤ x ∧ x ≤ 99) (hfw : fWorksAt G w r = true) (hK : ∀ (G' : Gm) (M' : ZM), LSt S (kk + 1) G' M' → K (some (zi 1)) M') : ∀ (c st : Int) (sp sq sa sb : Nat) (M1 : ZM) (k n : Nat), stG G r = st → ¬ (cnc G r = (if stG G r = 0 then 2 else 3) ∧ ∀ j, 0 ≤ j → j < cnc G r → 0 ≤ dvv G r w x j) → LSt S kk G M1 → AR M1 sp (cnc G r).toNat (wkc G r) → AR M1 sq (cnc G r).toNat (dvv G r w x) → AR M1 sa (G 4).toNat (trG G) → AR M1 sb (G 4).toNat (ptG G) → k ≤ 58 → n ≤ 342 → Φ 183 [some (zo 64), some (zi w), some (zi r), some (zi x), some (zi c), some (zi st), some (zi (G 0)), some (zo sp), some (zo sq), some (zi 0), some (zo sa), some (zo sb), some (zi st), some (zi (-1)), some (zi 0), none, none, none] [] M1 k n := by
  have h4 := hS.g4
  have h5 := hS.g5
  have hI := hS.2.2.2.1
  have hcb := hS.g3 hr
  have e552 := @DL_e552 S kk G M w r x K KX Φ hΦ hS hkk hw hr hx hfw hK
  exact fun c st sp sq sa sb M1 k n hst hnf hS1 hP1 hQ1 hA1 hB1 hk hn => by
    have hDC := DR_C (x := x) hI hw hr hfw hnf hx.1
    rw [hst] at hDC
    refine zGoR hΦ [552] 400 (fun hL9 _ hM _ _ => ?_)
    obtain ⟨qL1, qL2, qL3, qL4, qL5, qL6, qL7, qL8, qL9, qL10, _⟩ : zrg w ∧ zrg r ∧ zrg x ∧ zrg c ∧ zrg st ∧ zrg (G 0) ∧ zrg 0 ∧ zrg st ∧ zrg (-1) ∧ zrg 0 ∧ True := hL9
    refine ⟨fun _ => ⟨fun _ => (show Φ 552 [some (zo 64), some (zi w), some (zi r), some (zi x), some (zi c), some (zi st), some (zi (G 0)), some (zo sp), some (zo sq), some (zi 0), some (zo sa), some (zo sb), some (zi st), some (zi (-1)), some (zi 0), none, none, none] [] M1 (k) (n) from ?g64l1), fun (h : (0 : Int) ≠ 0) => absurd h (by decide)⟩, fun (h : (0 : Int) ≠ 0) => absurd h (by decide)⟩
    case g64l1 => exact e552 _ _ _ _ _ _ _ _ _ _ _ _ hDC _ _ _ hS1 hA1 hB1 hk hn

set_option maxRecDepth 100000 in
set_option maxHeartbeats 4000000 in
theorem DL_e146 {S : Nat × (Nat → Int)} {kk : Int} {G : Gm} {M : ZM} {w r x : Int} {K : ZRet} {KX : ZEx} {Φ : ZPhi} (hΦ : zClosed (cd_L_delivers T_X8_row T_X8_property T_X8_taking T_L_trusts T_X8_worker T_L_capped T_X8_stateIf T_X8_trustIf T_L_delivered T_X8_finishers T_L_are) K KX 160 1000 Φ) (hS : LSt S kk G M) (hkk : kk + 1 ≤ 1000) (hw : 0 ≤ w ∧ w < G 4) (hr : 0 ≤ r ∧ r < G 5) (hx : 0 ≤ x ∧ x ≤ 99) (hfw : fWorksAt G w r = true) (hK : ∀ (G' : Gm) (M' : ZM), LSt S (kk + 1) G' M' → K (some (zi 1)) M') : ∀ (c st fu : Int) (sp sq sa sb : Nat), stG G r = st → sb ≠ sp → sb ≠ sq → sb ≠ sa → (sp ≠ sa ∧ sq ≠ sa) → (fu = 1 ∧ (cnc G r = (if stG G r = 0 then 2 else 3) ∧ ∀ j, 0 ≤ j → j < cnc G r → 0 ≤ dvv G r w x j) ∨ fu = 0 ∧ ¬ (cnc G r = (if stG G r = 0 then 2 else 3) ∧ ∀ j, 0 ≤ j → j < cnc G r → 0 ≤ dvv G r w x j)) → ∀ i, 0 ≤ i → i ≤ G 4 → ∀ (M1 : ZM) (fb : Int → Int) (k n : Nat), LSt S kk G M1 → AR M1 sp (cnc G r).toNat (wkc G r) → AR M1 sq (cnc G r).toNat (dvv G r w x) → AR M1 sa (G 4).toNat (trG G) → AR M1 sb (G 4).toNat fb → (∀ o, 0 ≤ o → o < i → fb o = ptG G o) → (k : Int) ≤ 46 + 2 * i → (n : Int) ≤ 270 + 12 * i → Φ 146 [some (zo 64), some (zi w), some (zi r), some (zi x), some (zi c), some (zi st), some (zi (G 0)), some (zo sp), some (zo sq), some (zi fu), some (zo sa), some (zo sb), some (zi i), none, none, none, none, none] [] M1 k n := by
  have h4 := hS.g4
  have h5 := hS.g5
  have hI := hS.2.2.2.1
  have hcb := hS.g3 hr
  have eA := @DL_eA S kk G M w r x K KX Φ hΦ hS hkk hw hr hx hfw hK
  have eB := @DL_eB S kk G M w r x K KX Φ hΦ hS hkk hw hr hx hfw hK
  have eC := @DL_eC S kk G M w r x K KX Φ hΦ hS hkk hw hr hx hfw hK
  exact fun c st fu sp sq sa sb hst hn1 hn2 hn3 hn4 hfu => by
    have hs9 := st_of hI hr hfw
    refine zdown (n := G 4) (fun i i0 i1 ih M1 fb k n hS1 hP1 hQ1 hA1 hB1 hfb hk hn => ?_)
    refine zGoR hΦ [146, 183] 400 (fun hL9 _ hM _ _ => ?_)
    obtain ⟨qL1, qL2, qL3, qL4, qL5, qL6, qL7, qL8, _⟩ : zrg w ∧ zrg r ∧ zrg x ∧ zrg c ∧ zrg st ∧ zrg (G 0) ∧ zrg fu ∧ zrg i ∧ True := hL9
    refine ⟨(zlenW hB1.1.1 (by decide)), zIr (congrArg (fun n : Nat => (n : Int)) hB1.1.2) (⟨fun (qc1 : i ≥ ((G 4).toNat : Int)) => (show Φ 183 [some (zo 64), some (zi w), some (zi r), some (zi x), some (zi c), some (zi st), some (zi (G 0)), some (zo sp), some (zo sq), some (zi fu), some (zo sa), some (zo sb), some (zi st), some (zi (-1)), some (zi 0), none, none, none] [] M1 (k) (n) from ?g65l1), fun (qc2 : i < ((G 4).toNat : Int)) => ⟨⟨(by omega), (by omega)⟩, ⟨⟨rfl, rfl⟩, hS1.2.1.1.w.rcv⟩, (R_pts hS1.2.1 (by omega) (fun (qg3 : zrg (ptG G i)) qm4 => ⟨⟨zixW hB1.1.1 hB1.1.2 (i := i) (by omega) (by omega), trivial⟩, ⟨(zrgI (x := i + 1) (by omega)), (show Φ 146 [some (zo 64), some (zi w), some (zi r), some (zi x), some (zi c), some (zi st), some (zi (G 0)), some (zo sp), some (zo sq), some (zi fu), some (zo sa), some (zo sb), some (zi (i + 1)), none, none, none, none, none] [] (zsI M1 sb i.toNat (ptG G i)) (k + 2) (n + 12) from ?g65l2)⟩⟩))⟩⟩)⟩
    case g65l1 =>
      have hB9 := hB1.cg (g := ptG G) (fun o o0 o1 => hfb o o0 (by omega))
      rcases hfu with ⟨z1, z2, z3⟩ | ⟨z1, z2⟩
      · rw [z1]
        rcases hs9 with ⟨y, y2⟩ | ⟨y, y2⟩
        · rw [← hst, y]
          rw [if_pos y] at z2
          exact eA _ _ _ _ _ _ _ _ y z2 ⟨z3 0 (by omega) (by omega), z3 1 (by omega) (by omega)⟩ ⟨hn3, hn4⟩ hS1 hP1 hQ1 hA1 hB9 (by omega) (by omega)
        · rw [← hst, y]
          rw [if_neg (by omega)] at z2
          exact eB _ _ _ _ _ _ _ _ y z2 ⟨z3 0 (by omega) (by omega), z3 1 (by omega) (by omega), z3 2 (by omega) (by omega)⟩ ⟨hn3, hn4⟩ hS1 hP1 hQ1 hA1 hB9 (by omega) (by omega)
      · rw [z1]
        exact eC _ _ _ _ _ _ _ _ _ hst z2 hS1 hP1 hQ1 hA1 hB9 (by omega) (by omega)
    case g65l2 => exact ih (by omega) _ _ _ _ (hS1.si hB1) (hP1.so hB1 (fun z => hn1 z.symm)) (hQ1.so hB1 (fun z => hn2 z.symm)) (hA1.so hB1 (fun z => hn3 z.symm)) (hB1.set i0) (upd_st hfb rfl) (by omega) (by omega)

set_option maxRecDepth 100000 in
set_option maxHeartbeats 4000000 in
theorem DL_e136 {S : Nat × (Nat → Int)} {kk : Int} {G : Gm} {M : ZM} {w r x : Int} {K : ZRet} {KX : ZEx} {Φ : ZPhi} (hΦ : zClosed (cd_L_delivers T_X8_row T_X8_property T_X8_taking T_L_trusts T_X8_worker T_L_capped T_X8_stateIf T_X8_trustIf T_L_delivered T_X8_finishers T_L_are) K KX 160 1000 Φ) (hS : LSt S kk G M) (hkk : kk + 1 ≤ 1000) (hw : 0 ≤ w ∧ w < G 4) (hr : 0 ≤ r ∧ r < G 5) (hx : 0 ≤ x ∧ x ≤ 99) (hfw : fWorksAt G w r = true) (hK : ∀ (G' : Gm) (M' : ZM), LSt S (kk + 1) G' M' → K (some (zi 1)) M') : ∀ (c st fu : Int) (sp sq sa : Nat) (M1 : ZM) (k n : Nat), stG G r = st → (sp ≠ sa ∧ sq ≠ sa) → (fu = 1 ∧ (cnc G r = (if stG G r = 0 then 2 else 3) ∧ ∀ j, 0 ≤ j → j < cnc G r → 0 ≤ dvv G r w x j) ∨ fu = 0 ∧ ¬ (cnc G r = (if stG G r = 0 then 2 else 3) ∧ ∀ j, 0 ≤ j → j < cnc G r → 0 ≤ dvv G r w x j)) → LSt S kk G M1 → AR M1 sp (cnc G r).toNat (wkc G r) → AR M1 sq (cnc G r).toNat (dvv G r w x) → AR M1 sa (G 4).toNat (trG G) → k ≤ 45 → n ≤ 264 → Φ 136 [some (zo 64), some (zi w), some (zi r), some (zi x), some (zi c), some (zi st), some (zi (G 0)), some (zo sp), some (zo sq), some (zi fu), some (zo sa), none, none, none, none, none, none, none] [] M1 k n := by
  have h4 := hS.g4
  have h5 := hS.g5
  have hI := hS.2.2.2.1
  have hcb := hS.g3 hr
  have e146 := @DL_e146 S kk G M w r x K KX Φ hΦ hS hkk hw hr hx hfw hK
  exact fun c st fu sp sq sa M1 k n hst hn4 hfu hS1 hP1 hQ1 hA1 hk hn => by
    have h6 := hS1.n6
    refine zGoR hΦ [146] 400 (fun hL9 _ hM _ _ => ?_)
    obtain ⟨qL1, qL2, qL3, qL4, qL5, qL6, qL7, _⟩ : zrg w ∧ zrg r ∧ zrg x ∧ zrg c ∧ zrg st ∧ zrg (G 0) ∧ zrg fu ∧ True := hL9
    refine ⟨(zlenW hA1.1.1 (by decide)), zIr (congrArg (fun n : Nat => (n : Int)) hA1.1.2) (⟨⟨(by omega), (by omega), (by omega), (by omega)⟩, (show Φ 146 [some (zo 64), some (zi w), some (zi r), some (zi x), some (zi c), some (zi st), some (zi (G 0)), some (zo sp), some (zo sq), some (zi fu), some (zo sa), some (zo (zN M1)), some (zi 0), none, none, none, none, none] [] (zNw M1 20 ((G 4).toNat : Int).toNat) (k + 1) (n + ((G 4).toNat : Int).toNat) from ?g66l1)⟩)⟩
    case g66l1 => exact e146 c st fu sp sq sa (zN M1) hst (Nat.ne_of_gt hP1.1.1.2.2) (Nat.ne_of_gt hQ1.1.1.2.2) (Nat.ne_of_gt hA1.1.1.2.2) hn4 hfu 0 (by omega) (by omega) _ (fun _ => 0) _ _ hS1.nw (hP1.nwo h6) (hQ1.nwo h6) (hA1.nwo h6) (AR.nw h6) (fun o a b => absurd b (by omega)) (by omega) (by omega)

set_option maxRecDepth 100000 in
set_option maxHeartbeats 4000000 in
theorem DL_e60 {S : Nat × (Nat → Int)} {kk : Int} {G : Gm} {M : ZM} {w r x : Int} {K : ZRet} {KX : ZEx} {Φ : ZPhi} (hΦ : zClosed (cd_L_delivers T_X8_row T_X8_property T_X8_taking T_L_trusts T_X8_worker T_L_capped T_X8_stateIf T_X8_trustIf T_L_delivered T_X8_finishers T_L_are) K KX 160 1000 Φ) (hS : LSt S kk G M) (hkk : kk + 1 ≤ 1000) (hw : 0 ≤ w ∧ w < G 4) (hr : 0 ≤ r ∧ r < G 5) (hx : 0 ≤ x ∧ x ≤ 99) (hfw : fWorksAt G w r = true) (hK : ∀ (G' : Gm) (M' : ZM), LSt S (kk + 1) G' M' → K (some (zi 1)) M') : ∀ (st : Int) (sp sq : Nat), stG G r = st → sp ≠ sq → ∀ i, 0 ≤ i → i ≤ cnc G r → ∀ (fu : Int) (M1 : ZM) (fp fq : Int → Int) (k n : Nat), (fu = 1 ∧ (cnc G r = (if stG G r = 0 then 2 else 3) ∧ ∀ j, 0 ≤ j → j < i → 0 ≤ dvv G r w x j) ∨ fu = 0 ∧ ¬ (cnc G r = (if stG G r = 0 then 2 else 3) ∧ ∀ j, 0 ≤ j → j < i → 0 ≤ dvv G r w x j)) → LSt S kk G M1 → AR M1 sp (cnc G r).toNat fp → AR M1 sq (cnc G r).toNat fq → (∀ j, 0 ≤ j → j < i → fp j = wkc G r j) → (∀ j, 0 ≤ j → j < i → fq j = dvv G r w x j) → (k : Int) ≤ 7 + 6 * i → (n : Int) ≤ 36 + 36 * i → Φ 60 [some (zo 64), some (zi w), some (zi r), some (zi x), some (zi (cnc G r)), some (zi st), some (zi (G 0)), some (zo sp), some (zo sq), some (zi fu), some (zi i), none, none, none, none, none, none, none] [] M1 k n := by
  have h4 := hS.g4
  have h5 := hS.g5
  have hI := hS.2.2.2.1
  have hcb := hS.g3 hr
  have e136 := @DL_e136 S kk G M w r x K KX Φ hΦ hS hkk hw hr hx hfw hK
  exact fun st sp sq hst hpq => by
    refine zdown (n := cnc G r) (fun i i0 i1 ih fu M1 fp fq k n hfu hS1 hP1 hQ1 hfp hfq hk hn => ?_)
    have e80 : i < cnc G r → ∀ (M1 : ZM) (fp : Int → Int) (k n : Nat), LSt S kk G M1 → AR M1 sp (cnc G r).toNat fp → AR M1 sq (cnc G r).toNat fq → (∀ j, 0 ≤ j → j < i + 1 → fp j = wkc G r j) → (k : Int) ≤ 10 + 6 * i → (n : Int) ≤ 54 + 36 * i → Φ 80 [some (zo 64), some (zi w), some (zi r), some (zi x), some (zi (cnc G r)), some (zi st), some (zi (G 0)), some (zo sp), some (zo sq), some (zi fu), some (zi i), none, none, none, none, none, none, none] [] M1 k n := fun hi M1 fp k n hS1 hP1 hQ1 hfp hk hn => by
      have hpi := hfp i i0 (by omega)
      have hd : (wkc G r i = w → dvv G r w x i = x) ∧ (wkc G r i ≠ w → dvv G r w x i = rsG G r i) := ⟨fun z => if_pos z, fun z => if_neg z⟩
      have go : ∀ (v fu2 : Int) (k n : Nat), v = dvv G r w x i → (0 ≤ v ∧ fu2 = zand fu 1 ∨ v < 0 ∧ fu2 = zand fu 0) → (k : Int) ≤ 13 + 6 * i → (n : Int) ≤ 72 + 36 * i → Φ 60 [some (zo 64), some (zi w), some (zi r), some (zi x), some (zi (cnc G r)), some (zi st), some (zi (G 0)), some (zo sp), some (zo sq), some (zi fu2), some (zi (i + 1)), none, none, none, none, none, none, none] [] (zsI M1 sq i.toNat v) k n := fun v fu2 k n hv h2 hk hn => by
        obtain ⟨a00, a01, a10, a11⟩ := zand_01
        have hs := upd_st (v := v) hfq hv
        refine ih hi fu2 _ fp (aSt fq i v) _ _ ?_ (hS1.si hQ1) (hP1.so hQ1 hpq) (hQ1.set i0) hfp hs (by omega) (by omega)
        have hup : (∀ j, 0 ≤ j → j < i + 1 → 0 ≤ dvv G r w x j) ↔ (∀ j, 0 ≤ j → j < i → 0 ≤ dvv G r w x j) ∧ 0 ≤ v := ⟨fun h => ⟨fun j a b => h j a (by omega), by rw [hv]; exact h i i0 (by omega)⟩, fun h => upd_lt h.1 (by rw [← hv]; exact h.2)⟩
        rw [hup]
        rcases hfu with ⟨z1, z2, z3⟩ | ⟨z1, z2⟩
        · rcases h2 with ⟨y1, y2⟩ | ⟨y1, y2⟩
          · exact Or.inl ⟨by rw [y2, z1, a11], z2, z3, y1⟩
          · exact Or.inr ⟨by rw [y2, z1, a10], fun t => by have := t.2.2; omega⟩
        · refine Or.inr ⟨?_, fun t => z2 ⟨t.1, t.2.1⟩⟩
          rcases h2 with ⟨y1, y2⟩ | ⟨y1, y2⟩
          · rw [y2, z1, a01]
          · rw [y2, z1, a00]
      refine zGoR hΦ [60] 400 (fun hL9 _ hM _ _ => ?_)
      obtain ⟨qL1, qL2, qL3, qL4, qL5, qL6, qL7, qL8, _⟩ : zrg w ∧ zrg r ∧ zrg x ∧ zrg (cnc G r) ∧ zrg st ∧ zrg (G 0) ∧ zrg fu ∧ zrg i ∧ True := hL9
      refine ⟨zixO hP1.1.1 hP1.1.2 (i := i) (by omega) (by omega), zIr ((hP1.2.2 i (by omega) (by omega))) (⟨fun (qc1 : fp i ≠ w) => ⟨⟨(by omega), (by omega)⟩, ⟨⟨rfl, rfl⟩, hS1.2.1.1.w.rcv⟩, (R_tk1 hS1.2.1 (by omega) (by omega) (fun (qg2 : zrg (rsG G r i)) qm3 => ⟨⟨zixW hQ1.1.1 hQ1.1.2 (i := i) (by omega) (by omega), trivial⟩, ⟨zixO hQ1.1.1 hQ1.1.2 (i := i) (by omega) (by omega), zIr ((zIs _ _ _ _)) (⟨fun (qc4 : rsG G r i < 0) => ⟨(zrgI (x := i + 1) (by omega)), (show Φ 60 [some (zo 64), some (zi w), some (zi r), some (zi x), some (zi (cnc G r)), some (zi st), some (zi (G 0)), some (zo sp), some (zo sq), some (zi (zand fu 0)), some (zi (i + 1)), none, none, none, none, none, none, none] [] (zsI M1 sq i.toNat (rsG G r i)) (k + 3) (n + 18) from ?g67l1)⟩, fun (qc5 : rsG G r i ≥ 0) => ⟨(zrgI (x := i + 1) (by omega)), (show Φ 60 [some (zo 64), some (zi w), some (zi r), some (zi x), some (zi (cnc G r)), some (zi st), some (zi (G 0)), some (zo sp), some (zo sq), some (zi (zand fu 1)), some (zi (i + 1)), none, none, none, none, none, none, none] [] (zsI M1 sq i.toNat (rsG G r i)) (k + 3) (n + 18) from ?g67l2)⟩⟩)⟩⟩))⟩, fun (qc6 : fp i = w) => ⟨⟨zixW hQ1.1.1 hQ1.1.2 (i := i) (by omega) (by omega), trivial⟩, ⟨zixO hQ1.1.1 hQ1.1.2 (i := i) (by omega) (by omega), zIr ((zIs _ _ _ _)) (⟨fun (qc7 : x < 0) => ⟨(zrgI (x := i + 1) (by omega)), (show Φ 60 [some (zo 64), some (zi w), some (zi r), some (zi x), some (zi (cnc G r)), some (zi st), some (zi (G 0)), some (zo sp), some (zo sq), some (zi (zand fu 0)), some (zi (i + 1)), none, none, none, none, none, none, none] [] (zsI M1 sq i.toNat x) (k) (n) from ?g67l3)⟩, fun (qc8 : x ≥ 0) => ⟨(zrgI (x := i + 1) (by omega)), (show Φ 60 [some (zo 64), some (zi w), some (zi r), some (zi x), some (zi (cnc G r)), some (zi st), some (zi (G 0)), some (zo sp), some (zo sq), some (zi (zand fu 1)), some (zi (i + 1)), none, none, none, none, none, none, none] [] (zsI M1 sq i.toNat x) (k) (n) from ?g67l4)⟩⟩)⟩⟩⟩)⟩
      case g67l1 => exact go _ _ _ _ (by omega) (by omega) (by omega) (by omega)
      case g67l2 => exact go _ _ _ _ (by omega) (by omega) (by omega) (by omega)
      case g67l3 => exact go _ _ _ _ (by omega) (by omega) (by omega) (by omega)
      case g67l4 => exact go _ _ _ _ (by omega) (by omega) (by omega) (by omega)
    refine zGoR hΦ [80, 136] 400 (fun hL9 _ hM _ _ => ?_)
    obtain ⟨qL1, qL2, qL3, qL4, qL5, qL6, qL7, qL8, _⟩ : zrg w ∧ zrg r ∧ zrg x ∧ zrg (cnc G r) ∧ zrg st ∧ zrg (G 0) ∧ zrg fu ∧ zrg i ∧ True := hL9
    refine ⟨fun (qc1 : i ≥ cnc G r) => ⟨⟨(by omega), (by omega)⟩, ⟨⟨rfl, rfl⟩, trivial⟩, (R_trusts hS1 (fun M2 hS2 hF2 hN2 hA2 => fun _ _ => (show Φ 136 [some (zo 64), some (zi w), some (zi r), some (zi x), some (zi (cnc G r)), some (zi st), some (zi (G 0)), some (zo sp), some (zo sq), some (zi fu), some (zo (zN M1)), none, none, none, none, none, none, none] [] M2 (k + 20) (n + 120) from ?g68l1)))⟩, fun (qc2 : i < cnc G r) => ⟨⟨(by omega), (by omega)⟩, ⟨⟨rfl, rfl⟩, hS1.2.1.1.w.rcv⟩, (R_tk0 hS1.2.1 (by omega) (by omega) (fun (qg3 : zrg (wkc G r i)) qm4 => ⟨⟨zixW hP1.1.1 hP1.1.2 (i := i) (by omega) (by omega), trivial⟩, (show Φ 80 [some (zo 64), some (zi w), some (zi r), some (zi x), some (zi (cnc G r)), some (zi st), some (zi (G 0)), some (zo sp), some (zo sq), some (zi fu), some (zi i), none, none, none, none, none, none, none] [] (zsI M1 sp i.toNat (wkc G r i)) (k + 3) (n + 18) from ?g68l2)⟩))⟩⟩
    case g68l1 =>
      have hc : cnc G r = i := by omega
      exact e136 _ _ _ _ _ _ _ _ _ hst ⟨Nat.ne_of_lt hP1.1.1.2.2, Nat.ne_of_lt hQ1.1.1.2.2⟩ (by rw [← hc] at hfu; exact hfu) hS2 ((hP1.fr hF2 (fun z => z)).cg (fun j a b => hfp j a (by omega))) ((hQ1.fr hF2 (fun z => z)).cg (fun j a b => hfq j a (by omega))) hA2 (by omega) (by omega)
    case g68l2 => exact e80 (by omega) _ _ _ _ (hS1.si hP1) (hP1.set i0) (hQ1.so hP1 (fun z => hpq z.symm)) (upd_st hfp rfl) (by omega) (by omega)

set_option maxRecDepth 100000 in
set_option maxHeartbeats 4000000 in
theorem DL_e23 {S : Nat × (Nat → Int)} {kk : Int} {G : Gm} {M : ZM} {w r x : Int} {K : ZRet} {KX : ZEx} {Φ : ZPhi} (hΦ : zClosed (cd_L_delivers T_X8_row T_X8_property T_X8_taking T_L_trusts T_X8_worker T_L_capped T_X8_stateIf T_X8_trustIf T_L_delivered T_X8_finishers T_L_are) K KX 160 1000 Φ) (hS : LSt S kk G M) (hkk : kk + 1 ≤ 1000) (hw : 0 ≤ w ∧ w < G 4) (hr : 0 ≤ r ∧ r < G 5) (hx : 0 ≤ x ∧ x ≤ 99) (hfw : fWorksAt G w r = true) (hK : ∀ (G' : Gm) (M' : ZM), LSt S (kk + 1) G' M' → K (some (zi 1)) M') : ∀ (st : Int) (k n : Nat), stG G r = st → k ≤ 5 → n ≤ 30 → Φ 23 [some (zo 64), some (zi w), some (zi r), some (zi x), some (zi (cnc G r)), some (zi st), some (zi (G 0)), none, none, none, none, none, none, none, none, none, none, none] [] M k n := by
  have h4 := hS.g4
  have h5 := hS.g5
  have hI := hS.2.2.2.1
  have hcb := hS.g3 hr
  have e60 := @DL_e60 S kk G M w r x K KX Φ hΦ hS hkk hw hr hx hfw hK
  exact fun st k n hst hk hn => by
    have h6 := hS.n6
    refine zGoR hΦ [60] 400 (fun hL9 _ hM _ _ => ?_)
    obtain ⟨qL1, qL2, qL3, qL4, qL5, qL6, _⟩ : zrg w ∧ zrg r ∧ zrg x ∧ zrg (cnc G r) ∧ zrg st ∧ zrg (G 0) ∧ True := hL9
    refine ⟨⟨(by omega), (by omega), (by omega), (by omega)⟩, ⟨⟨(by omega), (by omega), (by omega), (by omega)⟩, ⟨fun (qc1 : st ≠ 0) => ⟨fun (qc2 : cnc G r ≠ 3) => (show Φ 60 [some (zo 64), some (zi w), some (zi r), some (zi x), some (zi (cnc G r)), some (zi st), some (zi (G 0)), some (zo (zN M)), some (zo (zN (zNw M 20 (cnc G r).toNat))), some (zi 0), some (zi 0), none, none, none, none, none, none, none] [] (zNw (zNw M 20 (cnc G r).toNat) 20 (cnc G r).toNat) (k + 1 + 1) (n + (cnc G r).toNat + (cnc G r).toNat) from ?g69l1), fun (qc3 : cnc G r = 3) => (show Φ 60 [some (zo 64), some (zi w), some (zi r), some (zi x), some (zi (cnc G r)), some (zi st), some (zi (G 0)), some (zo (zN M)), some (zo (zN (zNw M 20 (cnc G r).toNat))), some (zi 1), some (zi 0), none, none, none, none, none, none, none] [] (zNw (zNw M 20 (cnc G r).toNat) 20 (cnc G r).toNat) (k + 1 + 1) (n + (cnc G r).toNat + (cnc G r).toNat) from ?g69l2)⟩, fun (qc4 : st = 0) => ⟨fun (qc5 : cnc G r ≠ 2) => (show Φ 60 [some (zo 64), some (zi w), some (zi r), some (zi x), some (zi (cnc G r)), some (zi st), some (zi (G 0)), some (zo (zN M)), some (zo (zN (zNw M 20 (cnc G r).toNat))), some (zi 0), some (zi 0), none, none, none, none, none, none, none] [] (zNw (zNw M 20 (cnc G r).toNat) 20 (cnc G r).toNat) (k + 1 + 1) (n + (cnc G r).toNat + (cnc G r).toNat) from ?g69l3), fun (qc6 : cnc G r = 2) => (show Φ 60 [some (zo 64), some (zi w), some (zi r), some (zi x), some (zi (cnc G r)), some (zi st), some (zi (G 0)), some (zo (zN M)), some (zo (zN (zNw M 20 (cnc G r).toNat))), some (zi 1), some (zi 0), none, none, none, none, none, none, none] [] (zNw (zNw M 20 (cnc G r).toNat) 20 (cnc G r).toNat) (k + 1 + 1) (n + (cnc G r).toNat + (cnc G r).toNat) from ?g69l4)⟩⟩⟩⟩
    case g69l1 =>
      have hst' := hst
      refine e60 st (zN M) (zN (zNw M 20 (cnc G r).toNat)) hst (by show zN M ≠ zN M + 1; omega) 0 (by omega) hcb.1 _ _ (fun _ => 0) (fun _ => 0) _ _ ?_ hS.nw.nw ((AR.nw h6).nwo (by show 670 ≤ zN M + 1; omega)) (AR.nw (by show 670 ≤ zN M + 1; omega)) (fun j a b => absurd b (by omega)) (fun j a b => absurd b (by omega)) (by omega) (by omega)
      by_cases z : stG G r = 0
      · rw [if_pos z]
        first
          | exact Or.inl ⟨rfl, by omega, fun j a b => absurd b (by omega)⟩
          | exact Or.inr ⟨rfl, fun t => by omega⟩
      · rw [if_neg z]
        first
          | exact Or.inl ⟨rfl, by omega, fun j a b => absurd b (by omega)⟩
          | exact Or.inr ⟨rfl, fun t => by omega⟩
    case g69l2 =>
      have hst' := hst
      refine e60 st (zN M) (zN (zNw M 20 (cnc G r).toNat)) hst (by show zN M ≠ zN M + 1; omega) 0 (by omega) hcb.1 _ _ (fun _ => 0) (fun _ => 0) _ _ ?_ hS.nw.nw ((AR.nw h6).nwo (by show 670 ≤ zN M + 1; omega)) (AR.nw (by show 670 ≤ zN M + 1; omega)) (fun j a b => absurd b (by omega)) (fun j a b => absurd b (by omega)) (by omega) (by omega)
      by_cases z : stG G r = 0
      · rw [if_pos z]
        first
          | exact Or.inl ⟨rfl, by omega, fun j a b => absurd b (by omega)⟩
          | exact Or.inr ⟨rfl, fun t => by omega⟩
      · rw [if_neg z]
        first
          | exact Or.inl ⟨rfl, by omega, fun j a b => absurd b (by omega)⟩
          | exact Or.inr ⟨rfl, fun t => by omega⟩
    case g69l3 =>
      have hst' := hst
      refine e60 st (zN M) (zN (zNw M 20 (cnc G r).toNat)) hst (by show zN M ≠ zN M + 1; omega) 0 (by omega) hcb.1 _ _ (fun _ => 0) (fun _ => 0) _ _ ?_ hS.nw.nw ((AR.nw h6).nwo (by show 670 ≤ zN M + 1; omega)) (AR.nw (by show 670 ≤ zN M + 1; omega)) (fun j a b => absurd b (by omega)) (fun j a b => absurd b (by omega)) (by omega) (by omega)
      by_cases z : stG G r = 0
      · rw [if_pos z]
        first
          | exact Or.inl ⟨rfl, by omega, fun j a b => absurd b (by omega)⟩
          | exact Or.inr ⟨rfl, fun t => by omega⟩
      · rw [if_neg z]
        first
          | exact Or.inl ⟨rfl, by omega, fun j a b => absurd b (by omega)⟩
          | exact Or.inr ⟨rfl, fun t => by omega⟩
    case g69l4 =>
      have hst' := hst
      refine e60 st (zN M) (zN (zNw M 20 (cnc G r).toNat)) hst (by show zN M ≠ zN M + 1; omega) 0 (by omega) hcb.1 _ _ (fun _ => 0) (fun _ => 0) _ _ ?_ hS.nw.nw ((AR.nw h6).nwo (by show 670 ≤ zN M + 1; omega)) (AR.nw (by show 670 ≤ zN M + 1; omega)) (fun j a b => absurd b (by omega)) (fun j a b => absurd b (by omega)) (by omega) (by omega)
      by_cases z : stG G r = 0
      · rw [if_pos z]
        first
          | exact Or.inl ⟨rfl, by omega, fun j a b => absurd b (by omega)⟩
          | exact Or.inr ⟨rfl, fun t => by omega⟩
      · rw [if_neg z]
        first
          | exact Or.inl ⟨rfl, by omega, fun j a b => absurd b (by omega)⟩
          | exact Or.inr ⟨rfl, fun t => by omega⟩

def T_L_delivers : ZTf := fun av M K KX => ∃ (S : Nat × (Nat → Int)) (kk : Int) (G : Gm) (w r x : Int), av = [zo 64, zi w, zi r, zi x] ∧ LSt S kk G M ∧ (kk + 1 ≤ 1000) ∧ (0 ≤ w ∧ w < G 4) ∧ (0 ≤ r ∧ r < G 5) ∧ (0 ≤ x ∧ x ≤ 99) ∧ (fWorksAt G w r = true) ∧ (∀ (G' : Gm) (M' : ZM), LSt S (kk + 1) G' M' → K (some (zi 1)) M')
set_option maxRecDepth 100000 in
set_option maxHeartbeats 1500000 in
theorem bd_L_delivers : zBd (cd_L_delivers T_X8_row T_X8_property T_X8_taking T_L_trusts T_X8_worker T_L_capped T_X8_stateIf T_X8_trustIf T_L_delivered T_X8_finishers T_L_are) 18 160 1000 T_L_delivers := by
  rintro av M K KX hA0 hM ⟨S, kk, G, w, r, x, rfl, hS, hkk, hw, hr, hx, hfw, hK⟩
  have h4 := hS.g4
  have h5 := hS.g5
  have hI := hS.2.2.2.1
  refine ⟨rfl, fun Φ hΦ => ?_⟩
  have hcb := hS.g3 hr
  have e23 := @DL_e23 S kk G M w r x K KX Φ hΦ hS hkk hw hr hx hfw hK
  refine zGoR hΦ [23] 400 (fun hL9 _ hM _ _ => ?_)
  obtain ⟨qL1, qL2, qL3, _⟩ : zrg w ∧ zrg r ∧ zrg x ∧ True := hL9
  refine ⟨⟨(by decide), (by decide)⟩, ⟨⟨rfl, rfl⟩, hS.2.1.1.w.rcv⟩, (R_cnt hS.2.1 (by omega) (fun (qg1 : zrg (cnc G r)) qm2 => ⟨⟨(by decide), (by decide)⟩, ⟨⟨rfl, rfl⟩, hS.2.1.1.w.rcv⟩, (R_st hS.2.1 (by omega) (fun (qg3 : zrg (stG G r)) qm4 => ⟨⟨(by decide), (by decide)⟩, ⟨⟨rfl, rfl⟩, hS.2.1.1.w.rcv⟩, (R_prop3 hS.2.1 (fun (qg5 : zrg (G 0)) qm6 => (show Φ 23 [some (zo 64), some (zi w), some (zi r), some (zi x), some (zi (cnc G r)), some (zi (stG G r)), some (zi (G 0)), none, none, none, none, none, none, none, none, none, none, none] [] M (0 + 2 + 2 + 1) (0 + 12 + 12 + 6) from ?g70l1)))⟩))⟩))⟩
  case g70l1 => exact e23 _ _ _ rfl (by omega) (by omega)

theorem M_L_delivers {l : Launch} (hl : l.stackTraces = false) : zMet l yL_delivers (Cond.code yL_delivers cL_delivers 18 (Option.some Jvm.ClassFile.FieldType.boolean) :: zG) rm_L_delivers 160 1000 T_L_delivers := met_L_delivers hl (M_X8_row hl) (M_X8_property hl) (M_X8_taking hl) (M_L_trusts hl) (M_X8_worker hl) (M_L_capped hl) (M_X8_stateIf hl) (M_X8_trustIf hl) (M_L_delivered hl) (M_X8_finishers hl) (M_L_are hl) bd_L_delivers

