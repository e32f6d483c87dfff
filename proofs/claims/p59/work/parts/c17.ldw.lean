/-! the law: load -/
theorem nosin (j : Nat) (h : Sno j) : SIn j := absurd h (fun y => y)
set_option maxRecDepth 100000 in
set_option maxHeartbeats 4000000 in
theorem LD_e456 {S : Nat × (Nat → Int)} {M0 : ZM} {B : Gm} {K : ZRet} {KX : ZEx} {Φ : ZPhi} (hΦ : zClosed (cd_L_load T_L_draw T_J4_init_a7421 T_J4_append_bf812 T_J4_append_15ec4T T_J4_append_cf468 T_J4_toString_0e30dB T_L_feed T_X8_load T_X8_errorCode T_X8_errorPosition T_X8_property T_X8_isBarred T_X8_worker) K KX 2000 60000 Φ) (hP : LP9 S M0) (hC0 : CIn M0 B 0) (hK : ∀ (M' : ZM) (G : Gm), LSt S 0 G M' → K (some (zi 1)) M') : ∀ (W tol lots y one other : Int) (b : Nat) (G : Gm) (M : ZM), LSt S 0 G M → W = 1 + drS S 0 6 → LDD tol (lTm S) (lQo S) (lTr S) W y one other G → ∀ i : Int, 0 ≤ i → i ≤ W → ∀ (k n : Nat), (k : Int) ≤ 1300 + 6 * i → (n : Int) ≤ 8000 + 36 * i → Φ 456 [some (zo 64), some (zo 62), some (zi W), some (zi tol), some (zo b), some (zi y), some (zi lots), some (zi one), some (zi other), some (zi i)] [] M k n := by
  have h46 := hP.n
  have hS1 := hP.1.2
  have hKL := hP.2.1.1
  have hKD := hP.2.1.2.1
  exact fun W tol lots y one other b G M hS hW hD => by
    have h4 := hS.g4
    have hW4 : G 4 = W := hD.2.2.1
    have d0 := dr_r (S := S) (k := 0) (n := 6) (by decide)
    refine zdown (n := W) (fun i i0 i1 ih k n hk hn => ?_)
    have hq : i < W → tmc G i = drS S (10 + 3 * i) 6 ∧ quG G i = 1 + drS S (11 + 3 * i) 5 ∧ trG G i = drS S (12 + 3 * i) 21 := fun z => hD.2.2.2.2.1 i i0 z
    have d1 := dr_r (S := S) (k := 10 + 3 * i) (n := 6) (by decide)
    have d2 := dr_r (S := S) (k := 11 + 3 * i) (n := 5) (by decide)
    have d3 := dr_r (S := S) (k := 12 + 3 * i) (n := 21) (by decide)
    refine zGoR hΦ [456] 400 (fun hL9 _ hM _ _ => ?_)
    obtain ⟨qL1, qL2, qL3, qL4, qL5, qL6, qL7, _⟩ : zrg W ∧ zrg tol ∧ zrg y ∧ zrg lots ∧ zrg one ∧ zrg other ∧ zrg i ∧ True := hL9
    refine ⟨fun (qc1 : i ≥ W) => ⟨(Or.inr rfl), (show K (some (zi 1)) M from ?g0l1)⟩, fun (qc2 : i < W) => ⟨⟨(by omega), (by omega)⟩, ⟨⟨rfl, rfl⟩, hS.2.1.1.w.rcv⟩, (R_team hS.2.1 (by omega) (fun (qg3 : zrg (tmc G i)) qm4 => ⟨(zrgI (x := 3 * i) (by omega)), ⟨(zrgI (x := 10 + 3 * i) (by omega)), ⟨⟨⟨rfl, rfl⟩, trivial⟩, (D_draw hS (by omega) (by omega) (fun (qd1 : zrg (drS S (10 + 3 * i) 6)) _ => ⟨fun (qc5 : tmc G i ≠ drS S (10 + 3 * i) 6) => ⟨(Or.inl rfl), (show K (some (zi 0)) M from ?g0l2)⟩, fun (qc6 : tmc G i = drS S (10 + 3 * i) 6) => ⟨⟨(by omega), (by omega)⟩, ⟨⟨rfl, rfl⟩, hS.2.1.1.w.rcv⟩, (R_qu hS.2.1 (by omega) (fun (qg7 : zrg (quG G i)) qm8 => ⟨(zrgI (x := 3 * i) (by omega)), ⟨(zrgI (x := 11 + 3 * i) (by omega)), ⟨⟨⟨rfl, rfl⟩, trivial⟩, (D_draw hS (by omega) (by omega) (fun (qd2 : zrg (drS S (11 + 3 * i) 5)) _ => ⟨(zrgI (x := 1 + (drS S (11 + 3 * i) 5)) (by omega)), ⟨fun (qc9 : quG G i ≠ 1 + (drS S (11 + 3 * i) 5)) => ⟨(Or.inl rfl), (show K (some (zi 0)) M from ?g0l3)⟩, fun (qc10 : quG G i = 1 + (drS S (11 + 3 * i) 5)) => ⟨⟨(by omega), (by omega)⟩, ⟨⟨rfl, rfl⟩, hS.2.1.1.w.rcv⟩, (R_tr hS.2.1 (by omega) (fun (qg11 : zrg (trG G i)) qm12 => ⟨(zrgI (x := 3 * i) (by omega)), ⟨(zrgI (x := 12 + 3 * i) (by omega)), ⟨⟨⟨rfl, rfl⟩, trivial⟩, (D_draw hS (by omega) (by omega) (fun (qd3 : zrg (drS S (12 + 3 * i) 21)) _ => ⟨fun (qc13 : trG G i = drS S (12 + 3 * i) 21) => ⟨(zrgI (x := i + 1) (by omega)), (show Φ 456 [some (zo 64), some (zo 62), some (zi W), some (zi tol), some (zo b), some (zi y), some (zi lots), some (zi one), some (zi other), some (zi (i + 1))] [] M (k + 2 + 2 + 2) (n + 12 + 12 + 12) from ?g0l4)⟩, fun (qc14 : trG G i ≠ drS S (12 + 3 * i) 21) => ⟨(Or.inl rfl), (show K (some (zi 0)) M from ?g0l5)⟩⟩))⟩⟩⟩))⟩⟩⟩))⟩⟩⟩))⟩⟩))⟩⟩⟩))⟩⟩
    case g0l1 => exact hK _ _ hS
    case g0l2 => exfalso; omega
    case g0l3 => exfalso; omega
    case g0l4 => exact ih (by omega) _ _ (by omega) (by omega)
    case g0l5 => exfalso; omega

set_option maxRecDepth 100000 in
set_option maxHeartbeats 4000000 in
theorem LD_e362 {S : Nat × (Nat → Int)} {M0 : ZM} {B : Gm} {K : ZRet} {KX : ZEx} {Φ : ZPhi} (hΦ : zClosed (cd_L_load T_L_draw T_J4_init_a7421 T_J4_append_bf812 T_J4_append_15ec4T T_J4_append_cf468 T_J4_toString_0e30dB T_L_feed T_X8_load T_X8_errorCode T_X8_errorPosition T_X8_property T_X8_isBarred T_X8_worker) K KX 2000 60000 Φ) (hP : LP9 S M0) (hC0 : CIn M0 B 0) (hK : ∀ (M' : ZM) (G : Gm), LSt S 0 G M' → K (some (zi 1)) M') : ∀ (W tol lots y one other : Int) (b : Nat) (G : Gm) (M : ZM) (k n : Nat), LSt S 0 G M → W = 1 + drS S 0 6 → (0 ≤ one ∧ one < W) → (0 ≤ other ∧ other < W) → LDD tol (lTm S) (lQo S) (lTr S) W y one other G → zI M 64 8 = 0 → zI M 64 9 = -1 → k ≤ 1290 → n ≤ 7900 → Φ 362 [some (zo 64), some (zo 62), some (zi W), some (zi tol), some (zo b), some (zi y), some (zi lots), some (zi one), some (zi other), none] [zi W] M k n := by
  have h46 := hP.n
  have hS1 := hP.1.2
  have hKL := hP.2.1.1
  have hKD := hP.2.1.2.1
  have e456 := @LD_e456 S M0 B K KX Φ hΦ hP hC0 hK
  exact fun W tol lots y one other b G M k n hS hW ho1 ho2 hD h8 h9 hk hn => by
    have h4 := hS.g4
    obtain ⟨r1, r2, r3, r4, r5, r6⟩ := hD.rd
    have d0 := dr_r (S := S) (k := 0) (n := 6) (by decide)
    refine zGoR hΦ [456] 400 (fun hL9 _ hM _ _ => ?_)
    obtain ⟨qL1, qL2, qL3, qL4, qL5, qL6, _⟩ : zrg W ∧ zrg tol ∧ zrg y ∧ zrg lots ∧ zrg one ∧ zrg other ∧ True := hL9
    refine ⟨fun (qc1 : W ≠ W) => ⟨(Or.inl rfl), (show K (some (zi 0)) M from ?g1l1)⟩, fun (qc2 : W = W) => ⟨⟨⟨rfl, rfl⟩, hS.2.1.1.w.rcv⟩, (R_ec hS.2.1.1 h8 (fun _ _ => ⟨fun (h : (0 : Int) ≠ 0) => absurd h (by decide), fun _ => ⟨⟨⟨rfl, rfl⟩, hS.2.1.1.w.rcv⟩, (R_ep hS.2.1.1 h9 (fun _ _ => ⟨fun (h : (-1 : Int) ≠ -1) => absurd h (by decide), fun _ => ⟨⟨(by omega), (by omega)⟩, ⟨⟨rfl, rfl⟩, hS.2.1.1.w.rcv⟩, (R_prop0 hS.2.1 (fun (qg3 : zrg (G 4)) qm4 => ⟨fun (qc5 : G 4 ≠ W) => ⟨(Or.inl rfl), (show K (some (zi 0)) M from ?g1l2)⟩, fun (qc6 : G 4 = W) => ⟨⟨(by omega), (by omega)⟩, ⟨⟨rfl, rfl⟩, hS.2.1.1.w.rcv⟩, (R_prop1 hS.2.1 (fun (qg7 : zrg (G 5)) qm8 => ⟨fun (qc9 : G 5 ≠ y) => ⟨(Or.inl rfl), (show K (some (zi 0)) M from ?g1l3)⟩, fun (qc10 : G 5 = y) => ⟨⟨(by omega), (by omega)⟩, ⟨⟨rfl, rfl⟩, hS.2.1.1.w.rcv⟩, (R_prop2 hS.2.1 (fun (qg11 : zrg (G 3)) qm12 => ⟨fun (qc13 : G 3 ≠ 0) => ⟨(Or.inl rfl), (show K (some (zi 0)) M from ?g1l4)⟩, fun (qc14 : G 3 = 0) => ⟨⟨(by omega), (by omega)⟩, ⟨⟨rfl, rfl⟩, hS.2.1.1.w.rcv⟩, (R_prop3 hS.2.1 (fun (qg15 : zrg (G 0)) qm16 => ⟨fun (qc17 : G 0 ≠ tol) => ⟨(Or.inl rfl), (show K (some (zi 0)) M from ?g1l5)⟩, fun (qc18 : G 0 = tol) => ⟨⟨(by omega), (by omega)⟩, ⟨⟨rfl, rfl⟩, hS.2.1.1.w.rcv⟩, (R_propM (s := 0) hS.2.1 (by omega) (fun (qg19 : zrg (fManyIn G 0)) qm20 => ⟨fun (qc21 : fManyIn G 0 ≠ y) => ⟨(Or.inl rfl), (show K (some (zi 0)) M from ?g1l6)⟩, fun (qc22 : fManyIn G 0 = y) => ⟨⟨(by omega), (by omega)⟩, ⟨⟨rfl, rfl⟩, hS.2.1.1.w.rcv⟩, (R_bar hS.2.1 (by omega) (by omega) (fun (qg23 : zrg (b2i (fFoes G one other))) qm24 => ⟨fun (qc25 : one = other) => ⟨fun h => (have qc26 : (fFoes G one other) = false := b2i_e0 h; (show Φ 456 [some (zo 64), some (zo 62), some (zi W), some (zi tol), some (zo b), some (zi y), some (zi lots), some (zi one), some (zi other), some (zi 0)] [] M (k + 1 + 1 + 1 + 1 + 1 + 2) (n + 6 + 6 + 6 + 6 + 6 + 12) from ?g1l7)), fun h => (have qc27 : (fFoes G one other) = true := b2i_n0 h; ⟨(Or.inl rfl), (show K (some (zi 0)) M from ?g1l8)⟩)⟩, fun (qc28 : one ≠ other) => ⟨fun h => (have qc29 : (fFoes G one other) = true := b2i_e1 h; (show Φ 456 [some (zo 64), some (zo 62), some (zi W), some (zi tol), some (zo b), some (zi y), some (zi lots), some (zi one), some (zi other), some (zi 0)] [] M (k + 1 + 1 + 1 + 1 + 1 + 2) (n + 6 + 6 + 6 + 6 + 6 + 12) from ?g1l9)), fun h => (have qc30 : (fFoes G one other) = false := b2i_n1 h; ⟨(Or.inl rfl), (show K (some (zi 0)) M from ?g1l10)⟩)⟩⟩))⟩⟩))⟩⟩))⟩⟩))⟩⟩))⟩⟩))⟩⟩))⟩⟩))⟩⟩
    case g1l1 => exfalso; omega
    case g1l2 => exfalso; omega
    case g1l3 => exfalso; omega
    case g1l4 => exfalso; omega
    case g1l5 => exfalso; omega
    case g1l6 => exfalso; omega
    case g1l7 => exact e456 W tol lots y one other b G M hS hW hD 0 (by decide) (by omega) _ _ (by omega) (by omega)
    case g1l8 => exfalso; omega
    case g1l9 => exact e456 W tol lots y one other b G M hS hW hD 0 (by decide) (by omega) _ _ (by omega) (by omega)
    case g1l10 => exfalso; omega

set_option maxRecDepth 100000 in
set_option maxHeartbeats 4000000 in
theorem LD_e349 {S : Nat × (Nat → Int)} {M0 : ZM} {B : Gm} {K : ZRet} {KX : ZEx} {Φ : ZPhi} (hΦ : zClosed (cd_L_load T_L_draw T_J4_init_a7421 T_J4_append_bf812 T_J4_append_15ec4T T_J4_append_cf468 T_J4_toString_0e30dB T_L_feed T_X8_load T_X8_errorCode T_X8_errorPosition T_X8_property T_X8_isBarred T_X8_worker) K KX 2000 60000 Φ) (hP : LP9 S M0) (hC0 : CIn M0 B 0) (hK : ∀ (M' : ZM) (G : Gm), LSt S 0 G M' → K (some (zi 1)) M') : ∀ (W tol lots y one other : Int) (b c1 : Nat) (o1 : List Int) (M1 : ZM) (k n : Nat), W = 1 + drS S 0 6 → tol = lTo S → lots = drS S 5 4 → y = smR (lMm S) lots.toNat → one = drS S 6 W → other = drS S 7 W → BW M0 M1 b c1 o1 → o1 = lTX S W tol lots one other → (1 ≤ o1.length ∧ o1.length ≤ 340) → c1 ≤ 700 → k ≤ 2 + c1 → n ≤ 200 + 2 * c1 → Φ 349 [some (zo 64), some (zo 62), some (zi W), some (zi tol), some (zo b), some (zi y), some (zi lots), some (zi one), some (zi other), none] [] M1 k n := by
  have h46 := hP.n
  have hS1 := hP.1.2
  have hKL := hP.2.1.1
  have hKD := hP.2.1.2.1
  have e362 := @LD_e362 S M0 B K KX Φ hΦ hP hC0 hK
  exact fun W tol lots y one other b c1 o1 M1 k n hW htol hlots hy hone hother hB1 ho1 hl1 hc1 hk hn => by
    have hP1 := hP.fr hB1.2.1 (fun _ z => absurd z (fun y => y))
    have hL1 := hP1.2.2.1.1
    have hC1 := hC0.fr hP.2.2.1.1 hB1.2.1 (fun z => z) ⟨fun z => z, fun z => z, fun z => z⟩
    obtain ⟨G0, P0, p0, hT0, hG0, hQ0⟩ := hP1.2.2.2
    have d0 := dr_r (S := S) (k := 0) (n := 6) (by decide)
    have d6 := dr_r (S := S) (k := 6) (n := W) (by omega)
    have d7 := dr_r (S := S) (k := 7) (n := W) (by omega)
    refine zGoR hΦ [362] 400 (fun hL9 _ hM _ _ => ?_)
    obtain ⟨qL1, qL2, qL3, qL4, qL5, qL6, _⟩ : zrg W ∧ zrg tol ∧ zrg y ∧ zrg lots ∧ zrg one ∧ zrg other ∧ True := hL9
    refine ⟨⟨(by omega), (by omega)⟩, ⟨⟨rfl, rfl⟩, hB1.1.w.rcv⟩, ⟨b, c1, o1, rfl, hB1.1, (by omega), hP1.2.2.1.2.2, (fun M2 f2 hz2 => have hP2 := hP1.fr f2 (fun _ z => absurd z (fun y => y)); have hL2 := hP2.2.2.1.1; fun _ _ => ⟨⟨(by omega), (by omega)⟩, ⟨⟨rfl, rfl⟩, trivial⟩, ⟨zN M1, o1, B, rfl, hL2, (hC1.fr hL1 f2 (fun z => z) ⟨fun z => z, fun z => z, fun z => z⟩), hz2, hB1.2.2.2.2, (by omega), (fun M3 B3 f3 hC3 hb3 => have hP3 := hP2.fr f3 (fun _ z => z); have hL3 := hP3.2.2.1.1; fun _ _ => ⟨⟨(by omega), (by omega)⟩, ⟨⟨rfl, rfl⟩, hL3.w.rcv⟩, ⟨B3, _, G0, P0, p0, rfl, hL3, hC3, hP3.2.2.1.2.1, hP3.2.2.1.2.2, hT0.fr9 hL1.tab ((f2.mono nosin).tr f3) hG0 (by unfold SIn; omega), hG0, hQ0.fr hL1 ((f2.mono nosin).tr f3) (by unfold SIn; omega), (fun r4 M4 f4 hC4 h84 hno hyes => fun (qr4 : zrg r4) _ => (show Φ 362 [some (zo 64), some (zo 62), some (zi W), some (zi tol), some (zo b), some (zi y), some (zi lots), some (zi one), some (zi other), none] [zi r4] M4 (k + 2 + 30 + 508) (n + 344 + 180 + 3810) from ?g2l1))⟩⟩)⟩⟩)⟩⟩
    case g2l1 =>
      have hat : AtB B3 (o1.length : Int) 0 (lTX S W tol lots one other) := by
        rw [← ho1]
        exact ⟨Int.le_refl _, by omega, fun j hj => by rw [show (0 : Int).toNat + j = j by omega]; exact hb3 j hj⟩
      have hpr := prs_lw hW htol hlots hy hone hother hat
      obtain ⟨u1, u2, u3⟩ := hyes hpr.1.1
      rw [u1, show (prs B3 (o1.length : Int)).1 4 = W from hpr.2.2.2.1]
      exact e362 W tol lots y one other b _ M4 _ _ (LSt_ld hP3 f4 u2 u3 hpr.2 (by omega)) hW (by omega) (by omega) hpr.2 (h84.1.trans hpr.1.1) (h84.2.trans hpr.1.2) (by omega) (by omega)

set_option maxRecDepth 100000 in
set_option maxHeartbeats 4000000 in
theorem LD_e306 {S : Nat × (Nat → Int)} {M0 : ZM} {B : Gm} {K : ZRet} {KX : ZEx} {Φ : ZPhi} (hΦ : zClosed (cd_L_load T_L_draw T_J4_init_a7421 T_J4_append_bf812 T_J4_append_15ec4T T_J4_append_cf468 T_J4_toString_0e30dB T_L_feed T_X8_load T_X8_errorCode T_X8_errorPosition T_X8_property T_X8_isBarred T_X8_worker) K KX 2000 60000 Φ) (hP : LP9 S M0) (hC0 : CIn M0 B 0) (hK : ∀ (M' : ZM) (G : Gm), LSt S 0 G M' → K (some (zi 1)) M') : ∀ (W tol lots y one other : Int) (b c1 : Nat) (o1 : List Int) (M1 : ZM) (k n : Nat), W = 1 + drS S 0 6 → tol = lTo S → lots = drS S 5 4 → y = smR (lMm S) lots.toNat → one = drS S 6 W → other = drS S 7 W → BW M0 M1 b c1 o1 → o1 = sTB tol (lPa S) (lLe S) [] ++ txW (lTm S) (lQo S) (lTr S) W.toNat ++ txR (lMm S) (lZz S) lots.toNat → (1 ≤ o1.length ∧ o1.length ≤ 310) → c1 ≤ 700 → k ≤ 2 + c1 → n ≤ 200 + 2 * c1 → Φ 306 [some (zo 64), some (zo 62), some (zi W), some (zi tol), some (zo b), some (zi y), some (zi lots), some (zi one), some (zi other), none] [] M1 k n := by
  have h46 := hP.n
  have hS1 := hP.1.2
  have hKL := hP.2.1.1
  have hKD := hP.2.1.2.1
  have e349 := @LD_e349 S M0 B K KX Φ hΦ hP hC0 hK
  exact fun W tol lots y one other b c1 o1 M1 k n hW htol hlots hy hone hother hB1 ho1 hl1 hc1 hk hn => by
    have d0 := dr_r (S := S) (k := 0) (n := 6) (by decide)
    have d6 := dr_r (S := S) (k := 6) (n := W) (by omega)
    have d7 := dr_r (S := S) (k := 7) (n := W) (by omega)
    refine zGoR hΦ [349] 400 (fun hL9 _ hM _ _ => ?_)
    obtain ⟨qL1, qL2, qL3, qL4, qL5, qL6, _⟩ : zrg W ∧ zrg tol ∧ zrg y ∧ zrg lots ∧ zrg one ∧ zrg other ∧ True := hL9
    refine ⟨fun (qc1 : one = other) => (show Φ 349 [some (zo 64), some (zo 62), some (zi W), some (zi tol), some (zo b), some (zi y), some (zi lots), some (zi one), some (zi other), none] [] M1 (k) (n) from ?g3l1), fun (qc2 : one ≠ other) => ⟨(gA c1 (o1.length + 5)), (2 * (gA c1 (o1.length + 5))), ⟨(by have := (gA_r (n := o1.length + 5) hc1 (by omega)).2; omega), (by have := (gA_r (n := o1.length + 5) hc1 (by omega)).2; omega)⟩, ⟨⟨rfl, rfl⟩, hB1.1.w.rcv⟩, (A_con (i := 10) (m := 5) h46 hB1 hKL (by decide) rfl rfl hc1 (by omega) (fun c10 M10 o10 hB10 hg10 ho10 hl10 hc10 => fun _ _ => ⟨(zrgI (x := 97 + one) (by omega)), ⟨(gA c10 (o10.length + 1)), (2 * (gA c10 (o10.length + 1))), ⟨(by have := (gA_r (n := o10.length + 1) hc10 (by omega)).2; omega), (by have := (gA_r (n := o10.length + 1) hc10 (by omega)).2; omega)⟩, ⟨⟨rfl, rfl⟩, hB10.1.w.rcv⟩, (A_chr h46 hB10 (by omega) hc10 (by omega) (fun c11 M11 o11 hB11 hg11 ho11 hl11 hc11 => fun _ _ => ⟨(gA c11 (o11.length + 2)), (2 * (gA c11 (o11.length + 2))), ⟨(by have := (gA_r (n := o11.length + 2) hc11 (by omega)).2; omega), (by have := (gA_r (n := o11.length + 2) hc11 (by omega)).2; omega)⟩, ⟨⟨rfl, rfl⟩, hB11.1.w.rcv⟩, (A_con (i := 11) (m := 2) h46 hB11 hKL (by decide) rfl rfl hc11 (by omega) (fun c12 M12 o12 hB12 hg12 ho12 hl12 hc12 => fun _ _ => ⟨(zrgI (x := 97 + other) (by omega)), ⟨(gA c12 (o12.length + 1)), (2 * (gA c12 (o12.length + 1))), ⟨(by have := (gA_r (n := o12.length + 1) hc12 (by omega)).2; omega), (by have := (gA_r (n := o12.length + 1) hc12 (by omega)).2; omega)⟩, ⟨⟨rfl, rfl⟩, hB12.1.w.rcv⟩, (A_chr h46 hB12 (by omega) hc12 (by omega) (fun c13 M13 o13 hB13 hg13 ho13 hl13 hc13 => fun _ _ => ⟨(gA c13 (o13.length + 1)), (2 * (gA c13 (o13.length + 1))), ⟨(by have := (gA_r (n := o13.length + 1) hc13 (by omega)).2; omega), (by have := (gA_r (n := o13.length + 1) hc13 (by omega)).2; omega)⟩, ⟨⟨rfl, rfl⟩, hB13.1.w.rcv⟩, (A_con (i := 3) (m := 1) h46 hB13 hKL (by decide) rfl rfl hc13 (by omega) (fun c14 M14 o14 hB14 hg14 ho14 hl14 hc14 => fun _ _ => ⟨rfl, (show Φ 349 [some (zo 64), some (zo 62), some (zi W), some (zi tol), some (zo b), some (zi y), some (zi lots), some (zi one), some (zi other), none] [] M14 (k + (gA c1 (o1.length + 5)) + (gA c10 (o10.length + 1)) + (gA c11 (o11.length + 2)) + (gA c12 (o12.length + 1)) + (gA c13 (o13.length + 1))) (n + (2 * (gA c1 (o1.length + 5))) + (2 * (gA c10 (o10.length + 1))) + (2 * (gA c11 (o11.length + 2))) + (2 * (gA c12 (o12.length + 1))) + (2 * (gA c13 (o13.length + 1)))) from ?g3l2)⟩))⟩))⟩⟩))⟩))⟩⟩))⟩⟩
    case g3l1 =>
      refine e349 W tol lots y one other b c1 o1 M1 _ _ hW htol hlots hy hone hother hB1 ?_ (by omega) hc1 (by omega) (by omega)
      have hio : one = other := by omega
      unfold lTX txB
      rw [if_pos hio, List.append_nil]
      exact ho1
    case g3l2 =>
      refine e349 W tol lots y one other b c14 o14 M14 _ _ hW htol hlots hy hone hother hB14 ?_ (by omega) hc14 (by omega) (by omega)
      have hio : ¬ one = other := by omega
      unfold lTX txB
      rw [if_neg hio, ho14, ho13, ho12, ho11, ho10, ho1]
      exact br_eq

set_option maxRecDepth 100000 in
set_option maxHeartbeats 4000000 in
theorem LD_e203 {S : Nat × (Nat → Int)} {M0 : ZM} {B : Gm} {K : ZRet} {KX : ZEx} {Φ : ZPhi} (hΦ : zClosed (cd_L_load T_L_draw T_J4_init_a7421 T_J4_append_bf812 T_J4_append_15ec4T T_J4_append_cf468 T_J4_toString_0e30dB T_L_feed T_X8_load T_X8_errorCode T_X8_errorPosition T_X8_property T_X8_isBarred T_X8_worker) K KX 2000 60000 Φ) (hP : LP9 S M0) (hC0 : CIn M0 B 0) (hK : ∀ (M' : ZM) (G : Gm), LSt S 0 G M' → K (some (zi 1)) M') : ∀ (W tol lots : Int) (b : Nat), W = 1 + drS S 0 6 → tol = lTo S → lots = drS S 5 4 → ∀ i : Int, 0 ≤ i → i ≤ lots → ∀ (y : Int) (c1 : Nat) (o1 : List Int) (M1 : ZM) (k n : Nat), y = smR (lMm S) i.toNat → (0 ≤ y ∧ y ≤ 4 * i) → BW M0 M1 b c1 o1 → o1 = sTB tol (lPa S) (lLe S) [] ++ txW (lTm S) (lQo S) (lTr S) W.toNat ++ txR (lMm S) (lZz S) i.toNat → 1 ≤ o1.length → (o1.length : Int) ≤ 256 + 16 * i → c1 ≤ 700 → k ≤ 2 + c1 → n ≤ 200 + 2 * c1 → Φ 203 [some (zo 64), some (zo 62), some (zi W), some (zi tol), some (zo b), some (zi y), some (zi lots), some (zi i), none, none] [] M1 k n := by
  have h46 := hP.n
  have hS1 := hP.1.2
  have hKL := hP.2.1.1
  have hKD := hP.2.1.2.1
  have e306 := @LD_e306 S M0 B K KX Φ hΦ hP hC0 hK
  exact fun W tol lots b hW htol hlots => by
    have d0 := dr_r (S := S) (k := 0) (n := 6) (by decide)
    have d5 := dr_r (S := S) (k := 5) (n := 4) (by decide)
    refine zdown (n := lots) (fun i i0 i1 ih y c1 o1 M1 k n hy hyr hB1 ho1 hl0 hl1 hc1 hk hn => ?_)
    refine zGoR hΦ [203, 306] 400 (fun hL9 _ hM _ _ => ?_)
    obtain ⟨qL1, qL2, qL3, qL4, qL5, _⟩ : zrg W ∧ zrg tol ∧ zrg y ∧ zrg lots ∧ zrg i ∧ True := hL9
    refine ⟨fun (qc1 : i ≥ lots) => ⟨⟨⟨rfl, rfl⟩, trivial⟩, (D_dr9 hP hB1.2.1 (by omega) (by omega) (fun hd4 => fun (qd4 : zrg (drS S 6 W)) _ => ⟨⟨⟨rfl, rfl⟩, trivial⟩, (D_dr9 hP hB1.2.1 (by omega) (by omega) (fun hd5 => fun (qd5 : zrg (drS S 7 W)) _ => (show Φ 306 [some (zo 64), some (zo 62), some (zi W), some (zi tol), some (zo b), some (zi y), some (zi lots), some (zi (drS S 6 W)), some (zi (drS S 7 W)), none] [] M1 (k) (n) from ?g4l1)))⟩))⟩, fun (qc2 : i < lots) => ⟨(gA c1 (o1.length + 5)), (2 * (gA c1 (o1.length + 5))), ⟨(by have := (gA_r (n := o1.length + 5) hc1 (by omega)).2; omega), (by have := (gA_r (n := o1.length + 5) hc1 (by omega)).2; omega)⟩, ⟨⟨rfl, rfl⟩, hB1.1.w.rcv⟩, (A_con (i := 8) (m := 5) h46 hB1 hKL (by decide) rfl rfl hc1 (by omega) (fun c10 M10 o10 hB10 hg10 ho10 hl10 hc10 => fun _ _ => ⟨(zrgI (x := 2 * i) (by omega)), ⟨(zrgI (x := 30 + 2 * i) (by omega)), ⟨⟨⟨rfl, rfl⟩, trivial⟩, (D_dr9 hP hB10.2.1 (by omega) (by omega) (fun hd6 => fun (qd6 : zrg (drS S (30 + 2 * i) 4)) _ => ⟨(zrgI (x := 1 + (drS S (30 + 2 * i) 4)) (by omega)), ⟨(gA c10 (o10.length + (dig (1 + (drS S (30 + 2 * i) 4))).length)), (2 * (gA c10 (o10.length + (dig (1 + (drS S (30 + 2 * i) 4))).length))), ⟨(by have := dig_l (v := 1 + (drS S (30 + 2 * i) 4)) (by omega); have := (gA_r (n := o10.length + (dig (1 + (drS S (30 + 2 * i) 4))).length) hc10 (by omega)).2; omega), (by have := dig_l (v := 1 + (drS S (30 + 2 * i) 4)) (by omega); have := (gA_r (n := o10.length + (dig (1 + (drS S (30 + 2 * i) 4))).length) hc10 (by omega)).2; omega)⟩, ⟨⟨rfl, rfl⟩, hB10.1.w.rcv⟩, (A_int h46 hB10 hKD (by omega) hc10 (by omega) (fun c11 M11 o11 hB11 hg11 ho11 hl11 hc11 => fun _ _ => ⟨(gA c11 (o11.length + 6)), (2 * (gA c11 (o11.length + 6))), ⟨(by have := (gA_r (n := o11.length + 6) hc11 (by omega)).2; omega), (by have := (gA_r (n := o11.length + 6) hc11 (by omega)).2; omega)⟩, ⟨⟨rfl, rfl⟩, hB11.1.w.rcv⟩, (A_con (i := 9) (m := 6) h46 hB11 hKL (by decide) rfl rfl hc11 (by omega) (fun c12 M12 o12 hB12 hg12 ho12 hl12 hc12 => fun _ _ => ⟨(zrgI (x := 2 * i) (by omega)), ⟨(zrgI (x := 31 + 2 * i) (by omega)), ⟨⟨⟨rfl, rfl⟩, trivial⟩, (D_dr9 hP hB12.2.1 (by omega) (by omega) (fun hd7 => fun (qd7 : zrg (drS S (31 + 2 * i) 9)) _ => ⟨(zrgI (x := 1 + (drS S (31 + 2 * i) 9)) (by omega)), ⟨(gA c12 (o12.length + (dig (1 + (drS S (31 + 2 * i) 9))).length)), (2 * (gA c12 (o12.length + (dig (1 + (drS S (31 + 2 * i) 9))).length))), ⟨(by have := dig_l (v := 1 + (drS S (31 + 2 * i) 9)) (by omega); have := (gA_r (n := o12.length + (dig (1 + (drS S (31 + 2 * i) 9))).length) hc12 (by omega)).2; omega), (by have := dig_l (v := 1 + (drS S (31 + 2 * i) 9)) (by omega); have := (gA_r (n := o12.length + (dig (1 + (drS S (31 + 2 * i) 9))).length) hc12 (by omega)).2; omega)⟩, ⟨⟨rfl, rfl⟩, hB12.1.w.rcv⟩, (A_int h46 hB12 hKD (by omega) hc12 (by omega) (fun c13 M13 o13 hB13 hg13 ho13 hl13 hc13 => fun _ _ => ⟨(gA c13 (o13.length + 1)), (2 * (gA c13 (o13.length + 1))), ⟨(by have := (gA_r (n := o13.length + 1) hc13 (by omega)).2; omega), (by have := (gA_r (n := o13.length + 1) hc13 (by omega)).2; omega)⟩, ⟨⟨rfl, rfl⟩, hB13.1.w.rcv⟩, (A_con (i := 3) (m := 1) h46 hB13 hKL (by decide) rfl rfl hc13 (by omega) (fun c14 M14 o14 hB14 hg14 ho14 hl14 hc14 => fun _ _ => ⟨rfl, ⟨(zrgI (x := 2 * i) (by omega)), ⟨(zrgI (x := 30 + 2 * i) (by omega)), ⟨⟨⟨rfl, rfl⟩, trivial⟩, (D_dr9 hP hB14.2.1 (by omega) (by omega) (fun hd8 => fun (qd8 : zrg (drS S (30 + 2 * i) 4)) _ => ⟨(zrgI (x := 1 + (drS S (30 + 2 * i) 4)) (by omega)), ⟨(zrgI (x := y + (1 + (drS S (30 + 2 * i) 4))) (by omega)), ⟨(zrgI (x := i + 1) (by omega)), (show Φ 203 [some (zo 64), some (zo 62), some (zi W), some (zi tol), some (zo b), some (zi (y + (1 + (drS S (30 + 2 * i) 4)))), some (zi lots), some (zi (i + 1)), none, none] [] M14 (k + (gA c1 (o1.length + 5)) + (gA c10 (o10.length + (dig (1 + (drS S (30 + 2 * i) 4))).length)) + (gA c11 (o11.length + 6)) + (gA c12 (o12.length + (dig (1 + (drS S (31 + 2 * i) 9))).length)) + (gA c13 (o13.length + 1))) (n + (2 * (gA c1 (o1.length + 5))) + (2 * (gA c10 (o10.length + (dig (1 + (drS S (30 + 2 * i) 4))).length))) + (2 * (gA c11 (o11.length + 6))) + (2 * (gA c12 (o12.length + (dig (1 + (drS S (31 + 2 * i) 9))).length))) + (2 * (gA c13 (o13.length + 1)))) from ?g4l2)⟩⟩⟩))⟩⟩⟩⟩))⟩))⟩⟩))⟩⟩⟩))⟩))⟩⟩))⟩⟩⟩))⟩⟩
    case g4l1 =>
      have hi : i = lots := by omega
      subst hi
      exact e306 W tol _ y _ _ b c1 o1 M1 _ _ hW htol hlots hy rfl rfl hB1 ho1 (by omega) hc1 (by omega) (by omega)
    case g4l2 =>
      refine ih (by omega) _ c14 o14 M14 _ _ ?_ (by omega) hB14 ?_ (by omega) (by omega) hc14 (by omega) (by omega)
      · rw [smR_s i0, ← hy]
        rfl
      · rw [ho14, ho13, ho12, ho11, ho10, ho1, txR_s i0, ← List.append_assoc]
        exact rw_eq

set_option maxRecDepth 100000 in
set_option maxHeartbeats 4000000 in
theorem LD_e91 {S : Nat × (Nat → Int)} {M0 : ZM} {B : Gm} {K : ZRet} {KX : ZEx} {Φ : ZPhi} (hΦ : zClosed (cd_L_load T_L_draw T_J4_init_a7421 T_J4_append_bf812 T_J4_append_15ec4T T_J4_append_cf468 T_J4_toString_0e30dB T_L_feed T_X8_load T_X8_errorCode T_X8_errorPosition T_X8_property T_X8_isBarred T_X8_worker) K KX 2000 60000 Φ) (hP : LP9 S M0) (hC0 : CIn M0 B 0) (hK : ∀ (M' : ZM) (G : Gm), LSt S 0 G M' → K (some (zi 1)) M') : ∀ (W tol : Int) (b : Nat), W = 1 + drS S 0 6 → tol = lTo S → ∀ i : Int, 0 ≤ i → i ≤ W → ∀ (c1 : Nat) (o1 : List Int) (M1 : ZM) (k n : Nat), BW M0 M1 b c1 o1 → o1 = sTB tol (lPa S) (lLe S) [] ++ txW (lTm S) (lQo S) (lTr S) i.toNat → 1 ≤ o1.length → (o1.length : Int) ≤ 40 + 36 * i → c1 ≤ 700 → k ≤ 2 + c1 → n ≤ 200 + 2 * c1 → Φ 91 [some (zo 64), some (zo 62), some (zi W), some (zi tol), some (zo b), some (zi i), none, none, none, none] [] M1 k n := by
  have h46 := hP.n
  have hS1 := hP.1.2
  have hKL := hP.2.1.1
  have hKD := hP.2.1.2.1
  have e203 := @LD_e203 S M0 B K KX Φ hΦ hP hC0 hK
  exact fun W tol b hW htol => by
    have d0 := dr_r (S := S) (k := 0) (n := 6) (by decide)
    refine zdown (n := W) (fun i i0 i1 ih c1 o1 M1 k n hB1 ho1 hl0 hl1 hc1 hk hn => ?_)
    refine zGoR hΦ [91, 203] 400 (fun hL9 _ hM _ _ => ?_)
    obtain ⟨qL1, qL2, qL3, _⟩ : zrg W ∧ zrg tol ∧ zrg i ∧ True := hL9
    refine ⟨fun (qc1 : i ≥ W) => ⟨⟨⟨rfl, rfl⟩, trivial⟩, (D_dr9 hP hB1.2.1 (by omega) (by omega) (fun hd9 => fun (qd9 : zrg (drS S 5 4)) _ => (show Φ 203 [some (zo 64), some (zo 62), some (zi W), some (zi tol), some (zo b), some (zi 0), some (zi (drS S 5 4)), some (zi 0), none, none] [] M1 (k) (n) from ?g5l1)))⟩, fun (qc2 : i < W) => ⟨(gA c1 (o1.length + 8)), (2 * (gA c1 (o1.length + 8))), ⟨(by have := (gA_r (n := o1.length + 8) hc1 (by omega)).2; omega), (by have := (gA_r (n := o1.length + 8) hc1 (by omega)).2; omega)⟩, ⟨⟨rfl, rfl⟩, hB1.1.w.rcv⟩, (A_con (i := 4) (m := 8) h46 hB1 hKL (by decide) rfl rfl hc1 (by omega) (fun c10 M10 o10 hB10 hg10 ho10 hl10 hc10 => fun _ _ => ⟨(zrgI (x := 97 + i) (by omega)), ⟨(gA c10 (o10.length + 1)), (2 * (gA c10 (o10.length + 1))), ⟨(by have := (gA_r (n := o10.length + 1) hc10 (by omega)).2; omega), (by have := (gA_r (n := o10.length + 1) hc10 (by omega)).2; omega)⟩, ⟨⟨rfl, rfl⟩, hB10.1.w.rcv⟩, (A_chr h46 hB10 (by omega) hc10 (by omega) (fun c11 M11 o11 hB11 hg11 ho11 hl11 hc11 => fun _ _ => ⟨(gA c11 (o11.length + 6)), (2 * (gA c11 (o11.length + 6))), ⟨(by have := (gA_r (n := o11.length + 6) hc11 (by omega)).2; omega), (by have := (gA_r (n := o11.length + 6) hc11 (by omega)).2; omega)⟩, ⟨⟨rfl, rfl⟩, hB11.1.w.rcv⟩, (A_con (i := 5) (m := 6) h46 hB11 hKL (by decide) rfl rfl hc11 (by omega) (fun c12 M12 o12 hB12 hg12 ho12 hl12 hc12 => fun _ _ => ⟨(zrgI (x := 3 * i) (by omega)), ⟨(zrgI (x := 10 + 3 * i) (by omega)), ⟨⟨⟨rfl, rfl⟩, trivial⟩, (D_dr9 hP hB12.2.1 (by omega) (by omega) (fun hd10 => fun (qd10 : zrg (drS S (10 + 3 * i) 6)) _ => ⟨(gA c12 (o12.length + (dig (drS S (10 + 3 * i) 6)).length)), (2 * (gA c12 (o12.length + (dig (drS S (10 + 3 * i) 6)).length))), ⟨(by have := dig_l (v := drS S (10 + 3 * i) 6) (by omega); have := (gA_r (n := o12.length + (dig (drS S (10 + 3 * i) 6)).length) hc12 (by omega)).2; omega), (by have := dig_l (v := drS S (10 + 3 * i) 6) (by omega); have := (gA_r (n := o12.length + (dig (drS S (10 + 3 * i) 6)).length) hc12 (by omega)).2; omega)⟩, ⟨⟨rfl, rfl⟩, hB12.1.w.rcv⟩, (A_int h46 hB12 hKD (by omega) hc12 (by omega) (fun c13 M13 o13 hB13 hg13 ho13 hl13 hc13 => fun _ _ => ⟨(gA c13 (o13.length + 7)), (2 * (gA c13 (o13.length + 7))), ⟨(by have := (gA_r (n := o13.length + 7) hc13 (by omega)).2; omega), (by have := (gA_r (n := o13.length + 7) hc13 (by omega)).2; omega)⟩, ⟨⟨rfl, rfl⟩, hB13.1.w.rcv⟩, (A_con (i := 6) (m := 7) h46 hB13 hKL (by decide) rfl rfl hc13 (by omega) (fun c14 M14 o14 hB14 hg14 ho14 hl14 hc14 => fun _ _ => ⟨(zrgI (x := 3 * i) (by omega)), ⟨(zrgI (x := 11 + 3 * i) (by omega)), ⟨⟨⟨rfl, rfl⟩, trivial⟩, (D_dr9 hP hB14.2.1 (by omega) (by omega) (fun hd11 => fun (qd11 : zrg (drS S (11 + 3 * i) 5)) _ => ⟨(zrgI (x := 1 + (drS S (11 + 3 * i) 5)) (by omega)), ⟨(gA c14 (o14.length + (dig (1 + (drS S (11 + 3 * i) 5))).length)), (2 * (gA c14 (o14.length + (dig (1 + (drS S (11 + 3 * i) 5))).length))), ⟨(by have := dig_l (v := 1 + (drS S (11 + 3 * i) 5)) (by omega); have := (gA_r (n := o14.length + (dig (1 + (drS S (11 + 3 * i) 5))).length) hc14 (by omega)).2; omega), (by have := dig_l (v := 1 + (drS S (11 + 3 * i) 5)) (by omega); have := (gA_r (n := o14.length + (dig (1 + (drS S (11 + 3 * i) 5))).length) hc14 (by omega)).2; omega)⟩, ⟨⟨rfl, rfl⟩, hB14.1.w.rcv⟩, (A_int h46 hB14 hKD (by omega) hc14 (by omega) (fun c15 M15 o15 hB15 hg15 ho15 hl15 hc15 => fun _ _ => ⟨(gA c15 (o15.length + 7)), (2 * (gA c15 (o15.length + 7))), ⟨(by have := (gA_r (n := o15.length + 7) hc15 (by omega)).2; omega), (by have := (gA_r (n := o15.length + 7) hc15 (by omega)).2; omega)⟩, ⟨⟨rfl, rfl⟩, hB15.1.w.rcv⟩, (A_con (i := 7) (m := 7) h46 hB15 hKL (by decide) rfl rfl hc15 (by omega) (fun c16 M16 o16 hB16 hg16 ho16 hl16 hc16 => fun _ _ => ⟨(zrgI (x := 3 * i) (by omega)), ⟨(zrgI (x := 12 + 3 * i) (by omega)), ⟨⟨⟨rfl, rfl⟩, trivial⟩, (D_dr9 hP hB16.2.1 (by omega) (by omega) (fun hd12 => fun (qd12 : zrg (drS S (12 + 3 * i) 21)) _ => ⟨(gA c16 (o16.length + (dig (drS S (12 + 3 * i) 21)).length)), (2 * (gA c16 (o16.length + (dig (drS S (12 + 3 * i) 21)).length))), ⟨(by have := dig_l (v := drS S (12 + 3 * i) 21) (by omega); have := (gA_r (n := o16.length + (dig (drS S (12 + 3 * i) 21)).length) hc16 (by omega)).2; omega), (by have := dig_l (v := drS S (12 + 3 * i) 21) (by omega); have := (gA_r (n := o16.length + (dig (drS S (12 + 3 * i) 21)).length) hc16 (by omega)).2; omega)⟩, ⟨⟨rfl, rfl⟩, hB16.1.w.rcv⟩, (A_int h46 hB16 hKD (by omega) hc16 (by omega) (fun c17 M17 o17 hB17 hg17 ho17 hl17 hc17 => fun _ _ => ⟨(gA c17 (o17.length + 1)), (2 * (gA c17 (o17.length + 1))), ⟨(by have := (gA_r (n := o17.length + 1) hc17 (by omega)).2; omega), (by have := (gA_r (n := o17.length + 1) hc17 (by omega)).2; omega)⟩, ⟨⟨rfl, rfl⟩, hB17.1.w.rcv⟩, (A_con (i := 3) (m := 1) h46 hB17 hKL (by decide) rfl rfl hc17 (by omega) (fun c18 M18 o18 hB18 hg18 ho18 hl18 hc18 => fun _ _ => ⟨rfl, ⟨(zrgI (x := i + 1) (by omega)), (show Φ 91 [some (zo 64), some (zo 62), some (zi W), some (zi tol), some (zo b), some (zi (i + 1)), none, none, none, none] [] M18 (k + (gA c1 (o1.length + 8)) + (gA c10 (o10.length + 1)) + (gA c11 (o11.length + 6)) + (gA c12 (o12.length + (dig (drS S (10 + 3 * i) 6)).length)) + (gA c13 (o13.length + 7)) + (gA c14 (o14.length + (dig (1 + (drS S (11 + 3 * i) 5))).length)) + (gA c15 (o15.length + 7)) + (gA c16 (o16.length + (dig (drS S (12 + 3 * i) 21)).length)) + (gA c17 (o17.length + 1))) (n + (2 * (gA c1 (o1.length + 8))) + (2 * (gA c10 (o10.length + 1))) + (2 * (gA c11 (o11.length + 6))) + (2 * (gA c12 (o12.length + (dig (drS S (10 + 3 * i) 6)).length))) + (2 * (gA c13 (o13.length + 7))) + (2 * (gA c14 (o14.length + (dig (1 + (drS S (11 + 3 * i) 5))).length))) + (2 * (gA c15 (o15.length + 7))) + (2 * (gA c16 (o16.length + (dig (drS S (12 + 3 * i) 21)).length))) + (2 * (gA c17 (o17.length + 1)))) from ?g5l2)⟩⟩))⟩))⟩))⟩⟩⟩))⟩))⟩⟩))⟩⟩⟩))⟩))⟩))⟩⟩⟩))⟩))⟩⟩))⟩⟩
    case g5l1 =>
      have hi : i = W := by omega
      subst hi
      refine e203 _ tol _ b hW htol rfl 0 (by decide) (by omega) 0 c1 o1 M1 _ _ rfl (by decide) hB1 ?_ (by omega) (by omega) hc1 (by omega) (by omega)
      rw [ho1]
      exact (List.append_nil _).symm
    case g5l2 =>
      refine ih (by omega) c18 o18 M18 _ _ hB18 ?_ (by omega) (by omega) hc18 (by omega) (by omega)
      rw [ho18, ho17, ho16, ho15, ho14, ho13, ho12, ho11, ho10, ho1, txW_s i0, ← List.append_assoc]
      exact wk_eq

set_option maxRecDepth 100000 in
set_option maxHeartbeats 4000000 in
theorem LD_e35 {S : Nat × (Nat → Int)} {M0 : ZM} {B : Gm} {K : ZRet} {KX : ZEx} {Φ : ZPhi} (hΦ : zClosed (cd_L_load T_L_draw T_J4_init_a7421 T_J4_append_bf812 T_J4_append_15ec4T T_J4_append_cf468 T_J4_toString_0e30dB T_L_feed T_X8_load T_X8_errorCode T_X8_errorPosition T_X8_property T_X8_isBarred T_X8_worker) K KX 2000 60000 Φ) (hP : LP9 S M0) (hC0 : CIn M0 B 0) (hK : ∀ (M' : ZM) (G : Gm), LSt S 0 G M' → K (some (zi 1)) M') : ∀ (W tol : Int) (k n : Nat), W = 1 + drS S 0 6 → tol = lTo S → k = 0 → n = 0 → Φ 35 [some (zo 64), some (zo 62), some (zi W), none, none, none, none, none, none, none] [zi tol] M0 k n := by
  have h46 := hP.n
  have hS1 := hP.1.2
  have hKL := hP.2.1.1
  have hKD := hP.2.1.2.1
  have e91 := @LD_e91 S M0 B K KX Φ hΦ hP hC0 hK
  exact fun W tol k n hW htol hk hn => by
    have d0 := dr_r (S := S) (k := 0) (n := 6) (by decide)
    have hCC : zCC ≤ zN M0 := by unfold zCC; omega
    have htr : 0 ≤ tol ∧ tol ≤ 20 := by
      have a1 := dr_r (S := S) (k := 2) (n := 21) (by decide)
      have a2 := dr_r (S := S) (k := 2) (n := 5) (by decide)
      rw [htol]
      unfold lTo
      split <;> omega
    refine zGoR hΦ [91] 400 (fun hL9 _ hM _ _ => ?_)
    obtain ⟨qL1, _⟩ : zrg W ∧ True := hL9
    refine ⟨⟨(by omega), (by omega)⟩, ⟨rfl, ⟨⟨(by omega), (by omega)⟩, ⟨⟨rfl, rfl⟩, (zW.nn (κ := 1) (n := 0) hCC).rcv⟩, (A_new h46 hKL (fun c10 M10 o10 hB10 hg10 ho10 hl10 hc10 => fun _ _ => ⟨(gA c10 (o10.length + (dig tol).length)), (2 * (gA c10 (o10.length + (dig tol).length))), ⟨(by have := dig_l (v := tol) (by omega); have := (gA_r (n := o10.length + (dig tol).length) hc10 (by omega)).2; omega), (by have := dig_l (v := tol) (by omega); have := (gA_r (n := o10.length + (dig tol).length) hc10 (by omega)).2; omega)⟩, ⟨⟨rfl, rfl⟩, hB10.1.w.rcv⟩, (A_int h46 hB10 hKD (by omega) hc10 (by omega) (fun c11 M11 o11 hB11 hg11 ho11 hl11 hc11 => fun _ _ => ⟨(gA c11 (o11.length + 10)), (2 * (gA c11 (o11.length + 10))), ⟨(by have := (gA_r (n := o11.length + 10) hc11 (by omega)).2; omega), (by have := (gA_r (n := o11.length + 10) hc11 (by omega)).2; omega)⟩, ⟨⟨rfl, rfl⟩, hB11.1.w.rcv⟩, (A_con (i := 1) (m := 10) h46 hB11 hKL (by decide) rfl rfl hc11 (by omega) (fun c12 M12 o12 hB12 hg12 ho12 hl12 hc12 => fun _ _ => ⟨⟨⟨rfl, rfl⟩, trivial⟩, (D_dr9 hP hB12.2.1 (by omega) (by omega) (fun hd13 => fun (qd13 : zrg (drS S 3 12)) _ => ⟨(zrgI (x := 1 + drS S 3 12) (by omega)), ⟨(gA c12 (o12.length + (dig (1 + drS S 3 12)).length)), (2 * (gA c12 (o12.length + (dig (1 + drS S 3 12)).length))), ⟨(by have := dig_l (v := 1 + drS S 3 12) (by omega); have := (gA_r (n := o12.length + (dig (1 + drS S 3 12)).length) hc12 (by omega)).2; omega), (by have := dig_l (v := 1 + drS S 3 12) (by omega); have := (gA_r (n := o12.length + (dig (1 + drS S 3 12)).length) hc12 (by omega)).2; omega)⟩, ⟨⟨rfl, rfl⟩, hB12.1.w.rcv⟩, (A_int h46 hB12 hKD (by omega) hc12 (by omega) (fun c13 M13 o13 hB13 hg13 ho13 hl13 hc13 => fun _ _ => ⟨(gA c13 (o13.length + 7)), (2 * (gA c13 (o13.length + 7))), ⟨(by have := (gA_r (n := o13.length + 7) hc13 (by omega)).2; omega), (by have := (gA_r (n := o13.length + 7) hc13 (by omega)).2; omega)⟩, ⟨⟨rfl, rfl⟩, hB13.1.w.rcv⟩, (A_con (i := 2) (m := 7) h46 hB13 hKL (by decide) rfl rfl hc13 (by omega) (fun c14 M14 o14 hB14 hg14 ho14 hl14 hc14 => fun _ _ => ⟨⟨⟨rfl, rfl⟩, trivial⟩, (D_dr9 hP hB14.2.1 (by omega) (by omega) (fun hd14 => fun (qd14 : zrg (drS S 4 10)) _ => ⟨(gA c14 (o14.length + (dig (drS S 4 10)).length)), (2 * (gA c14 (o14.length + (dig (drS S 4 10)).length))), ⟨(by have := dig_l (v := drS S 4 10) (by omega); have := (gA_r (n := o14.length + (dig (drS S 4 10)).length) hc14 (by omega)).2; omega), (by have := dig_l (v := drS S 4 10) (by omega); have := (gA_r (n := o14.length + (dig (drS S 4 10)).length) hc14 (by omega)).2; omega)⟩, ⟨⟨rfl, rfl⟩, hB14.1.w.rcv⟩, (A_int h46 hB14 hKD (by omega) hc14 (by omega) (fun c15 M15 o15 hB15 hg15 ho15 hl15 hc15 => fun _ _ => ⟨(gA c15 (o15.length + 1)), (2 * (gA c15 (o15.length + 1))), ⟨(by have := (gA_r (n := o15.length + 1) hc15 (by omega)).2; omega), (by have := (gA_r (n := o15.length + 1) hc15 (by omega)).2; omega)⟩, ⟨⟨rfl, rfl⟩, hB15.1.w.rcv⟩, (A_con (i := 3) (m := 1) h46 hB15 hKL (by decide) rfl rfl hc15 (by omega) (fun c16 M16 o16 hB16 hg16 ho16 hl16 hc16 => fun _ _ => (show Φ 91 [some (zo 64), some (zo 62), some (zi W), some (zi tol), some (zo (zN M0)), some (zi 0), none, none, none, none] [] M16 (k + 1 + 1 + (gA c10 (o10.length + (dig tol).length)) + (gA c11 (o11.length + 10)) + (gA c12 (o12.length + (dig (1 + drS S 3 12)).length)) + (gA c13 (o13.length + 7)) + (gA c14 (o14.length + (dig (drS S 4 10)).length)) + (gA c15 (o15.length + 1))) (n + 4 + 120 + (2 * (gA c10 (o10.length + (dig tol).length))) + (2 * (gA c11 (o11.length + 10))) + (2 * (gA c12 (o12.length + (dig (1 + drS S 3 12)).length))) + (2 * (gA c13 (o13.length + 7))) + (2 * (gA c14 (o14.length + (dig (drS S 4 10)).length))) + (2 * (gA c15 (o15.length + 1)))) from ?g6l1)))⟩))⟩))⟩))⟩))⟩⟩))⟩))⟩))⟩))⟩⟩⟩
    case g6l1 =>
      refine e91 W tol _ hW htol 0 (by decide) (by omega) c16 o16 M16 _ _ hB16 ?_ (by omega) (by omega) hc16 (by omega) (by omega)
      rw [ho16, ho15, ho14, ho13, ho12, ho11, ho10]
      exact tb_eq.trans (List.append_nil _).symm

def T_L_load : ZTf := fun av M K KX => ∃ (S : Nat × (Nat → Int)) (B : Gm), av = [zo 64, zo 62] ∧ LP9 S M ∧ CIn M B 0 ∧ (∀ (M' : ZM) (G : Gm), LSt S 0 G M' → K (some (zi 1)) M')
set_option maxRecDepth 100000 in
set_option maxHeartbeats 1500000 in
theorem bd_L_load : zBd (cd_L_load T_L_draw T_J4_init_a7421 T_J4_append_bf812 T_J4_append_15ec4T T_J4_append_cf468 T_J4_toString_0e30dB T_L_feed T_X8_load T_X8_errorCode T_X8_errorPosition T_X8_property T_X8_isBarred T_X8_worker) 10 2000 60000 T_L_load := by
  rintro av M0 K KX hA0 hM ⟨S, B, rfl, hP, hC0, hK⟩
  have h46 := hP.n
  refine ⟨rfl, fun Φ hΦ => ?_⟩
  have e35 := @LD_e35 S M0 B K KX Φ hΦ hP hC0 hK
  refine zGoR hΦ [35] 400 (fun hL9 _ hM _ _ => ?_)
  obtain ⟨_⟩ : True := hL9
  refine ⟨⟨⟨rfl, rfl⟩, trivial⟩, (D_dr9 hP Fr.rf (by omega) (by omega) (fun hd15 => fun (qd15 : zrg (drS S 0 6)) _ => ⟨(zrgI (x := 1 + drS S 0 6) (by omega)), ⟨⟨⟨rfl, rfl⟩, trivial⟩, (D_dr9 hP Fr.rf (by omega) (by omega) (fun hd16 => fun (qd16 : zrg (drS S 1 4)) _ => ⟨fun (qc1 : drS S 1 4 ≠ 0) => ⟨⟨⟨rfl, rfl⟩, trivial⟩, (D_dr9 hP Fr.rf (by omega) (by omega) (fun hd17 => fun (qd17 : zrg (drS S 2 5)) _ => (show Φ 35 [some (zo 64), some (zo 62), some (zi (1 + drS S 0 6)), none, none, none, none, none, none, none] [zi (drS S 2 5)] M0 (0) (0) from ?g7l1)))⟩, fun (qc2 : drS S 1 4 = 0) => ⟨⟨⟨rfl, rfl⟩, trivial⟩, (D_dr9 hP Fr.rf (by omega) (by omega) (fun hd18 => fun (qd18 : zrg (drS S 2 21)) _ => (show Φ 35 [some (zo 64), some (zo 62), some (zi (1 + drS S 0 6)), none, none, none, none, none, none, none] [zi (drS S 2 21)] M0 (0) (0) from ?g7l2)))⟩⟩))⟩⟩))⟩
  case g7l1 => exact e35 _ _ _ _ rfl (by unfold lTo; rw [if_neg (by omega)]) rfl rfl
  case g7l2 => exact e35 _ _ _ _ rfl (by unfold lTo; rw [if_pos (by omega)]) rfl rfl

theorem M_L_load {l : Launch} (hl : l.stackTraces = false) : zMet l yL_load (Cond.code yL_load cL_load 10 (Option.some Jvm.ClassFile.FieldType.boolean) :: zG) rm_L_load 2000 60000 T_L_load := met_L_load hl (M_L_draw hl) (M_J4_init_a7421 hl) (M_J4_append_bf812 hl) (M_J4_append_15ec4T hl) (M_J4_append_cf468 hl) (M_J4_toString_0e30dB hl) (M_L_feed hl) (M_X8_load hl) (M_X8_errorCode hl) (M_X8_errorPosition hl) (M_X8_property hl) (M_X8_isBarred hl) (M_X8_worker hl) bd_L_load

