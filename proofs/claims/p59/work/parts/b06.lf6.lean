/-! the law: audits, its walk -/
def T_L_audits : ZTf := fun av M K KX => ∃ (S : Nat × (Nat → Int)) (kk : Int) (G : Gm) (r x : Int), av = [zo 64, zi r, zi x] ∧ LSt S kk G M ∧ (kk + 1 ≤ 1000) ∧ (0 ≤ r ∧ r < G 5) ∧ (0 ≤ x ∧ x ≤ 99) ∧ (∀ (G' : Gm) (M' : ZM), LSt S (kk + 1) G' M' → K (some (zi 1)) M')
set_option maxRecDepth 100000 in
set_option maxHeartbeats 4000000 in
theorem bd_L_audits : zBd (cd_L_audits T_X8_row T_L_trusts T_X8_property T_X8_finishers T_J6_numberOfTrailingZeros_0f7a4 T_J6_numberOfLeadingZeros_0f7a4 T_X8_strikes T_X8_taking T_L_capped T_L_audited T_L_are) 13 110 720 T_L_audits := by
  rintro av M K KX hA0 hM ⟨S, kk, G, r, x, rfl, hS, hkk, hr, hx, hK⟩
  have h4 := hS.g4
  have h5 := hS.g5
  have hG := hS.2.1.2.2.1
  have hrv := hS.rv hr
  have hax := ax_v G r
  have h0 : 0 ≤ G 0 ∧ G 0 ≤ 20 := hS.2.1.2.2.2.1.1
  refine ⟨rfl, fun Φ hΦ => ?_⟩
  have e193_1 : ∀ (G : Gm) (M1 : ZM) (s : Nat) (f : Int → Int) (ag w0 fb p q be : Int) (k n : Nat), LSt S (kk + 1) G M1 → AR M1 s (G 4).toNat f → (0 ≤ r ∧ r < G 5) → (ag = 1 ∧ vaG G r = w0 ∧ skG G p q = be ∨ ag = 0 ∧ vaG G r = x ∧ skG G p q = be + 1) → axG G r = 1 → (0 ≤ p ∧ p < G 4 ∧ 0 ≤ q ∧ q < G 4) → skG G q p = skG G p q → (0 ≤ be ∧ be ≤ 1000000) → (∀ w, 0 ≤ w → w < G 4 → trG G w = f w) → k ≤ 70 → n ≤ 440 → Φ 193 [some (zo 64), some (zi r), some (zi x), some (zi 1), some (zo s), some (zi ag), some (zi w0), some (zi fb), some (zi p), some (zi q), some (zi be), none, none] [zi ag] M1 k n := fun G M1 s f ag w0 fb p q be k n hS1 hA1 hr hag hau hpq hsy hbe hf hk hn => by
    refine zGoR hΦ [] 400 (fun hL9 _ hM _ _ => ?_)
    obtain ⟨qL1, qL2, qL3, qL4, qL5, qL6, qL7, qL8, qL9, _⟩ : zrg r ∧ zrg x ∧ zrg 1 ∧ zrg ag ∧ zrg w0 ∧ zrg fb ∧ zrg p ∧ zrg q ∧ zrg be ∧ True := hL9
    refine ⟨fun (h : (1 : Int) = 0) => absurd h (by decide), fun _ => ⟨fun (qc1 : ag = 0) => ⟨fun (qc2 : ag = 0) => ⟨fun _ => ⟨⟨(by omega), (by omega)⟩, ⟨⟨rfl, rfl⟩, trivial⟩, (R_are hS1 hA1 hf (fun _ _ => ⟨fun (h : (1 : Int) = 0) => absurd h (by decide), fun _ => ⟨⟨(by omega), (by omega)⟩, ⟨⟨rfl, rfl⟩, hS1.2.1.1.w.rcv⟩, (R_au hS1.2.1 (by omega) (fun (qg3 : zrg (axG G r)) qm4 => ⟨fun (qc5 : axG G r ≠ 1) => ⟨(Or.inl rfl), (show K (some (zi 0)) M1 from ?g23l1)⟩, fun (qc6 : axG G r = 1) => ⟨⟨(by omega), (by omega)⟩, ⟨⟨rfl, rfl⟩, hS1.2.1.1.w.rcv⟩, (R_va hS1.2.1 (by omega) (fun (qg7 : zrg (vaG G r)) qm8 => ⟨fun (qc9 : ag = 0) => ⟨fun (qc10 : vaG G r ≠ x) => ⟨(Or.inl rfl), (show K (some (zi 0)) M1 from ?g23l2)⟩, fun (qc11 : vaG G r = x) => ⟨⟨(by omega), (by omega)⟩, ⟨⟨rfl, rfl⟩, hS1.2.1.1.w.rcv⟩, (R_str hS1.2.1 (by omega) (by omega) (fun (qg12 : zrg (skG G p q)) qm13 => ⟨fun (qc14 : ag = 0) => ⟨(zrgI (x := be + 1) (by omega)), ⟨fun (qc15 : skG G p q ≠ be + 1) => ⟨(Or.inl rfl), (show K (some (zi 0)) M1 from ?g23l3)⟩, fun (qc16 : skG G p q = be + 1) => ⟨⟨(by omega), (by omega)⟩, ⟨⟨rfl, rfl⟩, hS1.2.1.1.w.rcv⟩, (R_str hS1.2.1 (by omega) (by omega) (fun (qg17 : zrg (skG G q p)) qm18 => ⟨⟨(by omega), (by omega)⟩, ⟨⟨rfl, rfl⟩, hS1.2.1.1.w.rcv⟩, (R_str hS1.2.1 (by omega) (by omega) (fun (qg19 : zrg (skG G p q)) qm20 => ⟨fun (qc21 : skG G q p ≠ skG G p q) => ⟨(Or.inl rfl), (show K (some (zi 0)) M1 from ?g23l4)⟩, fun (qc22 : skG G q p = skG G p q) => ⟨(Or.inr rfl), (show K (some (zi 1)) M1 from ?g23l5)⟩⟩))⟩))⟩⟩⟩, fun (qc23 : ag ≠ 0) => ⟨(zrgI (x := be + 0) (by omega)), zIr (Int.add_zero _) (⟨fun (qc24 : skG G p q ≠ be) => ⟨(Or.inl rfl), (show K (some (zi 0)) M1 from ?g23l6)⟩, fun (qc25 : skG G p q = be) => ⟨⟨(by omega), (by omega)⟩, ⟨⟨rfl, rfl⟩, hS1.2.1.1.w.rcv⟩, (R_str hS1.2.1 (by omega) (by omega) (fun (qg26 : zrg (skG G q p)) qm27 => ⟨⟨(by omega), (by omega)⟩, ⟨⟨rfl, rfl⟩, hS1.2.1.1.w.rcv⟩, (R_str hS1.2.1 (by omega) (by omega) (fun (qg28 : zrg (skG G p q)) qm29 => ⟨fun (qc30 : skG G q p ≠ skG G p q) => ⟨(Or.inl rfl), (show K (some (zi 0)) M1 from ?g23l7)⟩, fun (qc31 : skG G q p = skG G p q) => ⟨(Or.inr rfl), (show K (some (zi 1)) M1 from ?g23l8)⟩⟩))⟩))⟩⟩)⟩⟩))⟩⟩, fun (qc32 : ag ≠ 0) => ⟨fun (qc33 : vaG G r ≠ w0) => ⟨(Or.inl rfl), (show K (some (zi 0)) M1 from ?g23l9)⟩, fun (qc34 : vaG G r = w0) => ⟨⟨(by omega), (by omega)⟩, ⟨⟨rfl, rfl⟩, hS1.2.1.1.w.rcv⟩, (R_str hS1.2.1 (by omega) (by omega) (fun (qg35 : zrg (skG G p q)) qm36 => ⟨fun (qc37 : ag = 0) => ⟨(zrgI (x := be + 1) (by omega)), ⟨fun (qc38 : skG G p q ≠ be + 1) => ⟨(Or.inl rfl), (show K (some (zi 0)) M1 from ?g23l10)⟩, fun (qc39 : skG G p q = be + 1) => ⟨⟨(by omega), (by omega)⟩, ⟨⟨rfl, rfl⟩, hS1.2.1.1.w.rcv⟩, (R_str hS1.2.1 (by omega) (by omega) (fun (qg40 : zrg (skG G q p)) qm41 => ⟨⟨(by omega), (by omega)⟩, ⟨⟨rfl, rfl⟩, hS1.2.1.1.w.rcv⟩, (R_str hS1.2.1 (by omega) (by omega) (fun (qg42 : zrg (skG G p q)) qm43 => ⟨fun (qc44 : skG G q p ≠ skG G p q) => ⟨(Or.inl rfl), (show K (some (zi 0)) M1 from ?g23l11)⟩, fun (qc45 : skG G q p = skG G p q) => ⟨(Or.inr rfl), (show K (some (zi 1)) M1 from ?g23l12)⟩⟩))⟩))⟩⟩⟩, fun (qc46 : ag ≠ 0) => ⟨(zrgI (x := be + 0) (by omega)), zIr (Int.add_zero _) (⟨fun (qc47 : skG G p q ≠ be) => ⟨(Or.inl rfl), (show K (some (zi 0)) M1 from ?g23l13)⟩, fun (qc48 : skG G p q = be) => ⟨⟨(by omega), (by omega)⟩, ⟨⟨rfl, rfl⟩, hS1.2.1.1.w.rcv⟩, (R_str hS1.2.1 (by omega) (by omega) (fun (qg49 : zrg (skG G q p)) qm50 => ⟨⟨(by omega), (by omega)⟩, ⟨⟨rfl, rfl⟩, hS1.2.1.1.w.rcv⟩, (R_str hS1.2.1 (by omega) (by omega) (fun (qg51 : zrg (skG G p q)) qm52 => ⟨fun (qc53 : skG G q p ≠ skG G p q) => ⟨(Or.inl rfl), (show K (some (zi 0)) M1 from ?g23l14)⟩, fun (qc54 : skG G q p = skG G p q) => ⟨(Or.inr rfl), (show K (some (zi 1)) M1 from ?g23l15)⟩⟩))⟩))⟩⟩)⟩⟩))⟩⟩⟩))⟩⟩))⟩⟩))⟩, fun (h : (1 : Int) = 0) => absurd h (by decide)⟩, fun (qc55 : ag ≠ 0) => ⟨(Or.inl rfl), (show K (some (zi 0)) M1 from ?g23l16)⟩⟩, fun (qc56 : ag ≠ 0) => ⟨fun (qc57 : ag = 1) => ⟨fun _ => ⟨⟨(by omega), (by omega)⟩, ⟨⟨rfl, rfl⟩, trivial⟩, (R_are hS1 hA1 hf (fun _ _ => ⟨fun (h : (1 : Int) = 0) => absurd h (by decide), fun _ => ⟨⟨(by omega), (by omega)⟩, ⟨⟨rfl, rfl⟩, hS1.2.1.1.w.rcv⟩, (R_au hS1.2.1 (by omega) (fun (qg58 : zrg (axG G r)) qm59 => ⟨fun (qc60 : axG G r ≠ 1) => ⟨(Or.inl rfl), (show K (some (zi 0)) M1 from ?g23l17)⟩, fun (qc61 : axG G r = 1) => ⟨⟨(by omega), (by omega)⟩, ⟨⟨rfl, rfl⟩, hS1.2.1.1.w.rcv⟩, (R_va hS1.2.1 (by omega) (fun (qg62 : zrg (vaG G r)) qm63 => ⟨fun (qc64 : ag = 0) => ⟨fun (qc65 : vaG G r ≠ x) => ⟨(Or.inl rfl), (show K (some (zi 0)) M1 from ?g23l18)⟩, fun (qc66 : vaG G r = x) => ⟨⟨(by omega), (by omega)⟩, ⟨⟨rfl, rfl⟩, hS1.2.1.1.w.rcv⟩, (R_str hS1.2.1 (by omega) (by omega) (fun (qg67 : zrg (skG G p q)) qm68 => ⟨fun (qc69 : ag = 0) => ⟨(zrgI (x := be + 1) (by omega)), ⟨fun (qc70 : skG G p q ≠ be + 1) => ⟨(Or.inl rfl), (show K (some (zi 0)) M1 from ?g23l19)⟩, fun (qc71 : skG G p q = be + 1) => ⟨⟨(by omega), (by omega)⟩, ⟨⟨rfl, rfl⟩, hS1.2.1.1.w.rcv⟩, (R_str hS1.2.1 (by omega) (by omega) (fun (qg72 : zrg (skG G q p)) qm73 => ⟨⟨(by omega), (by omega)⟩, ⟨⟨rfl, rfl⟩, hS1.2.1.1.w.rcv⟩, (R_str hS1.2.1 (by omega) (by omega) (fun (qg74 : zrg (skG G p q)) qm75 => ⟨fun (qc76 : skG G q p ≠ skG G p q) => ⟨(Or.inl rfl), (show K (some (zi 0)) M1 from ?g23l20)⟩, fun (qc77 : skG G q p = skG G p q) => ⟨(Or.inr rfl), (show K (some (zi 1)) M1 from ?g23l21)⟩⟩))⟩))⟩⟩⟩, fun (qc78 : ag ≠ 0) => ⟨(zrgI (x := be + 0) (by omega)), zIr (Int.add_zero _) (⟨fun (qc79 : skG G p q ≠ be) => ⟨(Or.inl rfl), (show K (some (zi 0)) M1 from ?g23l22)⟩, fun (qc80 : skG G p q = be) => ⟨⟨(by omega), (by omega)⟩, ⟨⟨rfl, rfl⟩, hS1.2.1.1.w.rcv⟩, (R_str hS1.2.1 (by omega) (by omega) (fun (qg81 : zrg (skG G q p)) qm82 => ⟨⟨(by omega), (by omega)⟩, ⟨⟨rfl, rfl⟩, hS1.2.1.1.w.rcv⟩, (R_str hS1.2.1 (by omega) (by omega) (fun (qg83 : zrg (skG G p q)) qm84 => ⟨fun (qc85 : skG G q p ≠ skG G p q) => ⟨(Or.inl rfl), (show K (some (zi 0)) M1 from ?g23l23)⟩, fun (qc86 : skG G q p = skG G p q) => ⟨(Or.inr rfl), (show K (some (zi 1)) M1 from ?g23l24)⟩⟩))⟩))⟩⟩)⟩⟩))⟩⟩, fun (qc87 : ag ≠ 0) => ⟨fun (qc88 : vaG G r ≠ w0) => ⟨(Or.inl rfl), (show K (some (zi 0)) M1 from ?g23l25)⟩, fun (qc89 : vaG G r = w0) => ⟨⟨(by omega), (by omega)⟩, ⟨⟨rfl, rfl⟩, hS1.2.1.1.w.rcv⟩, (R_str hS1.2.1 (by omega) (by omega) (fun (qg90 : zrg (skG G p q)) qm91 => ⟨fun (qc92 : ag = 0) => ⟨(zrgI (x := be + 1) (by omega)), ⟨fun (qc93 : skG G p q ≠ be + 1) => ⟨(Or.inl rfl), (show K (some (zi 0)) M1 from ?g23l26)⟩, fun (qc94 : skG G p q = be + 1) => ⟨⟨(by omega), (by omega)⟩, ⟨⟨rfl, rfl⟩, hS1.2.1.1.w.rcv⟩, (R_str hS1.2.1 (by omega) (by omega) (fun (qg95 : zrg (skG G q p)) qm96 => ⟨⟨(by omega), (by omega)⟩, ⟨⟨rfl, rfl⟩, hS1.2.1.1.w.rcv⟩, (R_str hS1.2.1 (by omega) (by omega) (fun (qg97 : zrg (skG G p q)) qm98 => ⟨fun (qc99 : skG G q p ≠ skG G p q) => ⟨(Or.inl rfl), (show K (some (zi 0)) M1 from ?g23l27)⟩, fun (qc100 : skG G q p = skG G p q) => ⟨(Or.inr rfl), (show K (some (zi 1)) M1 from ?g23l28)⟩⟩))⟩))⟩⟩⟩, fun (qc101 : ag ≠ 0) => ⟨(zrgI (x := be + 0) (by omega)), zIr (Int.add_zero _) (⟨fun (qc102 : skG G p q ≠ be) => ⟨(Or.inl rfl), (show K (some (zi 0)) M1 from ?g23l29)⟩, fun (qc103 : skG G p q = be) => ⟨⟨(by omega), (by omega)⟩, ⟨⟨rfl, rfl⟩, hS1.2.1.1.w.rcv⟩, (R_str hS1.2.1 (by omega) (by omega) (fun (qg104 : zrg (skG G q p)) qm105 => ⟨⟨(by omega), (by omega)⟩, ⟨⟨rfl, rfl⟩, hS1.2.1.1.w.rcv⟩, (R_str hS1.2.1 (by omega) (by omega) (fun (qg106 : zrg (skG G p q)) qm107 => ⟨fun (qc108 : skG G q p ≠ skG G p q) => ⟨(Or.inl rfl), (show K (some (zi 0)) M1 from ?g23l30)⟩, fun (qc109 : skG G q p = skG G p q) => ⟨(Or.inr rfl), (show K (some (zi 1)) M1 from ?g23l31)⟩⟩))⟩))⟩⟩)⟩⟩))⟩⟩⟩))⟩⟩))⟩⟩))⟩, fun (h : (1 : Int) = 0) => absurd h (by decide)⟩, fun (qc110 : ag ≠ 1) => ⟨(Or.inl rfl), (show K (some (zi 0)) M1 from ?g23l32)⟩⟩⟩⟩
    case g23l1 => exfalso; omega
    case g23l2 => exfalso; omega
    case g23l3 => exfalso; omega
    case g23l4 => exfalso; omega
    case g23l5 => exact hK _ _ hS1
    case g23l6 => exfalso; omega
    case g23l7 => exfalso; omega
    case g23l8 => exact hK _ _ hS1
    case g23l9 => exfalso; omega
    case g23l10 => exfalso; omega
    case g23l11 => exfalso; omega
    case g23l12 => exact hK _ _ hS1
    case g23l13 => exfalso; omega
    case g23l14 => exfalso; omega
    case g23l15 => exact hK _ _ hS1
    case g23l16 => exfalso; omega
    case g23l17 => exfalso; omega
    case g23l18 => exfalso; omega
    case g23l19 => exfalso; omega
    case g23l20 => exfalso; omega
    case g23l21 => exact hK _ _ hS1
    case g23l22 => exfalso; omega
    case g23l23 => exfalso; omega
    case g23l24 => exact hK _ _ hS1
    case g23l25 => exfalso; omega
    case g23l26 => exfalso; omega
    case g23l27 => exfalso; omega
    case g23l28 => exact hK _ _ hS1
    case g23l29 => exfalso; omega
    case g23l30 => exfalso; omega
    case g23l31 => exact hK _ _ hS1
    case g23l32 => exfalso; omega
  have e187_1 : ∀ (M1 : ZM) (s : Nat) (f : Int → Int) (ag w0 fb p q be : Int) (k n : Nat), LSt S kk G M1 → AR M1 s (G 4).toNat f → (BYp G r p q ∧ (skG G p q = be)) → (c_audit G r x = 0) → (ag = 1 ∧ zabs (vaG G r - x) ≤ G 0 ∨ ag = 0 ∧ ¬ zabs (vaG G r - x) ≤ G 0) → (vaG G r = w0) → (0 ≤ be ∧ be ≤ 1000000) → (p = Int.tmod (ntF (fiG G r)) 32 ∧ q = 31 - nlF (zor (fiG G r) 1)) → (∀ w, 0 ≤ w → w < G 4 → f w = trG (fAudT G r x (cnc G r)) w) → k ≤ 64 → n ≤ 410 → Φ 187 [some (zo 64), some (zi r), some (zi x), some (zi 1), some (zo s), some (zi ag), some (zi w0), some (zi fb), some (zi p), some (zi q), some (zi be), none, none] [] M1 k n := fun M1 s f ag w0 fb p q be k n hS1 hA1 hby hc hag hw0 hbe hpq hf hk hn => by
    refine zGoR hΦ [193] 400 (fun hL9 _ hM _ _ => ?_)
    obtain ⟨qL1, qL2, qL3, qL4, qL5, qL6, qL7, qL8, qL9, _⟩ : zrg r ∧ zrg x ∧ zrg 1 ∧ zrg ag ∧ zrg w0 ∧ zrg fb ∧ zrg p ∧ zrg q ∧ zrg be ∧ True := hL9
    refine ⟨⟨(by omega), (by omega)⟩, ⟨⟨rfl, rfl⟩, trivial⟩, (W_audit hS1 hkk hr hx (fun p9 q9 M2 hc9 hby9 hS2 hF2 => fun _ _ => (show Φ 193 [some (zo 64), some (zi r), some (zi x), some (zi 1), some (zo s), some (zi ag), some (zi w0), some (zi fb), some (zi p), some (zi q), some (zi be), none, none] [zi (b2i (v_audit G r x))] M2 (k + 3) (n + 18) from ?g24l1)) (fun e => absurd (hc.symm.trans e) (by decide)))⟩
    case g24l1 =>
      have b9 := by_bits hby9 h4.2
      rw [← hpq.1, ← hpq.2] at b9
      obtain ⟨b1, b2⟩ := b9
      subst b1 b2
      have hb0 := hby9
      unfold BYp at hb0
      obtain ⟨a1, a2, a3, a4, a5⟩ := aud_n (x := x) hG hr hby9
      obtain ⟨a6, a7⟩ := aud_k (x := x) hG hr hby9 hS.2.2.2.2.1.2
      have ea : b2i (v_audit G r x) = ag := by
        have e9 : v_audit G r x = decide (zabs (vaG G r - x) ≤ G 0) := rfl
        rw [e9]
        rcases hag with z | z
        · rw [decide_eq_true z.2, z.1]; rfl
        · rw [decide_eq_false z.2, z.1]; rfl
      rw [ea]
      refine e193_1 _ _ _ f _ _ _ _ _ _ _ _ hS2 (by rw [a2]; exact hA1.fr hF2 (by have := hA1.2.1; unfold SCw; omega)) (by rw [a3]; exact hr) ?_ ((ax_v _ r).2 (by rw [a4]; omega)) (by rw [a2]; omega) a7 hbe (fun w w0 w1 => ?_) (by omega) (by omega)
      · rw [a5, a6]
        rcases hag with z | z
        · rw [if_pos z.2, if_pos z.2]; exact Or.inl ⟨z.1, hw0, by rw [hby.2, Int.add_zero]⟩
        · rw [if_neg z.2, if_neg z.2]; exact Or.inr ⟨z.1, rfl, by rw [hby.2]⟩
      · rw [a2] at w1
        rw [a1 w w0 (by omega)]
        exact (hf w w0 w1).symm
  have e115_1 : ∀ i : Int, 0 ≤ i → i ≤ cnc G r → ∀ (M1 : ZM) (s : Nat) (f : Int → Int) (ag w0 fb p q be : Int) (k n : Nat), LSt S kk G M1 → AR M1 s (G 4).toNat f → (BYp G r p q ∧ (skG G p q = be)) → (c_audit G r x = 0) → (ag = 1 ∧ zabs (vaG G r - x) ≤ G 0 ∨ ag = 0 ∧ ¬ zabs (vaG G r - x) ≤ G 0) → (vaG G r = w0) → (0 ≤ be ∧ be ≤ 1000000) → (p = Int.tmod (ntF (fiG G r)) 32 ∧ q = 31 - nlF (zor (fiG G r) 1)) → (∀ w, 0 ≤ w → w < G 4 → f w = trG (fAudT G r x i) w) → (k : Int) ≤ 34 + 9 * i → (n : Int) ≤ 230 + 54 * i → Φ 115 [some (zo 64), some (zi r), some (zi x), some (zi 1), some (zo s), some (zi ag), some (zi w0), some (zi fb), some (zi p), some (zi q), some (zi be), some (zi i), none] [] M1 k n := by
    have hcb := hS.g3 hr
    refine zdown (n := cnc G r) (fun i i0 i1 ih M1 s f ag w0 fb p q be k n hS1 hA1 hby hc hag hw0 hbe hpq hf hk hn => ?_)
    have hwk : i < cnc G r → 0 ≤ wkc G r i ∧ wkc G r i < G 4 := fun z => hS.2.1.wk hr ⟨i0, z⟩
    have hrs : i < cnc G r → -1 ≤ rsG G r i ∧ rsG G r i ≤ 99 := fun z => (hS.2.1.2.2.2.1.2.2.2.2.2.1 r hr.1 hr.2).2.2.2.2.2 i i0 z |>.1
    have hfb : i < cnc G r → 0 ≤ f (wkc G r i) ∧ f (wkc G r i) ≤ 20 := fun z => by
      have h9 := hwk z
      rw [hf _ h9.1 h9.2]
      exact fAudT_b (hG.2.2 r hr.1 hr.2) i i0 i1 _ h9.1 (by omega) ((hS.2.1.2.2.2.1.2.2.2.2.1 _ h9.1 h9.2).2.2.1)
    refine zGoR hΦ [115, 187] 400 (fun hL9 _ hM _ _ => ?_)
    obtain ⟨qL1, qL2, qL3, qL4, qL5, qL6, qL7, qL8, qL9, qL10, _⟩ : zrg r ∧ zrg x ∧ zrg 1 ∧ zrg ag ∧ zrg w0 ∧ zrg fb ∧ zrg p ∧ zrg q ∧ zrg be ∧ zrg i ∧ True := hL9
    refine ⟨⟨(by omega), (by omega)⟩, ⟨⟨rfl, rfl⟩, hS1.2.1.1.w.rcv⟩, (R_cnt hS1.2.1 (by omega) (fun (qg1 : zrg (cnc G r)) qm2 => ⟨fun (qc3 : i ≥ cnc G r) => (show Φ 187 [some (zo 64), some (zi r), some (zi x), some (zi 1), some (zo s), some (zi ag), some (zi w0), some (zi fb), some (zi p), some (zi q), some (zi be), some (zi i), none] [] M1 (k + 2) (n + 12) from ?g25l1), fun (qc4 : i < cnc G r) => ⟨fun (h : (1 : Int) = 0) => absurd h (by decide), fun _ => ⟨⟨(by omega), (by omega)⟩, ⟨⟨rfl, rfl⟩, hS1.2.1.1.w.rcv⟩, (R_tk0 hS1.2.1 (by omega) (by omega) (fun (qg5 : zrg (wkc G r i)) qm6 => ⟨zixO hA1.1.1 hA1.1.2 (i := wkc G r i) (by omega) (by omega), zIr ((hA1.2.2 (wkc G r i) (by omega) (by omega))) (⟨⟨(by omega), (by omega)⟩, ⟨⟨rfl, rfl⟩, hS1.2.1.1.w.rcv⟩, (R_tk1 hS1.2.1 (by omega) (by omega) (fun (qg7 : zrg (rsG G r i)) qm8 => ⟨(zrgI (x := rsG G r i - x) (by omega)), ⟨⟨rfl, zabsL (x := rsG G r i - x) (by omega)⟩, ⟨⟨(by omega), (by omega)⟩, ⟨⟨rfl, rfl⟩, hS1.2.1.1.w.rcv⟩, (R_prop3 hS1.2.1 (fun (qg9 : zrg (G 0)) qm10 => ⟨fun (qc11 : zabs (rsG G r i - x) > G 0) => ⟨(zrgI (x := f (wkc G r i) + (-4)) (by omega)), ⟨⟨⟨rfl, rfl⟩, trivial⟩, (D_capped (fun (qg12 : zrg (cpd (f (wkc G r i) + (-4)))) qm13 => ⟨⟨zixW hA1.1.1 hA1.1.2 (i := wkc G r i) (by omega) (by omega), trivial⟩, ⟨(zrgI (x := i + 1) (by omega)), (zFg hΦ 12 (show Φ 115 [some (zo 64), some (zi r), some (zi x), some (zi 1), some (zo s), some (zi ag), some (zi w0), some (zi fb), some (zi p), some (zi q), some (zi be), some (zi (i + 1)), none] [] (zsI M1 s (wkc G r i).toNat (cpd (f (wkc G r i) + (-4)))) (k + 2 + 3 + 3 + 1) (n + 12 + 18 + 18 + 6) from ?g25l2))⟩⟩))⟩⟩, fun (qc14 : zabs (rsG G r i - x) ≤ G 0) => ⟨(zrgI (x := f (wkc G r i) + 2) (by omega)), ⟨⟨⟨rfl, rfl⟩, trivial⟩, (D_capped (fun (qg15 : zrg (cpd (f (wkc G r i) + 2))) qm16 => ⟨⟨zixW hA1.1.1 hA1.1.2 (i := wkc G r i) (by omega) (by omega), trivial⟩, ⟨(zrgI (x := i + 1) (by omega)), (zFg hΦ 12 (show Φ 115 [some (zo 64), some (zi r), some (zi x), some (zi 1), some (zo s), some (zi ag), some (zi w0), some (zi fb), some (zi p), some (zi q), some (zi be), some (zi (i + 1)), none] [] (zsI M1 s (wkc G r i).toNat (cpd (f (wkc G r i) + 2))) (k + 2 + 3 + 3 + 1) (n + 12 + 18 + 18 + 6) from ?g25l3))⟩⟩))⟩⟩⟩))⟩⟩⟩))⟩)⟩))⟩⟩⟩))⟩
    case g25l1 => exact zFg hΦ 11 (e187_1 _ _ f _ _ _ _ _ _ _ _ hS1 hA1 hby hc hag hw0 hbe hpq (by rw [show cnc G r = i by omega]; exact hf) (by omega) (by omega))
    case g25l2 =>
      refine ih (by omega) _ _ _ _ _ _ _ _ _ _ _ (hS1.si hA1) (hA1.set (hwk (by omega)).1) hby hc hag hw0 hbe hpq (fun w w0 w1 => ?_) (by omega) (by omega)
      have h9 := hwk (by omega)
      rw [audT_s i0 ⟨h9.1, by omega⟩ w w0 (by omega), if_neg (Int.not_le.mpr qc11), ← hf _ h9.1 h9.2]
      unfold aSt
      split
      · rfl
      · exact hf w w0 w1
    case g25l3 =>
      refine ih (by omega) _ _ _ _ _ _ _ _ _ _ _ (hS1.si hA1) (hA1.set (hwk (by omega)).1) hby hc hag hw0 hbe hpq (fun w w0 w1 => ?_) (by omega) (by omega)
      have h9 := hwk (by omega)
      rw [audT_s i0 ⟨h9.1, by omega⟩ w w0 (by omega), if_pos qc14, ← hf _ h9.1 h9.2]
      unfold aSt
      split
      · rfl
      · exact hf w w0 w1
  have e94_1 : ∀ (M1 : ZM) (s : Nat) (ag w0 fb p q : Int) (k n : Nat), LSt S kk G M1 → AR M1 s (G 4).toNat (trG G) → BYp G r p q → (c_audit G r x = 0) → (ag = 1 ∧ zabs (vaG G r - x) ≤ G 0 ∨ ag = 0 ∧ ¬ zabs (vaG G r - x) ≤ G 0) → (vaG G r = w0) → (p = Int.tmod (ntF (fiG G r)) 32 ∧ q = 31 - nlF (zor (fiG G r) 1)) → k ≤ 30 → n ≤ 210 → Φ 94 [some (zo 64), some (zi r), some (zi x), some (zi 1), some (zo s), some (zi ag), some (zi w0), some (zi fb), some (zi p), some (zi q), none, none, none] [] M1 k n := fun M1 s ag w0 fb p q k n hS1 hA1 hby hc hag hw0 hpq hk hn => by
    have hb0 := hby
    unfold BYp at hb0
    have hsk : 0 ≤ skG G p q ∧ skG G p q ≤ 100000 := hS.2.1.2.2.2.1.2.2.2.2.2.2 p q (by omega) (by omega) (by omega) (by omega)
    refine zGoR hΦ [115] 400 (fun hL9 _ hM _ _ => ?_)
    obtain ⟨qL1, qL2, qL3, qL4, qL5, qL6, qL7, qL8, _⟩ : zrg r ∧ zrg x ∧ zrg 1 ∧ zrg ag ∧ zrg w0 ∧ zrg fb ∧ zrg p ∧ zrg q ∧ True := hL9
    refine ⟨fun (h : (1 : Int) = 0) => absurd h (by decide), fun _ => ⟨⟨(by omega), (by omega)⟩, ⟨⟨rfl, rfl⟩, hS1.2.1.1.w.rcv⟩, (R_str hS1.2.1 (by omega) (by omega) (fun (qg1 : zrg (skG G p q)) qm2 => (show Φ 115 [some (zo 64), some (zi r), some (zi x), some (zi 1), some (zo s), some (zi ag), some (zi w0), some (zi fb), some (zi p), some (zi q), some (zi (skG G p q)), some (zi 0), none] [] M1 (k + 2) (n + 12) from ?g26l1)))⟩⟩
    case g26l1 => exact e115_1 0 (by omega) (hS.g3 hr).1 _ _ (trG G) _ _ _ _ _ _ _ _ hS1 hA1 ⟨hby, rfl⟩ hc hag hw0 (by omega) hpq (fun w _ _ => rfl) (by omega) (by omega)
  have e57_1 : ∀ (M1 : ZM) (s : Nat) (ag : Int) (k n : Nat), LSt S kk G M1 → AR M1 s (G 4).toNat (trG G) → (c_audit G r x = 0) → (ag = 1 ∧ zabs (vaG G r - x) ≤ G 0 ∨ ag = 0 ∧ ¬ zabs (vaG G r - x) ≤ G 0) → k ≤ 27 → n ≤ 190 → Φ 57 [some (zo 64), some (zi r), some (zi x), some (zi 1), some (zo s), some (zi ag), none, none, none, none, none, none, none] [] M1 k n := fun M1 s ag k n hS1 hA1 hc hag hk hn => by
    have hz := zr_fi hS hr
    refine zGoR hΦ [94] 400 (fun hL9 _ hM _ _ => ?_)
    obtain ⟨qL1, qL2, qL3, qL4, _⟩ : zrg r ∧ zrg x ∧ zrg 1 ∧ zrg ag ∧ True := hL9
    refine ⟨⟨(by omega), (by omega)⟩, ⟨⟨rfl, rfl⟩, hS1.2.1.1.w.rcv⟩, (R_va hS1.2.1 (by omega) (fun (qg1 : zrg (vaG G r)) qm2 => ⟨⟨(by omega), (by omega)⟩, ⟨⟨rfl, rfl⟩, hS1.2.1.1.w.rcv⟩, (R_fin hS1.2.1 (by omega) (fun (qg3 : zrg (fiG G r)) qm4 => ⟨⟨⟨rfl, rfl⟩, trivial⟩, (R_nt (hS1.fi hr).1 (fun (qn : zrg (ntF (fiG G r))) _ => ⟨(by decide), ⟨⟨⟨rfl, rfl⟩, trivial⟩, (R_nl hz.1 (fun (qn2 : zrg (nlF (zor (fiG G r) 1))) _ => ⟨(zrgI (x := 31 - (nlF (zor (fiG G r) 1))) (by omega)), (show Φ 94 [some (zo 64), some (zi r), some (zi x), some (zi 1), some (zo s), some (zi ag), some (zi (vaG G r)), some (zi (fiG G r)), some (zi (Int.tmod (ntF (fiG G r)) 32)), some (zi (31 - (nlF (zor (fiG G r) 1)))), none, none, none] [] M1 (k + 2 + 1) (n + 12 + 6) from ?g27l1)⟩))⟩⟩))⟩))⟩))⟩
    case g27l1 =>
      have h2 : stG G r = 2 := by
        have z := hc
        unfold c_audit at z
        rw [if_pos (by omega), if_pos hx] at z
        split at z
        · next y => exact y.1
        · exact absurd z (by decide)
      obtain ⟨p, q, e⟩ := hS.2.2.2.1.by hr.1 hr.2 h2
      have b9 := by_bits e h4.2
      exact e94_1 _ _ _ _ _ _ _ _ _ hS1 hA1 (by rw [b9.1, b9.2]; exact e) hc hag rfl ⟨rfl, rfl⟩ (by omega) (by omega)
  have e25_1 : ∀ (k n : Nat), (c_audit G r x = 0) → k ≤ 4 → n ≤ 24 → Φ 25 [some (zo 64), some (zi r), some (zi x), some (zi 1), none, none, none, none, none, none, none, none, none] [] M k n := fun k n hc hk hn => by
    refine zGoR hΦ [57] 400 (fun hL9 _ hM _ _ => ?_)
    obtain ⟨qL1, qL2, qL3, _⟩ : zrg r ∧ zrg x ∧ zrg 1 ∧ True := hL9
    refine ⟨⟨(by omega), (by omega)⟩, ⟨⟨rfl, rfl⟩, trivial⟩, (R_trusts hS (fun M1 hS1 hF1 hN1 hA1 => fun _ _ => ⟨⟨(by omega), (by omega)⟩, ⟨⟨rfl, rfl⟩, hS1.2.1.1.w.rcv⟩, (R_va hS1.2.1 (by omega) (fun (qg1 : zrg (vaG G r)) qm2 => ⟨(zrgI (x := vaG G r - x) (by omega)), ⟨⟨rfl, zabsL (x := vaG G r - x) (by omega)⟩, ⟨⟨(by omega), (by omega)⟩, ⟨⟨rfl, rfl⟩, hS1.2.1.1.w.rcv⟩, (R_prop3 hS1.2.1 (fun (qg3 : zrg (G 0)) qm4 => ⟨fun (qc5 : zabs (vaG G r - x) > G 0) => (show Φ 57 [some (zo 64), some (zi r), some (zi x), some (zi 1), some (zo (zN M)), some (zi 0), none, none, none, none, none, none, none] [] M1 (k + 20 + 2 + 1) (n + 120 + 12 + 6) from ?g28l1), fun (qc6 : zabs (vaG G r - x) ≤ G 0) => (show Φ 57 [some (zo 64), some (zi r), some (zi x), some (zi 1), some (zo (zN M)), some (zi 1), none, none, none, none, none, none, none] [] M1 (k + 20 + 2 + 1) (n + 120 + 12 + 6) from ?g28l2)⟩))⟩⟩⟩))⟩))⟩
    case g28l1 => exact e57_1 _ _ _ _ _ hS1 hA1 hc (Or.inr ⟨rfl, Int.not_le.mpr qc5⟩) (by omega) (by omega)
    case g28l2 => exact e57_1 _ _ _ _ _ hS1 hA1 hc (Or.inl ⟨rfl, qc6⟩) (by omega) (by omega)
  have e193_0 : ∀ (M1 : ZM) (s : Nat) (f : Int → Int) (ag w0 fb p q be : Int) (k n : Nat), LSt S kk G M1 → AR M1 s (G 4).toNat f → (∀ w, 0 ≤ w → w < G 4 → trG G w = f w) → k ≤ 70 → n ≤ 440 → Φ 193 [some (zo 64), some (zi r), some (zi x), some (zi 0), some (zo s), some (zi ag), some (zi w0), some (zi fb), some (zi p), some (zi q), some (zi be), none, none] [zi (-9)] M1 k n := fun M1 s f ag w0 fb p q be k n hS1 hA1 hf hk hn => by
    refine zGoR hΦ [] 400 (fun hL9 _ hM _ _ => ?_)
    obtain ⟨qL1, qL2, qL3, qL4, qL5, qL6, qL7, qL8, qL9, _⟩ : zrg r ∧ zrg x ∧ zrg 0 ∧ zrg ag ∧ zrg w0 ∧ zrg fb ∧ zrg p ∧ zrg q ∧ zrg be ∧ True := hL9
    refine ⟨fun _ => ⟨fun _ => ⟨fun (h : (0 : Int) ≠ 0) => absurd h (by decide), fun _ => ⟨⟨(by omega), (by omega)⟩, ⟨⟨rfl, rfl⟩, trivial⟩, (R_are hS1 hA1 hf (fun _ _ => ⟨(Or.inr rfl), (show K (some (zi 1)) M1 from ?g29l1)⟩))⟩⟩, fun (h : (-9 : Int) ≠ -9) => absurd h (by decide)⟩, fun (h : (0 : Int) ≠ 0) => absurd h (by decide)⟩
    case g29l1 => exact hK _ _ (hS1.up (by omega) hkk)
  have e187_0 : ∀ (M1 : ZM) (s : Nat) (f : Int → Int) (ag w0 fb p q be : Int) (k n : Nat), LSt S kk G M1 → AR M1 s (G 4).toNat f → (c_audit G r x = 3) → (∀ w, 0 ≤ w → w < G 4 → trG G w = f w) → k ≤ 64 → n ≤ 410 → Φ 187 [some (zo 64), some (zi r), some (zi x), some (zi 0), some (zo s), some (zi ag), some (zi w0), some (zi fb), some (zi p), some (zi q), some (zi be), none, none] [] M1 k n := fun M1 s f ag w0 fb p q be k n hS1 hA1 hc hf hk hn => by
    refine zGoR hΦ [193] 400 (fun hL9 _ hM _ _ => ?_)
    obtain ⟨qL1, qL2, qL3, qL4, qL5, qL6, qL7, qL8, qL9, _⟩ : zrg r ∧ zrg x ∧ zrg 0 ∧ zrg ag ∧ zrg w0 ∧ zrg fb ∧ zrg p ∧ zrg q ∧ zrg be ∧ True := hL9
    refine ⟨⟨(by omega), (by omega)⟩, ⟨⟨rfl, rfl⟩, trivial⟩, (W_audit hS1 hkk hr hx (fun p9 q9 M2 hc9 _ _ _ => absurd (hc.symm.trans hc9) (by decide)) (fun _ => fun _ _ => (show Φ 193 [some (zo 64), some (zi r), some (zi x), some (zi 0), some (zo s), some (zi ag), some (zi w0), some (zi fb), some (zi p), some (zi q), some (zi be), none, none] [zi (-9)] M1 (k + 3) (n + 18) from ?g30l1)))⟩
    case g30l1 => exact e193_0 _ _ f _ _ _ _ _ _ _ _ hS1 hA1 hf (by omega) (by omega)
  have e115_0 : ∀ i : Int, 0 ≤ i → i ≤ cnc G r → ∀ (M1 : ZM) (s : Nat) (f : Int → Int) (ag w0 fb p q be : Int) (k n : Nat), LSt S kk G M1 → AR M1 s (G 4).toNat f → (c_audit G r x = 3) → (∀ w, 0 ≤ w → w < G 4 → f w = trG G w) → (k : Int) ≤ 34 + 9 * i → (n : Int) ≤ 230 + 54 * i → Φ 115 [some (zo 64), some (zi r), some (zi x), some (zi 0), some (zo s), some (zi ag), some (zi w0), some (zi fb), some (zi p), some (zi q), some (zi be), some (zi i), none] [] M1 k n := by
    have hcb := hS.g3 hr
    refine zdown (n := cnc G r) (fun i i0 i1 ih M1 s f ag w0 fb p q be k n hS1 hA1 hc hf hk hn => ?_)
    refine zGoR hΦ [115, 187] 400 (fun hL9 _ hM _ _ => ?_)
    obtain ⟨qL1, qL2, qL3, qL4, qL5, qL6, qL7, qL8, qL9, qL10, _⟩ : zrg r ∧ zrg x ∧ zrg 0 ∧ zrg ag ∧ zrg w0 ∧ zrg fb ∧ zrg p ∧ zrg q ∧ zrg be ∧ zrg i ∧ True := hL9
    refine ⟨⟨(by omega), (by omega)⟩, ⟨⟨rfl, rfl⟩, hS1.2.1.1.w.rcv⟩, (R_cnt hS1.2.1 (by omega) (fun (qg1 : zrg (cnc G r)) qm2 => ⟨fun (qc3 : i ≥ cnc G r) => (show Φ 187 [some (zo 64), some (zi r), some (zi x), some (zi 0), some (zo s), some (zi ag), some (zi w0), some (zi fb), some (zi p), some (zi q), some (zi be), some (zi i), none] [] M1 (k + 2) (n + 12) from ?g31l1), fun (qc4 : i < cnc G r) => ⟨fun _ => (show Φ 187 [some (zo 64), some (zi r), some (zi x), some (zi 0), some (zo s), some (zi ag), some (zi w0), some (zi fb), some (zi p), some (zi q), some (zi be), some (zi i), none] [] M1 (k + 2) (n + 12) from ?g31l2), fun (h : (0 : Int) ≠ 0) => absurd h (by decide)⟩⟩))⟩
    case g31l1 => exact zFg hΦ 11 (e187_0 _ _ f _ _ _ _ _ _ _ _ hS1 hA1 hc (fun w w0 w1 => (hf w w0 w1).symm) (by omega) (by omega))
    case g31l2 => exact zFg hΦ 11 (e187_0 _ _ f _ _ _ _ _ _ _ _ hS1 hA1 hc (fun w w0 w1 => (hf w w0 w1).symm) (by omega) (by omega))
  have e94_0 : ∀ (M1 : ZM) (s : Nat) (ag w0 fb p q : Int) (k n : Nat), LSt S kk G M1 → AR M1 s (G 4).toNat (trG G) → (c_audit G r x = 3) → k ≤ 30 → n ≤ 210 → Φ 94 [some (zo 64), some (zi r), some (zi x), some (zi 0), some (zo s), some (zi ag), some (zi w0), some (zi fb), some (zi p), some (zi q), none, none, none] [] M1 k n := fun M1 s ag w0 fb p q k n hS1 hA1 hc hk hn => by
    refine zGoR hΦ [115] 400 (fun hL9 _ hM _ _ => ?_)
    obtain ⟨qL1, qL2, qL3, qL4, qL5, qL6, qL7, qL8, _⟩ : zrg r ∧ zrg x ∧ zrg 0 ∧ zrg ag ∧ zrg w0 ∧ zrg fb ∧ zrg p ∧ zrg q ∧ True := hL9
    refine ⟨fun _ => (show Φ 115 [some (zo 64), some (zi r), some (zi x), some (zi 0), some (zo s), some (zi ag), some (zi w0), some (zi fb), some (zi p), some (zi q), some (zi 0), some (zi 0), none] [] M1 (k) (n) from ?g32l1), fun (h : (0 : Int) ≠ 0) => absurd h (by decide)⟩
    case g32l1 => exact e115_0 0 (by omega) (hS.g3 hr).1 _ _ (trG G) _ _ _ _ _ _ _ _ hS1 hA1 hc (fun w _ _ => rfl) (by omega) (by omega)
  have e57_0 : ∀ (M1 : ZM) (s : Nat) (ag : Int) (k n : Nat), LSt S kk G M1 → AR M1 s (G 4).toNat (trG G) → (c_audit G r x = 3) → k ≤ 27 → n ≤ 190 → Φ 57 [some (zo 64), some (zi r), some (zi x), some (zi 0), some (zo s), some (zi ag), none, none, none, none, none, none, none] [] M1 k n := fun M1 s ag k n hS1 hA1 hc hk hn => by
    have hz := zr_fi hS hr
    refine zGoR hΦ [94] 400 (fun hL9 _ hM _ _ => ?_)
    obtain ⟨qL1, qL2, qL3, qL4, _⟩ : zrg r ∧ zrg x ∧ zrg 0 ∧ zrg ag ∧ True := hL9
    refine ⟨⟨(by omega), (by omega)⟩, ⟨⟨rfl, rfl⟩, hS1.2.1.1.w.rcv⟩, (R_va hS1.2.1 (by omega) (fun (qg1 : zrg (vaG G r)) qm2 => ⟨⟨(by omega), (by omega)⟩, ⟨⟨rfl, rfl⟩, hS1.2.1.1.w.rcv⟩, (R_fin hS1.2.1 (by omega) (fun (qg3 : zrg (fiG G r)) qm4 => ⟨⟨⟨rfl, rfl⟩, trivial⟩, (R_nt (hS1.fi hr).1 (fun (qn : zrg (ntF (fiG G r))) _ => ⟨(by decide), ⟨⟨⟨rfl, rfl⟩, trivial⟩, (R_nl hz.1 (fun (qn2 : zrg (nlF (zor (fiG G r) 1))) _ => ⟨(zrgI (x := 31 - (nlF (zor (fiG G r) 1))) (by omega)), (show Φ 94 [some (zo 64), some (zi r), some (zi x), some (zi 0), some (zo s), some (zi ag), some (zi (vaG G r)), some (zi (fiG G r)), some (zi (Int.tmod (ntF (fiG G r)) 32)), some (zi (31 - (nlF (zor (fiG G r) 1)))), none, none, none] [] M1 (k + 2 + 1) (n + 12 + 6) from ?g33l1)⟩))⟩⟩))⟩))⟩))⟩
    case g33l1 =>
      exact e94_0 _ _ _ _ _ _ _ _ _ hS1 hA1 hc (by omega) (by omega)
  have e25_0 : ∀ (k n : Nat), (c_audit G r x = 3) → k ≤ 4 → n ≤ 24 → Φ 25 [some (zo 64), some (zi r), some (zi x), some (zi 0), none, none, none, none, none, none, none, none, none] [] M k n := fun k n hc hk hn => by
    refine zGoR hΦ [57] 400 (fun hL9 _ hM _ _ => ?_)
    obtain ⟨qL1, qL2, qL3, _⟩ : zrg r ∧ zrg x ∧ zrg 0 ∧ True := hL9
    refine ⟨⟨(by omega), (by omega)⟩, ⟨⟨rfl, rfl⟩, trivial⟩, (R_trusts hS (fun M1 hS1 hF1 hN1 hA1 => fun _ _ => ⟨⟨(by omega), (by omega)⟩, ⟨⟨rfl, rfl⟩, hS1.2.1.1.w.rcv⟩, (R_va hS1.2.1 (by omega) (fun (qg1 : zrg (vaG G r)) qm2 => ⟨(zrgI (x := vaG G r - x) (by omega)), ⟨⟨rfl, zabsL (x := vaG G r - x) (by omega)⟩, ⟨⟨(by omega), (by omega)⟩, ⟨⟨rfl, rfl⟩, hS1.2.1.1.w.rcv⟩, (R_prop3 hS1.2.1 (fun (qg3 : zrg (G 0)) qm4 => ⟨fun (qc5 : zabs (vaG G r - x) > G 0) => (show Φ 57 [some (zo 64), some (zi r), some (zi x), some (zi 0), some (zo (zN M)), some (zi 0), none, none, none, none, none, none, none] [] M1 (k + 20 + 2 + 1) (n + 120 + 12 + 6) from ?g34l1), fun (qc6 : zabs (vaG G r - x) ≤ G 0) => (show Φ 57 [some (zo 64), some (zi r), some (zi x), some (zi 0), some (zo (zN M)), some (zi 1), none, none, none, none, none, none, none] [] M1 (k + 20 + 2 + 1) (n + 120 + 12 + 6) from ?g34l2)⟩))⟩⟩⟩))⟩))⟩
    case g34l1 => exact e57_0 _ _ _ _ _ hS1 hA1 hc (by omega) (by omega)
    case g34l2 => exact e57_0 _ _ _ _ _ hS1 hA1 hc (by omega) (by omega)
  refine zGoR hΦ [25] 400 (fun hL9 _ hM _ _ => ?_)
  obtain ⟨qL1, qL2, _⟩ : zrg r ∧ zrg x ∧ True := hL9
  refine ⟨⟨(by decide), (by decide)⟩, ⟨⟨rfl, rfl⟩, hS.2.1.1.w.rcv⟩, (R_st hS.2.1 (by omega) (fun (qg1 : zrg (stG G r)) qm2 => ⟨fun (qc3 : stG G r ≠ 2) => (show Φ 25 [some (zo 64), some (zi r), some (zi x), some (zi 0), none, none, none, none, none, none, none, none, none] [] M (0 + 2) (0 + 12) from ?g35l1), fun (qc4 : stG G r = 2) => ⟨⟨(by decide), (by decide)⟩, ⟨⟨rfl, rfl⟩, hS.2.1.1.w.rcv⟩, (R_au hS.2.1 (by omega) (fun (qg5 : zrg (axG G r)) qm6 => ⟨fun (qc7 : axG G r ≠ 0) => (show Φ 25 [some (zo 64), some (zi r), some (zi x), some (zi 0), none, none, none, none, none, none, none, none, none] [] M (0 + 2 + 2) (0 + 12 + 12) from ?g35l2), fun (qc8 : axG G r = 0) => (show Φ 25 [some (zo 64), some (zi r), some (zi x), some (zi 1), none, none, none, none, none, none, none, none, none] [] M (0 + 2 + 2) (0 + 12 + 12) from ?g35l3)⟩))⟩⟩))⟩
  case g35l1 =>
    refine e25_0 _ _ ?_ (by omega) (by omega)
    unfold c_audit
    rw [if_pos (by omega), if_pos hx, if_neg]
    rintro ⟨z1, z2⟩
    have z3 : stG G r = 2 := z1
    have z4 : auG G r = -1 := z2
    omega
  case g35l2 =>
    refine e25_0 _ _ ?_ (by omega) (by omega)
    unfold c_audit
    rw [if_pos (by omega), if_pos hx, if_neg]
    rintro ⟨z1, z2⟩
    have z3 : stG G r = 2 := z1
    have z4 : auG G r = -1 := z2
    omega
  case g35l3 =>
    refine e25_1 _ _ ?_ (by omega) (by omega)
    unfold c_audit
    rw [if_pos (by omega), if_pos hx, if_pos]
    exact ⟨by assumption, show auG G r = -1 by omega⟩

theorem M_L_audits {l : Launch} (hl : l.stackTraces = false) : zMet l yL_audits (Cond.code yL_audits cL_audits 13 (Option.some Jvm.ClassFile.FieldType.boolean) :: zG) rm_L_audits 110 720 T_L_audits := met_L_audits hl (M_X8_row hl) (M_L_trusts hl) (M_X8_property hl) (M_X8_finishers hl) (M_J6_numberOfTrailingZeros_0f7a4 hl) (M_J6_numberOfLeadingZeros_0f7a4 hl) (M_X8_strikes hl) (M_X8_taking hl) (M_L_capped hl) (M_L_audited hl) (M_L_are hl) bd_L_audits

