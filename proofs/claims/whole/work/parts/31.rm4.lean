/-! the reference: a result delivered -/

def fDel1 (G : Gm) (w r x : Int) : Gm := gU (gU G (132 + 16 * r + (7 + 3 * fTakingOf G w r + 1)) x) (6 + 9 * w + 5) ((G (6 + 9 * w + 5).toNat) + 1)
def fDel2 (g : Gm) (r : Int) : Gm := if (g (132 + 16 * r + 1).toNat) = 0 ∧ fHave g r 2 = true then fCmp g r else if (g (132 + 16 * r + 1).toNat) = 1 ∧ fHave g r 3 = true then fDec g r else g
def fDel (G : Gm) (w r x : Int) : Gm := fDel2 (fDel1 G w r x) r
theorem RI.u {g : Gm} {r i v : Int} (h : RI g r) (h1 : (0 ≤ i ∧ i < 132) ∨ ∃ k, 0 ≤ k ∧ k < 3 ∧ i = 132 + 16 * r + (7 + 3 * k + 1)) : RI (gU g i v) r := by
  obtain ⟨hr, hm, hk⟩ := h
  have e6 : gU g i v (132 + 16 * r + 6).toNat = (g (132 + 16 * r + 6).toNat) := gU_n _ (by rcases h1 with q | ⟨k, q⟩ <;> omega)
  refine ⟨hr, by rw [e6]; exact hm, fun k k0 k1 => ?_⟩
  rw [e6] at k1
  rw [gU_n _ (by rcases h1 with q | ⟨l, q⟩ <;> omega)]
  exact hk k k0 k1
theorem DB.w1 {g : Gm} {r n k x : Int} (h : DB g r n) (hn : n ≤ 3) (hk : 0 ≤ k ∧ k < 3) (hx : 0 ≤ x ∧ x ≤ 99) : DB (gU g (132 + 16 * r + (7 + 3 * k + 1)) x) r n := by
  obtain ⟨hr, hs, ht, hq, hd⟩ := h
  refine ⟨hr, by rw [gU_n _ (by omega)]; exact hs, by rw [gU_n _ (by omega)]; exact ht, fun l l0 l1 => ?_, fun l m l0 l1 l2 => ?_⟩
  · obtain ⟨b1, b2, b3⟩ := hq l l0 l1
    have ew : gU g (132 + 16 * r + (7 + 3 * k + 1)) x (132 + 16 * r + (7 + 3 * l + 0)).toNat = (g (132 + 16 * r + (7 + 3 * l + 0)).toNat) := gU_n _ (by omega)
    rw [ew]
    refine ⟨b1, ?_, ?_⟩
    · by_cases e : l = k
      · subst e; rw [gU_s]; omega
      · rw [gU_n _ (by omega)]; exact b2
    · unfold WBd at *
      rw [gU_n _ (by omega), gU_n _ (by omega), gU_n _ (by omega)]
      exact b3
  · rw [gU_n _ (by omega), gU_n _ (by omega)]
    exact hd l m l0 l1 l2
theorem DB.w2 {g : Gm} {r n w v : Int} (h : DB g r n) (hn : n ≤ 3) (hw : 0 ≤ w ∧ w < 6) : DB (gU g (6 + 9 * w + 5) v) r n := by
  obtain ⟨hr, hs, ht, hq, hd⟩ := h
  refine ⟨hr, by rw [gU_n _ (by omega)]; exact hs, by rw [gU_n _ (by omega)]; exact ht, fun l l0 l1 => ?_, fun l m l0 l1 l2 => ?_⟩
  · obtain ⟨b1, b2, b3⟩ := hq l l0 l1
    have ew : gU g (6 + 9 * w + 5) v (132 + 16 * r + (7 + 3 * l + 0)).toNat = (g (132 + 16 * r + (7 + 3 * l + 0)).toNat) := gU_n _ (by omega)
    rw [ew]
    refine ⟨b1, by rw [gU_n _ (by omega)]; exact b2, ?_⟩
    unfold WBd at *
    rw [gU_n _ (by omega), gU_n _ (by omega), gU_n _ (by omega)]
    exact b3
  · rw [gU_n _ (by omega), gU_n _ (by omega)]
    exact hd l m l0 l1 l2
theorem DB.of {G : Gm} {r n : Int} (hG : GI G) (hV : GV G) (hX : GX G) (hr : 0 ≤ r ∧ r < G 5) (hn : n ≤ (G (132 + 16 * r + 6).toNat)) : DB G r n := by
  have hR := hG.2.2 r hr.1 hr.2
  have hv := hV.2.2.2.2.2.1 r hr.1 hr.2
  have hx := hX.1 r hr.1 hr.2
  refine ⟨hR.1, hv.1, hV.1, fun k k0 k1 => ?_, fun k l k0 k1 l1 => hx.2.1 k l k0 k1 (by omega)⟩
  have h4 := (hx.1 k k0 (by omega)).1
  have hb := hR.2.2 k k0 (by omega)
  have hw := hV.2.2.2.2.1 _ hb.1 h4
  exact ⟨hb, (hv.2.2.2.2.2 k k0 (by omega)).1, hw.2.2.1, hw.2.2.2.2.2.1, hw.2.2.2.2.2.2.2⟩
theorem fHave_c {g : Gm} {r n : Int} (hm : 0 ≤ (g (132 + 16 * r + 6).toNat)) (h : fHave g r n = true) : (g (132 + 16 * r + 6).toNat) = n ∧ ∀ k : Int, 0 ≤ k → k < n → (g (132 + 16 * r + (7 + 3 * k + 1)).toNat) ≠ -1 := by
  have key : ∀ i, 0 ≤ i → i ≤ (g (132 + 16 * r + 6).toNat) → foldI (fun k b => b && decide ((g (132 + 16 * r + (7 + 3 * k + 1)).toNat) ≠ -1)) (decide ((g (132 + 16 * r + 6).toNat) = n)) i = true → (g (132 + 16 * r + 6).toNat) = n ∧ ∀ k : Int, 0 ≤ k → k < i → (g (132 + 16 * r + (7 + 3 * k + 1)).toNat) ≠ -1 := by
    refine zup (fun i => foldI (fun k b => b && decide ((g (132 + 16 * r + (7 + 3 * k + 1)).toNat) ≠ -1)) (decide ((g (132 + 16 * r + 6).toNat) = n)) i = true → (g (132 + 16 * r + 6).toNat) = n ∧ ∀ k : Int, 0 ≤ k → k < i → (g (132 + 16 * r + (7 + 3 * k + 1)).toNat) ≠ -1) (fun q => ⟨of_decide_eq_true q, fun k k0 k1 => by omega⟩) (fun i h0 h1 ih q => ?_)
    rw [foldI_s h0, Bool.and_eq_true, decide_eq_true_eq] at q
    obtain ⟨e1, e2⟩ := ih q.1
    refine ⟨e1, fun k k0 k1 => ?_⟩
    by_cases e : k = i
    · subst e; exact q.2
    · exact e2 k k0 (by omega)
  obtain ⟨e1, e2⟩ := key _ hm (Int.le_refl _) h
  exact ⟨e1, fun k k0 k1 => e2 k k0 (by omega)⟩

def T_X9_doDeliver : ZTf := fun av M K KX => ∃ (w r x : Int), av = [zo 670, zi w, zi r, zi x] ∧ (LY M) ∧ (MA M 671) ∧ (0 ≤ w ∧ w < (zI M 671) 4) ∧ (0 ≤ r ∧ r < (zI M 671) 5) ∧ (0 ≤ x ∧ x ≤ 99) ∧ (fTakingOf (zI M 671) w r ≠ -1) ∧ (GI (zI M 671)) ∧ (GV (zI M 671)) ∧ (GX (zI M 671)) ∧  K (some (zi (((fDel (zI M 671) w r x) (132 + 16 * r + 1).toNat)))) (zsA M 671 (fDel (zI M 671) w r x))
set_option maxRecDepth 100000 in
set_option maxHeartbeats 4000000 in
theorem bd_X9_doDeliver : zBd (cd_X9_doDeliver T_X9_takingOf T_X9_put T_X9_add T_X9_ofRow T_X9_haveAll T_X9_compares T_X9_decides) 5 0 0 T_X9_doDeliver := by
  rintro av M K KX hA0 hM ⟨w, r, x, rfl, hY, hA, hp0, hp1, hp2, hp3, hG, hV9, hX9, hK⟩
  obtain ⟨G, hG0⟩ : ∃ G, zI M 671 = G := ⟨_, rfl⟩
  rw [hG0] at hp0 hp1 hp3 hG hV9 hX9 hK
  obtain ⟨k, h_k⟩ : ∃ x, fTakingOf G w r = x := ⟨_, rfl⟩
  obtain ⟨dl, h_dl⟩ : ∃ x, (G (6 + 9 * w + 5).toNat) = x := ⟨_, rfl⟩
  obtain ⟨s, h_s⟩ : ∃ x, (G (132 + 16 * r + 1).toNat) = x := ⟨_, rfl⟩
  obtain ⟨hw5, hr5, hR5⟩ := id hG
  have hRr := hR5 r hp1.1 hp1.2
  obtain ⟨hr, hm, hk⟩ := id hRr
  have hdl := (hV9.2.2.2.2.1 w hp0.1 hp0.2).2.2.2.2.1
  have htk := fTakingOf_r G w r hm.1
  rw [h_k] at htk hp3
  rw [h_dl] at hdl
  have hk0 : 0 ≤ k := by omega
  have hk3 : k < 3 := by omega
  have dDB : ∀ n, n ≤ 3 → fHave (gU (gU G (132 + 16 * r + (7 + 3 * k + 1)) x) (6 + 9 * w + 5) (dl + 1)) r n = true → DB (gU (gU G (132 + 16 * r + (7 + 3 * k + 1)) x) (6 + 9 * w + 5) (dl + 1)) r n := fun n hn h9 => by
    have e6 : gU (gU G (132 + 16 * r + (7 + 3 * k + 1)) x) (6 + 9 * w + 5) (dl + 1) (132 + 16 * r + 6).toNat = (G (132 + 16 * r + 6).toNat) := (gU_n _ (by omega)).trans (gU_n _ (by omega))
    have hc := (fHave_c (by rw [e6]; exact hm.1) h9).1
    rw [e6] at hc
    exact ((DB.of hG hV9 hX9 hp1 (by omega)).w1 hn ⟨hk0, hk3⟩ hp2).w2 hn ⟨hp0.1, by omega⟩
  replace hRr : hidP (RI G r) := hRr
  replace hk : hidP _ := hk
  replace hm : hidP _ := hm
  replace h_k : zEqn (fTakingOf G w r) k := h_k
  replace h_dl : zEqn (G (6 + 9 * w + 5).toNat) dl := h_dl
  replace h_s : zEqn (G (132 + 16 * r + 1).toNat) s := h_s
  refine ⟨rfl, fun Φ hΦ => ?_⟩
  refine zGoR hΦ [8, 30, 56, 80] 400 (fun hL9 _ hM _ _ => ?_)
  obtain ⟨qL1, qL2, qL3, _⟩ : zrg w ∧ zrg r ∧ zrg x ∧ True := hL9
  refine ⟨⟨⟨rfl, rfl⟩, hY.w.rcv⟩, ⟨671, w, r, rfl, hY, hA, (by rw [hG0]; exact hidP_u hRr), fun (qg1 : zrg (fTakingOf (zI M 671) w r)) qm2 => zIr (by rw [hG0]) (zIr h_k ((show Φ 8 [some (zo 670), some (zi w), some (zi r), some (zi x), some (zi k)] [] M (0) (0) from ?g167l1)))⟩⟩
  case g167l1 =>
    refine zGoR hΦ [8, 30, 56, 80] 400 (fun hL9 _ hM _ _ => ?_)
    obtain ⟨qL1, qL2, qL3, qL4, _⟩ : zrg w ∧ zrg r ∧ zrg x ∧ zrg k ∧ True := hL9
    refine ⟨(zrgI (x := 3 * k) (by omega)), ⟨(zrgI (x := 7 + 3 * k) (by omega)), ⟨(zrgI (x := 7 + 3 * k + 1) (by omega)), ⟨⟨⟨rfl, rfl⟩, hY.w.rcv⟩, ⟨rfl, ⟨hY.w, _, hA.1, ⟨(zrgI (x := 16 * r) (by omega)), ⟨(zrgI (x := 132 + 16 * r) (by omega)), ⟨(zrgI (x := 132 + 16 * r + (7 + 3 * k + 1)) (by omega)), ⟨⟨zixW hA.2.1 hA.2.2 (i := 132 + 16 * r + (7 + 3 * k + 1)) (by omega) (by decide), trivial⟩, zMw (zsI_gG hG0 (132 + 16 * r + (7 + 3 * k + 1)) x) (fun g21 hg21 => fun _ _ => ⟨⟨⟨rfl, rfl⟩, hY.w.rcv⟩, ⟨rfl, ⟨hY.w, _, hA.1, ⟨(zrgI (x := 9 * w) (by omega)), ⟨(zrgI (x := 6 + 9 * w) (by omega)), ⟨(zrgI (x := 6 + 9 * w + 5) (by omega)), ⟨⟨rfl, rfl⟩, ⟨zixO hA.2.1 hA.2.2 (i := 6 + 9 * w + 5) (by omega) (by decide), zIr (Eq.trans (zIa _ _ _ _) (Eq.trans (gN hg21 (by omega)) (h_dl))) (⟨(zrgI (x := dl + 1) (by omega)), ⟨⟨zixW hA.2.1 hA.2.2 (i := 6 + 9 * w + 5) (by omega) (by decide), trivial⟩, zMw (zsI_gU M 671 g21 (6 + 9 * w + 5) (dl + 1)) (fun g22 hg22 => fun _ _ => (show Φ 30 [some (zo 670), some (zi w), some (zi r), some (zi x), some (zi k)] [] (zsA M 671 g22) (0) (0) from ?g168l1))⟩⟩)⟩⟩⟩⟩⟩⟩⟩⟩)⟩⟩⟩⟩⟩⟩⟩⟩⟩⟩
    case g168l1 =>
      refine zGoR hΦ [8, 30, 56, 80] 400 (fun hL9 _ hM _ _ => ?_)
      obtain ⟨qL1, qL2, qL3, qL4, _⟩ : zrg w ∧ zrg r ∧ zrg x ∧ zrg k ∧ True := hL9
      refine ⟨⟨⟨rfl, rfl⟩, hY.w.rcv⟩, ⟨rfl, ⟨hY.w, _, hA.1, ⟨(zrgI (x := 16 * r) (by omega)), ⟨(zrgI (x := 132 + 16 * r) (by omega)), ⟨(zrgI (x := 132 + 16 * r + 1) (by omega)), ⟨zixO hA.2.1 hA.2.2 (i := 132 + 16 * r + 1) (by omega) (by decide), zIr (Eq.trans (zIa _ _ _ _) (Eq.trans (gN hg22 (by omega)) (Eq.trans (gN hg21 (by omega)) (h_s)))) (⟨trivial, fun (qg205 : zrg (s)) _ => ⟨fun (qc206 : s ≠ 0) => (show Φ 56 [some (zo 670), some (zi w), some (zi r), some (zi x), some (zi k)] [] (zsA M 671 g22) (0) (0) from ?g169l1), fun (qc207 : s = 0) => ⟨⟨⟨rfl, rfl⟩, hY.w.rcv⟩, ⟨671, r, 2, rfl, hY, hA, (RI_A (by rw [hg22, hg21]; exact ((hidP_u hRr).u (Or.inr ⟨k, hk0, by omega, rfl⟩)).u (Or.inl (by omega)))), fun (qg208 : zrg (b2i (fHave (zI (zsA M 671 g22) 671) r 2))) qm209 => zIr (by rw [zI_A]) (⟨fun h => (have qc210 : (fHave g22 r 2) = false := b2i_e0 h; (show Φ 56 [some (zo 670), some (zi w), some (zi r), some (zi x), some (zi k)] [] (zsA M 671 g22) (0) (0) from ?g169l2)), fun h => (have qc211 : (fHave g22 r 2) = true := b2i_n0 h; ⟨⟨⟨rfl, rfl⟩, hY.w.rcv⟩, ⟨r, rfl, hY, hA, (DB_A (by have h9 : fHave g22 r 2 = true := (by assumption); rw [hg22, hg21] at h9 ⊢; exact dDB 2 (by decide) h9)), fun qg212 qm213 => zMw (zsA_F M 671 g22 (fun q9 => fCmp q9 r)) (fun g43 hg43 => (show Φ 80 [some (zo 670), some (zi w), some (zi r), some (zi x), some (zi k)] [] (zsA M 671 g43) (0) (0) from ?g169l3))⟩⟩)⟩)⟩⟩⟩⟩)⟩⟩⟩⟩⟩⟩⟩
      case g169l1 =>
        refine zGoR hΦ [8, 30, 56, 80] 400 (fun hL9 _ hM _ _ => ?_)
        obtain ⟨qL1, qL2, qL3, qL4, _⟩ : zrg w ∧ zrg r ∧ zrg x ∧ zrg k ∧ True := hL9
        refine ⟨⟨⟨rfl, rfl⟩, hY.w.rcv⟩, ⟨rfl, ⟨hY.w, _, hA.1, ⟨(zrgI (x := 16 * r) (by omega)), ⟨(zrgI (x := 132 + 16 * r) (by omega)), ⟨(zrgI (x := 132 + 16 * r + 1) (by omega)), ⟨zixO hA.2.1 hA.2.2 (i := 132 + 16 * r + 1) (by omega) (by decide), zIr (Eq.trans (zIa _ _ _ _) (Eq.trans (gN hg22 (by omega)) (Eq.trans (gN hg21 (by omega)) (h_s)))) (⟨trivial, fun (qg307 : zrg (s)) _ => ⟨fun (qc308 : s ≠ 1) => (show Φ 80 [some (zo 670), some (zi w), some (zi r), some (zi x), some (zi k)] [] (zsA M 671 g22) (0) (0) from ?g170l1), fun (qc309 : s = 1) => ⟨⟨⟨rfl, rfl⟩, hY.w.rcv⟩, ⟨671, r, 3, rfl, hY, hA, (RI_A (by rw [hg22, hg21]; exact ((hidP_u hRr).u (Or.inr ⟨k, hk0, by omega, rfl⟩)).u (Or.inl (by omega)))), fun (qg310 : zrg (b2i (fHave (zI (zsA M 671 g22) 671) r 3))) qm311 => zIr (by rw [zI_A]) (⟨fun h => (have qc312 : (fHave g22 r 3) = false := b2i_e0 h; (show Φ 80 [some (zo 670), some (zi w), some (zi r), some (zi x), some (zi k)] [] (zsA M 671 g22) (0) (0) from ?g170l2)), fun h => (have qc313 : (fHave g22 r 3) = true := b2i_n0 h; ⟨⟨⟨rfl, rfl⟩, hY.w.rcv⟩, ⟨r, rfl, hY, hA, (DB_A (by have h9 : fHave g22 r 3 = true := (by assumption); rw [hg22, hg21] at h9 ⊢; exact dDB 3 (by decide) h9)), fun qg314 qm315 => zMw (zsA_F M 671 g22 (fun q9 => fDec q9 r)) (fun g63 hg63 => (show Φ 80 [some (zo 670), some (zi w), some (zi r), some (zi x), some (zi k)] [] (zsA M 671 g63) (0) (0) from ?g170l3))⟩⟩)⟩)⟩⟩⟩⟩)⟩⟩⟩⟩⟩⟩⟩
        case g170l1 =>
          refine zGoR hΦ [8, 30, 56, 80] 400 (fun hL9 _ hM _ _ => ?_)
          obtain ⟨qL1, qL2, qL3, qL4, _⟩ : zrg w ∧ zrg r ∧ zrg x ∧ zrg k ∧ True := hL9
          refine ⟨⟨⟨rfl, rfl⟩, hY.w.rcv⟩, ⟨rfl, ⟨hY.w, _, hA.1, ⟨(zrgI (x := 16 * r) (by omega)), ⟨(zrgI (x := 132 + 16 * r) (by omega)), ⟨(zrgI (x := 132 + 16 * r + 1) (by omega)), ⟨zixO hA.2.1 hA.2.2 (i := 132 + 16 * r + 1) (by omega) (by decide), zIr (Eq.trans (zIa _ _ _ _) (Eq.trans (gN hg22 (by omega)) (Eq.trans (gN hg21 (by omega)) (h_s)))) (⟨trivial, fun (qg409 : zrg (s)) _ => ⟨trivial, (show K (some (zi s)) (zsA M 671 g22) from ?g171l1)⟩⟩)⟩⟩⟩⟩⟩⟩⟩
          case g171l1 =>
            subst hg22
            subst hg21
            have e_s := zEq h_s
            subst e_s
            have e_dl := zEq h_dl
            subst e_dl
            have e_k := zEq h_k
            subst e_k
            have es : fDel1 G w r x (132 + 16 * r + 1).toNat = (G (132 + 16 * r + 1).toNat) := (gU_n _ (by omega)).trans (gU_n _ (by omega))
            have hd : fDel G w r x = fDel1 G w r x := (if_neg (fun z => absurd (es.symm.trans z.1) qc206)).trans (if_neg (fun z => absurd (es.symm.trans z.1) qc308))
            refine zKm hK ?_ ?_
            · rw [hd]; first | rfl | exact es
            · rw [hd]; rfl
        case g170l2 =>
          refine zGoR hΦ [8, 30, 56, 80] 400 (fun hL9 _ hM _ _ => ?_)
          obtain ⟨qL1, qL2, qL3, qL4, _⟩ : zrg w ∧ zrg r ∧ zrg x ∧ zrg k ∧ True := hL9
          refine ⟨⟨⟨rfl, rfl⟩, hY.w.rcv⟩, ⟨rfl, ⟨hY.w, _, hA.1, ⟨(zrgI (x := 16 * r) (by omega)), ⟨(zrgI (x := 132 + 16 * r) (by omega)), ⟨(zrgI (x := 132 + 16 * r + 1) (by omega)), ⟨zixO hA.2.1 hA.2.2 (i := 132 + 16 * r + 1) (by omega) (by decide), zIr (Eq.trans (zIa _ _ _ _) (Eq.trans (gN hg22 (by omega)) (Eq.trans (gN hg21 (by omega)) (h_s)))) (⟨trivial, fun (qg413 : zrg (s)) _ => ⟨trivial, (show K (some (zi s)) (zsA M 671 g22) from ?g172l1)⟩⟩)⟩⟩⟩⟩⟩⟩⟩
          case g172l1 =>
            subst hg22
            subst hg21
            have e_s := zEq h_s
            subst e_s
            have e_dl := zEq h_dl
            subst e_dl
            have e_k := zEq h_k
            subst e_k
            have es : fDel1 G w r x (132 + 16 * r + 1).toNat = (G (132 + 16 * r + 1).toNat) := (gU_n _ (by omega)).trans (gU_n _ (by omega))
            have hd : fDel G w r x = fDel1 G w r x := (if_neg (fun z => absurd (es.symm.trans z.1) qc206)).trans (if_neg (fun z => absurd z.2 (by rw [show fHave (fDel1 G w r x) r 3 = false from qc312]; exact Bool.false_ne_true)))
            refine zKm hK ?_ ?_
            · rw [hd]; first | rfl | exact es
            · rw [hd]; rfl
        case g170l3 =>
          refine zGoR hΦ [8, 30, 56, 80] 400 (fun hL9 _ hM _ _ => ?_)
          obtain ⟨qL1, qL2, qL3, qL4, _⟩ : zrg w ∧ zrg r ∧ zrg x ∧ zrg k ∧ True := hL9
          refine ⟨⟨⟨rfl, rfl⟩, hY.w.rcv⟩, ⟨rfl, ⟨hY.w, _, hA.1, ⟨(zrgI (x := 16 * r) (by omega)), ⟨(zrgI (x := 132 + 16 * r) (by omega)), ⟨(zrgI (x := 132 + 16 * r + 1) (by omega)), ⟨zixO hA.2.1 hA.2.2 (i := 132 + 16 * r + 1) (by omega) (by decide), zIr ((zIa _ _ _ _)) (zIv (fun v81 h_v81 => ⟨trivial, fun (qg416 : zrg (v81)) _ => ⟨trivial, (show K (some (zi v81)) (zsA M 671 g63) from ?g173l1)⟩⟩))⟩⟩⟩⟩⟩⟩⟩
          case g173l1 =>
            subst hg63
            subst hg22
            subst hg21
            try (have e_v81 := zEq h_v81; subst e_v81)
            have e_s := zEq h_s
            subst e_s
            have e_dl := zEq h_dl
            subst e_dl
            have e_k := zEq h_k
            subst e_k
            have es : fDel1 G w r x (132 + 16 * r + 1).toNat = (G (132 + 16 * r + 1).toNat) := (gU_n _ (by omega)).trans (gU_n _ (by omega))
            have hd : fDel G w r x = fDec (fDel1 G w r x) r := (if_neg (fun z => absurd (es.symm.trans z.1) qc206)).trans (if_pos ⟨es.trans qc309, qc313⟩)
            refine zKm hK ?_ ?_
            · rw [hd]; first | rfl | exact es
            · rw [hd]; rfl
      case g169l2 =>
        refine zGoR hΦ [8, 30, 56, 80] 400 (fun hL9 _ hM _ _ => ?_)
        obtain ⟨qL1, qL2, qL3, qL4, _⟩ : zrg w ∧ zrg r ∧ zrg x ∧ zrg k ∧ True := hL9
        refine ⟨⟨⟨rfl, rfl⟩, hY.w.rcv⟩, ⟨rfl, ⟨hY.w, _, hA.1, ⟨(zrgI (x := 16 * r) (by omega)), ⟨(zrgI (x := 132 + 16 * r) (by omega)), ⟨(zrgI (x := 132 + 16 * r + 1) (by omega)), ⟨zixO hA.2.1 hA.2.2 (i := 132 + 16 * r + 1) (by omega) (by decide), zIr (Eq.trans (zIa _ _ _ _) (Eq.trans (gN hg22 (by omega)) (Eq.trans (gN hg21 (by omega)) (h_s)))) (⟨trivial, fun (qg311 : zrg (s)) _ => ⟨fun (qc312 : s ≠ 1) => (show Φ 80 [some (zo 670), some (zi w), some (zi r), some (zi x), some (zi k)] [] (zsA M 671 g22) (0) (0) from ?g174l1), fun (qc313 : s = 1) => ⟨⟨⟨rfl, rfl⟩, hY.w.rcv⟩, ⟨671, r, 3, rfl, hY, hA, (RI_A (by rw [hg22, hg21]; exact ((hidP_u hRr).u (Or.inr ⟨k, hk0, by omega, rfl⟩)).u (Or.inl (by omega)))), fun (qg314 : zrg (b2i (fHave (zI (zsA M 671 g22) 671) r 3))) qm315 => zIr (by rw [zI_A]) (⟨fun h => (have qc316 : (fHave g22 r 3) = false := b2i_e0 h; (show Φ 80 [some (zo 670), some (zi w), some (zi r), some (zi x), some (zi k)] [] (zsA M 671 g22) (0) (0) from ?g174l2)), fun h => (have qc317 : (fHave g22 r 3) = true := b2i_n0 h; ⟨⟨⟨rfl, rfl⟩, hY.w.rcv⟩, ⟨r, rfl, hY, hA, (DB_A (by have h9 : fHave g22 r 3 = true := (by assumption); rw [hg22, hg21] at h9 ⊢; exact dDB 3 (by decide) h9)), fun qg318 qm319 => zMw (zsA_F M 671 g22 (fun q9 => fDec q9 r)) (fun g63 hg63 => (show Φ 80 [some (zo 670), some (zi w), some (zi r), some (zi x), some (zi k)] [] (zsA M 671 g63) (0) (0) from ?g174l3))⟩⟩)⟩)⟩⟩⟩⟩)⟩⟩⟩⟩⟩⟩⟩
        case g174l1 =>
          refine zGoR hΦ [8, 30, 56, 80] 400 (fun hL9 _ hM _ _ => ?_)
          obtain ⟨qL1, qL2, qL3, qL4, _⟩ : zrg w ∧ zrg r ∧ zrg x ∧ zrg k ∧ True := hL9
          refine ⟨⟨⟨rfl, rfl⟩, hY.w.rcv⟩, ⟨rfl, ⟨hY.w, _, hA.1, ⟨(zrgI (x := 16 * r) (by omega)), ⟨(zrgI (x := 132 + 16 * r) (by omega)), ⟨(zrgI (x := 132 + 16 * r + 1) (by omega)), ⟨zixO hA.2.1 hA.2.2 (i := 132 + 16 * r + 1) (by omega) (by decide), zIr (Eq.trans (zIa _ _ _ _) (Eq.trans (gN hg22 (by omega)) (Eq.trans (gN hg21 (by omega)) (h_s)))) (⟨trivial, fun (qg413 : zrg (s)) _ => ⟨trivial, (show K (some (zi s)) (zsA M 671 g22) from ?g175l1)⟩⟩)⟩⟩⟩⟩⟩⟩⟩
          case g175l1 =>
            subst hg22
            subst hg21
            try (have e_v81 := zEq h_v81; subst e_v81)
            have e_s := zEq h_s
            subst e_s
            have e_dl := zEq h_dl
            subst e_dl
            have e_k := zEq h_k
            subst e_k
            have es : fDel1 G w r x (132 + 16 * r + 1).toNat = (G (132 + 16 * r + 1).toNat) := (gU_n _ (by omega)).trans (gU_n _ (by omega))
            have hd : fDel G w r x = fDel1 G w r x := (if_neg (fun z => absurd z.2 (by rw [show fHave (fDel1 G w r x) r 2 = false from qc210]; exact Bool.false_ne_true))).trans (if_neg (fun z => absurd (es.symm.trans z.1) qc312))
            refine zKm hK ?_ ?_
            · rw [hd]; first | rfl | exact es
            · rw [hd]; rfl
        case g174l2 =>
          refine zGoR hΦ [8, 30, 56, 80] 400 (fun hL9 _ hM _ _ => ?_)
          obtain ⟨qL1, qL2, qL3, qL4, _⟩ : zrg w ∧ zrg r ∧ zrg x ∧ zrg k ∧ True := hL9
          refine ⟨⟨⟨rfl, rfl⟩, hY.w.rcv⟩, ⟨rfl, ⟨hY.w, _, hA.1, ⟨(zrgI (x := 16 * r) (by omega)), ⟨(zrgI (x := 132 + 16 * r) (by omega)), ⟨(zrgI (x := 132 + 16 * r + 1) (by omega)), ⟨zixO hA.2.1 hA.2.2 (i := 132 + 16 * r + 1) (by omega) (by decide), zIr (Eq.trans (zIa _ _ _ _) (Eq.trans (gN hg22 (by omega)) (Eq.trans (gN hg21 (by omega)) (h_s)))) (⟨trivial, fun (qg417 : zrg (s)) _ => ⟨trivial, (show K (some (zi s)) (zsA M 671 g22) from ?g176l1)⟩⟩)⟩⟩⟩⟩⟩⟩⟩
          case g176l1 =>
            subst hg22
            subst hg21
            try (have e_v81 := zEq h_v81; subst e_v81)
            have e_s := zEq h_s
            subst e_s
            have e_dl := zEq h_dl
            subst e_dl
            have e_k := zEq h_k
            subst e_k
            have es : fDel1 G w r x (132 + 16 * r + 1).toNat = (G (132 + 16 * r + 1).toNat) := (gU_n _ (by omega)).trans (gU_n _ (by omega))
            have hd : fDel G w r x = fDel1 G w r x := (if_neg (fun z => absurd z.2 (by rw [show fHave (fDel1 G w r x) r 2 = false from qc210]; exact Bool.false_ne_true))).trans (if_neg (fun z => absurd z.2 (by rw [show fHave (fDel1 G w r x) r 3 = false from qc316]; exact Bool.false_ne_true)))
            refine zKm hK ?_ ?_
            · rw [hd]; first | rfl | exact es
            · rw [hd]; rfl
        case g174l3 =>
          refine zGoR hΦ [8, 30, 56, 80] 400 (fun hL9 _ hM _ _ => ?_)
          obtain ⟨qL1, qL2, qL3, qL4, _⟩ : zrg w ∧ zrg r ∧ zrg x ∧ zrg k ∧ True := hL9
          refine ⟨⟨⟨rfl, rfl⟩, hY.w.rcv⟩, ⟨rfl, ⟨hY.w, _, hA.1, ⟨(zrgI (x := 16 * r) (by omega)), ⟨(zrgI (x := 132 + 16 * r) (by omega)), ⟨(zrgI (x := 132 + 16 * r + 1) (by omega)), ⟨zixO hA.2.1 hA.2.2 (i := 132 + 16 * r + 1) (by omega) (by decide), zIr ((zIa _ _ _ _)) (zIv (fun v81 h_v81 => ⟨trivial, fun (qg420 : zrg (v81)) _ => ⟨trivial, (show K (some (zi v81)) (zsA M 671 g63) from ?g177l1)⟩⟩))⟩⟩⟩⟩⟩⟩⟩
          case g177l1 =>
            subst hg63
            subst hg22
            subst hg21
            try (have e_v81 := zEq h_v81; subst e_v81)
            have e_s := zEq h_s
            subst e_s
            have e_dl := zEq h_dl
            subst e_dl
            have e_k := zEq h_k
            subst e_k
            have es : fDel1 G w r x (132 + 16 * r + 1).toNat = (G (132 + 16 * r + 1).toNat) := (gU_n _ (by omega)).trans (gU_n _ (by omega))
            have hd : fDel G w r x = fDec (fDel1 G w r x) r := (if_neg (fun z => absurd z.2 (by rw [show fHave (fDel1 G w r x) r 2 = false from qc210]; exact Bool.false_ne_true))).trans (if_pos ⟨es.trans qc313, qc317⟩)
            refine zKm hK ?_ ?_
            · rw [hd]; first | rfl | exact es
            · rw [hd]; rfl
      case g169l3 =>
        refine zGoR hΦ [8, 30, 56, 80] 400 (fun hL9 _ hM _ _ => ?_)
        obtain ⟨qL1, qL2, qL3, qL4, _⟩ : zrg w ∧ zrg r ∧ zrg x ∧ zrg k ∧ True := hL9
        refine ⟨⟨⟨rfl, rfl⟩, hY.w.rcv⟩, ⟨rfl, ⟨hY.w, _, hA.1, ⟨(zrgI (x := 16 * r) (by omega)), ⟨(zrgI (x := 132 + 16 * r) (by omega)), ⟨(zrgI (x := 132 + 16 * r + 1) (by omega)), ⟨zixO hA.2.1 hA.2.2 (i := 132 + 16 * r + 1) (by omega) (by decide), zIr ((zIa _ _ _ _)) (zIv (fun v61 h_v61 => ⟨trivial, fun (qg314 : zrg (v61)) _ => ⟨trivial, (show K (some (zi v61)) (zsA M 671 g43) from ?g178l1)⟩⟩))⟩⟩⟩⟩⟩⟩⟩
        case g178l1 =>
          subst hg43
          subst hg22
          subst hg21
          try (have e_v81 := zEq h_v81; subst e_v81)
          try (have e_v61 := zEq h_v61; subst e_v61)
          have e_s := zEq h_s
          subst e_s
          have e_dl := zEq h_dl
          subst e_dl
          have e_k := zEq h_k
          subst e_k
          have es : fDel1 G w r x (132 + 16 * r + 1).toNat = (G (132 + 16 * r + 1).toNat) := (gU_n _ (by omega)).trans (gU_n _ (by omega))
          have hd : fDel G w r x = fCmp (fDel1 G w r x) r := if_pos ⟨es.trans qc207, qc211⟩
          refine zKm hK ?_ ?_
          · rw [hd]; first | rfl | exact es
          · rw [hd]; rfl
theorem M_X9_doDeliver {l : Launch} (hl : l.stackTraces = false) : zMet l yX9_doDeliver (Cond.code yX9_doDeliver cX9_doDeliver 5 (Option.some Jvm.ClassFile.FieldType.int) :: zG) rm_X9_doDeliver 0 0 T_X9_doDeliver := met_X9_doDeliver hl (M_X9_takingOf hl) (M_X9_put hl) (M_X9_add hl) (M_X9_ofRow hl) (M_X9_haveAll hl) (M_X9_compares hl) (M_X9_decides hl) bd_X9_doDeliver
