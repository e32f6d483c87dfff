/-! the law: holds -/
theorem bc_two : ∀ p q : Fin 6, p < q → (0 ≤ zor (zshl 1 (p.val : Int)) (zshl 1 (q.val : Int)) ∧ zor (zshl 1 (p.val : Int)) (zshl 1 (q.val : Int)) < 64) ∧ cntI (fun k => hasB (zor (zshl 1 (p.val : Int)) (zshl 1 (q.val : Int))) k) 24 = 2 := by decide +kernel
theorem bc_zero : cntI (fun k => hasB 0 k) 24 = 0 := by decide +kernel
theorem by_fin {G : Gm} {r p q : Int} (h : BYp G r p q) (h4 : G 4 ≤ 6) : (0 ≤ fiG G r ∧ fiG G r < 64) ∧ cntI (fun k => hasB (fiG G r) k) 24 = 2 := by
  unfold BYp at h
  obtain ⟨p0, pq, q1, e⟩ := h
  have h9 := bc_two ⟨p.toNat, by omega⟩ ⟨q.toNat, by omega⟩ (by show p.toNat < q.toNat; omega)
  have e1 : ((p.toNat : Nat) : Int) = p := by omega
  have e2 : ((q.toNat : Nat) : Int) = q := by omega
  simp only [e1, e2] at h9
  have e3 : fiG G r = zor (zshl 1 p) (zshl 1 q) := e
  rw [e3]
  exact h9
def bcG (G : Gm) (r : Int) : Int := cntI (fun k => hasB (fiG G r) k) 24
theorem LSt.fi {S : Nat × (Nat → Int)} {k : Int} {G : Gm} {M : ZM} (h : LSt S k G M) {r : Int} (hr : 0 ≤ r ∧ r < G 5) : (0 ≤ fiG G r ∧ fiG G r < 64) ∧ (stG G r = 2 → bcG G r = 2) ∧ (stG G r ≠ 2 → bcG G r = 0) := by
  have h4 := h.g4
  by_cases z : stG G r = 2
  · obtain ⟨p, q, e⟩ := h.2.2.2.1.by hr.1 hr.2 z
    have h9 := by_fin e h4.2
    exact ⟨h9.1, fun _ => h9.2, fun y => absurd z y⟩
  · have e : fiG G r = 0 := ((h.2.1.2.2.2.2.1 r hr.1 hr.2).2.2.1 z).2.2
    refine ⟨by rw [e]; decide, fun y => absurd y z, fun _ => ?_⟩
    unfold bcG
    rw [e]
    exact bc_zero
theorem R_bc {S : Nat × (Nat → Int)} {k : Int} {G : Gm} {M : ZM} {r : Int} {K : ZRet} {KX : ZEx} (h : LSt S k G M) (hr : 0 ≤ r ∧ r < G 5) (hK : K (some (zi (bcG G r))) M) : T_J6_bitCount_0f7a4 [zi (fiG G r)] M K KX := ⟨fiG G r, rfl, by have := (h.fi hr).1; omega, hK⟩
def lfG (G : Gm) (r : Int) : Int := if stG G r < 2 then szG G r else 0
theorem LSt.rv {S : Nat × (Nat → Int)} {k : Int} {G : Gm} {M : ZM} (h : LSt S k G M) {r : Int} (hr : 0 ≤ r ∧ r < G 5) : (0 ≤ stG G r ∧ stG G r ≤ 3) ∧ (1 ≤ szG G r ∧ szG G r ≤ 9) ∧ (-1 ≤ vaG G r ∧ vaG G r ≤ 99) ∧ (-1 ≤ auG G r ∧ auG G r ≤ 99) := by
  have h9 := h.2.1.2.2.2.1.2.2.2.2.2.1 r hr.1 hr.2
  exact ⟨h9.2.1, h9.1, h9.2.2.1, h9.2.2.2.1⟩
theorem lf_b {S : Nat × (Nat → Int)} {k : Int} {G : Gm} {M : ZM} (h : LSt S k G M) : ∀ i, 0 ≤ i → i ≤ G 5 → 0 ≤ sumI (lfG G) i ∧ sumI (lfG G) i ≤ i * 9 := fun i i0 i1 => sumI_b 9 i0 (fun r r0 r1 => by
  have := h.rv (r := r) ⟨r0, by omega⟩
  unfold lfG
  split <;> omega)
theorem lf_s {G : Gm} {i x : Int} (i0 : 0 ≤ i) (hx : x = sumI (lfG G) i) : (stG G i ≥ 2 → x = sumI (lfG G) (i + 1)) ∧ (stG G i < 2 → x + szG G i = sumI (lfG G) (i + 1)) := by
  rw [sumI_s i0, ← hx]
  unfold lfG
  refine ⟨fun h => by rw [if_neg (by omega), Int.add_zero], fun h => by rw [if_pos h]⟩
theorem cn_s {G : Gm} {i : Int} {f : Int → Int} (i0 : 0 ≤ i) (hf : ∀ s, 0 ≤ s → s < 4 → f s = cntI (fun r => decide (stG G r = s)) i) : ∀ s, 0 ≤ s → s < 4 → aSt f (stG G i) (f (stG G i) + 1) s = cntI (fun r => decide (stG G r = s)) (i + 1) := fun s s0 s1 => by
  rw [cntI_s i0]
  by_cases e : s = stG G i
  · rw [e, aSt_s, hf _ (by omega) (by omega), if_pos (decide_eq_true rfl)]
  · rw [aSt_n e, hf s s0 s1, if_neg (by rw [decide_eq_true_eq]; exact fun z => e z.symm)]
theorem cn_b {G : Gm} {i s : Int} (i0 : 0 ≤ i) : 0 ≤ cntI (fun r => decide (stG G r = s)) i ∧ cntI (fun r => decide (stG G r = s)) i ≤ i := cntI_r _ _ i0

def T_L_holds : ZTf := fun av M K KX => ∃ (S : Nat × (Nat → Int)) (kk : Int) (G : Gm), av = [zo 64] ∧ LSt S kk G M ∧ (∀ M' : ZM, LSt S kk G M' → Fr Sno M M' → K (some (zi 1)) M')
set_option maxRecDepth 100000 in
set_option maxHeartbeats 1500000 in
theorem bd_L_holds : zBd (cd_L_holds T_X8_property T_X8_row T_X8_finishers T_J6_bitCount_0f7a4 T_X8_taking T_X8_worker T_X8_left) 8 1900 11400 T_L_holds := by
  rintro av M K KX hA0 hM ⟨S, kk, G, rfl, hS, hK⟩
  have h4 := hS.g4
  have h5 := hS.g5
  have h6 := hS.n6
  have hD : TD G := hS.2.2.2.2.1.1
  have hb := fun {r : Int} (hr : 0 ≤ r ∧ r < G 5) => hS.g3 hr
  have hwk := fun {r k : Int} (hr : 0 ≤ r ∧ r < G 5) (hk : 0 ≤ k ∧ k < cnc G r) => hS.2.1.wk hr hk
  refine ⟨rfl, fun Φ hΦ => ?_⟩
  have last : ∀ i : Int, 0 ≤ i → i ≤ 4 → ∀ (f : Int → Int) (M1 : ZM) (x : Int) (k n : Nat), LSt S kk G M1 → Fr Sno M M1 → zN M1 = zN M + 1 → AR M1 (zN M) 4 f → (∀ s, 0 ≤ s → s < 4 → f s = fManyIn G s) → x = v_left G → (k : Int) ≤ 1780 + i → (n : Int) ≤ 10700 + 6 * i → Φ 155 [some (zo 64), some (zo (zN M)), some (zi x), some (zi i), none, none, none, none] [] M1 k n := by
    refine zdown (n := 4) (fun i i0 i1 ih f M1 x k n hS1 hF hN hA1 hf hx hk hn => ?_)
    refine zGoR hΦ [155] 400 (fun hL9 _ hM _ _ => ?_)
    obtain ⟨qL1, qL2, _⟩ : zrg x ∧ zrg i ∧ True := hL9
    refine ⟨fun (qc1 : i ≥ 4) => ⟨⟨⟨rfl, rfl⟩, hS1.2.1.1.w.rcv⟩, (R_left hS1.2.1 (fun (qg2 : zrg (v_left G)) qm3 => ⟨fun (qc4 : v_left G ≠ x) => ⟨(Or.inl rfl), (show K (some (zi 0)) M1 from ?g9l1)⟩, fun (qc5 : v_left G = x) => ⟨(Or.inr rfl), (show K (some (zi 1)) M1 from ?g9l2)⟩⟩))⟩, fun (qc6 : i < 4) => ⟨(zrgI (x := 6 + i) (by omega)), ⟨⟨(by omega), (by omega)⟩, ⟨⟨rfl, rfl⟩, hS1.2.1.1.w.rcv⟩, (R_propM (s := i) hS1.2.1 (by omega) (fun (qg7 : zrg (fManyIn G i)) qm8 => ⟨zixO hA1.1.1 hA1.1.2 (i := i) (by omega) (by decide), zIr ((hA1.2.2 i (by omega) (by omega))) (⟨fun (qc9 : fManyIn G i = f i) => ⟨(zrgI (x := i + 1) (by omega)), (show Φ 155 [some (zo 64), some (zo (zN M)), some (zi x), some (zi (i + 1)), none, none, none, none] [] M1 (k + 1) (n + 6) from ?g9l3)⟩, fun (qc10 : fManyIn G i ≠ f i) => ⟨(Or.inl rfl), (show K (some (zi 0)) M1 from ?g9l4)⟩⟩)⟩))⟩⟩⟩
    case g9l1 => exact absurd hx.symm qc4
    case g9l2 => exact hK M1 hS1 hF
    case g9l3 => exact ih (by omega) f _ x _ _ hS1 hF hN hA1 hf hx (by omega) (by omega)
    case g9l4 => exact absurd (hf i i0 (by omega)).symm qc10
  have loop : ∀ i : Int, 0 ≤ i → i ≤ G 5 → ∀ (f : Int → Int) (M1 : ZM) (x : Int) (k n : Nat), LSt S kk G M1 → Fr Sno M M1 → zN M1 = zN M + 1 → AR M1 (zN M) 4 f → (∀ s, 0 ≤ s → s < 4 → f s = cntI (fun r => decide (stG G r = s)) i) → x = sumI (lfG G) i → (k : Int) ≤ 1 + 74 * i → (n : Int) ≤ 10 + 444 * i → Φ 8 [some (zo 64), some (zo (zN M)), some (zi x), some (zi i), none, none, none, none] [] M1 k n := by
    refine zdown (n := G 5) (fun i i0 i1 ih f M1 x k n hS1 hF hN hA1 hf hx hk hn => ?_)
    have hxb := lf_b hS i i0 i1
    rw [← hx] at hxb
    have inner : i < G 5 → ∀ q : Int, 0 ≤ q → q ≤ cnc G i → ∀ (f : Int → Int) (M1 : ZM) (x : Int) (k n : Nat), LSt S kk G M1 → Fr Sno M M1 → zN M1 = zN M + 1 → AR M1 (zN M) 4 f → (∀ s, 0 ≤ s → s < 4 → f s = cntI (fun r => decide (stG G r = s)) (i + 1)) → x = sumI (lfG G) (i + 1) → (k : Int) ≤ 7 + 74 * i + 22 * q → (n : Int) ≤ 46 + 444 * i + 132 * q → Φ 83 [some (zo 64), some (zo (zN M)), some (zi x), some (zi i), some (zi (stG G i)), some (zi (fiG G i)), some (zi q), none] [] M1 k n := fun hi => by
      have hbr := hb ⟨i0, hi⟩
      refine zdown (n := cnc G i) (fun q q0 q1 ih2 f M1 x k n hS1 hF hN hA1 hf hx hk hn => ?_)
      have in2 : q < cnc G i → ∀ t : Int, 0 ≤ t → t ≤ q → ∀ (k n : Nat), (k : Int) ≤ 9 + 74 * i + 22 * q + 10 * t → (n : Int) ≤ 58 + 444 * i + 132 * q + 60 * t → Φ 97 [some (zo 64), some (zo (zN M)), some (zi x), some (zi i), some (zi (stG G i)), some (zi (fiG G i)), some (zi q), some (zi t)] [] M1 k n := fun hq => by
        have hw1 := hwk ⟨i0, hi⟩ ⟨q0, hq⟩
        refine zdown (n := q) (fun t t0 t1 ih3 k n hk hn => ?_)
        have hw2 : t < q → 0 ≤ wkc G i t ∧ wkc G i t < G 4 := fun z => hwk ⟨i0, hi⟩ ⟨t0, by omega⟩
        refine zGoR hΦ [97, 83] 400 (fun hL9 _ hM _ _ => ?_)
        obtain ⟨qL1, qL2, qL3, qL4, qL5, qL6, _⟩ : zrg x ∧ zrg i ∧ zrg (stG G i) ∧ zrg (fiG G i) ∧ zrg q ∧ zrg t ∧ True := hL9
        refine ⟨fun (qc1 : t ≥ q) => ⟨(zrgI (x := q + 1) (by omega)), (zFg hΦ 7 (show Φ 83 [some (zo 64), some (zo (zN M)), some (zi x), some (zi i), some (zi (stG G i)), some (zi (fiG G i)), some (zi (q + 1)), none] [] M1 (k) (n) from ?g10l1))⟩, fun (qc2 : t < q) => ⟨⟨(by omega), (by omega)⟩, ⟨⟨rfl, rfl⟩, hS1.2.1.1.w.rcv⟩, (R_tk0 hS1.2.1 (by omega) (by omega) (fun (qg3 : zrg (wkc G i q)) qm4 => ⟨⟨(by omega), (by omega)⟩, ⟨⟨rfl, rfl⟩, hS1.2.1.1.w.rcv⟩, (R_team hS1.2.1 (by omega) (fun (qg5 : zrg (tmc G (wkc G i q))) qm6 => ⟨⟨(by omega), (by omega)⟩, ⟨⟨rfl, rfl⟩, hS1.2.1.1.w.rcv⟩, (R_tk0 hS1.2.1 (by omega) (by omega) (fun (qg7 : zrg (wkc G i t)) qm8 => ⟨⟨(by omega), (by omega)⟩, ⟨⟨rfl, rfl⟩, hS1.2.1.1.w.rcv⟩, (R_team hS1.2.1 (by omega) (fun (qg9 : zrg (tmc G (wkc G i t))) qm10 => ⟨fun (qc11 : tmc G (wkc G i q) ≠ tmc G (wkc G i t)) => ⟨(zrgI (x := t + 1) (by omega)), (show Φ 97 [some (zo 64), some (zo (zN M)), some (zi x), some (zi i), some (zi (stG G i)), some (zi (fiG G i)), some (zi q), some (zi (t + 1))] [] M1 (k + 3 + 2 + 3 + 2) (n + 18 + 12 + 18 + 12) from ?g10l2)⟩, fun (qc12 : tmc G (wkc G i q) = tmc G (wkc G i t)) => ⟨(Or.inl rfl), (show K (some (zi 0)) M1 from ?g10l3)⟩⟩))⟩))⟩))⟩))⟩⟩
        case g10l1 => exact ih2 hq f _ x _ _ hS1 hF hN hA1 hf hx (by omega) (by omega)
        case g10l2 => exact ih3 (by omega) _ _ (by omega) (by omega)
        case g10l3 => exact absurd qc12 (hD i q t i0 hi q0 hq t0 (by omega) (by omega))
      refine zGoR hΦ [97, 8] 400 (fun hL9 _ hM _ _ => ?_)
      obtain ⟨qL1, qL2, qL3, qL4, qL5, _⟩ : zrg x ∧ zrg i ∧ zrg (stG G i) ∧ zrg (fiG G i) ∧ zrg q ∧ True := hL9
      refine ⟨⟨(by omega), (by omega)⟩, ⟨⟨rfl, rfl⟩, hS1.2.1.1.w.rcv⟩, (R_cnt hS1.2.1 (by omega) (fun (qg1 : zrg (cnc G i)) qm2 => ⟨fun (qc3 : q ≥ cnc G i) => ⟨(zrgI (x := i + 1) (by omega)), (zFg hΦ 4 (zFg hΦ 5 (zFg hΦ 6 (show Φ 8 [some (zo 64), some (zo (zN M)), some (zi x), some (zi (i + 1)), none, none, none, none] [] M1 (k + 2) (n + 12) from ?g11l1))))⟩, fun (qc4 : q < cnc G i) => (show Φ 97 [some (zo 64), some (zo (zN M)), some (zi x), some (zi i), some (zi (stG G i)), some (zi (fiG G i)), some (zi q), some (zi 0)] [] M1 (k + 2) (n + 12) from ?g11l2)⟩))⟩
      case g11l1 => exact ih hi f _ x _ _ hS1 hF hN hA1 hf hx (by omega) (by omega)
      case g11l2 => exact in2 (by omega) 0 (by omega) q0 _ _ (by omega) (by omega)
    have hrv : i < G 5 → (0 ≤ stG G i ∧ stG G i ≤ 3) ∧ (1 ≤ szG G i ∧ szG G i ≤ 9) := fun z => ⟨(hS.rv ⟨i0, z⟩).1, (hS.rv ⟨i0, z⟩).2.1⟩
    have hfb : i < G 5 → 0 ≤ f (stG G i) ∧ f (stG G i) ≤ 24 := fun z => by
      have h9 := hrv z
      rw [hf _ (by omega) (by omega)]
      have := cn_b (G := G) (s := stG G i) i0
      omega
    have cut : i < G 5 → ∀ (M1 : ZM) (f : Int → Int) (k n : Nat), LSt S kk G M1 → Fr Sno M M1 → zN M1 = zN M + 1 → AR M1 (zN M) 4 f → (∀ s, 0 ≤ s → s < 4 → f s = cntI (fun r => decide (stG G r = s)) (i + 1)) → (k : Int) ≤ 4 + 74 * i → (n : Int) ≤ 28 + 444 * i → Φ 33 [some (zo 64), some (zo (zN M)), some (zi x), some (zi i), some (zi (stG G i)), none, none, none] [] M1 k n := fun hi M1 f k n hS1 hF hN hA1 hf hk hn => by
      have h9 := hrv hi
      have h8 := lf_s i0 hx
      have h7 := (hS.fi ⟨i0, hi⟩).2
      refine zGoR hΦ [83] 400 (fun hL9 _ hM _ _ => ?_)
      obtain ⟨qL1, qL2, qL3, _⟩ : zrg x ∧ zrg i ∧ zrg (stG G i) ∧ True := hL9
      refine ⟨fun (qc1 : stG G i ≥ 2) => ⟨(zrgI (x := x + 0) (by omega)), zIr (Int.add_zero _) (⟨⟨(by omega), (by omega)⟩, ⟨⟨rfl, rfl⟩, hS1.2.1.1.w.rcv⟩, (R_fin hS1.2.1 (by omega) (fun (qg2 : zrg (fiG G i)) qm3 => ⟨⟨⟨rfl, rfl⟩, trivial⟩, (R_bc hS1 (r := i) (by omega) (fun (qb : zrg (bcG G i)) qb2 => ⟨fun (qc4 : stG G i ≠ 2) => ⟨fun (qc5 : bcG G i = 0) => (show Φ 83 [some (zo 64), some (zo (zN M)), some (zi x), some (zi i), some (zi (stG G i)), some (zi (fiG G i)), some (zi 0), none] [] M1 (k + 1) (n + 6) from ?g12l1), fun (qc6 : bcG G i ≠ 0) => ⟨(Or.inl rfl), (show K (some (zi 0)) M1 from ?g12l2)⟩⟩, fun (qc7 : stG G i = 2) => ⟨fun (qc8 : bcG G i = 2) => (show Φ 83 [some (zo 64), some (zo (zN M)), some (zi x), some (zi i), some (zi (stG G i)), some (zi (fiG G i)), some (zi 0), none] [] M1 (k + 1) (n + 6) from ?g12l3), fun (qc9 : bcG G i ≠ 2) => ⟨(Or.inl rfl), (show K (some (zi 0)) M1 from ?g12l4)⟩⟩⟩))⟩))⟩)⟩, fun (qc10 : stG G i < 2) => ⟨⟨(by omega), (by omega)⟩, ⟨⟨rfl, rfl⟩, hS1.2.1.1.w.rcv⟩, (R_sz hS1.2.1 (by omega) (fun (qg11 : zrg (szG G i)) qm12 => ⟨(zrgI (x := x + szG G i) (by omega)), ⟨⟨(by omega), (by omega)⟩, ⟨⟨rfl, rfl⟩, hS1.2.1.1.w.rcv⟩, (R_fin hS1.2.1 (by omega) (fun (qg13 : zrg (fiG G i)) qm14 => ⟨⟨⟨rfl, rfl⟩, trivial⟩, (R_bc hS1 (r := i) (by omega) (fun (qb : zrg (bcG G i)) qb2 => ⟨fun (qc15 : stG G i ≠ 2) => ⟨fun (qc16 : bcG G i = 0) => (show Φ 83 [some (zo 64), some (zo (zN M)), some (zi (x + szG G i)), some (zi i), some (zi (stG G i)), some (zi (fiG G i)), some (zi 0), none] [] M1 (k + 2 + 1) (n + 12 + 6) from ?g12l5), fun (qc17 : bcG G i ≠ 0) => ⟨(Or.inl rfl), (show K (some (zi 0)) M1 from ?g12l6)⟩⟩, fun (qc18 : stG G i = 2) => ⟨fun (qc19 : bcG G i = 2) => (show Φ 83 [some (zo 64), some (zo (zN M)), some (zi (x + szG G i)), some (zi i), some (zi (stG G i)), some (zi (fiG G i)), some (zi 0), none] [] M1 (k + 2 + 1) (n + 12 + 6) from ?g12l7), fun (qc20 : bcG G i ≠ 2) => ⟨(Or.inl rfl), (show K (some (zi 0)) M1 from ?g12l8)⟩⟩⟩))⟩))⟩⟩))⟩⟩
      case g12l1 => exact inner hi 0 (by omega) (hb ⟨i0, hi⟩).1 f _ _ _ _ hS1 hF hN hA1 hf (h8.1 (by omega)) (by omega) (by omega)
      case g12l2 => exfalso; omega
      case g12l3 => exact inner hi 0 (by omega) (hb ⟨i0, hi⟩).1 f _ _ _ _ hS1 hF hN hA1 hf (h8.1 (by omega)) (by omega) (by omega)
      case g12l4 => exfalso; omega
      case g12l5 => exact inner hi 0 (by omega) (hb ⟨i0, hi⟩).1 f _ _ _ _ hS1 hF hN hA1 hf (h8.2 (by omega)) (by omega) (by omega)
      case g12l6 => exfalso; omega
      case g12l7 => exact inner hi 0 (by omega) (hb ⟨i0, hi⟩).1 f _ _ _ _ hS1 hF hN hA1 hf (h8.2 (by omega)) (by omega) (by omega)
      case g12l8 => exfalso; omega
    refine zGoR hΦ [33, 155] 400 (fun hL9 _ hM _ _ => ?_)
    obtain ⟨qL1, qL2, _⟩ : zrg x ∧ zrg i ∧ True := hL9
    refine ⟨⟨(by omega), (by omega)⟩, ⟨⟨rfl, rfl⟩, hS1.2.1.1.w.rcv⟩, (R_prop1 hS1.2.1 (fun (qg1 : zrg (G 5)) qm2 => ⟨fun (qc3 : i ≥ G 5) => (show Φ 155 [some (zo 64), some (zo (zN M)), some (zi x), some (zi 0), none, none, none, none] [] M1 (k + 1) (n + 6) from ?g13l1), fun (qc4 : i < G 5) => ⟨⟨(by omega), (by omega)⟩, ⟨⟨rfl, rfl⟩, hS1.2.1.1.w.rcv⟩, (R_st hS1.2.1 (by omega) (fun (qg5 : zrg (stG G i)) qm6 => ⟨⟨rfl, rfl⟩, ⟨zixO hA1.1.1 hA1.1.2 (i := stG G i) (by omega) (by decide), zIr ((hA1.2.2 (stG G i) (by omega) (by omega))) (⟨(zrgI (x := f (stG G i) + 1) (by omega)), ⟨⟨zixW hA1.1.1 hA1.1.2 (i := stG G i) (by omega) (by decide), trivial⟩, (show Φ 33 [some (zo 64), some (zo (zN M)), some (zi x), some (zi i), some (zi (stG G i)), none, none, none] [] (zsI M1 (zN M) (stG G i).toNat (f (stG G i) + 1)) (k + 1 + 2) (n + 6 + 12) from ?g13l2)⟩⟩)⟩⟩))⟩⟩))⟩
    case g13l1 => exact last 0 (by omega) (by omega) f _ x _ _ hS1 hF hN hA1 (fun s s0 s1 => by have h9 := hf s s0 s1; rw [show i = G 5 by omega] at h9; exact h9) (by rw [hx, show i = G 5 by omega]; rfl) (by omega) (by omega)
    case g13l2 => exact cut (by omega) _ _ _ _ (hS1.si hA1) (sno_si (f := f) (n := 0) hF h6 (Nat.le_refl _)) hN (hA1.set (by omega)) (cn_s i0 hf) (by omega) (by omega)
  refine zGoR hΦ [8] 400 (fun hL9 _ hM _ _ => ?_)
  obtain ⟨_⟩ : True := hL9
  refine ⟨⟨(by omega), (by omega), (by omega), (by omega)⟩, (show Φ 8 [some (zo 64), some (zo (zN M)), some (zi 0), some (zi 0), none, none, none, none] [] (zNw M 20 4) (0 + 1) (0 + 4) from ?g14l1)⟩
  case g14l1 => exact loop 0 (by omega) (by omega) (fun _ => 0) _ 0 _ _ hS.nw (Fr.nw0 (by omega)) rfl (AR.nw h6) (fun s _ _ => rfl) rfl (by omega) (by omega)

theorem M_L_holds {l : Launch} (hl : l.stackTraces = false) : zMet l yL_holds (Cond.code yL_holds cL_holds 8 (Option.some Jvm.ClassFile.FieldType.boolean) :: zG) rm_L_holds 1900 11400 T_L_holds := met_L_holds hl (M_X8_property hl) (M_X8_row hl) (M_X8_finishers hl) (M_J6_bitCount_0f7a4 hl) (M_X8_taking hl) (M_X8_worker hl) (M_X8_left hl) bd_L_holds

