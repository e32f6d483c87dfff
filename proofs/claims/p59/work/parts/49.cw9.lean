theorem vc_b (tl y0 y1 y2 kd : Int) : (-3 ≤ vc0 tl y0 y1 y2 kd ∧ vc0 tl y0 y1 y2 kd ≤ 1) ∧ (-3 ≤ vc1 tl y0 y1 y2 kd ∧ vc1 tl y0 y1 y2 kd ≤ 1) ∧ (-3 ≤ vc2 kd ∧ vc2 kd ≤ 1) := by
  refine ⟨?_, ?_, ?_⟩
  · unfold vc0
    repeat' split
    all_goals omega
  · unfold vc1
    repeat' split
    all_goals omega
  · unfold vc2
    repeat' split
    all_goals omega
theorem cvf_b {c0 c1 c2 i : Int} (h0 : -3 ≤ c0 ∧ c0 ≤ 1) (h1 : -3 ≤ c1 ∧ c1 ≤ 1) (h2 : -3 ≤ c2 ∧ c2 ≤ 1) : -3 ≤ cvf c0 c1 c2 i ∧ cvf c0 c1 c2 i ≤ 1 := by
  unfold cvf
  repeat' split
  all_goals omega
def T_X5_settle : ZTf := fun av M K KX => ∃ (G : Gm) (w r k x : Int), av = [zo 129, zi r, zo 664] ∧ (LV M) ∧ (TR M 129 (fDel1 G w r x)) ∧ (gVV M G r k x) ∧ (GI G) ∧ (GV G) ∧ (GX G) ∧ (DLp G w r k x) ∧  (∀ M' : ZM, (Fr (STb 129) M M') → (TR M' 129 (fDel G w r x)) → K none M')
set_option maxRecDepth 100000 in
set_option maxHeartbeats 4000000 in
theorem bd_X5_settle : zBd (cd_X5_settle T_X4_workerAt T_X7_changeTrust T_X5_reward) 5 0 0 T_X5_settle := by
  rintro av M K KX hA0 hM ⟨G, w, r, k, x, rfl, hL, hT9, hv, hG, hV9, hX9, hD9, hK⟩
  obtain ⟨hw5, hr5, hR5⟩ := id hG
  obtain ⟨hv0, hv1, hv2, hv3, hvW, hvR, hvS⟩ := id hV9
  obtain ⟨hw, hr, hx, hk, hkm, hkw, hkr⟩ := id hD9
  have hRr := hR5 r hr.1 hr.2
  have hm3 := hRr.2.1
  obtain ⟨kd, hkd⟩ : ∃ z, gKd G r k x = z := ⟨_, rfl⟩
  obtain ⟨tl, htl⟩ : ∃ z, G 0 = z := ⟨_, rfl⟩
  obtain ⟨y0, hy0⟩ : ∃ z, yv G r k x 0 = z := ⟨_, rfl⟩
  obtain ⟨y1, hy1⟩ : ∃ z, yv G r k x 1 = z := ⟨_, rfl⟩
  obtain ⟨y2, hy2⟩ : ∃ z, yv G r k x 2 = z := ⟨_, rfl⟩
  obtain ⟨u0, hu0⟩ : ∃ z, uv G r 0 = z := ⟨_, rfl⟩
  obtain ⟨u1, hu1⟩ : ∃ z, uv G r 1 = z := ⟨_, rfl⟩
  obtain ⟨u2, hu2⟩ : ∃ z, uv G r 2 = z := ⟨_, rfl⟩
  obtain ⟨s, hs⟩ : ∃ z, vSt (G (132 + 16 * r + 1).toNat) kd = z := ⟨_, rfl⟩
  have hcb := vc_b tl y0 y1 y2 kd
  obtain ⟨c0, hc0⟩ : ∃ z, vc0 tl y0 y1 y2 kd = z := ⟨_, rfl⟩
  obtain ⟨c1, hc1⟩ : ∃ z, vc1 tl y0 y1 y2 kd = z := ⟨_, rfl⟩
  obtain ⟨c2, hc2⟩ : ∃ z, vc2 kd = z := ⟨_, rfl⟩
  obtain ⟨R, hR⟩ : ∃ z, vR y0 y1 y2 u0 u1 u2 kd = z := ⟨_, rfl⟩
  obtain ⟨p, hp⟩ : ∃ z, vP kd = z := ⟨_, rfl⟩
  obtain ⟨q, hq⟩ : ∃ z, vQ kd = z := ⟨_, rfl⟩
  obtain ⟨m, hm⟩ : ∃ z, (G (132 + 16 * r + 6).toNat) = z := ⟨_, rfl⟩
  have hse := settle_eq hG hV9 hX9 hD9 hkd htl hy0 hy1 hy2 hu0 hu1 hu2 hs hc0 hc1 hc2 hm
  rw [hp, hq] at hse
  unfold gVV VV at hv
  rw [hkd, htl, hy0, hy1, hy2, hu0, hu1, hu2, hs, hR, hp, hq, hc0, hc1, hc2] at hv
  rw [hc0, hc1, hc2] at hcb
  obtain ⟨e20, e21, e22, e23, e30, e31, e32⟩ := hv
  have hGI := fDel1_GI hG hD9
  have gn : ∀ j : Nat, j ≠ (132 + 16 * r + (7 + 3 * k + 1)).toNat → j ≠ (6 + 9 * w + 5).toNat → fDel1 G w r x j = G j := fun j a b => fDel1_n (by rw [hk]; exact a) b
  obtain ⟨g, hg⟩ : ∃ g, fDel1 G w r x = g := ⟨_, rfl⟩
  rw [hg] at hT9 hse hGI gn
  have hX := hL.tab
  have gm : (g (132 + 16 * r + 6).toNat) = m := (gn _ (by omega) (by omega)).trans hm
  have g4 : g 4 = G 4 := gn 4 (by omega) (by omega)
  have g5 : g 5 = G 5 := gn 5 (by omega) (by omega)
  have hRg := hGI.2.2 r hr.1 (by rw [g5]; exact hr.2)
  obtain ⟨a, ea⟩ : ∃ z, (G (132 + 16 * r + (7 + 3 * p + 0)).toNat) = z := ⟨_, rfl⟩
  obtain ⟨b, eb⟩ : ∃ z, (G (132 + 16 * r + (7 + 3 * q + 0)).toNat) = z := ⟨_, rfl⟩
  have hab : s = 2 → (0 ≤ p ∧ p < q ∧ q < m) ∧ (0 ≤ a ∧ a < 6) ∧ (0 ≤ b ∧ b < 6) ∧ a ≠ b ∧ a < G 4 ∧ b < G 4 := fun z => by
    rcases hse with h | ⟨h1, h2, h3⟩
    · exact absurd z h.1
    · have a1 := hRr.2.2 p h2.1 (by omega)
      have b1 := hRr.2.2 q (by omega) (by omega)
      have a2 := ((hX9.1 r hr.1 hr.2).1 p h2.1 (by omega)).1
      have b2 := ((hX9.1 r hr.1 hr.2).1 q (by omega) (by omega)).1
      have ab := (hX9.1 r hr.1 hr.2).2.1 p q h2.1 h2.2.1 (by omega)
      rw [ea] at a1 a2 ab
      rw [eb] at b1 b2 ab
      exact ⟨h2, a1, b1, ab, a2, b2⟩
  refine ⟨rfl, fun Φ hΦ => ?_⟩
  have loop : ∀ i, 0 ≤ i → i ≤ m → ∀ M90 : ZM, Fr (STb 129) M M90 → TRx M90 129 (sT g r s c0 c1 c2 i) r → Φ 18 [some (zo 129), some (zi r), some (zo 664), some (zo (129 + 11 + 2 * r.toNat)), some (zi i)] [] M90 0 0 := by
    refine zdown (fun i h0 h1 ih M90 f9 hT90 => ?_)
    have hL90 := hL.fr f9
    have hX90 := hL90.tab
    have e42 : zI M90 664 = zI M 664 := f9.i hL.wVd (by unfold STb; omega)
    have e43 : zI M90 665 = zI M 665 := f9.i hL.a_Vd4 (by unfold STb; omega)
    have hGI9 := sT_GI (s := s) (c0 := c0) (c1 := c1) (c2 := c2) (i := i) hGI (r := r) (by rw [g5]; exact hr) h0 (by omega)
    have hn9 := sT_n (s := s) (c0 := c0) (c1 := c1) (c2 := c2) hRg i h0 (by omega)
    obtain ⟨cv, hcv⟩ : ∃ z, cvf c0 c1 c2 i = z := ⟨_, rfl⟩
    have hcvb := cvf_b (i := i) hcb.1 hcb.2.1 hcb.2.2
    rw [hcv] at hcvb
    have hc9 : i < m → zI M90 665 i.toNat = cv := fun z => by
      have h9 : i = 0 ∨ i = 1 ∨ i = 2 := by omega
      rw [e43, ← hcv]
      rcases h9 with y | y | y <;> subst y
      · exact e30
      · exact e31
      · exact e32
    obtain ⟨wi, hwi⟩ : ∃ z, (G (132 + 16 * r + (7 + 3 * i + 0)).toNat) = z := ⟨_, rfl⟩
    have hwb : i < m → (0 ≤ wi ∧ wi < 6) ∧ wi < G 4 := fun z => by
      have a1 := hRr.2.2 i h0 (by omega)
      have a2 := ((hX9.1 r hr.1 hr.2).1 i h0 (by omega)).1
      rw [hwi] at a1 a2
      exact ⟨a1, a2⟩
    have htb9 : i < m → 0 ≤ (sT g r s c0 c1 c2 i) (6 + 9 * wi + 3).toNat ∧ (sT g r s c0 c1 c2 i) (6 + 9 * wi + 3).toNat ≤ 20 := fun z => by
      have h9 := hwb z
      refine sT_b hRg i h0 (by omega) wi h9.1.1 h9.1.2 ?_
      rw [gn _ (by omega) (by omega)]
      exact (hvW wi h9.1.1 h9.2).2.2.1
    have hfb : ∀ v : Int, 0 ≤ v → v < 6 → v < G 4 → (0 ≤ (sT g r s c0 c1 c2 i) (6 + 9 * v + 6).toNat ∧ (sT g r s c0 c1 c2 i) (6 + 9 * v + 6).toNat ≤ 100000) ∧ (0 ≤ (sT g r s c0 c1 c2 i) (6 + 9 * v + 8).toNat ∧ (sT g r s c0 c1 c2 i) (6 + 9 * v + 8).toNat ≤ 100000) := fun v v0 v1 v2 => by
      rw [hn9 _ (fun w w0 w1 => by omega), hn9 (6 + 9 * v + 8).toNat (fun w w0 w1 => by omega), gU_n _ (by omega), gU_n _ (by omega), gn _ (by omega) (by omega), gn _ (by omega) (by omega)]
      have h9 := hvW v v0 v2
      exact ⟨h9.2.2.2.2.2.1, h9.2.2.2.2.2.2.2⟩
    have hfa := fun (z : s = 2) => hfb a (hab z).2.1.1 (hab z).2.1.2 (hab z).2.2.2.2.1
    have hfc := fun (z : s = 2) => hfb b (hab z).2.2.1.1 (hab z).2.2.1.2 (hab z).2.2.2.2.2
    obtain ⟨g9, hg9⟩ : ∃ z, sT g r s c0 c1 c2 i = z := ⟨_, rfl⟩
    rw [hg9] at hT90 hGI9 hn9 htb9 hfa hfc
    have gm9 : (g9 (132 + 16 * r + 6).toNat) = m := (hn9 _ (fun w w0 w1 => by omega)).trans ((gU_n _ (by omega)).trans gm)
    have g94 : g9 4 = G 4 := (hn9 _ (fun w w0 w1 => by omega)).trans ((gU_n _ (by omega)).trans g4)
    have g95 : g9 5 = G 5 := (hn9 _ (fun w w0 w1 => by omega)).trans ((gU_n _ (by omega)).trans g5)
    have gk9 : ∀ j : Int, 0 ≤ j → j < 3 → (g9 (132 + 16 * r + (7 + 3 * j + 0)).toNat) = (G (132 + 16 * r + (7 + 3 * j + 0)).toNat) := fun j j0 j1 => (hn9 _ (fun w w0 w1 => by omega)).trans ((gU_n _ (by omega)).trans (gn _ (by omega) (by omega)))
    have gwi : i < m → (g9 (132 + 16 * r + (7 + 3 * i + 0)).toNat) = wi := fun z => (gk9 i h0 (by omega)).trans hwi
    have gpa : s = 2 → (g9 (132 + 16 * r + (7 + 3 * p + 0)).toNat) = a := fun z => (gk9 p (hab z).1.1 (by have := hab z; omega)).trans ea
    have gqb : s = 2 → (g9 (132 + 16 * r + (7 + 3 * q + 0)).toNat) = b := fun z => (gk9 q (by have := hab z; omega) (by have := hab z; omega)).trans eb
    obtain ⟨ti, hti⟩ : ∃ z, (g9 (6 + 9 * wi + 3).toNat) = z := ⟨_, rfl⟩
    rw [hti] at htb9
    obtain ⟨sz, hsz⟩ : ∃ z, (g9 (132 + 16 * r + 0).toNat) = z := ⟨_, rfl⟩
    have hszb : 1 ≤ sz ∧ sz ≤ 9 := by
      rw [← hsz, hn9 _ (fun w w0 w1 => by omega), gU_n _ (by omega), gn _ (by omega) (by omega)]
      exact (hvR r hr.1 hr.2).1
    clear hfb hvS hv0 hv1 hv2 hv3
    refine zGoR hΦ [18] 400 (fun hL9 _ hM _ _ => ?_)
    obtain ⟨qL1, qL2, _⟩ : zrg r ∧ zrg i ∧ True := hL9
    refine ⟨(hX90.row (by omega) (by omega)).2.w, zIr ((hT90.r8 (r := r) (by omega) (by omega)).trans (gm9)) (⟨fun (qc1 : i ≥ m) => ⟨hL90.wVd, zIr (((congrFun e42 _).trans e20)) (⟨fun (qc2 : s ≠ 2) => (show K none M90 from ?g259l1), fun (qc3 : s = 2) => ⟨hL90.wVd, zIr (((congrFun e42 _).trans e21)) (⟨⟨(hX90.row (by omega) (by omega)).2.w, trivial⟩, ⟨hL90.wVd, zIr ((zIn _ _ _ (by omega)).trans (((congrFun e42 _).trans e22))) (⟨⟨⟨rfl, rfl⟩, (hX90.row (by omega) (by omega)).2.w.rcv⟩, ⟨rfl, ⟨(hX90.row (by omega) (by omega)).2.w, _, (hX90.row (by omega) (by omega)).2.r9, ⟨(zrgI (x := p * 3) (by omega)), ⟨(zrgI (x := p * 3 + 0) (by omega)), zIr (Int.add_zero _) (⟨zixO (hX90.row (by omega) (by omega)).2.a9 (hX90.row (by omega) (by omega)).2.l9 (i := p * 3) (by omega) (by decide), zIr ((zIn _ _ _ (by omega)).trans ((hT90.k0 (r := r) (k := p) (by omega) (by omega) (by omega) (by omega)).trans ((gpa (by omega))))) (⟨trivial, fun (qg4 : zrg (a)) _ => ⟨⟨(hX90.row (by omega) (by omega)).2.w, trivial⟩, ⟨hL90.wVd, zIr ((zIn _ _ _ (by omega)).trans ((zIn _ _ _ (by omega)).trans (((congrFun e42 _).trans e23)))) (⟨⟨⟨rfl, rfl⟩, (hX90.row (by omega) (by omega)).2.w.rcv⟩, ⟨rfl, ⟨(hX90.row (by omega) (by omega)).2.w, _, (hX90.row (by omega) (by omega)).2.r9, ⟨(zrgI (x := q * 3) (by omega)), ⟨(zrgI (x := q * 3 + 0) (by omega)), zIr (Int.add_zero _) (⟨zixO (hX90.row (by omega) (by omega)).2.a9 (hX90.row (by omega) (by omega)).2.l9 (i := q * 3) (by omega) (by decide), zIr ((zIn _ _ _ (by omega)).trans ((zIn _ _ _ (by omega)).trans ((hT90.k0 (r := r) (k := q) (by omega) (by omega) (by omega) (by omega)).trans ((gqb (by omega)))))) (⟨trivial, fun (qg5 : zrg (b)) _ => ⟨⟨(hX90.row (by omega) (by omega)).2.w, trivial⟩, ⟨(hX90.row (by omega) (by omega)).2.w, zIr ((zIm _ _ _ (by omega)).trans ((zIs _ _ _ _))) (⟨(hX90.row (by omega) (by omega)).2.w, zIr ((zIm _ _ _ (by omega)).trans ((zIm _ _ _ (by omega)).trans ((zIm _ _ _ (by omega)).trans ((hT90.r0 (r := r) (by omega) (by omega)).trans (hsz))))) (⟨⟨⟨rfl, rfl⟩, hX90.w.rcv⟩, ⟨rfl, ⟨hX90.w, _, hX90.r6, ⟨zixW hX90.aTwk hX90.lTwk (i := a) (by omega) (by decide), _, (hX90.wk (by omega) (by omega)).1, ⟨rfl, ⟨(hX90.wk (by omega) (by omega)).2, zIr ((zIn _ _ _ (by omega)).trans ((zIn _ _ _ (by omega)).trans ((zIn _ _ _ (by omega)).trans ((hT90.w7 (w := a) (by omega) (by omega)))))) (⟨(zrgI (x := (g9 (6 + 9 * a + 6).toNat) + 1) (by omega)), ⟨⟨(hX90.wk (by omega) (by omega)).2, trivial⟩, ⟨hX90.w, _, hX90.r6, ⟨zixW hX90.aTwk hX90.lTwk (i := a) (by omega) (by decide), _, (hX90.wk (by omega) (by omega)).1, ⟨rfl, ⟨(hX90.wk (by omega) (by omega)).2, zIr ((zIm _ _ _ (by omega)).trans ((zIn _ _ _ (by omega)).trans ((zIn _ _ _ (by omega)).trans ((zIn _ _ _ (by omega)).trans ((hT90.w9 (w := a) (by omega) (by omega))))))) (⟨(zrgI (x := (g9 (6 + 9 * a + 8).toNat) + sz) (by omega)), ⟨⟨(hX90.wk (by omega) (by omega)).2, trivial⟩, fun _ _ => ⟨(hX90.row (by omega) (by omega)).2.w, zIr ((zIn _ _ _ (by omega)).trans ((zIn _ _ _ (by omega)).trans ((zIs _ _ _ _)))) (⟨(hX90.row (by omega) (by omega)).2.w, zIr ((zIn _ _ _ (by omega)).trans ((zIn _ _ _ (by omega)).trans ((zIm _ _ _ (by omega)).trans ((zIm _ _ _ (by omega)).trans ((zIm _ _ _ (by omega)).trans ((hT90.r0 (r := r) (by omega) (by omega)).trans (hsz))))))) (⟨⟨⟨rfl, rfl⟩, hX90.w.rcv⟩, ⟨rfl, ⟨hX90.w, _, hX90.r6, ⟨zixW hX90.aTwk hX90.lTwk (i := b) (by omega) (by decide), _, (hX90.wk (by omega) (by omega)).1, ⟨rfl, ⟨(hX90.wk (by omega) (by omega)).2, zIr ((zIn _ _ _ (by omega)).trans ((zIn _ _ _ (by omega)).trans ((zIn _ _ _ (by omega)).trans ((zIn _ _ _ (by omega)).trans ((zIn _ _ _ (by omega)).trans ((hT90.w7 (w := b) (by omega) (by omega)))))))) (⟨(zrgI (x := (g9 (6 + 9 * b + 6).toNat) + 1) (by omega)), ⟨⟨(hX90.wk (by omega) (by omega)).2, trivial⟩, ⟨hX90.w, _, hX90.r6, ⟨zixW hX90.aTwk hX90.lTwk (i := b) (by omega) (by decide), _, (hX90.wk (by omega) (by omega)).1, ⟨rfl, ⟨(hX90.wk (by omega) (by omega)).2, zIr ((zIm _ _ _ (by omega)).trans ((zIn _ _ _ (by omega)).trans ((zIn _ _ _ (by omega)).trans ((zIn _ _ _ (by omega)).trans ((zIn _ _ _ (by omega)).trans ((zIn _ _ _ (by omega)).trans ((hT90.w9 (w := b) (by omega) (by omega))))))))) (⟨(zrgI (x := (g9 (6 + 9 * b + 8).toNat) + sz) (by omega)), ⟨⟨(hX90.wk (by omega) (by omega)).2, trivial⟩, fun _ _ => (show K none (zsI (zsI (zsI (zsI (zsI (zsI (zsI M90 (129 + 11 + 2 * r.toNat) 2 R) (129 + 11 + 2 * r.toNat) 6 a) (129 + 11 + 2 * r.toNat) 7 b) (129 + 5 + a.toNat) 7 ((g9 (6 + 9 * a + 6).toNat) + 1)) (129 + 5 + a.toNat) 9 ((g9 (6 + 9 * a + 8).toNat) + sz)) (129 + 5 + b.toNat) 7 ((g9 (6 + 9 * b + 6).toNat) + 1)) (129 + 5 + b.toNat) 9 ((g9 (6 + 9 * b + 8).toNat) + sz)) from ?g259l2)⟩⟩)⟩⟩⟩⟩⟩⟩)⟩⟩⟩⟩⟩⟩)⟩)⟩⟩⟩)⟩⟩⟩⟩⟩⟩)⟩⟩⟩⟩⟩⟩)⟩)⟩⟩⟩)⟩)⟩⟩⟩⟩⟩)⟩⟩⟩)⟩)⟩⟩⟩⟩⟩)⟩⟩)⟩⟩)⟩, fun (qc8 : i < m) => ⟨hX90.w, _, hX90.r6, ⟨⟨⟨rfl, rfl⟩, (hX90.row (by omega) (by omega)).2.w.rcv⟩, ⟨rfl, ⟨(hX90.row (by omega) (by omega)).2.w, _, (hX90.row (by omega) (by omega)).2.r9, ⟨(zrgI (x := i * 3) (by omega)), ⟨(zrgI (x := i * 3 + 0) (by omega)), zIr (Int.add_zero _) (⟨zixO (hX90.row (by omega) (by omega)).2.a9 (hX90.row (by omega) (by omega)).2.l9 (i := i * 3) (by omega) (by decide), zIr ((hT90.k0 (r := r) (k := i) (by omega) (by omega) (by omega) (by omega)).trans ((gwi (by omega)))) (⟨trivial, fun (qg9 : zrg (wi)) _ => ⟨zixW hX90.aTwk hX90.lTwk (i := wi) (by omega) (by decide), _, (hX90.wk (by omega) (by omega)).1, ⟨hL90.wVd, _, hL90.d4, ⟨zixO hL90.a_Vd4 hL90.l_Vd4 (i := i) (by omega) (by decide), zIr ((hc9 (by omega))) (⟨⟨⟨rfl, rfl⟩, (hX90.wk (by omega) (by omega)).2.rcv⟩, ⟨rfl, ⟨(hX90.wk (by omega) (by omega)).2, zIr ((hT90.w3 (w := wi) (by omega) (by omega)).trans (hti)) (⟨(zrgI (x := ti + cv) (by omega)), ⟨⟨⟨rfl, rfl⟩, trivial⟩, ⟨rfl, ⟨rfl, ⟨rfl, ⟨trivial, fun (qg10 : zrg (zmax 0 (zmin 20 (ti + cv)))) _ => ⟨⟨(hX90.wk (by omega) (by omega)).2, trivial⟩, fun _ _ => ⟨(zrgI (x := i + 1) (by omega)), (show Φ 18 [some (zo 129), some (zi r), some (zo 664), some (zo (129 + 11 + 2 * r.toNat)), some (zi (i + 1))] [] (zsI M90 (129 + 5 + wi.toNat) 3 (zmax 0 (zmin 20 (ti + cv)))) (0) (0) from ?g259l3)⟩⟩⟩⟩⟩⟩⟩⟩)⟩⟩⟩)⟩⟩⟩⟩)⟩)⟩⟩⟩⟩⟩⟩⟩)⟩
    case g259l1 =>
      have e9 : i = m := (by omega)
      have hgs : g9 (132 + 16 * r + 1).toNat = s := (hn9 _ (fun w w0 w1 => by omega)).trans (gU_s _ _ _)
      have hby : ∀ v : Int, 0 ≤ v → v < 24 → g9 (132 + 16 * v + 5).toNat = g (132 + 16 * v + 5).toNat := fun v v0 v1 => (hn9 _ (fun w w0 w1 => by omega)).trans (gU_n _ (by omega))
      rw [← e9, hg9] at hse
      rcases hse with ⟨z1, z2, z3⟩ | ⟨z1, z2, z3⟩
      · have hst9 : fDel G w r x (132 + 16 * r + 1).toNat = s := (z2 _ (by omega) (fun v v0 v1 => by omega)).trans hgs
        refine hK M90 f9 (hT90.fin hGI9 (by rw [g95]; exact hr) z2 (fun v v0 v1 v2 => (z3 v v0 v1).trans (hby v v0 v1).symm) ?_)
        unfold RFn
        intro z
        exact absurd (hst9.symm.trans z) z1
      · omega
    case g259l2 =>
      have e9 : i = m := (by omega)
      have hgs : g9 (132 + 16 * r + 1).toNat = s := (hn9 _ (fun w w0 w1 => by omega)).trans (gU_s _ _ _)
      have hby : ∀ v : Int, 0 ≤ v → v < 24 → g9 (132 + 16 * v + 5).toNat = g (132 + 16 * v + 5).toNat := fun v v0 v1 => (hn9 _ (fun w w0 w1 => by omega)).trans (gU_n _ (by omega))
      rw [← e9, hg9] at hse
      obtain ⟨⟨p0, pq, qm⟩, ha, hb, hab9, ha4, hb4⟩ := hab (by omega)
      rcases hse with ⟨z1, z2, z3⟩ | ⟨z1, z2, z3⟩
      · omega
      · obtain ⟨k1, k2, k3⟩ := z3 a b R ea eb hR
        have hr24 : 0 ≤ r ∧ r < 24 := ⟨hr.1, by omega⟩
        have t1 := hT90.sr2 hX90 hGI9 hr24 (v := R)
        have i1 : GI (gU g9 (132 + 16 * r + 2) R) := hGI9.u (Or.inr ⟨r, Or.inr ⟨rfl, hr.1⟩⟩)
        have t2 := t1.sf (f := 6) (v := a) (show LTab _ 129 from hX90) i1 hr24 (Or.inl rfl)
        have t3 := t2.sf (f := 7) (v := b) (show LTab _ 129 from hX90) i1 hr24 (Or.inr rfl)
        have t4 := t3.sw7 (w := a) (v := g9 (6 + 9 * a + 6).toNat + 1) (show LTab _ 129 from hX90) i1 ha
        have i4 := i1.u (i := 6 + 9 * a + 6) (v := g9 (6 + 9 * a + 6).toNat + 1) (Or.inl (by omega))
        have t5 := t4.sw9 (w := a) (v := g9 (6 + 9 * a + 8).toNat + sz) (show LTab _ 129 from hX90) i4 ha
        have i5 := i4.u (i := 6 + 9 * a + 8) (v := g9 (6 + 9 * a + 8).toNat + sz) (Or.inl (by omega))
        have t6 := t5.sw7 (w := b) (v := g9 (6 + 9 * b + 6).toNat + 1) (show LTab _ 129 from hX90) i5 hb
        have i6 := i5.u (i := 6 + 9 * b + 6) (v := g9 (6 + 9 * b + 6).toNat + 1) (Or.inl (by omega))
        have t7 := t6.sw9 (w := b) (v := g9 (6 + 9 * b + 8).toNat + sz) (show LTab _ 129 from hX90) i6 hb
        have i7 := i6.u (i := 6 + 9 * b + 8) (v := g9 (6 + 9 * b + 8).toNat + sz) (Or.inl (by omega))
        rw [hsz] at k1
        refine hK _ (f9.tr (((((((Fr_I (hX90.row (i := r) (by omega) (by omega)).2.w (by decide) (by decide) (by unfold STb; omega)).tr (Fr_I (hX90.row (i := r) (by omega) (by omega)).2.w (by decide) (by decide) (by unfold STb; omega))).tr (Fr_I (hX90.row (i := r) (by omega) (by omega)).2.w (by decide) (by decide) (by unfold STb; omega))).tr (Fr_I (hX90.wk (i := a) (by omega) (by omega)).2 (by decide) (by decide) (by unfold STb; omega))).tr (Fr_I (hX90.wk (i := a) (by omega) (by omega)).2 (by decide) (by decide) (by unfold STb; omega))).tr (Fr_I (hX90.wk (i := b) (by omega) (by omega)).2 (by decide) (by decide) (by unfold STb; omega))).tr (Fr_I (hX90.wk (i := b) (by omega) (by omega)).2 (by decide) (by decide) (by unfold STb; omega)))) (t7.fin i7 ?_ k1 (fun v v0 v1 v2 => ?_) ?_)
        · rw [gU_n _ (by omega), gU_n _ (by omega), gU_n _ (by omega), gU_n _ (by omega), gU_n _ (by omega), g95]
          exact hr
        · rw [gU_n _ (by omega), gU_n _ (by omega), gU_n _ (by omega), gU_n _ (by omega), gU_n _ (by omega)]
          exact (k2 v v0 v1 v2).trans (hby v v0 v1).symm
        · have e4 : fDel G w r x 4 = G 4 := by
            rw [k1 4 (by decide) (fun v v0 v1 => by omega), gU_n _ (by omega), gU_n _ (by omega), gU_n _ (by omega), gU_n _ (by omega), gU_n _ (by omega)]
            exact g94
          unfold RFn
          rw [k3, e4]
          intro _
          have x6 : zI (zsI (zsI (zsI (zsI (zsI (zsI (zsI M90 (129 + 11 + 2 * r.toNat) 2 R) (129 + 11 + 2 * r.toNat) 6 a) (129 + 11 + 2 * r.toNat) 7 b) (129 + 5 + a.toNat) 7 ((g9 (6 + 9 * a + 6).toNat) + 1)) (129 + 5 + a.toNat) 9 ((g9 (6 + 9 * a + 8).toNat) + sz)) (129 + 5 + b.toNat) 7 ((g9 (6 + 9 * b + 6).toNat) + 1)) (129 + 5 + b.toNat) 9 ((g9 (6 + 9 * b + 8).toNat) + sz)) (129 + 11 + 2 * r.toNat) 6 = a := by simp (disch := omega) only [zIs, zIm, zIn, zIrf]
          have x7 : zI (zsI (zsI (zsI (zsI (zsI (zsI (zsI M90 (129 + 11 + 2 * r.toNat) 2 R) (129 + 11 + 2 * r.toNat) 6 a) (129 + 11 + 2 * r.toNat) 7 b) (129 + 5 + a.toNat) 7 ((g9 (6 + 9 * a + 6).toNat) + 1)) (129 + 5 + a.toNat) 9 ((g9 (6 + 9 * a + 8).toNat) + sz)) (129 + 5 + b.toNat) 7 ((g9 (6 + 9 * b + 6).toNat) + 1)) (129 + 5 + b.toNat) 9 ((g9 (6 + 9 * b + 8).toNat) + sz)) (129 + 11 + 2 * r.toNat) 7 = b := by simp (disch := omega) only [zIs, zIm, zIn, zIrf]
          rw [x6, x7]
          exact ⟨ha, hb, hab9, ha4, hb4, rfl⟩
    case g259l3 =>
      have hwb9 := hwb (by omega)
      refine ih (by omega) _ (f9.tr (Fr_I (hX90.wk (i := wi) (by omega) (by omega)).2 (by decide) (by decide) (by unfold STb; omega))) ?_
      have h9 := hT90.sw3 hX90 hGI9 (w := wi) (v := zmax 0 (zmin 20 (ti + cv))) hwb9.1
      rw [sT_s h0]
      unfold sTs
      have gwg : (g (132 + 16 * r + (7 + 3 * i + 0)).toNat) = wi := (gn _ (by omega) (by omega)).trans hwi
      rw [gwg, hg9, hti, hcv]
      exact h9
  refine zGoR hΦ [18] 400 (fun hL9 _ hM _ _ => ?_)
  obtain ⟨qL1, _⟩ : zrg r ∧ True := hL9
  refine ⟨hX.w, _, hX.r7, ⟨zixW hX.aTrow hX.lTrow (i := r) (by omega) (by decide), _, (hX.row (by omega) (by omega)).1, ⟨hL.wVd, zIr (e20) (⟨⟨(hX.row (by omega) (by omega)).2.w, trivial⟩, (show Φ 18 [some (zo 129), some (zi r), some (zo 664), some (zo (129 + 11 + 2 * r.toNat)), some (zi 0)] [] (zsI M (129 + 11 + 2 * r.toNat) 1 s) (0) (0) from ?g260l1)⟩)⟩⟩⟩
  case g260l1 =>
    refine loop 0 (by omega) (by omega) _ (Fr_I (hX.row (i := r) (by omega) (by omega)).2.w (by decide) (by decide) (by unfold STb; omega)) ?_
    exact (hT9.x r).sr1 hX hGI ⟨hr.1, by omega⟩
theorem M_X5_settle {l : Launch} (hl : l.stackTraces = false) : zMet l yX5_settle (Cond.code yX5_settle cX5_settle 5 (Option.none : Option Jvm.ClassFile.FieldType) :: zG) rm_X5_settle 0 0 T_X5_settle := met_X5_settle hl (M_X4_workerAt hl) (M_X7_changeTrust hl) (M_X5_reward hl) bd_X5_settle
