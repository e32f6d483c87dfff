/-- a row's own numbers anew -/
theorem TR.rowc {M M' : ZM} {t : Nat} {G G' : Gm} {r : Int} (h : TR M t G) (hG : GI G) (hr : 0 ≤ r ∧ r < G 5) (hz : ∀ s l, zTx M s l → zTx M' s l) (hR9 : zR M' = zR M) (hM : ∀ j, j ≠ t + 11 + 2 * r.toNat → zI M' j = zI M j) (hn : ∀ j : Nat, ((j : Int) < 132 + 16 * r ∨ 132 + 16 * r + 6 ≤ (j : Int)) → G' j = G j) (h0 : zI M' (t + 11 + 2 * r.toNat) 0 = (G' (132 + 16 * r + 0).toNat)) (h1 : zI M' (t + 11 + 2 * r.toNat) 1 = (G' (132 + 16 * r + 1).toNat)) (h2 : zI M' (t + 11 + 2 * r.toNat) 2 = (G' (132 + 16 * r + 2).toNat)) (h3 : zI M' (t + 11 + 2 * r.toNat) 3 = b2i (decide ((G' (132 + 16 * r + 3).toNat) ≠ -1))) (h4 : zI M' (t + 11 + 2 * r.toNat) 4 = (G' (132 + 16 * r + 3).toNat)) (h5 : zI M' (t + 11 + 2 * r.toNat) 5 = (G' (132 + 16 * r + 4).toNat)) (h8 : zI M' (t + 11 + 2 * r.toNat) 8 = zI M (t + 11 + 2 * r.toNat) 8) (hf : RFn M' (t + 11 + 2 * r.toNat) G' r) : TR M' t G' := by
  have hr5 := hG.2.1
  have hw5 := hG.1
  have hRr := hG.2.2 r hr.1 hr.2
  have hm3 := hRr.2.1
  have e4 : G' 4 = G 4 := hn 4 (by omega)
  have e5 : G' 5 = G 5 := hn 5 (by omega)
  refine h.step (Int.le_of_eq e4.symm) (fun k hk => ?_) (fun w w0 w1 => Or.inl ?_) (fun w w0 w1 => ?_) (fun w w0 w1 => ?_) (fun q q0 q1 => ?_) (fun a b a0 a1 b0 b1 => ?_) <;> (try rw [e4] at w1) <;> (try rw [e5] at q1)
  · rw [hM _ (by omega), hn k (by omega)]
    exact (TR_iff.mp h).1.1 k hk
  · exact ⟨w1, hM _ (by omega), fun n n0 n1 => hn _ (by omega)⟩
  · obtain ⟨s, l, a1, a2, a3, a4⟩ := h.wn w0 w1
    exact ⟨s, l, by rw [hR9]; exact a1, hz _ _ a2, a3, by rw [hn _ (by omega)]; exact a4⟩
  · rw [fInWork_cg hG e5 (fun q q0 q1 j j0 j1 => hn j (by omega)), hM _ (by omega)]
    exact h.w4 w0 w1
  · by_cases e : q = r
    · subst e
      have hl := TK_RwT hm3.1
      have dc := (h.rrc q0 q1).ct hl
      refine Or.inr ⟨RRc.mk (l := TK G q) h0 h1 h2 h3 h4 h5 ⟨h8.trans dc.1, fun k x hx => ?_⟩ (hl.congr q0 (TK_len hRr) (fun j j0 j1 => hn j (by omega))), hf⟩
      rw [hM _ (by omega)]
      exact dc.2 k x hx
    · exact Or.inl ⟨q1, hG.2.2 q q0 q1, fun p hp => hM _ (by omega), fun n n0 n1 => hn _ (by omega)⟩
  · rw [hM _ (by omega), hM _ (by omega), hn _ (by omega), hn _ (by omega)]
    exact ⟨h.st a0 a1 b0 b1, h.to a0 a1 b0 b1⟩
/-- numbers of pairs anew -/
theorem TR.prs {M M' : ZM} {t : Nat} {G G' : Gm} (h : TR M t G) (hG : GI G) (hz : ∀ s l, zTx M s l → zTx M' s l) (hR9 : zR M' = zR M) (hM : ∀ j, j ≠ t + 3 → j ≠ t + 4 → zI M' j = zI M j) (hn : ∀ j : Nat, j < 60 ∨ 132 ≤ j → G' j = G j) (hP : ∀ a b : Int, 0 ≤ a → a < 6 → 0 ≤ b → b < 6 → zI M' (t + 3) (fPix a b).toNat = G' (96 + 6 * a + b).toNat ∧ zI M' (t + 4) (fPix a b).toNat = G' (60 + 6 * a + b).toNat) : TR M' t G' := by
  have hr5 := hG.2.1
  have hw5 := hG.1
  have e4 : G' 4 = G 4 := hn 4 (by omega)
  have e5 : G' 5 = G 5 := hn 5 (by omega)
  refine h.step (Int.le_of_eq e4.symm) (fun k hk => ?_) (fun w w0 w1 => Or.inl ?_) (fun w w0 w1 => ?_) (fun w w0 w1 => ?_) (fun q q0 q1 => Or.inl ?_) hP <;> (try rw [e4] at w1) <;> (try rw [e5] at q1)
  · rw [hM _ (by omega) (by omega), hn k (by omega)]
    exact (TR_iff.mp h).1.1 k hk
  · exact ⟨w1, hM _ (by omega) (by omega), fun n n0 n1 => hn _ (by omega)⟩
  · obtain ⟨s, l, a1, a2, a3, a4⟩ := h.wn w0 w1
    exact ⟨s, l, by rw [hR9]; exact a1, hz _ _ a2, a3, by rw [hn _ (by omega)]; exact a4⟩
  · rw [fInWork_cg hG e5 (fun q q0 q1 j j0 j1 => hn j (by omega)), hM _ (by omega) (by omega)]
    exact h.w4 w0 w1
  · exact ⟨q1, hG.2.2 q q0 q1, fun p hp => hM _ (by omega) (by omega), fun n n0 n1 => hn _ (by omega)⟩
theorem TR.sw3 {M : ZM} {t : Nat} {G : Gm} {w v : Int} (h : TR M t G) (hL : LTab M t) (hG : GI G) (hw : 0 ≤ w ∧ w < 6) : TR (zsI M (t + 5 + w.toNat) 3 v) t (gU G (6 + 9 * w + 3) v) := by
  have hr5 := hG.2.1
  have hw5 := hG.1
  refine ((h.x 0).sw3 hL hG hw).tr (fun q0 q1 => ?_)
  rw [gU_n _ (by omega)] at q1
  have d := h.rfn q0 q1
  unfold RFn at d ⊢
  rw [gU_n G (k := (132 + 16 * 0 + 1 : Int).toNat) (by omega), gU_n G (k := (132 + 16 * 0 + 5 : Int).toNat) (by omega), gU_n G (k := 4) (by omega), zI_In M 3 v (by omega)]
  exact d
theorem TR.sr34 {M : ZM} {t : Nat} {G : Gm} {r x : Int} (h : TR M t G) (hL : LTab M t) (hG : GI G) (hr : 0 ≤ r ∧ r < G 5) (hx : x ≠ -1) : TR (zsI (zsI M (t + 11 + 2 * r.toNat) 3 1) (t + 11 + 2 * r.toNat) 4 x) t (gU G (132 + 16 * r + 3) x) := by
  have hr5 := hG.2.1
  obtain ⟨⟨d0, d1, d2, d3, d4, d5, d6⟩, -⟩ := h.rrc hr.1 hr.2
  have hw := (hL.row (i := r) hr.1 (by omega)).2.w
  refine h.rowc hG hr (fun s l z => zTx_I (M := zsI M (t + 11 + 2 * r.toNat) 3 1) hw (by decide) (by decide) (zTx_I hw (by decide) (by decide) z)) rfl (fun j hj => ?_) (fun j hj => gU_n _ (by omega)) ?_ ?_ ?_ ?_ ?_ ?_ ?_ ?_
  · rw [zI_In _ _ _ hj, zI_In _ _ _ hj]
  · rw [zI_Im _ _ _ (by decide), zI_Im _ _ _ (by decide), gU_n _ (by omega)]; exact d0
  · rw [zI_Im _ _ _ (by decide), zI_Im _ _ _ (by decide), gU_n _ (by omega)]; exact d1
  · rw [zI_Im _ _ _ (by decide), zI_Im _ _ _ (by decide), gU_n _ (by omega)]; exact d2
  · rw [zI_Im _ _ _ (by decide), zI_Is, gU_s, decide_eq_true hx]; rfl
  · rw [zI_Is, gU_s]
  · rw [zI_Im _ _ _ (by decide), zI_Im _ _ _ (by decide), gU_n _ (by omega)]; exact d5
  · rw [zI_Im _ _ _ (by decide), zI_Im _ _ _ (by decide)]
  · have d := h.rfn hr.1 hr.2
    unfold RFn at d ⊢
    rw [gU_n _ (by omega), gU_n G (k := (132 + 16 * r + 5).toNat) (by omega), gU_n G (k := 4) (by omega), zI_Im _ _ _ (by decide), zI_Im _ _ _ (by decide), zI_Im _ _ _ (by decide), zI_Im _ _ _ (by decide)]
    exact d
theorem TR.sr2 {M : ZM} {t : Nat} {G : Gm} {r x : Int} (h : TR M t G) (hL : LTab M t) (hG : GI G) (hr : 0 ≤ r ∧ r < G 5) : TR (zsI M (t + 11 + 2 * r.toNat) 2 x) t (gU G (132 + 16 * r + 2) x) := by
  have hr5 := hG.2.1
  obtain ⟨⟨d0, d1, d2, d3, d4, d5, d6⟩, -⟩ := h.rrc hr.1 hr.2
  have hw := (hL.row (i := r) hr.1 (by omega)).2.w
  refine h.rowc hG hr (fun s l z => zTx_I hw (by decide) (by decide) z) rfl (fun j hj => zI_In _ _ _ hj) (fun j hj => gU_n _ (by omega)) ?_ ?_ ?_ ?_ ?_ ?_ ?_ ?_
  · rw [zI_Im _ _ _ (by decide), gU_n _ (by omega)]; exact d0
  · rw [zI_Im _ _ _ (by decide), gU_n _ (by omega)]; exact d1
  · rw [zI_Is, gU_s]
  · rw [zI_Im _ _ _ (by decide), gU_n _ (by omega)]; exact d3
  · rw [zI_Im _ _ _ (by decide), gU_n _ (by omega)]; exact d4
  · rw [zI_Im _ _ _ (by decide), gU_n _ (by omega)]; exact d5
  · rw [zI_Im _ _ _ (by decide)]
  · have d := h.rfn hr.1 hr.2
    unfold RFn at d ⊢
    rw [gU_n _ (by omega), gU_n G (k := (132 + 16 * r + 5).toNat) (by omega), gU_n G (k := 4) (by omega), zI_Im _ _ _ (by decide), zI_Im _ _ _ (by decide)]
    exact d
theorem fPix_c (a b : Int) : fPix a b = fPix b a := by unfold fPix; split <;> split <;> omega
theorem fPix_i {a b p q : Int} (ha : 0 ≤ a ∧ a < 6) (hb : 0 ≤ b ∧ b < 6) (hp : 0 ≤ p ∧ p < 6) (hq : 0 ≤ q ∧ q < 6) (h : (fPix a b).toNat = (fPix p q).toNat) : (a = p ∧ b = q) ∨ (a = q ∧ b = p) := by
  have h1 := fPix_r ha.1 ha.2 hb.1 hb.2
  have h2 := fPix_r hp.1 hp.2 hq.1 hq.2
  have h3 : fPix a b = fPix p q := by omega
  unfold fPix at h3
  split at h3 <;> split at h3 <;> omega
theorem TR.strk {M : ZM} {t : Nat} {G : Gm} {a b p q : Int} (h : TR M t G) (hL : LTab M t) (hG : GI G) (hpq : 0 ≤ p ∧ p < q ∧ q < 6) (hab : (a = p ∧ b = q) ∨ (a = q ∧ b = p)) : TR (zsI M (t + 3) (fPix a b).toNat ((G (96 + 6 * a + b).toNat) + 1)) t (fStrk G p q) := by
  have e1 : fPix a b = fPix q p := by
    rcases hab with ⟨z1, z2⟩ | ⟨z1, z2⟩
    · rw [z1, z2, fPix_c]
    · rw [z1, z2]
  have e2 : (G (96 + 6 * a + b).toNat) = (G (96 + 6 * q + p).toNat) := by
    have x1 := h.st (a := a) (b := b) (by omega) (by omega) (by omega) (by omega)
    have x2 := h.st (a := q) (b := p) (by omega) (by omega) (by omega) (by omega)
    rw [e1] at x1
    exact x1.symm.trans x2
  rw [e1, e2]
  refine h.prs hG (fun s l z => zTx_I hL.aTst (by decide) (by decide) z) rfl (fun j j0 j1 => zI_In _ _ _ j0) (fun j hj => ?_) (fun c d c0 c1 d0 d1 => ?_)
  · unfold fStrk
    rw [gU_n _ (by omega), gU_n _ (by omega)]
  · have x := h.st c0 c1 d0 d1
    have y := h.to c0 c1 d0 d1
    refine ⟨?_, ?_⟩
    · by_cases z : (fPix c d).toNat = (fPix q p).toNat
      · rw [z, zI_Is]
        unfold fStrk
        rcases fPix_i ⟨c0, c1⟩ ⟨d0, d1⟩ (by omega) (by omega) z with ⟨z1, z2⟩ | ⟨z1, z2⟩
        · rw [z1, z2, gU_n _ (by omega), gU_s]
        · rw [z1, z2, gU_s]
      · rw [zI_Im _ _ _ z, x]
        unfold fStrk
        have n1 : ¬ (c = q ∧ d = p) := fun k => z (by rw [k.1, k.2])
        have n2 : ¬ (c = p ∧ d = q) := fun k => z (by rw [k.1, k.2, fPix_c])
        rw [gU_n _ (by omega), gU_n _ (by omega)]
    · rw [zI_In _ _ _ (by omega), y]
      unfold fStrk
      rw [gU_n _ (by omega), gU_n _ (by omega)]
def T_X5_examine : ZTf := fun av M K KX => ∃ (t : Nat) (G : Gm) (r x p q : Int), av = [zo t, zo (t + 11 + 2 * r.toNat), zi x] ∧ (LTab M t) ∧ (TR M t G) ∧ (GI G) ∧ (GV G) ∧ (GX G) ∧ (0 ≤ r ∧ r < G 5) ∧ (0 ≤ x ∧ x ≤ 99) ∧ ((G (132 + 16 * r + 1).toNat) = 2) ∧ (BYp G r p q) ∧  (∀ M' : ZM, (Fr (STb t) M M') → (TR M' t (F_audit G r x p q)) → K (some (zi (b2i (fAgree G (G (132 + 16 * r + 2).toNat) x)))) M')
set_option maxRecDepth 100000 in
set_option maxHeartbeats 4000000 in
theorem bd_X5_examine : zBd (cd_X5_examine T_X4_workerAt T_X4_resultAt T_X5_agree T_X7_changeTrust T_X5_pairIndex) 4 0 0 T_X5_examine := by
  rintro av M K KX hA0 hM ⟨t, G, r, x, p, q, rfl, hX, hT, hG, hV9, hX9, hr, hx, hst, hBy, hK⟩
  obtain ⟨hw5, hr5, hR5⟩ := id hG
  obtain ⟨hv0, hv1, hv2, hv3, hvW, hvR, hvS⟩ := id hV9
  have hRr := hR5 r hr.1 hr.2
  have hm3 := hRr.2.1
  have hr24 := hRr.1
  unfold BYp at hBy
  obtain ⟨m, hm⟩ : ∃ z, (G (132 + 16 * r + 6).toNat) = z := ⟨_, rfl⟩
  obtain ⟨R, hR⟩ : ∃ z, (G (132 + 16 * r + 2).toNat) = z := ⟨_, rfl⟩
  have hRb : -1 ≤ R ∧ R ≤ 99 := by rw [← hR]; exact (hvR r hr.1 hr.2).2.2.1
  refine ⟨rfl, fun Φ hΦ => ?_⟩
  have loop := zdown (n := m) (P := fun i => ∀ M90 : ZM, Fr (STb t) M M90 → TR M90 t (fAudT G r x i) → Φ 2 [some (zo t), some (zo (t + 11 + 2 * r.toNat)), some (zi x), some (zi i)] [] M90 0 0) (fun i h0 h1 ih M90 f9 hT90 => by
    have hX90 := hX.fr f9
    have hn9 := fAudT_n (x := x) hRr i h0 (by omega)
    obtain ⟨wi, hwi⟩ : ∃ z, (G (132 + 16 * r + (7 + 3 * i + 0)).toNat) = z := ⟨_, rfl⟩
    obtain ⟨si, hsi⟩ : ∃ z, (G (132 + 16 * r + (7 + 3 * i + 1)).toNat) = z := ⟨_, rfl⟩
    have hwb : i < m → (0 ≤ wi ∧ wi < 6) ∧ wi < G 4 := fun z => by
      have a1 := hRr.2.2 i h0 (by omega)
      have a2 := ((hX9.1 r hr.1 hr.2).1 i h0 (by omega)).1
      rw [hwi] at a1 a2
      exact ⟨a1, a2⟩
    have hsb : i < m → -1 ≤ si ∧ si ≤ 99 := fun z => by
      have a1 := ((hvR r hr.1 hr.2).2.2.2.2.2 i h0 (by omega)).1
      rw [hsi] at a1
      exact a1
    have htb : i < m → 0 ≤ (fAudT G r x i) (6 + 9 * wi + 3).toNat ∧ (fAudT G r x i) (6 + 9 * wi + 3).toNat ≤ 20 := fun z => by
      have h9 := hwb z
      exact fAudT_b hRr i h0 (by omega) wi h9.1.1 h9.1.2 (hvW wi h9.1.1 h9.2).2.2.1
    have hGI9 : GI (fAudT G r x i) := hG.cg (hn9 4 (by omega)) (hn9 5 (by omega)) (fun q q0 q1 j j0 j1 => Or.inr (hn9 j (by omega)))
    have hag : ∀ a b, fAgree (fAudT G r x i) a b = fAgree G a b := fun a b => by unfold fAgree; rw [hn9 0 (by omega)]
    obtain ⟨g9, hg9⟩ : ∃ z, fAudT G r x i = z := ⟨_, rfl⟩
    rw [hg9] at hT90 hGI9 hn9 htb hag
    have g94 : g9 4 = G 4 := hn9 4 (by omega)
    have g95 : g9 5 = G 5 := hn9 5 (by omega)
    have gm9 : (g9 (132 + 16 * r + 6).toNat) = m := (hn9 _ (by omega)).trans hm
    have gR9 : (g9 (132 + 16 * r + 2).toNat) = R := (hn9 _ (by omega)).trans hR
    have gwi : i < m → (g9 (132 + 16 * r + (7 + 3 * i + 0)).toNat) = wi := fun z => (hn9 _ (by omega)).trans hwi
    have gsi : i < m → (g9 (132 + 16 * r + (7 + 3 * i + 1)).toNat) = si := fun z => (hn9 _ (by omega)).trans hsi
    obtain ⟨ti, hti⟩ : ∃ z, (g9 (6 + 9 * wi + 3).toNat) = z := ⟨_, rfl⟩
    rw [hti] at htb
    have hTA := hT90.sr34 (x := x) hX90 hGI9 ⟨hr.1, by omega⟩ (by omega)
    have hGA : GI (gU g9 (132 + 16 * r + 3) x) := hGI9.cg (gU_n _ (by omega)) (gU_n _ (by omega)) (fun q q0 q1 j j0 j1 => Or.inr (gU_n _ (by omega)))
    have hagA : fAgree (gU g9 (132 + 16 * r + 3) x) R x = fAgree G R x := by rw [← hag R x]; unfold fAgree; rw [gU_n _ (by omega)]
    have d9 := hT90.rfn hr.1 (by omega)
    unfold RFn at d9
    have d8 := d9 ((hn9 _ (by omega)).trans hst)
    rw [hn9 (132 + 16 * r + 5).toNat (by omega), hBy.2.2.2] at d8
    obtain ⟨f1, hf1⟩ : ∃ z, zI M90 (t + 11 + 2 * r.toNat) 6 = z := ⟨_, rfl⟩
    obtain ⟨f2, hf2⟩ : ∃ z, zI M90 (t + 11 + 2 * r.toNat) 7 = z := ⟨_, rfl⟩
    rw [hf1, hf2] at d8
    have hff : (f1 = p ∧ f2 = q) ∨ (f1 = q ∧ f2 = p) := by
      have hbb : ∀ k : Int, 0 ≤ k → k < 6 → ((k = p ∨ k = q) ↔ (k = f1 ∨ k = f2)) := fun k k0 k1 => by
        have x1 := hasB_2 (a := p) (b := q) (k := k) (by omega) (by omega) ⟨k0, k1⟩
        have x2 := hasB_2 (a := f1) (b := f2) (k := k) (by omega) (by omega) ⟨k0, k1⟩
        rw [d8.2.2.2.2.2, x2] at x1
        rw [← decide_eq_true_eq (p := k = p), ← decide_eq_true_eq (p := k = q), ← decide_eq_true_eq (p := k = f1), ← decide_eq_true_eq (p := k = f2), ← Bool.or_eq_true, ← Bool.or_eq_true, x1]
      have y1 := hbb p (by omega) (by omega)
      have y2 := hbb q (by omega) (by omega)
      omega
    have hsk := hvS f1 f2 (by omega) (by omega) (by omega) (by omega)
    have hpx := fPix_r (a := f1) (b := f2) (by omega) (by omega) (by omega) (by omega)
    have gsk : (g9 (96 + 6 * f1 + f2).toNat) = (G (96 + 6 * f1 + f2).toNat) := hn9 _ (by omega)
    clear hvS
    refine zGoR hΦ [2] 400 (fun hL9 _ hM _ _ => ?_)
    obtain ⟨qL1, qL2, _⟩ : zrg x ∧ zrg i ∧ True := hL9
    refine ⟨(hX90.row (by omega) (by omega)).2.w, zIr ((hT90.r8 (r := r) (by omega) (by omega)).trans (gm9)) (⟨fun (qc1 : i ≥ m) => ⟨⟨(hX90.row (by omega) (by omega)).2.w, (Or.inr rfl)⟩, ⟨⟨(hX90.row (by omega) (by omega)).2.w, trivial⟩, ⟨(hX90.row (by omega) (by omega)).2.w, zIr ((zIm _ _ _ (by omega)).trans ((zIm _ _ _ (by omega)).trans ((hT90.r2 (r := r) (by omega) (by omega)).trans (gR9)))) (⟨⟨⟨rfl, rfl⟩, hX90.w.rcv⟩, ⟨t, (gU g9 (132 + 16 * r + 3) x), R, x, rfl, hX90, hTA, hGA, (by omega), (by omega), fun (qg2 : zrg (b2i (fAgree (gU g9 (132 + 16 * r + 3) x) R x))) qm3 => ⟨fun h => (have qc4 : (fAgree (gU g9 (132 + 16 * r + 3) x) R x) = false := b2i_e0 h; ⟨hX90.w, _, hX90.r8, ⟨(hX90.row (by omega) (by omega)).2.w, zIr ((zIm _ _ _ (by omega)).trans ((zIm _ _ _ (by omega)).trans (hf1))) (⟨(hX90.row (by omega) (by omega)).2.w, zIr ((zIm _ _ _ (by omega)).trans ((zIm _ _ _ (by omega)).trans (hf2))) (⟨⟨⟨rfl, rfl⟩, trivial⟩, ⟨f1, f2, rfl, (by omega), (by omega), fun (qg5 : zrg (fPix f1 f2)) qm6 => ⟨⟨rfl, rfl⟩, ⟨zixO hX90.aTst hX90.lTst (i := fPix f1 f2) (by omega) (by decide), zIr ((zIn _ _ _ (by omega)).trans ((zIn _ _ _ (by omega)).trans ((hT90.st (a := f1) (b := f2) (by omega) (by omega) (by omega) (by omega))))) (⟨(zrgI (x := (g9 (96 + 6 * f1 + f2).toNat) + 1) (by omega)), ⟨⟨zixW hX90.aTst hX90.lTst (i := fPix f1 f2) (by omega) (by decide), trivial⟩, ⟨⟨(hX90.row (by omega) (by omega)).2.w, trivial⟩, ⟨(Or.inl rfl), (show K (some (zi 0)) (zsI (zsI (zsI (zsI M90 (t + 11 + 2 * r.toNat) 3 1) (t + 11 + 2 * r.toNat) 4 x) (t + 3) (fPix f1 f2).toNat ((g9 (96 + 6 * f1 + f2).toNat) + 1)) (t + 11 + 2 * r.toNat) 2 x) from ?g267l1)⟩⟩⟩⟩)⟩⟩⟩⟩)⟩)⟩⟩), fun h => (have qc7 : (fAgree (gU g9 (132 + 16 * r + 3) x) R x) = true := b2i_n0 h; ⟨(Or.inr rfl), (show K (some (zi 1)) (zsI (zsI M90 (t + 11 + 2 * r.toNat) 3 1) (t + 11 + 2 * r.toNat) 4 x) from ?g267l2)⟩)⟩⟩⟩)⟩⟩⟩, fun (qc8 : i < m) => ⟨hX90.w, _, hX90.r6, ⟨⟨⟨rfl, rfl⟩, (hX90.row (by omega) (by omega)).2.w.rcv⟩, ⟨rfl, ⟨(hX90.row (by omega) (by omega)).2.w, _, (hX90.row (by omega) (by omega)).2.r9, ⟨(zrgI (x := i * 3) (by omega)), ⟨(zrgI (x := i * 3 + 0) (by omega)), zIr (Int.add_zero _) (⟨zixO (hX90.row (by omega) (by omega)).2.a9 (hX90.row (by omega) (by omega)).2.l9 (i := i * 3) (by omega) (by decide), zIr ((hT90.k0 (r := r) (k := i) (by omega) (by omega) (by omega) (by omega)).trans ((gwi (by omega)))) (⟨trivial, fun (qg9 : zrg (wi)) _ => ⟨zixW hX90.aTwk hX90.lTwk (i := wi) (by omega) (by decide), _, (hX90.wk (by omega) (by omega)).1, ⟨⟨⟨rfl, rfl⟩, (hX90.row (by omega) (by omega)).2.w.rcv⟩, ⟨rfl, ⟨(hX90.row (by omega) (by omega)).2.w, _, (hX90.row (by omega) (by omega)).2.r9, ⟨(zrgI (x := i * 3) (by omega)), ⟨(zrgI (x := i * 3 + 1) (by omega)), ⟨zixO (hX90.row (by omega) (by omega)).2.a9 (hX90.row (by omega) (by omega)).2.l9 (i := i * 3 + 1) (by omega) (by decide), zIr ((hT90.k1 (r := r) (k := i) (by omega) (by omega) (by omega) (by omega)).trans ((gsi (by omega)))) (⟨trivial, fun (qg10 : zrg (si)) _ => ⟨⟨⟨rfl, rfl⟩, hX90.w.rcv⟩, ⟨t, g9, si, x, rfl, hX90, hT90, hGI9, (by omega), (by omega), fun (qg11 : zrg (b2i (fAgree g9 si x))) qm12 => ⟨fun h => (have qc13 : (fAgree g9 si x) = false := b2i_e0 h; ⟨⟨⟨rfl, rfl⟩, (hX90.wk (by omega) (by omega)).2.rcv⟩, ⟨rfl, ⟨(hX90.wk (by omega) (by omega)).2, zIr ((hT90.w3 (w := wi) (by omega) (by omega)).trans (hti)) (⟨(zrgI (x := ti + (-4)) (by omega)), ⟨⟨⟨rfl, rfl⟩, trivial⟩, ⟨rfl, ⟨rfl, ⟨rfl, ⟨trivial, fun (qg14 : zrg (zmax 0 (zmin 20 (ti + (-4))))) _ => ⟨⟨(hX90.wk (by omega) (by omega)).2, trivial⟩, fun _ _ => ⟨(zrgI (x := i + 1) (by omega)), (show Φ 2 [some (zo t), some (zo (t + 11 + 2 * r.toNat)), some (zi x), some (zi (i + 1))] [] (zsI M90 (t + 5 + wi.toNat) 3 (zmax 0 (zmin 20 (ti + (-4))))) (0) (0) from ?g267l3)⟩⟩⟩⟩⟩⟩⟩⟩)⟩⟩⟩), fun h => (have qc16 : (fAgree g9 si x) = true := b2i_n0 h; ⟨⟨⟨rfl, rfl⟩, (hX90.wk (by omega) (by omega)).2.rcv⟩, ⟨rfl, ⟨(hX90.wk (by omega) (by omega)).2, zIr ((hT90.w3 (w := wi) (by omega) (by omega)).trans (hti)) (⟨(zrgI (x := ti + 2) (by omega)), ⟨⟨⟨rfl, rfl⟩, trivial⟩, ⟨rfl, ⟨rfl, ⟨rfl, ⟨trivial, fun (qg17 : zrg (zmax 0 (zmin 20 (ti + 2)))) _ => ⟨⟨(hX90.wk (by omega) (by omega)).2, trivial⟩, fun _ _ => ⟨(zrgI (x := i + 1) (by omega)), (show Φ 2 [some (zo t), some (zo (t + 11 + 2 * r.toNat)), some (zi x), some (zi (i + 1))] [] (zsI M90 (t + 5 + wi.toNat) 3 (zmax 0 (zmin 20 (ti + 2)))) (0) (0) from ?g267l4)⟩⟩⟩⟩⟩⟩⟩⟩)⟩⟩⟩)⟩⟩⟩⟩)⟩⟩⟩⟩⟩⟩⟩⟩)⟩)⟩⟩⟩⟩⟩⟩⟩)⟩
    case g267l1 =>
      have e9 : i = m := (by omega)
      have hq9 : fAgree G (G (132 + 16 * r + 2).toNat) x = false := by rw [hR, ← hagA]; exact qc4
      have hFa : F_audit G r x p q = gU (fStrk (gU g9 (132 + 16 * r + 3) x) p q) (132 + 16 * r + 2) x := by
        unfold F_audit
        rw [hq9, hm, ← e9, hg9]
        rfl
      have t1 := hTA.strk (p := p) (q := q) (a := f1) (b := f2) (show LTab _ t from hX90) hGA (by omega) hff
      have hGB : GI (fStrk (gU g9 (132 + 16 * r + 3) x) p q) := by
        unfold fStrk
        exact hGA.cg ((gU_n _ (by omega)).trans (gU_n _ (by omega))) ((gU_n _ (by omega)).trans (gU_n _ (by omega))) (fun v v0 v1 j j0 j1 => Or.inr ((gU_n _ (by omega)).trans (gU_n _ (by omega))))
      have e5 : fStrk (gU g9 (132 + 16 * r + 3) x) p q 5 = G 5 := by
        unfold fStrk
        rw [gU_n _ (by omega), gU_n _ (by omega), gU_n _ (by omega)]
        exact g95
      rw [gU_n g9 (k := (96 + 6 * f1 + f2).toNat) (by omega)] at t1
      have t2 := t1.sr2 (r := r) (x := x) (show LTab _ t from hX90) hGB (by rw [e5]; exact hr)
      have h9 := hK _ (f9.tr ((((Fr_I (hX90.row (i := r) (by omega) (by omega)).2.w (by decide) (by decide) (by unfold STb; omega)).tr (Fr_I (hX90.row (i := r) (by omega) (by omega)).2.w (by decide) (by decide) (by unfold STb; omega))).tr (Fr_I hX90.aTst (by decide) (by decide) (by unfold STb; omega))).tr (Fr_I (hX90.row (i := r) (by omega) (by omega)).2.w (by decide) (by decide) (by unfold STb; omega)))) (by rw [hFa]; exact t2)
      rw [hq9] at h9
      exact h9
    case g267l2 =>
      have e9 : i = m := (by omega)
      have hq9 : fAgree G (G (132 + 16 * r + 2).toNat) x = true := by rw [hR, ← hagA]; exact qc7
      have hFa : F_audit G r x p q = gU g9 (132 + 16 * r + 3) x := by
        unfold F_audit
        rw [hq9, hm, ← e9, hg9]
        rfl
      have h9 := hK _ (f9.tr ((Fr_I (hX90.row (i := r) (by omega) (by omega)).2.w (by decide) (by decide) (by unfold STb; omega)).tr (Fr_I (hX90.row (i := r) (by omega) (by omega)).2.w (by decide) (by decide) (by unfold STb; omega)))) (by rw [hFa]; exact hTA)
      rw [hq9] at h9
      exact h9
    case g267l3 =>
      have hwb9 := hwb (by omega)
      have hq9 : fAgree G (G (132 + 16 * r + (7 + 3 * i + 1)).toNat) x = false := by rw [hsi, ← hag]; exact qc13
      refine ih (by omega) _ (f9.tr (Fr_I (hX90.wk (i := wi) (by omega) (by omega)).2 (by decide) (by decide) (by unfold STb; omega))) ?_
      have h9 := hT90.sw3 hX90 hGI9 (w := wi) (v := zmax 0 (zmin 20 (ti + -4))) hwb9.1
      rw [show fAudT G r x (i + 1) = fAudS G r x i (fAudT G r x i) from foldI_s h0]
      unfold fAudS
      rw [hwi, hg9, hti, hq9]
      exact h9
    case g267l4 =>
      have hwb9 := hwb (by omega)
      have hq9 : fAgree G (G (132 + 16 * r + (7 + 3 * i + 1)).toNat) x = true := by rw [hsi, ← hag]; exact qc16
      refine ih (by omega) _ (f9.tr (Fr_I (hX90.wk (i := wi) (by omega) (by omega)).2 (by decide) (by decide) (by unfold STb; omega))) ?_
      have h9 := hT90.sw3 hX90 hGI9 (w := wi) (v := zmax 0 (zmin 20 (ti + 2))) hwb9.1
      rw [show fAudT G r x (i + 1) = fAudS G r x i (fAudT G r x i) from foldI_s h0]
      unfold fAudS
      rw [hwi, hg9, hti, hq9]
      exact h9
    done)
  refine zGoR hΦ [2] 400 (fun hL9 _ hM _ _ => ?_)
  obtain ⟨qL1, _⟩ : zrg x ∧ True := hL9
  refine (show Φ 2 [some (zo t), some (zo (t + 11 + 2 * r.toNat)), some (zi x), some (zi 0)] [] M (0) (0) from ?g268l1)
  case g268l1 => exact loop 0 (by omega) (by omega) M Fr.rf hT
theorem M_X5_examine {l : Launch} (hl : l.stackTraces = false) : zMet l yX5_examine (Cond.code yX5_examine cX5_examine 4 (Option.some Jvm.ClassFile.FieldType.boolean) :: zG) rm_X5_examine 0 0 T_X5_examine := met_X5_examine hl (M_X4_workerAt hl) (M_X4_resultAt hl) (M_X5_agree hl) (M_X7_changeTrust hl) (M_X5_pairIndex hl) bd_X5_examine
