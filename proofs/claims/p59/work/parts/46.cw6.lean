def TRx (M : ZM) (t : Nat) (G : Gm) (r : Int) : Prop := TRc M t G ∧ (∀ q : Int, 0 ≤ q → q < G 5 → q ≠ r → RFn M (t + 11 + 2 * q.toNat) G q) ∧ TRn M t G ∧ TRi M t G
theorem TR.x {M : ZM} {t : Nat} {G : Gm} (h : TR M t G) (r : Int) : TRx M t G r := ⟨(TR_iff.mp h).1, fun q q0 q1 _ => h.rfn q0 q1, (TR_iff.mp h).2.2.1, (TR_iff.mp h).2.2.2⟩
theorem TRx.t0 {M : ZM} {t : Nat} {G : Gm} {r0 : Int} (h : TRx M t G r0) : zI M t 0 = G 0 := h.1.1 0 (by decide)
theorem TRx.t3 {M : ZM} {t : Nat} {G : Gm} {r0 : Int} (h : TRx M t G r0) : zI M t 3 = G 3 := h.1.1 3 (by decide)
theorem TRx.t5 {M : ZM} {t : Nat} {G : Gm} {r0 : Int} (h : TRx M t G r0) : zI M t 5 = G 5 := h.1.1 5 (by decide)
theorem TRx.w1 {M : ZM} {t : Nat} {G : Gm} {r0 w : Int} (h : TRx M t G r0) (h0 : 0 ≤ w) (h1 : w < G 4) : zI M (t + 5 + w.toNat) 1 = (G (6 + 9 * w + 1).toNat) := (h.1.2.1 w h0 h1).1
theorem TRx.w2 {M : ZM} {t : Nat} {G : Gm} {r0 w : Int} (h : TRx M t G r0) (h0 : 0 ≤ w) (h1 : w < G 4) : zI M (t + 5 + w.toNat) 2 = (G (6 + 9 * w + 2).toNat) := (h.1.2.1 w h0 h1).2.1
theorem TRx.w3 {M : ZM} {t : Nat} {G : Gm} {r0 w : Int} (h : TRx M t G r0) (h0 : 0 ≤ w) (h1 : w < G 4) : zI M (t + 5 + w.toNat) 3 = (G (6 + 9 * w + 3).toNat) := (h.1.2.1 w h0 h1).2.2.1
theorem TRx.w5 {M : ZM} {t : Nat} {G : Gm} {r0 w : Int} (h : TRx M t G r0) (h0 : 0 ≤ w) (h1 : w < G 4) : zI M (t + 5 + w.toNat) 5 = (G (6 + 9 * w + 4).toNat) := (h.1.2.1 w h0 h1).2.2.2.1
theorem TRx.w6 {M : ZM} {t : Nat} {G : Gm} {r0 w : Int} (h : TRx M t G r0) (h0 : 0 ≤ w) (h1 : w < G 4) : zI M (t + 5 + w.toNat) 6 = (G (6 + 9 * w + 5).toNat) := (h.1.2.1 w h0 h1).2.2.2.2.1
theorem TRx.w7 {M : ZM} {t : Nat} {G : Gm} {r0 w : Int} (h : TRx M t G r0) (h0 : 0 ≤ w) (h1 : w < G 4) : zI M (t + 5 + w.toNat) 7 = (G (6 + 9 * w + 6).toNat) := (h.1.2.1 w h0 h1).2.2.2.2.2.1
theorem TRx.w8 {M : ZM} {t : Nat} {G : Gm} {r0 w : Int} (h : TRx M t G r0) (h0 : 0 ≤ w) (h1 : w < G 4) : zI M (t + 5 + w.toNat) 8 = (G (6 + 9 * w + 7).toNat) := (h.1.2.1 w h0 h1).2.2.2.2.2.2.1
theorem TRx.w9 {M : ZM} {t : Nat} {G : Gm} {r0 w : Int} (h : TRx M t G r0) (h0 : 0 ≤ w) (h1 : w < G 4) : zI M (t + 5 + w.toNat) 9 = (G (6 + 9 * w + 8).toNat) := (h.1.2.1 w h0 h1).2.2.2.2.2.2.2
theorem TRx.w4 {M : ZM} {t : Nat} {G : Gm} {r0 w : Int} (h : TRx M t G r0) (h0 : 0 ≤ w) (h1 : w < G 4) : zI M (t + 5 + w.toNat) 4 = fInWork G w := h.2.2.2 w h0 h1
theorem TRx.r0 {M : ZM} {t : Nat} {G : Gm} {r0 r : Int} (h : TRx M t G r0) (h0 : 0 ≤ r) (h1 : r < G 5) : zI M (t + 11 + 2 * r.toNat) 0 = (G (132 + 16 * r + 0).toNat) := (h.1.2.2.1 r h0 h1).1.1
theorem TRx.r1 {M : ZM} {t : Nat} {G : Gm} {r0 r : Int} (h : TRx M t G r0) (h0 : 0 ≤ r) (h1 : r < G 5) : zI M (t + 11 + 2 * r.toNat) 1 = (G (132 + 16 * r + 1).toNat) := (h.1.2.2.1 r h0 h1).1.2.1
theorem TRx.r2 {M : ZM} {t : Nat} {G : Gm} {r0 r : Int} (h : TRx M t G r0) (h0 : 0 ≤ r) (h1 : r < G 5) : zI M (t + 11 + 2 * r.toNat) 2 = (G (132 + 16 * r + 2).toNat) := (h.1.2.2.1 r h0 h1).1.2.2.1
theorem TRx.r3 {M : ZM} {t : Nat} {G : Gm} {r0 r : Int} (h : TRx M t G r0) (h0 : 0 ≤ r) (h1 : r < G 5) : zI M (t + 11 + 2 * r.toNat) 3 = b2i (decide ((G (132 + 16 * r + 3).toNat) ≠ -1)) := (h.1.2.2.1 r h0 h1).1.2.2.2.1
theorem TRx.r4 {M : ZM} {t : Nat} {G : Gm} {r0 r : Int} (h : TRx M t G r0) (h0 : 0 ≤ r) (h1 : r < G 5) : zI M (t + 11 + 2 * r.toNat) 4 = (G (132 + 16 * r + 3).toNat) := (h.1.2.2.1 r h0 h1).1.2.2.2.2.1
theorem TRx.r5 {M : ZM} {t : Nat} {G : Gm} {r0 r : Int} (h : TRx M t G r0) (h0 : 0 ≤ r) (h1 : r < G 5) : zI M (t + 11 + 2 * r.toNat) 5 = (G (132 + 16 * r + 4).toNat) := (h.1.2.2.1 r h0 h1).1.2.2.2.2.2.1
theorem TRx.r8 {M : ZM} {t : Nat} {G : Gm} {r0 r : Int} (h : TRx M t G r0) (h0 : 0 ≤ r) (h1 : r < G 5) : zI M (t + 11 + 2 * r.toNat) 8 = (G (132 + 16 * r + 6).toNat) := (h.1.2.2.1 r h0 h1).1.2.2.2.2.2.2
theorem TRx.k0 {M : ZM} {t : Nat} {G : Gm} {r0 r k : Int} (h : TRx M t G r0) (h0 : 0 ≤ r) (h1 : r < G 5) (h2 : 0 ≤ k) (h3 : k < (G (132 + 16 * r + 6).toNat)) : zI M (t + 11 + 2 * r.toNat + 1) (k * 3).toNat = (G (132 + 16 * r + (7 + 3 * k + 0)).toNat) := ((h.1.2.2.1 r h0 h1).2 k h2 h3).1
theorem TRx.k1 {M : ZM} {t : Nat} {G : Gm} {r0 r k : Int} (h : TRx M t G r0) (h0 : 0 ≤ r) (h1 : r < G 5) (h2 : 0 ≤ k) (h3 : k < (G (132 + 16 * r + 6).toNat)) : zI M (t + 11 + 2 * r.toNat + 1) (k * 3 + 1).toNat = (G (132 + 16 * r + (7 + 3 * k + 1)).toNat) := ((h.1.2.2.1 r h0 h1).2 k h2 h3).2.1
theorem TRx.k2 {M : ZM} {t : Nat} {G : Gm} {r0 r k : Int} (h : TRx M t G r0) (h0 : 0 ≤ r) (h1 : r < G 5) (h2 : 0 ≤ k) (h3 : k < (G (132 + 16 * r + 6).toNat)) : zI M (t + 11 + 2 * r.toNat + 1) (k * 3 + 2).toNat = (G (132 + 16 * r + (7 + 3 * k + 2)).toNat) := ((h.1.2.2.1 r h0 h1).2 k h2 h3).2.2
theorem TRx.sw1 {M : ZM} {t : Nat} {G : Gm} {r0 w v : Int} (h : TRx M t G r0) (hL : LTab M t) (hG : GI G) (hw : 0 ≤ w ∧ w < 6) : TRx (zsI M (t + 5 + w.toNat) 1 v) t (gU G (6 + 9 * w + 1) v) r0 := by
  have hw6 := hG.1
  have hr24 := hG.2.1
  have e4 : gU G (6 + 9 * w + 1) v 4 = G 4 := gU_n _ (by omega)
  have e5 : gU G (6 + 9 * w + 1) v 5 = G 5 := gU_n _ (by omega)
  refine ⟨h.1.sw1 hG hw, fun q q0 q1 q2 => ?_, fun u u0 u1 => ?_, fun u u0 u1 => ?_⟩
  · rw [e5] at q1
    have d := h.2.1 q q0 q1 q2
    unfold RFn at d ⊢
    rw [gU_n G (k := (132 + 16 * q + 1).toNat) (by omega), gU_n G (k := (132 + 16 * q + 5).toNat) (by omega), e4, zI_In M 1 v (by omega)]
    exact d
  · rw [e4] at u1
    obtain ⟨s, l, a1, a2, a3, a4⟩ := h.2.2.1 u u0 u1
    exact ⟨s, l, a1, zTx_I (hL.wk (i := w) hw.1 hw.2).2 (by decide) (by decide) a2, a3, by rw [gU_n _ (by omega)]; exact a4⟩
  · rw [e4] at u1
    rw [fInWork_cg hG e5 (fun q q0 q1 j j0 j1 => gU_n _ (by omega))]
    have d := h.2.2.2 u u0 u1
    by_cases e : u = w
    · subst e
      exact (zI_Im _ _ _ (by decide)).trans d
    · exact (congrFun (zI_In M 1 v (by omega)) _).trans d
theorem TRx.sw2 {M : ZM} {t : Nat} {G : Gm} {r0 w v : Int} (h : TRx M t G r0) (hL : LTab M t) (hG : GI G) (hw : 0 ≤ w ∧ w < 6) : TRx (zsI M (t + 5 + w.toNat) 2 v) t (gU G (6 + 9 * w + 2) v) r0 := by
  have hw6 := hG.1
  have hr24 := hG.2.1
  have e4 : gU G (6 + 9 * w + 2) v 4 = G 4 := gU_n _ (by omega)
  have e5 : gU G (6 + 9 * w + 2) v 5 = G 5 := gU_n _ (by omega)
  refine ⟨h.1.sw2 hG hw, fun q q0 q1 q2 => ?_, fun u u0 u1 => ?_, fun u u0 u1 => ?_⟩
  · rw [e5] at q1
    have d := h.2.1 q q0 q1 q2
    unfold RFn at d ⊢
    rw [gU_n G (k := (132 + 16 * q + 1).toNat) (by omega), gU_n G (k := (132 + 16 * q + 5).toNat) (by omega), e4, zI_In M 2 v (by omega)]
    exact d
  · rw [e4] at u1
    obtain ⟨s, l, a1, a2, a3, a4⟩ := h.2.2.1 u u0 u1
    exact ⟨s, l, a1, zTx_I (hL.wk (i := w) hw.1 hw.2).2 (by decide) (by decide) a2, a3, by rw [gU_n _ (by omega)]; exact a4⟩
  · rw [e4] at u1
    rw [fInWork_cg hG e5 (fun q q0 q1 j j0 j1 => gU_n _ (by omega))]
    have d := h.2.2.2 u u0 u1
    by_cases e : u = w
    · subst e
      exact (zI_Im _ _ _ (by decide)).trans d
    · exact (congrFun (zI_In M 2 v (by omega)) _).trans d
theorem TRx.sw3 {M : ZM} {t : Nat} {G : Gm} {r0 w v : Int} (h : TRx M t G r0) (hL : LTab M t) (hG : GI G) (hw : 0 ≤ w ∧ w < 6) : TRx (zsI M (t + 5 + w.toNat) 3 v) t (gU G (6 + 9 * w + 3) v) r0 := by
  have hw6 := hG.1
  have hr24 := hG.2.1
  have e4 : gU G (6 + 9 * w + 3) v 4 = G 4 := gU_n _ (by omega)
  have e5 : gU G (6 + 9 * w + 3) v 5 = G 5 := gU_n _ (by omega)
  refine ⟨h.1.sw3 hG hw, fun q q0 q1 q2 => ?_, fun u u0 u1 => ?_, fun u u0 u1 => ?_⟩
  · rw [e5] at q1
    have d := h.2.1 q q0 q1 q2
    unfold RFn at d ⊢
    rw [gU_n G (k := (132 + 16 * q + 1).toNat) (by omega), gU_n G (k := (132 + 16 * q + 5).toNat) (by omega), e4, zI_In M 3 v (by omega)]
    exact d
  · rw [e4] at u1
    obtain ⟨s, l, a1, a2, a3, a4⟩ := h.2.2.1 u u0 u1
    exact ⟨s, l, a1, zTx_I (hL.wk (i := w) hw.1 hw.2).2 (by decide) (by decide) a2, a3, by rw [gU_n _ (by omega)]; exact a4⟩
  · rw [e4] at u1
    rw [fInWork_cg hG e5 (fun q q0 q1 j j0 j1 => gU_n _ (by omega))]
    have d := h.2.2.2 u u0 u1
    by_cases e : u = w
    · subst e
      exact (zI_Im _ _ _ (by decide)).trans d
    · exact (congrFun (zI_In M 3 v (by omega)) _).trans d
theorem TRx.sw5 {M : ZM} {t : Nat} {G : Gm} {r0 w v : Int} (h : TRx M t G r0) (hL : LTab M t) (hG : GI G) (hw : 0 ≤ w ∧ w < 6) : TRx (zsI M (t + 5 + w.toNat) 5 v) t (gU G (6 + 9 * w + 4) v) r0 := by
  have hw6 := hG.1
  have hr24 := hG.2.1
  have e4 : gU G (6 + 9 * w + 4) v 4 = G 4 := gU_n _ (by omega)
  have e5 : gU G (6 + 9 * w + 4) v 5 = G 5 := gU_n _ (by omega)
  refine ⟨h.1.sw5 hG hw, fun q q0 q1 q2 => ?_, fun u u0 u1 => ?_, fun u u0 u1 => ?_⟩
  · rw [e5] at q1
    have d := h.2.1 q q0 q1 q2
    unfold RFn at d ⊢
    rw [gU_n G (k := (132 + 16 * q + 1).toNat) (by omega), gU_n G (k := (132 + 16 * q + 5).toNat) (by omega), e4, zI_In M 5 v (by omega)]
    exact d
  · rw [e4] at u1
    obtain ⟨s, l, a1, a2, a3, a4⟩ := h.2.2.1 u u0 u1
    exact ⟨s, l, a1, zTx_I (hL.wk (i := w) hw.1 hw.2).2 (by decide) (by decide) a2, a3, by rw [gU_n _ (by omega)]; exact a4⟩
  · rw [e4] at u1
    rw [fInWork_cg hG e5 (fun q q0 q1 j j0 j1 => gU_n _ (by omega))]
    have d := h.2.2.2 u u0 u1
    by_cases e : u = w
    · subst e
      exact (zI_Im _ _ _ (by decide)).trans d
    · exact (congrFun (zI_In M 5 v (by omega)) _).trans d
theorem TRx.sw6 {M : ZM} {t : Nat} {G : Gm} {r0 w v : Int} (h : TRx M t G r0) (hL : LTab M t) (hG : GI G) (hw : 0 ≤ w ∧ w < 6) : TRx (zsI M (t + 5 + w.toNat) 6 v) t (gU G (6 + 9 * w + 5) v) r0 := by
  have hw6 := hG.1
  have hr24 := hG.2.1
  have e4 : gU G (6 + 9 * w + 5) v 4 = G 4 := gU_n _ (by omega)
  have e5 : gU G (6 + 9 * w + 5) v 5 = G 5 := gU_n _ (by omega)
  refine ⟨h.1.sw6 hG hw, fun q q0 q1 q2 => ?_, fun u u0 u1 => ?_, fun u u0 u1 => ?_⟩
  · rw [e5] at q1
    have d := h.2.1 q q0 q1 q2
    unfold RFn at d ⊢
    rw [gU_n G (k := (132 + 16 * q + 1).toNat) (by omega), gU_n G (k := (132 + 16 * q + 5).toNat) (by omega), e4, zI_In M 6 v (by omega)]
    exact d
  · rw [e4] at u1
    obtain ⟨s, l, a1, a2, a3, a4⟩ := h.2.2.1 u u0 u1
    exact ⟨s, l, a1, zTx_I (hL.wk (i := w) hw.1 hw.2).2 (by decide) (by decide) a2, a3, by rw [gU_n _ (by omega)]; exact a4⟩
  · rw [e4] at u1
    rw [fInWork_cg hG e5 (fun q q0 q1 j j0 j1 => gU_n _ (by omega))]
    have d := h.2.2.2 u u0 u1
    by_cases e : u = w
    · subst e
      exact (zI_Im _ _ _ (by decide)).trans d
    · exact (congrFun (zI_In M 6 v (by omega)) _).trans d
theorem TRx.sw7 {M : ZM} {t : Nat} {G : Gm} {r0 w v : Int} (h : TRx M t G r0) (hL : LTab M t) (hG : GI G) (hw : 0 ≤ w ∧ w < 6) : TRx (zsI M (t + 5 + w.toNat) 7 v) t (gU G (6 + 9 * w + 6) v) r0 := by
  have hw6 := hG.1
  have hr24 := hG.2.1
  have e4 : gU G (6 + 9 * w + 6) v 4 = G 4 := gU_n _ (by omega)
  have e5 : gU G (6 + 9 * w + 6) v 5 = G 5 := gU_n _ (by omega)
  refine ⟨h.1.sw7 hG hw, fun q q0 q1 q2 => ?_, fun u u0 u1 => ?_, fun u u0 u1 => ?_⟩
  · rw [e5] at q1
    have d := h.2.1 q q0 q1 q2
    unfold RFn at d ⊢
    rw [gU_n G (k := (132 + 16 * q + 1).toNat) (by omega), gU_n G (k := (132 + 16 * q + 5).toNat) (by omega), e4, zI_In M 7 v (by omega)]
    exact d
  · rw [e4] at u1
    obtain ⟨s, l, a1, a2, a3, a4⟩ := h.2.2.1 u u0 u1
    exact ⟨s, l, a1, zTx_I (hL.wk (i := w) hw.1 hw.2).2 (by decide) (by decide) a2, a3, by rw [gU_n _ (by omega)]; exact a4⟩
  · rw [e4] at u1
    rw [fInWork_cg hG e5 (fun q q0 q1 j j0 j1 => gU_n _ (by omega))]
    have d := h.2.2.2 u u0 u1
    by_cases e : u = w
    · subst e
      exact (zI_Im _ _ _ (by decide)).trans d
    · exact (congrFun (zI_In M 7 v (by omega)) _).trans d
theorem TRx.sw8 {M : ZM} {t : Nat} {G : Gm} {r0 w v : Int} (h : TRx M t G r0) (hL : LTab M t) (hG : GI G) (hw : 0 ≤ w ∧ w < 6) : TRx (zsI M (t + 5 + w.toNat) 8 v) t (gU G (6 + 9 * w + 7) v) r0 := by
  have hw6 := hG.1
  have hr24 := hG.2.1
  have e4 : gU G (6 + 9 * w + 7) v 4 = G 4 := gU_n _ (by omega)
  have e5 : gU G (6 + 9 * w + 7) v 5 = G 5 := gU_n _ (by omega)
  refine ⟨h.1.sw8 hG hw, fun q q0 q1 q2 => ?_, fun u u0 u1 => ?_, fun u u0 u1 => ?_⟩
  · rw [e5] at q1
    have d := h.2.1 q q0 q1 q2
    unfold RFn at d ⊢
    rw [gU_n G (k := (132 + 16 * q + 1).toNat) (by omega), gU_n G (k := (132 + 16 * q + 5).toNat) (by omega), e4, zI_In M 8 v (by omega)]
    exact d
  · rw [e4] at u1
    obtain ⟨s, l, a1, a2, a3, a4⟩ := h.2.2.1 u u0 u1
    exact ⟨s, l, a1, zTx_I (hL.wk (i := w) hw.1 hw.2).2 (by decide) (by decide) a2, a3, by rw [gU_n _ (by omega)]; exact a4⟩
  · rw [e4] at u1
    rw [fInWork_cg hG e5 (fun q q0 q1 j j0 j1 => gU_n _ (by omega))]
    have d := h.2.2.2 u u0 u1
    by_cases e : u = w
    · subst e
      exact (zI_Im _ _ _ (by decide)).trans d
    · exact (congrFun (zI_In M 8 v (by omega)) _).trans d
theorem TRx.sw9 {M : ZM} {t : Nat} {G : Gm} {r0 w v : Int} (h : TRx M t G r0) (hL : LTab M t) (hG : GI G) (hw : 0 ≤ w ∧ w < 6) : TRx (zsI M (t + 5 + w.toNat) 9 v) t (gU G (6 + 9 * w + 8) v) r0 := by
  have hw6 := hG.1
  have hr24 := hG.2.1
  have e4 : gU G (6 + 9 * w + 8) v 4 = G 4 := gU_n _ (by omega)
  have e5 : gU G (6 + 9 * w + 8) v 5 = G 5 := gU_n _ (by omega)
  refine ⟨h.1.sw9 hG hw, fun q q0 q1 q2 => ?_, fun u u0 u1 => ?_, fun u u0 u1 => ?_⟩
  · rw [e5] at q1
    have d := h.2.1 q q0 q1 q2
    unfold RFn at d ⊢
    rw [gU_n G (k := (132 + 16 * q + 1).toNat) (by omega), gU_n G (k := (132 + 16 * q + 5).toNat) (by omega), e4, zI_In M 9 v (by omega)]
    exact d
  · rw [e4] at u1
    obtain ⟨s, l, a1, a2, a3, a4⟩ := h.2.2.1 u u0 u1
    exact ⟨s, l, a1, zTx_I (hL.wk (i := w) hw.1 hw.2).2 (by decide) (by decide) a2, a3, by rw [gU_n _ (by omega)]; exact a4⟩
  · rw [e4] at u1
    rw [fInWork_cg hG e5 (fun q q0 q1 j j0 j1 => gU_n _ (by omega))]
    have d := h.2.2.2 u u0 u1
    by_cases e : u = w
    · subst e
      exact (zI_Im _ _ _ (by decide)).trans d
    · exact (congrFun (zI_In M 9 v (by omega)) _).trans d
theorem TRx.sr1 {M : ZM} {t : Nat} {G : Gm} {r v : Int} (h : TRx M t G r) (hL : LTab M t) (hG : GI G) (hr : 0 ≤ r ∧ r < 24) : TRx (zsI M (t + 11 + 2 * r.toNat) 1 v) t (gU G (132 + 16 * r + 1) v) r := by
  have hw6 := hG.1
  have hr24 := hG.2.1
  have e4 : gU G (132 + 16 * r + 1) v 4 = G 4 := gU_n _ (by omega)
  have e5 : gU G (132 + 16 * r + 1) v 5 = G 5 := gU_n _ (by omega)
  refine ⟨h.1.sr1 hG hr, fun q q0 q1 q2 => ?_, fun u u0 u1 => ?_, fun u u0 u1 => ?_⟩
  · rw [e5] at q1
    have d := h.2.1 q q0 q1 q2
    unfold RFn at d ⊢
    rw [gU_n G (k := (132 + 16 * q + 1).toNat) (by omega), gU_n G (k := (132 + 16 * q + 5).toNat) (by omega), e4, zI_In M 1 v (by omega)]
    exact d
  · rw [e4] at u1
    obtain ⟨s, l, a1, a2, a3, a4⟩ := h.2.2.1 u u0 u1
    exact ⟨s, l, a1, zTx_I (hL.row (i := r) hr.1 hr.2).2.w (by decide) (by decide) a2, a3, by rw [gU_n _ (by omega)]; exact a4⟩
  · rw [e4] at u1
    rw [fInWork_cg hG e5 (fun q q0 q1 j j0 j1 => gU_n _ (by omega))]
    exact (congrFun (zI_In M 1 v (by omega)) _).trans (h.2.2.2 u u0 u1)
theorem TRx.sr2 {M : ZM} {t : Nat} {G : Gm} {r v : Int} (h : TRx M t G r) (hL : LTab M t) (hG : GI G) (hr : 0 ≤ r ∧ r < 24) : TRx (zsI M (t + 11 + 2 * r.toNat) 2 v) t (gU G (132 + 16 * r + 2) v) r := by
  have hw6 := hG.1
  have hr24 := hG.2.1
  have e4 : gU G (132 + 16 * r + 2) v 4 = G 4 := gU_n _ (by omega)
  have e5 : gU G (132 + 16 * r + 2) v 5 = G 5 := gU_n _ (by omega)
  refine ⟨h.1.sr2 hG hr, fun q q0 q1 q2 => ?_, fun u u0 u1 => ?_, fun u u0 u1 => ?_⟩
  · rw [e5] at q1
    have d := h.2.1 q q0 q1 q2
    unfold RFn at d ⊢
    rw [gU_n G (k := (132 + 16 * q + 1).toNat) (by omega), gU_n G (k := (132 + 16 * q + 5).toNat) (by omega), e4, zI_In M 2 v (by omega)]
    exact d
  · rw [e4] at u1
    obtain ⟨s, l, a1, a2, a3, a4⟩ := h.2.2.1 u u0 u1
    exact ⟨s, l, a1, zTx_I (hL.row (i := r) hr.1 hr.2).2.w (by decide) (by decide) a2, a3, by rw [gU_n _ (by omega)]; exact a4⟩
  · rw [e4] at u1
    rw [fInWork_cg hG e5 (fun q q0 q1 j j0 j1 => gU_n _ (by omega))]
    exact (congrFun (zI_In M 2 v (by omega)) _).trans (h.2.2.2 u u0 u1)
theorem TRx.sf {M : ZM} {t : Nat} {G : Gm} {r v : Int} {f : Nat} (h : TRx M t G r) (hL : LTab M t) (hG : GI G) (hr : 0 ≤ r ∧ r < 24) (hf : f = 6 ∨ f = 7) : TRx (zsI M (t + 11 + 2 * r.toNat) f v) t G r := by
  have hw6 := hG.1
  have hr24 := hG.2.1
  refine ⟨h.1.row hr hG.1 hG.2.1 (fun j h1 _ => zI_In M _ v (by omega)) (fun k _ _ => rfl) hG.c3 (fun hr5 => ?_), fun q q0 q1 q2 => ?_, fun u u0 u1 => ?_, fun u u0 u1 => ?_⟩
  · obtain ⟨⟨d1, d2, d3, d4, d5, d6, d7⟩, d8⟩ := h.1.2.2.1 r hr.1 hr5
    refine ⟨⟨(zI_Im _ _ _ (by omega)).trans d1, (zI_Im _ _ _ (by omega)).trans d2, (zI_Im _ _ _ (by omega)).trans d3, (zI_Im _ _ _ (by omega)).trans d4, (zI_Im _ _ _ (by omega)).trans d5, (zI_Im _ _ _ (by omega)).trans d6, (zI_Im _ _ _ (by omega)).trans d7⟩, fun k k0 k1 => ?_⟩
    obtain ⟨x1, x2, x3⟩ := d8 k k0 k1
    exact ⟨(congrFun (zI_In M _ v (by omega)) _).trans x1, (congrFun (zI_In M _ v (by omega)) _).trans x2, (congrFun (zI_In M _ v (by omega)) _).trans x3⟩
  · have d := h.2.1 q q0 q1 q2
    unfold RFn at d ⊢
    rw [zI_In M f v (by omega)]
    exact d
  · obtain ⟨s, l, a1, a2, a3, a4⟩ := h.2.2.1 u u0 u1
    exact ⟨s, l, a1, zTx_I (hL.row (i := r) hr.1 hr.2).2.w (by decide) (by decide) a2, a3, a4⟩
  · exact (congrFun (zI_In M f v (by omega)) _).trans (h.2.2.2 u u0 u1)
/-- the numbers that a table shows (all but by whom rows are finished) -/
def SmG (G G' : Gm) : Prop := ∀ j : Nat, j < 516 → (∀ q : Int, 0 ≤ q → q < 24 → j ≠ (132 + 16 * q + 5).toNat) → G' j = G j
theorem SmG.k {G G' : Gm} (h : SmG G G') {r k f : Int} (hr : 0 ≤ r ∧ r < 24) (hk : 0 ≤ k ∧ k < 3) (hf : 0 ≤ f ∧ f < 3) : G' (132 + 16 * r + (7 + 3 * k + f)).toNat = G (132 + 16 * r + (7 + 3 * k + f)).toNat := by
  refine h _ (by omega) (fun q q0 q1 => ?_)
  have h9 : k = 0 ∨ k = 1 ∨ k = 2 := by omega
  have h8 : f = 0 ∨ f = 1 ∨ f = 2 := by omega
  rcases h9 with z | z | z <;> rcases h8 with y | y | y <;> subst z <;> subst y <;> omega
theorem TRx.fin {M : ZM} {t : Nat} {G G' : Gm} {r : Int} (h : TRx M t G r) (hG : GI G) (hr : 0 ≤ r ∧ r < G 5) (hs : SmG G G') (hb : ∀ q : Int, 0 ≤ q → q < 24 → q ≠ r → G' (132 + 16 * q + 5).toNat = G (132 + 16 * q + 5).toNat) (hf : RFn M (t + 11 + 2 * r.toNat) G' r) : TR M t G' := by
  have hw6 := hG.1
  have hr24 := hG.2.1
  have e4 : G' 4 = G 4 := hs 4 (by decide) (fun q q0 q1 => by omega)
  have e5 : G' 5 = G 5 := hs 5 (by decide) (fun q q0 q1 => by omega)
  obtain ⟨⟨c1, c2, c3, c4⟩, f1, n1, i1⟩ := h
  refine TR_iff.mpr ⟨⟨fun k hk => (c1 k hk).trans (hs k (by omega) (fun q q0 q1 => by omega)).symm, fun w w0 w1 => ?_, fun q q0 q1 => ?_, fun a b a0 a1 b0 b1 => ?_⟩, fun q q0 q1 => ?_, fun w w0 w1 => ?_, fun w w0 w1 => ?_⟩
  · rw [e4] at w1
    have d := c2 w w0 w1
    rw [hs (6 + 9 * w + 1).toNat (by omega) (fun q q0 q1 => by omega), hs (6 + 9 * w + 2).toNat (by omega) (fun q q0 q1 => by omega), hs (6 + 9 * w + 3).toNat (by omega) (fun q q0 q1 => by omega), hs (6 + 9 * w + 4).toNat (by omega) (fun q q0 q1 => by omega), hs (6 + 9 * w + 5).toNat (by omega) (fun q q0 q1 => by omega), hs (6 + 9 * w + 6).toNat (by omega) (fun q q0 q1 => by omega), hs (6 + 9 * w + 7).toNat (by omega) (fun q q0 q1 => by omega), hs (6 + 9 * w + 8).toNat (by omega) (fun q q0 q1 => by omega)]
    exact d
  · rw [e5] at q1
    have d := c3 q q0 q1
    have hm := (hG.2.2 q q0 q1).2.1
    have em := hs (132 + 16 * q + 6).toNat (by omega) (fun p p0 p1 => by omega)
    rw [hs (132 + 16 * q + 0).toNat (by omega) (fun p p0 p1 => by omega), hs (132 + 16 * q + 1).toNat (by omega) (fun p p0 p1 => by omega), hs (132 + 16 * q + 2).toNat (by omega) (fun p p0 p1 => by omega), hs (132 + 16 * q + 3).toNat (by omega) (fun p p0 p1 => by omega), hs (132 + 16 * q + 4).toNat (by omega) (fun p p0 p1 => by omega), em]
    refine ⟨d.1, fun k k0 k1 => ?_⟩
    rw [hs.k (by omega) (by omega) (by decide), hs.k (by omega) (by omega) (by decide), hs.k (by omega) (by omega) (by decide)]
    exact d.2 k k0 k1
  · rw [hs (96 + 6 * a + b).toNat (by omega) (fun p p0 p1 => by omega), hs (60 + 6 * a + b).toNat (by omega) (fun p p0 p1 => by omega)]
    exact c4 a b a0 a1 b0 b1
  · rw [e5] at q1
    by_cases e : q = r
    · subst e
      exact hf
    · have d := f1 q q0 q1 e
      unfold RFn at d
      show (G' (132 + 16 * q + 1).toNat) = 2 → _
      rw [hs (132 + 16 * q + 1).toNat (by omega) (fun p p0 p1 => by omega), hb q q0 (by omega) e, e4]
      exact d
  · rw [e4] at w1
    rw [hs (6 + 9 * w + 0).toNat (by omega) (fun q q0 q1 => by omega)]
    exact n1 w w0 w1
  · rw [e4] at w1
    rw [fInWork_cg hG e5 (fun q q0 q1 j j0 j1 => hs j (by omega) (fun p p0 p1 => by omega))]
    exact i1 w w0 w1
