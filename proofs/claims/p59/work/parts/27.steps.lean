def WRc (M : ZM) (j : Nat) (G : Gm) (w : Int) : Prop := zI M j 1 = (G (6 + 9 * w + 1).toNat) ∧ zI M j 2 = (G (6 + 9 * w + 2).toNat) ∧ zI M j 3 = (G (6 + 9 * w + 3).toNat) ∧ zI M j 5 = (G (6 + 9 * w + 4).toNat) ∧ zI M j 6 = (G (6 + 9 * w + 5).toNat) ∧ zI M j 7 = (G (6 + 9 * w + 6).toNat) ∧ zI M j 8 = (G (6 + 9 * w + 7).toNat) ∧ zI M j 9 = (G (6 + 9 * w + 8).toNat)
def RRc (M : ZM) (j : Nat) (G : Gm) (r : Int) : Prop := (zI M j 0 = (G (132 + 16 * r + 0).toNat) ∧ zI M j 1 = (G (132 + 16 * r + 1).toNat) ∧ zI M j 2 = (G (132 + 16 * r + 2).toNat) ∧ zI M j 3 = b2i (decide ((G (132 + 16 * r + 3).toNat) ≠ -1)) ∧ zI M j 4 = (G (132 + 16 * r + 3).toNat) ∧ zI M j 5 = (G (132 + 16 * r + 4).toNat) ∧ zI M j 8 = (G (132 + 16 * r + 6).toNat)) ∧ ∀ k : Int, 0 ≤ k → k < (G (132 + 16 * r + 6).toNat) → zI M (j + 1) (k * 3).toNat = (G (132 + 16 * r + (7 + 3 * k + 0)).toNat) ∧ zI M (j + 1) (k * 3 + 1).toNat = (G (132 + 16 * r + (7 + 3 * k + 1)).toNat) ∧ zI M (j + 1) (k * 3 + 2).toNat = (G (132 + 16 * r + (7 + 3 * k + 2)).toNat)
theorem TRc.row {M M' : ZM} {t : Nat} {G G' : Gm} {r : Int} (h : TRc M t G) (hr : 0 ≤ r ∧ r < 24) (hG4 : 0 ≤ G 4 ∧ G 4 ≤ 6) (hG5 : 0 ≤ G 5 ∧ G 5 ≤ 24) (hM : ∀ j, (j < t + 11 + 2 * r.toNat ∨ t + 11 + 2 * r.toNat + 2 ≤ j) → j < t + 59 → zI M' j = zI M j) (hG : ∀ k : Nat, (k < 132 + 16 * r.toNat ∨ 132 + 16 * r.toNat + 16 ≤ k) → k < 516 → G' k = G k) (hM3 : ∀ r' : Int, 0 ≤ r' → r' < G 5 → (G (132 + 16 * r' + 6).toNat) ≤ 3) (hrow : r < G 5 → RRc M' (t + 11 + 2 * r.toNat) G' r) : TRc M' t G' := by
  obtain ⟨c1, c2, c3, c4⟩ := h
  have e4 : G' 4 = G 4 := hG 4 (by omega) (by omega)
  have e5 : G' 5 = G 5 := hG 5 (by omega) (by omega)
  refine ⟨fun k hk => ?_, fun w g0 g1 => ?_, fun r' g0 g1 => ?_, fun a b g0 g1 g2 g3 => ?_⟩
  · rw [hM t (by omega) (by omega), hG k (by omega) (by omega)]; exact c1 k hk
  · rw [e4] at g1
    have d := c2 w g0 g1
    rw [hM (t + 5 + w.toNat) (by omega) (by omega)]
    rw [hG (6 + 9 * w + 1).toNat (by omega) (by omega), hG (6 + 9 * w + 2).toNat (by omega) (by omega), hG (6 + 9 * w + 3).toNat (by omega) (by omega), hG (6 + 9 * w + 4).toNat (by omega) (by omega), hG (6 + 9 * w + 5).toNat (by omega) (by omega), hG (6 + 9 * w + 6).toNat (by omega) (by omega), hG (6 + 9 * w + 7).toNat (by omega) (by omega), hG (6 + 9 * w + 8).toNat (by omega) (by omega)]
    exact d
  · rw [e5] at g1
    by_cases e : r' = r
    · subst e
      exact hrow g1
    · have d := c3 r' g0 g1
      rw [hM (t + 11 + 2 * r'.toNat) (by omega) (by omega), hM (t + 11 + 2 * r'.toNat + 1) (by omega) (by omega)]
      rw [hG (132 + 16 * r' + 0).toNat (by omega) (by omega), hG (132 + 16 * r' + 1).toNat (by omega) (by omega), hG (132 + 16 * r' + 2).toNat (by omega) (by omega), hG (132 + 16 * r' + 3).toNat (by omega) (by omega), hG (132 + 16 * r' + 4).toNat (by omega) (by omega), hG (132 + 16 * r' + 6).toNat (by omega) (by omega)]
      refine ⟨d.1, fun k k0 k1 => ?_⟩
      by_cases k3 : k < 3
      · rw [hG (132 + 16 * r' + (7 + 3 * k + 0)).toNat (by omega) (by omega), hG (132 + 16 * r' + (7 + 3 * k + 1)).toNat (by omega) (by omega), hG (132 + 16 * r' + (7 + 3 * k + 2)).toNat (by omega) (by omega)]
        exact d.2 k k0 k1
      · exact absurd k1 (by have := hM3 r' g0 g1; omega)
  · rw [hM (t + 3) (by omega) (by omega), hM (t + 4) (by omega) (by omega), hG (96 + 6 * a + b).toNat (by omega) (by omega), hG (60 + 6 * a + b).toNat (by omega) (by omega)]
    exact c4 a b g0 g1 g2 g3
theorem TRc.wk {M M' : ZM} {t : Nat} {G G' : Gm} {w : Int} (h : TRc M t G) (hw : 0 ≤ w ∧ w < 6) (hG4 : 0 ≤ G 4 ∧ G 4 ≤ 6) (hG5 : 0 ≤ G 5 ∧ G 5 ≤ 24) (hM : ∀ j, j ≠ t + 5 + w.toNat → j < t + 59 → zI M' j = zI M j) (hG : ∀ k : Nat, (k < 6 + 9 * w.toNat ∨ 6 + 9 * w.toNat + 9 ≤ k) → k < 516 → G' k = G k) (hM3 : ∀ r' : Int, 0 ≤ r' → r' < G 5 → (G (132 + 16 * r' + 6).toNat) ≤ 3) (hwk : w < G 4 → WRc M' (t + 5 + w.toNat) G' w) : TRc M' t G' := by
  obtain ⟨c1, c2, c3, c4⟩ := h
  have e4 : G' 4 = G 4 := hG 4 (by omega) (by omega)
  have e5 : G' 5 = G 5 := hG 5 (by omega) (by omega)
  refine ⟨fun k hk => ?_, fun w' g0 g1 => ?_, fun r g0 g1 => ?_, fun a b g0 g1 g2 g3 => ?_⟩
  · rw [hM t (by omega) (by omega), hG k (by omega) (by omega)]; exact c1 k hk
  · rw [e4] at g1
    by_cases e : w' = w
    · subst e
      exact hwk g1
    · have d := c2 w' g0 g1
      rw [hM (t + 5 + w'.toNat) (by omega) (by omega)]
      rw [hG (6 + 9 * w' + 1).toNat (by omega) (by omega), hG (6 + 9 * w' + 2).toNat (by omega) (by omega), hG (6 + 9 * w' + 3).toNat (by omega) (by omega), hG (6 + 9 * w' + 4).toNat (by omega) (by omega), hG (6 + 9 * w' + 5).toNat (by omega) (by omega), hG (6 + 9 * w' + 6).toNat (by omega) (by omega), hG (6 + 9 * w' + 7).toNat (by omega) (by omega), hG (6 + 9 * w' + 8).toNat (by omega) (by omega)]
      exact d
  · rw [e5] at g1
    have d := c3 r g0 g1
    have hr3 := hM3 r g0 g1
    rw [hM (t + 11 + 2 * r.toNat) (by omega) (by omega), hM (t + 11 + 2 * r.toNat + 1) (by omega) (by omega)]
    rw [hG (132 + 16 * r + 0).toNat (by omega) (by omega), hG (132 + 16 * r + 1).toNat (by omega) (by omega), hG (132 + 16 * r + 2).toNat (by omega) (by omega), hG (132 + 16 * r + 3).toNat (by omega) (by omega), hG (132 + 16 * r + 4).toNat (by omega) (by omega), hG (132 + 16 * r + 6).toNat (by omega) (by omega)]
    refine ⟨d.1, fun k k0 k1 => ?_⟩
    rw [hG (132 + 16 * r + (7 + 3 * k + 0)).toNat (by omega) (by omega), hG (132 + 16 * r + (7 + 3 * k + 1)).toNat (by omega) (by omega), hG (132 + 16 * r + (7 + 3 * k + 2)).toNat (by omega) (by omega)]
    exact d.2 k k0 k1
  · rw [hM (t + 3) (by omega) (by omega), hM (t + 4) (by omega) (by omega), hG (96 + 6 * a + b).toNat (by omega) (by omega), hG (60 + 6 * a + b).toNat (by omega) (by omega)]
    exact c4 a b g0 g1 g2 g3
theorem GI.c3 {G : Gm} (h : GI G) : ∀ r' : Int, 0 ≤ r' → r' < G 5 → (G (132 + 16 * r' + 6).toNat) ≤ 3 := fun r' a b => (h.2.2 r' a b).2.1.2
theorem gU_ne (g : Gm) {i v : Int} {k : Nat} (lo hi : Nat) (hi0 : (lo : Int) ≤ i ∧ i < (hi : Int)) (h : k < lo ∨ hi ≤ k) : gU g i v k = g k := gU_n g (by omega)
theorem TRc.sw1 {M : ZM} {t : Nat} {G : Gm} {w v : Int} (h : TRc M t G) (hG : GI G) (hw : 0 ≤ w ∧ w < 6) : TRc (zsI M (t + 5 + w.toNat) 1 v) t (gU G (6 + 9 * w + 1) v) := by
  refine h.wk hw hG.1 hG.2.1 (fun j h1 _ => zI_In M _ v h1) (fun k h1 _ => gU_n G (by omega)) hG.c3 (fun hw4 => ?_)
  have d := h.2.1 w hw.1 hw4
  exact ⟨(zI_Is _ _ _ _).trans (gU_s _ _ _).symm, (zI_Im M _ v (by decide)).trans ((d.2.1).trans (gU_n G (by omega)).symm), (zI_Im M _ v (by decide)).trans ((d.2.2.1).trans (gU_n G (by omega)).symm), (zI_Im M _ v (by decide)).trans ((d.2.2.2.1).trans (gU_n G (by omega)).symm), (zI_Im M _ v (by decide)).trans ((d.2.2.2.2.1).trans (gU_n G (by omega)).symm), (zI_Im M _ v (by decide)).trans ((d.2.2.2.2.2.1).trans (gU_n G (by omega)).symm), (zI_Im M _ v (by decide)).trans ((d.2.2.2.2.2.2.1).trans (gU_n G (by omega)).symm), (zI_Im M _ v (by decide)).trans ((d.2.2.2.2.2.2.2).trans (gU_n G (by omega)).symm)⟩
theorem TRc.sw2 {M : ZM} {t : Nat} {G : Gm} {w v : Int} (h : TRc M t G) (hG : GI G) (hw : 0 ≤ w ∧ w < 6) : TRc (zsI M (t + 5 + w.toNat) 2 v) t (gU G (6 + 9 * w + 2) v) := by
  refine h.wk hw hG.1 hG.2.1 (fun j h1 _ => zI_In M _ v h1) (fun k h1 _ => gU_n G (by omega)) hG.c3 (fun hw4 => ?_)
  have d := h.2.1 w hw.1 hw4
  exact ⟨(zI_Im M _ v (by decide)).trans ((d.1).trans (gU_n G (by omega)).symm), (zI_Is _ _ _ _).trans (gU_s _ _ _).symm, (zI_Im M _ v (by decide)).trans ((d.2.2.1).trans (gU_n G (by omega)).symm), (zI_Im M _ v (by decide)).trans ((d.2.2.2.1).trans (gU_n G (by omega)).symm), (zI_Im M _ v (by decide)).trans ((d.2.2.2.2.1).trans (gU_n G (by omega)).symm), (zI_Im M _ v (by decide)).trans ((d.2.2.2.2.2.1).trans (gU_n G (by omega)).symm), (zI_Im M _ v (by decide)).trans ((d.2.2.2.2.2.2.1).trans (gU_n G (by omega)).symm), (zI_Im M _ v (by decide)).trans ((d.2.2.2.2.2.2.2).trans (gU_n G (by omega)).symm)⟩
theorem TRc.sw3 {M : ZM} {t : Nat} {G : Gm} {w v : Int} (h : TRc M t G) (hG : GI G) (hw : 0 ≤ w ∧ w < 6) : TRc (zsI M (t + 5 + w.toNat) 3 v) t (gU G (6 + 9 * w + 3) v) := by
  refine h.wk hw hG.1 hG.2.1 (fun j h1 _ => zI_In M _ v h1) (fun k h1 _ => gU_n G (by omega)) hG.c3 (fun hw4 => ?_)
  have d := h.2.1 w hw.1 hw4
  exact ⟨(zI_Im M _ v (by decide)).trans ((d.1).trans (gU_n G (by omega)).symm), (zI_Im M _ v (by decide)).trans ((d.2.1).trans (gU_n G (by omega)).symm), (zI_Is _ _ _ _).trans (gU_s _ _ _).symm, (zI_Im M _ v (by decide)).trans ((d.2.2.2.1).trans (gU_n G (by omega)).symm), (zI_Im M _ v (by decide)).trans ((d.2.2.2.2.1).trans (gU_n G (by omega)).symm), (zI_Im M _ v (by decide)).trans ((d.2.2.2.2.2.1).trans (gU_n G (by omega)).symm), (zI_Im M _ v (by decide)).trans ((d.2.2.2.2.2.2.1).trans (gU_n G (by omega)).symm), (zI_Im M _ v (by decide)).trans ((d.2.2.2.2.2.2.2).trans (gU_n G (by omega)).symm)⟩
theorem TRc.sw5 {M : ZM} {t : Nat} {G : Gm} {w v : Int} (h : TRc M t G) (hG : GI G) (hw : 0 ≤ w ∧ w < 6) : TRc (zsI M (t + 5 + w.toNat) 5 v) t (gU G (6 + 9 * w + 4) v) := by
  refine h.wk hw hG.1 hG.2.1 (fun j h1 _ => zI_In M _ v h1) (fun k h1 _ => gU_n G (by omega)) hG.c3 (fun hw4 => ?_)
  have d := h.2.1 w hw.1 hw4
  exact ⟨(zI_Im M _ v (by decide)).trans ((d.1).trans (gU_n G (by omega)).symm), (zI_Im M _ v (by decide)).trans ((d.2.1).trans (gU_n G (by omega)).symm), (zI_Im M _ v (by decide)).trans ((d.2.2.1).trans (gU_n G (by omega)).symm), (zI_Is _ _ _ _).trans (gU_s _ _ _).symm, (zI_Im M _ v (by decide)).trans ((d.2.2.2.2.1).trans (gU_n G (by omega)).symm), (zI_Im M _ v (by decide)).trans ((d.2.2.2.2.2.1).trans (gU_n G (by omega)).symm), (zI_Im M _ v (by decide)).trans ((d.2.2.2.2.2.2.1).trans (gU_n G (by omega)).symm), (zI_Im M _ v (by decide)).trans ((d.2.2.2.2.2.2.2).trans (gU_n G (by omega)).symm)⟩
theorem TRc.sw6 {M : ZM} {t : Nat} {G : Gm} {w v : Int} (h : TRc M t G) (hG : GI G) (hw : 0 ≤ w ∧ w < 6) : TRc (zsI M (t + 5 + w.toNat) 6 v) t (gU G (6 + 9 * w + 5) v) := by
  refine h.wk hw hG.1 hG.2.1 (fun j h1 _ => zI_In M _ v h1) (fun k h1 _ => gU_n G (by omega)) hG.c3 (fun hw4 => ?_)
  have d := h.2.1 w hw.1 hw4
  exact ⟨(zI_Im M _ v (by decide)).trans ((d.1).trans (gU_n G (by omega)).symm), (zI_Im M _ v (by decide)).trans ((d.2.1).trans (gU_n G (by omega)).symm), (zI_Im M _ v (by decide)).trans ((d.2.2.1).trans (gU_n G (by omega)).symm), (zI_Im M _ v (by decide)).trans ((d.2.2.2.1).trans (gU_n G (by omega)).symm), (zI_Is _ _ _ _).trans (gU_s _ _ _).symm, (zI_Im M _ v (by decide)).trans ((d.2.2.2.2.2.1).trans (gU_n G (by omega)).symm), (zI_Im M _ v (by decide)).trans ((d.2.2.2.2.2.2.1).trans (gU_n G (by omega)).symm), (zI_Im M _ v (by decide)).trans ((d.2.2.2.2.2.2.2).trans (gU_n G (by omega)).symm)⟩
theorem TRc.sw7 {M : ZM} {t : Nat} {G : Gm} {w v : Int} (h : TRc M t G) (hG : GI G) (hw : 0 ≤ w ∧ w < 6) : TRc (zsI M (t + 5 + w.toNat) 7 v) t (gU G (6 + 9 * w + 6) v) := by
  refine h.wk hw hG.1 hG.2.1 (fun j h1 _ => zI_In M _ v h1) (fun k h1 _ => gU_n G (by omega)) hG.c3 (fun hw4 => ?_)
  have d := h.2.1 w hw.1 hw4
  exact ⟨(zI_Im M _ v (by decide)).trans ((d.1).trans (gU_n G (by omega)).symm), (zI_Im M _ v (by decide)).trans ((d.2.1).trans (gU_n G (by omega)).symm), (zI_Im M _ v (by decide)).trans ((d.2.2.1).trans (gU_n G (by omega)).symm), (zI_Im M _ v (by decide)).trans ((d.2.2.2.1).trans (gU_n G (by omega)).symm), (zI_Im M _ v (by decide)).trans ((d.2.2.2.2.1).trans (gU_n G (by omega)).symm), (zI_Is _ _ _ _).trans (gU_s _ _ _).symm, (zI_Im M _ v (by decide)).trans ((d.2.2.2.2.2.2.1).trans (gU_n G (by omega)).symm), (zI_Im M _ v (by decide)).trans ((d.2.2.2.2.2.2.2).trans (gU_n G (by omega)).symm)⟩
theorem TRc.sw8 {M : ZM} {t : Nat} {G : Gm} {w v : Int} (h : TRc M t G) (hG : GI G) (hw : 0 ≤ w ∧ w < 6) : TRc (zsI M (t + 5 + w.toNat) 8 v) t (gU G (6 + 9 * w + 7) v) := by
  refine h.wk hw hG.1 hG.2.1 (fun j h1 _ => zI_In M _ v h1) (fun k h1 _ => gU_n G (by omega)) hG.c3 (fun hw4 => ?_)
  have d := h.2.1 w hw.1 hw4
  exact ⟨(zI_Im M _ v (by decide)).trans ((d.1).trans (gU_n G (by omega)).symm), (zI_Im M _ v (by decide)).trans ((d.2.1).trans (gU_n G (by omega)).symm), (zI_Im M _ v (by decide)).trans ((d.2.2.1).trans (gU_n G (by omega)).symm), (zI_Im M _ v (by decide)).trans ((d.2.2.2.1).trans (gU_n G (by omega)).symm), (zI_Im M _ v (by decide)).trans ((d.2.2.2.2.1).trans (gU_n G (by omega)).symm), (zI_Im M _ v (by decide)).trans ((d.2.2.2.2.2.1).trans (gU_n G (by omega)).symm), (zI_Is _ _ _ _).trans (gU_s _ _ _).symm, (zI_Im M _ v (by decide)).trans ((d.2.2.2.2.2.2.2).trans (gU_n G (by omega)).symm)⟩
theorem TRc.sw9 {M : ZM} {t : Nat} {G : Gm} {w v : Int} (h : TRc M t G) (hG : GI G) (hw : 0 ≤ w ∧ w < 6) : TRc (zsI M (t + 5 + w.toNat) 9 v) t (gU G (6 + 9 * w + 8) v) := by
  refine h.wk hw hG.1 hG.2.1 (fun j h1 _ => zI_In M _ v h1) (fun k h1 _ => gU_n G (by omega)) hG.c3 (fun hw4 => ?_)
  have d := h.2.1 w hw.1 hw4
  exact ⟨(zI_Im M _ v (by decide)).trans ((d.1).trans (gU_n G (by omega)).symm), (zI_Im M _ v (by decide)).trans ((d.2.1).trans (gU_n G (by omega)).symm), (zI_Im M _ v (by decide)).trans ((d.2.2.1).trans (gU_n G (by omega)).symm), (zI_Im M _ v (by decide)).trans ((d.2.2.2.1).trans (gU_n G (by omega)).symm), (zI_Im M _ v (by decide)).trans ((d.2.2.2.2.1).trans (gU_n G (by omega)).symm), (zI_Im M _ v (by decide)).trans ((d.2.2.2.2.2.1).trans (gU_n G (by omega)).symm), (zI_Im M _ v (by decide)).trans ((d.2.2.2.2.2.2.1).trans (gU_n G (by omega)).symm), (zI_Is _ _ _ _).trans (gU_s _ _ _).symm⟩
theorem TRc.sr1 {M : ZM} {t : Nat} {G : Gm} {r v : Int} (h : TRc M t G) (hG : GI G) (hr : 0 ≤ r ∧ r < 24) : TRc (zsI M (t + 11 + 2 * r.toNat) 1 v) t (gU G (132 + 16 * r + 1) v) := by
  refine h.row hr hG.1 hG.2.1 (fun j h1 _ => zI_In M _ v (by omega)) (fun k h1 _ => gU_n G (by omega)) hG.c3 (fun hr5 => ?_)
  have d := h.2.2.1 r hr.1 hr5
  have hc := hG.c3 r hr.1 hr5
  refine ⟨⟨(zI_Im M _ v (by decide)).trans ((d.1.1).trans (gU_n G (by omega)).symm), (zI_Is _ _ _ _).trans (gU_s _ _ _).symm, (zI_Im M _ v (by decide)).trans ((d.1.2.2.1).trans (gU_n G (by omega)).symm), (zI_Im M _ v (by decide)).trans ((d.1.2.2.2.1).trans (by rw [gU_n G (by omega)])), (zI_Im M _ v (by decide)).trans ((d.1.2.2.2.2.1).trans (gU_n G (by omega)).symm), (zI_Im M _ v (by decide)).trans ((d.1.2.2.2.2.2.1).trans (gU_n G (by omega)).symm), (zI_Im M _ v (by decide)).trans ((d.1.2.2.2.2.2.2).trans (gU_n G (by omega)).symm)⟩, fun k k0 k1 => ?_⟩
  rw [gU_n G (by omega)] at k1
  obtain ⟨x1, x2, x3⟩ := d.2 k k0 k1
  exact ⟨(congrFun (zI_In M _ v (by omega)) _).trans (x1.trans (gU_n G (by omega)).symm), (congrFun (zI_In M _ v (by omega)) _).trans (x2.trans (gU_n G (by omega)).symm), (congrFun (zI_In M _ v (by omega)) _).trans (x3.trans (gU_n G (by omega)).symm)⟩
theorem TRc.sr2 {M : ZM} {t : Nat} {G : Gm} {r v : Int} (h : TRc M t G) (hG : GI G) (hr : 0 ≤ r ∧ r < 24) : TRc (zsI M (t + 11 + 2 * r.toNat) 2 v) t (gU G (132 + 16 * r + 2) v) := by
  refine h.row hr hG.1 hG.2.1 (fun j h1 _ => zI_In M _ v (by omega)) (fun k h1 _ => gU_n G (by omega)) hG.c3 (fun hr5 => ?_)
  have d := h.2.2.1 r hr.1 hr5
  have hc := hG.c3 r hr.1 hr5
  refine ⟨⟨(zI_Im M _ v (by decide)).trans ((d.1.1).trans (gU_n G (by omega)).symm), (zI_Im M _ v (by decide)).trans ((d.1.2.1).trans (gU_n G (by omega)).symm), (zI_Is _ _ _ _).trans (gU_s _ _ _).symm, (zI_Im M _ v (by decide)).trans ((d.1.2.2.2.1).trans (by rw [gU_n G (by omega)])), (zI_Im M _ v (by decide)).trans ((d.1.2.2.2.2.1).trans (gU_n G (by omega)).symm), (zI_Im M _ v (by decide)).trans ((d.1.2.2.2.2.2.1).trans (gU_n G (by omega)).symm), (zI_Im M _ v (by decide)).trans ((d.1.2.2.2.2.2.2).trans (gU_n G (by omega)).symm)⟩, fun k k0 k1 => ?_⟩
  rw [gU_n G (by omega)] at k1
  obtain ⟨x1, x2, x3⟩ := d.2 k k0 k1
  exact ⟨(congrFun (zI_In M _ v (by omega)) _).trans (x1.trans (gU_n G (by omega)).symm), (congrFun (zI_In M _ v (by omega)) _).trans (x2.trans (gU_n G (by omega)).symm), (congrFun (zI_In M _ v (by omega)) _).trans (x3.trans (gU_n G (by omega)).symm)⟩
theorem TRc.sk1 {M : ZM} {t : Nat} {G : Gm} {r k v : Int} (h : TRc M t G) (hG : GI G) (hr : 0 ≤ r ∧ r < 24) (hk : 0 ≤ k ∧ k < 3) : TRc (zsI M (t + 11 + 2 * r.toNat + 1) (k * 3 + 1).toNat v) t (gU G (132 + 16 * r + (7 + 3 * k + 1)) v) := by
  refine h.row hr hG.1 hG.2.1 (fun j h1 _ => zI_In M _ v (by omega)) (fun k h1 _ => gU_n G (by omega)) hG.c3 (fun hr5 => ?_)
  have d := h.2.2.1 r hr.1 hr5
  have hc := hG.c3 r hr.1 hr5
  refine ⟨⟨(congrFun (zI_In M _ v (by omega)) _).trans ((d.1.1).trans (gU_n G (by omega)).symm), (congrFun (zI_In M _ v (by omega)) _).trans ((d.1.2.1).trans (gU_n G (by omega)).symm), (congrFun (zI_In M _ v (by omega)) _).trans ((d.1.2.2.1).trans (gU_n G (by omega)).symm), (congrFun (zI_In M _ v (by omega)) _).trans ((d.1.2.2.2.1).trans (by rw [gU_n G (by omega)])), (congrFun (zI_In M _ v (by omega)) _).trans ((d.1.2.2.2.2.1).trans (gU_n G (by omega)).symm), (congrFun (zI_In M _ v (by omega)) _).trans ((d.1.2.2.2.2.2.1).trans (gU_n G (by omega)).symm), (congrFun (zI_In M _ v (by omega)) _).trans ((d.1.2.2.2.2.2.2).trans (gU_n G (by omega)).symm)⟩, fun k' k0 k1 => ?_⟩
  rw [gU_n G (by omega)] at k1
  obtain ⟨x1, x2, x3⟩ := d.2 k' k0 k1
  refine ⟨(zI_Im M _ v (by omega)).trans (x1.trans (gU_n G (by omega)).symm), ?_, (zI_Im M _ v (by omega)).trans (x3.trans (gU_n G (by omega)).symm)⟩
  by_cases e : k' = k
  · subst e
    exact (zI_Is _ _ _ _).trans (gU_s _ _ _).symm
  · exact (zI_Im M _ v (by omega)).trans (x2.trans (gU_n G (by omega)).symm)
