theorem fNm_pos {B : Gm} {s e : Int} (h0 : 0 ≤ s) (h1 : s < e) (h6 : e - s ≤ 6) (hb : ∀ k : Int, s ≤ k → k < e → 97 ≤ B k.toNat ∧ B k.toNat ≤ 122) : 1 ≤ fNmF B s e ∧ fNmF B s e < 387420489 := by
  have h2 := fNm_b h0 hb e (by omega) (Int.le_refl _)
  have h3 := fNm_b h0 hb (e - 1) (by omega) (by omega)
  have h4 := hb (e - 1) (by omega) (by omega)
  have h5 := p27_le (j := (e - s).toNat) (by omega)
  refine ⟨?_, by omega⟩
  have e9 : fNmF B s e = 27 * fNmF B s (e - 1) + B (e - 1).toNat - 96 := by
    unfold fNmF
    rw [show e = (e - 1) + 1 by omega, foldF_s (by omega)]
    rw [show (e - 1 + 1 - 1) = e - 1 by omega]
  omega
theorem eNm_r {B : Gm} {n : Int} {e : E3} (hok : eOK n e) (h : (eName B n e).1 = 0) : 1 ≤ eNm B n e ∧ eNm B n e < 387420489 := by
  obtain ⟨a1, a2, a3, a4, a5⟩ := eName_v h
  have hk := ((tkK_r B n e.2.2).2.2.2.1).mp a2
  have he := tkE_r B hok.2
  unfold eNm
  rw [if_pos h]
  unfold eOK at hok
  exact fNm_pos hok.1 (he.2.2.1 hk.1) a3 (tk_let hok.2 a2)
theorem w0_i {B : Gm} {n : Int} {G : Gm} {e : E3} (h : (w1 B n G e).1 = 0) : (eName B n (w0 B n G e)).1 = 0 ∧ G 4 ≠ 6 ∧ fWith G (eNm B n (w0 B n G e)) = -1 := by
  unfold w1 at h
  by_cases q : (eName B n (w0 B n G e)).1 = 0 ∧ fWith G (eNm B n (w0 B n G e)) ≠ -1
  · rw [if_pos q] at h
    exact absurd h (eErr_n (by decide))
  · rw [if_neg q] at h
    refine ⟨h, fun z => ?_, Decidable.byContradiction (fun z => q ⟨h, z⟩)⟩
    have h2 := eName_i h
    unfold w0 at h2
    rw [if_pos z] at h2
    exact absurd (eGo_i h2) (eErr_n (by decide))
theorem w4_i {B : Gm} {n : Int} {G : Gm} {e : E3} (h : (w4 B n G e).1 = 0) : (w1 B n G e).1 = 0 := eGo_i (eKw_i (eNum_i (eKw_i (eNum_i h))))
theorem ePW_i {B : Gm} {n : Int} {G : Gm} {e : E3} (h : (ePW B n G e).1 = 0) : (w4 B n G e).1 = 0 := by
  unfold ePW at h
  split at h
  · exact eKw_i (eNum_i h)
  · exact h
theorem w0_ok {B : Gm} {n : Int} {G : Gm} {e : E3} (h : eOK n e) : eOK n (w0 B n G e) := by
  unfold w0
  refine eGo_ok ?_
  split
  · exact eErr_ok h
  · exact h
theorem w4_ok {B : Gm} {n : Int} {G : Gm} {e : E3} (h : eOK n e) : eOK n (w4 B n G e) := by
  have h1 : eOK n (w1 B n G e) := by
    unfold w1
    split
    · exact eErr_ok (eName_ok (w0_ok h))
    · exact eName_ok (w0_ok h)
  exact eNum_ok (eKw_ok (eNum_ok (eKw_ok (eGo_ok h1))))
theorem ePW_ok {B : Gm} {n : Int} {G : Gm} {e : E3} (h : eOK n e) : eOK n (ePW B n G e) := by
  unfold ePW
  split
  · exact eNum_ok (eKw_ok (w4_ok h))
  · exact w4_ok h
theorem r2_ok {B : Gm} {n : Int} {G : Gm} {e : E3} (h : eOK n e) : eOK n (r2 B n G e) := by
  unfold r2 r1
  split
  · exact eErr_ok (eLook_ok (eGo_ok h))
  · exact eLook_ok (eGo_ok h)
theorem ePR_ok {B : Gm} {n : Int} {G : Gm} {e : E3} (h : eOK n e) : eOK n (ePR B n G e) := eNum_ok (eKw_ok (eNum_ok (r2_ok h)))
theorem ePB_ok {B : Gm} {n : Int} {G : Gm} {e : E3} (h : eOK n e) : eOK n (ePB B n G e) := by
  have h2 : eOK n (b2 B n G e) := eTold_ok (eGo_ok (eTold_ok (eGo_ok h)))
  unfold ePB
  refine eGo_ok ?_
  split
  · exact eErr_ok h2
  · exact h2
theorem eST_ok {B : Gm} {n : Int} {G : Gm} {e : E3} (h : eOK n e) : eOK n (eST B n G e) := by
  unfold eST
  refine eSemi_ok ?_
  split
  · exact ePW_ok h
  · split
    · exact ePR_ok h
    · split
      · exact ePB_ok h
      · exact eErr_ok h
theorem DI_pw {B : Gm} {n : Int} {G : Gm} {e : E3} (h : DI G) (hok : eOK n e) : DI (gPW B n G e) := by
  unfold gPW
  split
  · next q =>
    have q4 := ePW_i q
    obtain ⟨a, b, -⟩ := w0_i (w4_i q4)
    have h4 := h.1.2.1.2.2.2.2.1
    refine h.wk (by omega) (eNm_r (w0_ok hok) a) (eVal_r _ (by decide)) (eVal_r _ (by decide)) ?_
    unfold tPW
    split
    · exact eVal_r _ (by decide)
    · decide
  · exact h
theorem DI_pr {B : Gm} {n : Int} {G : Gm} {e : E3} (h : DI G) (hok : eOK n e) : DI (gPR B n G e) := by
  unfold gPR
  split
  · next q =>
    have q2 : (r2 B n G e).1 = 0 := eNum_i (eKw_i (eNum_i q))
    have hv := eVal_r (B := B) (n := n) (lo := 1) (hi := 24) (r2 B n G e) (by decide)
    refine h.rows ⟨by omega, ?_⟩ (eVal_r _ (by decide))
    unfold r2 at q2 ⊢
    by_cases z : (r1 B n e).1 = 0 ∧ 24 < G 5 + tkV B (eGo B n e).2.2 (tkE B n (eGo B n e).2.2)
    · rw [if_pos z] at q2
      exact absurd q2 (eErr_n (by decide))
    · rw [if_neg z] at q2 ⊢
      obtain ⟨c1, c2, c3, c4⟩ := eLook_v q2
      have e9 : r1 B n e = eGo B n e := c4
      rw [e9]
      have c5 : (eLook B n 1 24 (eGo B n e)).1 = 0 := q2
      unfold eVal
      rw [if_pos c5]
      have := Int.not_lt.mp (fun y => z ⟨q2, y⟩)
      exact this
  · exact h
theorem DI_pb {B : Gm} {n : Int} {G : Gm} {e : E3} (h : DI G) (hok : eOK n e) : DI (gPB B n G e) := by
  unfold gPB
  split
  · next q =>
    have h4 := h.1.2.1.2.2.2.2.1
    refine h.bar (vTold_r h4) (vTold_r h4) (fun z => ?_)
    unfold ePB at q
    have q1 := eGo_i q
    by_cases y : (b2 B n G e).1 = 0 ∧ (ba B n G e = bb B n G e ∨ fFoes G (ba B n G e) (bb B n G e) = true)
    · rw [if_pos y] at q1
      exact absurd q1 (eErr_n (by decide))
    · rw [if_neg y] at q1
      exact y ⟨q1, Or.inl z⟩
  · exact h
theorem DI_st {B : Gm} {n : Int} {G : Gm} {e : E3} (h : DI G) (hok : eOK n e) : DI (gST B n G e) := by
  unfold gST
  split
  · exact DI_pw h hok
  · split
    · exact DI_pr h hok
    · split
      · exact DI_pb h hok
      · exact h
theorem DI_pt {B : Gm} {n : Int} {e : E3} : DI (gPT B n gZ e) := DI.tab (eVal_r _ (by decide)) (eVal_r _ (by decide)) (eVal_r _ (by decide))
