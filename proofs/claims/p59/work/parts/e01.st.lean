/-! the law: its start -/
theorem zTx.ub0 {M M' : ZM} {s : Nat} {l : List Int} (h : zTx M s l) (hN : zN M = 64) (u : UB 64 M M') (h46 : ∃ x, zR M' 668 0 = some x ∧ 64 ≤ x) : zTx M' s l := by
  obtain ⟨h1, h2, v, h3, h4, h5, ⟨h6, -⟩, h7⟩ := h
  have hs : s < 64 := by have := h1.2; omega
  have hv : v < 64 := by have := h4.2; omega
  have e1 := u.2 s hs
  have e2 := u.2 v hv
  obtain ⟨x, hx, hx6⟩ := h46
  refine ⟨⟨e1.1.trans h1.1, Nat.lt_of_lt_of_le h1.2 u.1⟩, (congrFun e1.2.2.1 1).trans h2, v, (congrFun e1.2.2.2 0).trans h3, ⟨e2.1.trans h4.1, Nat.lt_of_lt_of_le h4.2 u.1⟩, e2.2.1.trans h5, ⟨h6, fun z => ?_⟩, fun k hk => (congrFun e2.2.2.1 k).trans (h7 k hk)⟩
  rw [hx] at z
  cases z
  omega
theorem KC.ub0 {M M' : ZM} (h : KC M) (hN : zN M = 64) (u : UB 64 M M') (h46 : ∃ x, zR M' 668 0 = some x ∧ 64 ≤ x) : KC M' := by
  obtain ⟨h1, h2, h3⟩ := h
  have e12 := u.2 12 (by decide)
  refine ⟨fun i hi => ?_, ⟨e12.1.trans h2.1, Nat.lt_of_lt_of_le h2.2 u.1⟩, e12.2.1.trans h3⟩
  obtain ⟨b1, b2, ⟨⟨b3, b3'⟩, b4⟩, b5⟩ := h1 i hi
  have e := u.2 (1 + i) (by omega)
  exact ⟨b1.ub0 hN u h46, b2.ub0 hN u h46, ⟨⟨e.1.trans b3, Nat.lt_of_lt_of_le b3' u.1⟩, (congrFun e.2.2.2 0).trans b4⟩, (congrFun e12.2.2.2 i).trans b5⟩
theorem KD.ub0 {M M' : ZM} (h : KD M) (u : UB 64 M M') : KD M' := by
  obtain ⟨⟨h1, h2⟩, ⟨h3, h4⟩, h5⟩ := h
  have e1 := u.2 59 (by decide)
  have e2 := u.2 60 (by decide)
  refine ⟨⟨⟨e1.1.trans h1.1, Nat.lt_of_lt_of_le h1.2 u.1⟩, e1.2.1.trans h2⟩, ⟨⟨e2.1.trans h3.1, Nat.lt_of_lt_of_le h3.2 u.1⟩, e2.2.1.trans h4⟩, fun k k0 k1 => ?_⟩
  rw [e1.2.2.1, e2.2.2.1]
  exact h5 k k0 k1
theorem LP9_0 {S : Nat × (Nat → Int)} {M0 M1 : ZM} (hN0 : zN M0 = 64) (hC : KC M0) (hL0 : KL M0) (hD : KD M0) (hs : LC9 S M0) (hS1 : S.1 < 2147483648) (u : UB 64 M0 M1) (n1 : zN M1 = 670) (hL : LV M1) (hT : TR M1 129 gNew) (h188 : zI M1 188 0 = 0 ∧ zI M1 188 1 = 0) (h66 : zI M1 66 1 = 0) (htx : TXB M1) (hB : SB M1 668 16 []) (hv : vu M1 668 = 669) : LP9 S M1 ∧ CIn M1 gZ 0 := by
  have hr : zR M1 668 0 = some 669 := by rw [hB.r0, hv]
  have ex : ∃ x, zR M1 668 0 = some x ∧ 64 ≤ x := ⟨669, hr, by decide⟩
  have e62 := u.2 62 (by decide)
  refine ⟨⟨⟨⟨⟨⟨e62.1.trans hs.1.1.1, by rw [n1]; decide⟩, e62.2.1.trans hs.1.2⟩, fun j => (congrFun e62.2.2.1 j).trans (hs.2 j)⟩, hS1⟩, ⟨fun i hi => (hL0 i hi).ub0 hN0 u ex, hD.ub0 u, by omega⟩, ⟨hL, hC.ub0 hN0 u ex, ⟨by omega, 669, hr, by omega⟩⟩, gNew, (fun _ => gNew), 0, hT, gNew_iv.gi, ⟨h188.1, by decide, by rw [h188.2]; decide, fun k k0 k1 => by exfalso; omega⟩⟩, ⟨h66, by decide, fun k hk => by exfalso; omega, htx⟩⟩

set_option maxRecDepth 100000 in
set_option maxHeartbeats 4000000 in
theorem LW_go {S : Nat × (Nat → Int)} {K : ZRet} {KX : ZEx} {Φ : ZPhi} (hΦ : zClosed (cd_L_law T_X8_init T_L_load T_X8_property T_L_draw T_L_inWork T_L_delivers T_L_passes T_L_audits T_L_act T_L_holds) K KX 600086 7301442 Φ) {M0 : ZM} (hN0 : zN M0 = 64) (hC : KC M0) (hL0 : KL M0) (hD : KD M0) (hs : LC9 S M0) (hS1 : S.1 < 2147483648) (hK : ∀ M, K (some (zi 1)) M) : Φ 0 [some (zo 62), none, none, none, none, none, none, none, none] [] M0 0 0 := by
  have e21 := @LW_e21 S K KX Φ hΦ hS1 hK
  obtain ⟨n9, r9⟩ := M0
  have e9 : n9 = 64 := hN0
  subst e9
  have hw : zW (zNw (64, r9) 11 0) 64 11 := zW.nn (M := (64, r9)) (κ := 11) (n := 0) (show zCC ≤ 64 by decide)
  refine zGoR hΦ [21] 400 (fun hL9 _ hM _ _ => ?_)
  obtain ⟨_⟩ : True := hL9
  refine ⟨⟨(by decide), (by decide)⟩, ⟨rfl, ⟨⟨(by decide), (by decide)⟩, ⟨⟨rfl, rfl⟩, hw.rcv⟩, ⟨rfl, hw, rfl, fun M1 b1 b2 b3 b4 b5 b6 b7 b8 b9 b10 b11 => have hP := LP9_0 (M0 := (64, r9)) rfl hC hL0 hD hs hS1 ((UB.n (M := (64, r9)) (Nat.le_refl _)).tr b1) b2 b3 b4 b5 b7 b8 b9 b10; fun _ _ => ⟨⟨(by decide), (by decide)⟩, ⟨⟨rfl, rfl⟩, trivial⟩, ⟨S, gZ, rfl, hP.1, hP.2, (fun M2 G hS2 => fun _ _ => ⟨fun _ => (show Φ 21 [some (zo 62), some (zo 64), some (zi 50), none, none, none, none, none, none] [] M2 (0 + 1 + 605 + 2000) (0 + 10 + 6861 + 60000) from ?g0l1), fun (h : (1 : Int) = 0) => absurd h (by decide)⟩)⟩⟩⟩⟩⟩⟩
  case g0l1 => exact e21 0 (by decide) (by decide) G M2 _ _ hS2 (by decide) (by decide)

