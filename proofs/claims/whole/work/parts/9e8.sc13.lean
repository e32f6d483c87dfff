/-! the law: its start -/
theorem zTx.ub0 {M M' : ZM} {s : Nat} {l : List Int} (h : zTx M s l) (hN : zN M = 64) (u : UB 64 M M') (h46 : ∃ x, zR M' 668 0 = some x ∧ 64 ≤ x) : zTx M' s l := by
  obtain ⟨h1, h2, v, h3, h4, h5, ⟨h6, -⟩, h7⟩ := h
  have hs : s < 64 := by have := h1.2; omega
  have hv : v < 64 := by have := h4.2; omega
  have e1 := u.2 s hs
  have e2 := u.2 v hv
  obtain ⟨x, hx, hx6⟩ := h46
  refine ⟨⟨e1.1.trans h1.1, Nat.lt_of_lt_of_le h1.2 u.1⟩, (congrFun e1.2.2.1 1).trans h2, v, (congrFun e1.2.2.2 0).trans h3, ⟨e2.1.trans h4.1, Nat.lt_of_lt_of_le h4.2 u.1⟩, e2.2.1.trans h5, ⟨h6, fun z => ?_⟩, fun k hk => (congrFun e2.2.2.1 k).trans (h7 k hk)⟩
  rw [hx] at z
  cases z
  omega
theorem KC.ub0 {M M' : ZM} (h : KC M) (hN : zN M = 64) (u : UB 64 M M') (h46 : ∃ x, zR M' 668 0 = some x ∧ 64 ≤ x) : KC M' := by
  obtain ⟨h1, h2, h3⟩ := h
  have e12 := u.2 12 (by decide)
  refine ⟨fun i hi => ?_, ⟨e12.1.trans h2.1, Nat.lt_of_lt_of_le h2.2 u.1⟩, e12.2.1.trans h3⟩
  obtain ⟨b1, b2, ⟨⟨b3, b3'⟩, b4⟩, b5⟩ := h1 i hi
  have e := u.2 (1 + i) (by omega)
  exact ⟨b1.ub0 hN u h46, b2.ub0 hN u h46, ⟨⟨e.1.trans b3, Nat.lt_of_lt_of_le b3' u.1⟩, (congrFun e.2.2.2 0).trans b4⟩, (congrFun e12.2.2.2 i).trans b5⟩
theorem KD.ub0 {M M' : ZM} (h : KD M) (u : UB 64 M M') : KD M' := by
  obtain ⟨⟨h1, h2⟩, ⟨h3, h4⟩, h5⟩ := h
  have e1 := u.2 59 (by decide)
  have e2 := u.2 60 (by decide)
  refine ⟨⟨⟨e1.1.trans h1.1, Nat.lt_of_lt_of_le h1.2 u.1⟩, e1.2.1.trans h2⟩, ⟨⟨e2.1.trans h3.1, Nat.lt_of_lt_of_le h3.2 u.1⟩, e2.2.1.trans h4⟩, fun k k0 k1 => ?_⟩
  rw [e1.2.2.1, e2.2.2.1]
  exact h5 k k0 k1
theorem zI_nw0 (M : ZM) (κ n : Nat) : zI (zNw M κ n) (zN M) = (fun _ => 0) := up1_s _ _ _
theorem Fr_ub {c : Nat} {M M' : ZM} (u : UB c M M') (hN : zN M = c) (hc : 668 < c) : Fr Sno M M' := F0_mk u.1 (by omega) (fun j hj => u.2 j (by omega))
/-- the class's object, just made -/
def A1 (M0 M : ZM) : Prop := UB 64 M0 M ∧ zN M = 670 ∧ LV M ∧ TR M 129 gNew ∧ (zI M 188 0 = 0 ∧ zI M 188 1 = 0) ∧ (zI M 663 0 = 0 ∧ zI M 663 1 = 0) ∧ zI M 66 1 = 0 ∧ TXB M ∧ SB M 668 16 [] ∧ vu M 668 = 669 ∧ zI M 64 8 = 0 ∧ zI M 64 9 = -1
/-- the reference's object, just made -/
def A2 (M1 M : ZM) : Prop := UB 670 M1 M ∧ zN M = 681 ∧ LY M ∧ MA M 671 ∧ zI M 671 = gNew ∧ zI M 678 = (fun _ => 0) ∧ zI M 670 13 = -1 ∧ ∀ p, p ≠ 13 → zI M 670 p = 0
theorem INV0 {S : Nat × (Nat → Int)} {M0 M1 M2 : ZM} (hN0 : zN M0 = 64) (hC : KC M0) (hD : KD M0) (hs : (zO M0 62 20 ∧ zLn M0 62 = S.1) ∧ ∀ j, zI M0 62 j = S.2 j) (h1 : A1 M0 M1) (h2 : A2 M1 M2) : INV S 0 (zNw (zNw M2 23 1) 24 1) ∧ zN (zNw M2 23 1) = 682 := by
  obtain ⟨u1, n1, hL, hT, h282, h1141, h66, htx, hS, hv, h8, h9⟩ := h1
  obtain ⟨u2, n2, hY, hA, hg, h56, h13, hz⟩ := h2
  obtain ⟨M3, h3⟩ : ∃ M3, zNw (zNw M2 23 1) 24 1 = M3 := ⟨_, rfl⟩
  have n23 : zN (zNw M2 23 1) = 682 := by show zN M2 + 1 = _; omega
  have u3 : UB 681 M2 M3 := by rw [← h3]; exact (UB.n (by omega)).tr (UB.n (by omega))
  have n3 : zN M3 = 683 := by rw [← h3]; show zN M2 + 1 + 1 = _; omega
  have w1 : zW M3 681 23 := by
    rw [← h3, ← n2]
    exact zW.nw (zW.nn (by rw [n2]; decide))
  have l1 : zLn M3 681 = 1 := by
    rw [← h3, ← n2]
    refine (up1_n (zLn (zNw M2 23 1)) (zN (zNw M2 23 1)) 1 (by rw [n23, n2]; decide)).trans ?_
    exact up1_s _ _ _
  have w2 : zW M3 682 24 := by
    rw [← h3, ← n23]
    exact zW.nn (by rw [n23]; decide)
  have l2 : zLn M3 682 = 1 := by
    rw [← h3, ← n23]
    exact up1_s _ _ _
  have ua : UB 64 M0 M3 := (u1.tr (u2.lo (by decide))).tr (u3.lo (by decide))
  have f13 : Fr Sno M1 M3 := Fr_ub (u2.tr (u3.lo (by decide))) n1 (by decide)
  have f23 : Fr Sno M2 M3 := Fr_ub u3 n2 (by decide)
  have hr : zR M3 668 0 = some 669 := by
    have e := (u2.tr (u3.lo (show 670 ≤ 681 by decide))).2 668 (by decide)
    rw [congrFun e.2.2.2 0, hS.r0, hv]
  have k1 : CSd M1 gNew gZ 0 (fun _ => gNew) 0 (fun _ => gNew) (fun _ => 0) [] 0 (-1) := by
    refine ⟨hL, ⟨hT, gNew_iv.gi⟩, ⟨h66, by decide, fun k hk => absurd hk (by omega), htx⟩, ⟨h282.1, by decide, by rw [h282.2]; decide, fun k k0 k1 => absurd k1 (by omega)⟩, fun s s0 s1 => ⟨?_, Or.inl rfl, fun z => absurd rfl z⟩, ⟨16, hS⟩, Or.inl hv, h8, h9⟩
    rcases (show s = 0 ∨ s = 1 by omega) with rfl | rfl
    · exact h1141.1
    · exact h1141.2
  have r2 : RSd M2 gNew gZ 0 (fun _ => gNew) 0 (fun _ => gNew) (fun _ => 0) [] 0 (-1) := by
    refine ⟨hY, hA, hg, ⟨hz 6 (by decide), by decide, fun k hk => absurd hk (by omega)⟩, ⟨hz 19 (by decide), by decide, fun k k0 k1 => absurd k1 (by omega)⟩, fun s s0 s1 => ⟨by rw [h56], fun z => absurd rfl z⟩, ⟨hz 21 (by decide), by decide, fun k x hx => by cases hx⟩, hz 12 (by decide), h13⟩
  have e62 := ua.2 62 (by decide)
  have cm : CMd S M3 := ⟨hC.ub0 hN0 ua ⟨669, hr, by decide⟩, hD.ub0 ua, by omega, ⟨w1, l1⟩, ⟨w2, l2⟩, ⟨⟨e62.1.trans hs.1.1.1, by rw [n3]; decide⟩, e62.2.1.trans hs.1.2⟩, fun j => (congrFun e62.2.2.1 j).trans (hs.2 j), hL.w.fr f13, hY.w.fr f23⟩
  rw [h3]
  exact ⟨INV.mk cm (k1.fr f13 (fun j hj z => z)) (r2.fr f23 (fun j j0 j1 z => z)) ⟨gNew_iv, HI.z, fun s s0 s1 z => absurd rfl z, fun x hx => nomatch hx⟩, n23⟩
set_option maxRecDepth 100000 in
set_option maxHeartbeats 1500000 in
theorem LW_start {Φ : ZPhi} {K : ZRet} {S : Nat × (Nat → Int)} (hΦ : zClosed cd_LWs K (fun _ _ => False) 601024 7293034 Φ) {M0 : ZM} (hN0 : zN M0 = 64) (hC : KC M0) (hD : KD M0) (hs : (zO M0 62 20 ∧ zLn M0 62 = S.1) ∧ ∀ j, zI M0 62 j = S.2 j)
    (go : ∀ (M : ZM) (k n : Nat), INV S 0 M → k ≤ 1100 → n ≤ 14000 → Φ 28 [some (zo 62), some (zo 64), some (zo 670), some (zo 681), some (zo 682), some (zi 0), none, none, none, none] [] M k n) : Φ 0 [some (zo 62), none, none, none, none, none, none, none, none, none] [] M0 0 0 := by
  have h16 : ∀ (M1 M2 : ZM) (k n : Nat), A1 M0 M1 → A2 M1 M2 → k = 617 → n = 13519 → Φ 16 [some (zo 62), some (zo 64), some (zo 670), none, none, none, none, none, none, none] [] M2 k n := by
    intro M1 M2 k n a1 a2 hk hn
    have i9 := INV0 hN0 hC hD hs a1 a2
    have n2 := a2.2.1
    refine zGoR hΦ [28] 400 (fun _ _ _ _ _ => ?_)
    refine ⟨⟨(by decide), (by decide), (by omega), (by subst hn; decide)⟩, ⟨⟨(by decide), (by decide), (by omega), (by subst hn; decide)⟩, ?_⟩⟩
    show Φ 28 [some (zo 62), some (zo 64), some (zo 670), some (zo (zN M2)), some (zo (zN (zNw M2 23 1))), some (zi 0), none, none, none, none] [] (zNw (zNw M2 23 1) 24 1) (k + 1 + 1) (n + 1 + 1)
    rw [i9.2, n2]
    exact go _ _ _ i9.1 (by omega) (by omega)
  have h8 : ∀ (M1 : ZM) (k n : Nat), A1 M0 M1 → k = 606 → n = 6871 → Φ 8 [some (zo 62), some (zo 64), none, none, none, none, none, none, none, none] [] M1 k n := by
    intro M1 k n a1 hk hn
    obtain ⟨n9, r9⟩ := M1
    have e9 : n9 = 670 := a1.2.1
    subst e9
    refine zGoR hΦ [16] 400 (fun _ _ _ _ _ => ?_)
    have hw : zW (zNw (670, r9) 12 0) 670 12 := zW.nn (M := (670, r9)) (κ := 12) (n := 0) (show zCC ≤ 670 by decide)
    have hz : zI (zNw (670, r9) 12 0) 670 = (fun _ => 0) := zI_nw0 (670, r9) 12 0
    refine ⟨⟨(by omega), (by omega)⟩, ⟨rfl, ⟨⟨(by omega), (by omega)⟩, ⟨⟨rfl, rfl⟩, hw.rcv⟩, ⟨rfl, hw, rfl, hz, fun M2 b1 b2 b3 b4 b5 b6 b7 b8 => fun _ _ => ?_⟩⟩⟩⟩
    show Φ 16 [some (zo 62), some (zo 64), some (zo 670), none, none, none, none, none, none, none] [] M2 (k + 1 + 10) (n + 22 + 6626)
    exact h16 (670, r9) M2 _ _ a1 ⟨(UB.n (M := (670, r9)) (Nat.le_refl _)).tr b1, b2, b3, b4, b5, b6, b7, b8⟩ (by omega) (by omega)
  obtain ⟨n9, r9⟩ := M0
  have e9 : n9 = 64 := hN0
  subst e9
  refine zGoR hΦ [8] 400 (fun _ _ _ _ _ => ?_)
  have hw : zW (zNw (64, r9) 11 0) 64 11 := zW.nn (M := (64, r9)) (κ := 11) (n := 0) (show zCC ≤ 64 by decide)
  refine ⟨⟨(by decide), (by decide)⟩, ⟨rfl, ⟨⟨(by decide), (by decide)⟩, ⟨⟨rfl, rfl⟩, hw.rcv⟩, ⟨rfl, hw, rfl, fun M1 b1 b2 b3 b4 b5 b6 b7 b8 b9 b10 b11 => fun _ _ => ?_⟩⟩⟩⟩
  show Φ 8 [some (zo 62), some (zo 64), none, none, none, none, none, none, none, none] [] M1 (0 + 1 + 605) (0 + 10 + 6861)
  exact h8 M1 _ _ ⟨(UB.n (M := (64, r9)) (Nat.le_refl _)).tr b1, b2, b3, b4, b5, b6, b7, b8, b9, b10, b11.1, b11.2⟩ rfl rfl
