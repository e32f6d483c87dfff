def Sno (_ : Nat) : Prop := False
theorem SB.nw {M : ZM} {b c κ n : Nat} {o : List Int} (h : SB M b c o) : SB (zNw M κ n) b c o := by
  obtain ⟨h1, ⟨h2, h3, h4⟩, ⟨h5, h6⟩, h7, h8, h9⟩ := id h
  have hb := h1.2.2
  have hu := h3.2.2
  have e1 : vu (zNw M κ n) b = vu M b := by
    unfold vu
    exact congrArg (fun z : Option Nat => z.getD 0) (congrFun (up1_n _ _ _ (Nat.ne_of_lt hb)) 0)
  have ib : zI (zNw M κ n) b = zI M b := up1_n _ _ _ (Nat.ne_of_lt hb)
  have iu : zI (zNw M κ n) (vu M b) = zI M (vu M b) := up1_n _ _ _ (Nat.ne_of_lt hu)
  unfold SB
  rw [e1, ib, iu]
  exact ⟨⟨(up1_n _ _ _ (Nat.ne_of_lt hb)).trans h1.1, h1.2.1, Nat.lt_succ_of_lt hb⟩, ⟨(congrFun (up1_n _ _ _ (Nat.ne_of_lt hb)) 0).trans h2, ⟨(up1_n _ _ _ (Nat.ne_of_lt hu)).trans h3.1, h3.2.1, Nat.lt_succ_of_lt hu⟩, (up1_n _ _ _ (Nat.ne_of_lt hu)).trans h4⟩, ⟨h5, h6⟩, h7, h8, h9⟩
/-- a frame out of what stays of the old cells -/
theorem F0_mk {M M' : ZM} (h0 : zN M ≤ zN M') (h46 : 668 < zN M) (h : ∀ j, j < zN M → zK M' j = zK M j ∧ zLn M' j = zLn M j ∧ zI M' j = zI M j ∧ zR M' j = zR M j) : Fr Sno M M' := by
  refine ⟨h0, fun j hj => ⟨(h j hj).1, (h j hj).2.1, fun _ => (h j hj).2.2, fun k _ _ => congrFun (h j hj).2.2.2 k⟩, fun s l hz => ?_⟩
  obtain ⟨a1, a2, v, a3, a4, a5, a7, a6⟩ := hz
  obtain ⟨b1, b2, b3, b4⟩ := h s a1.2
  obtain ⟨d1, d2, d3, d4⟩ := h v a4.2
  refine ⟨⟨b1.trans a1.1, Nat.lt_of_lt_of_le a1.2 h0⟩, by rw [b3]; exact a2, v, by rw [b4]; exact a3, ⟨d1.trans a4.1, Nat.lt_of_lt_of_le a4.2 h0⟩, d2.trans a5, ⟨a7.1, ?_⟩, fun k hk => by rw [d3]; exact a6 k hk⟩
  rw [(h 668 h46).2.2.2]
  exact a7.2
theorem FX.f0 {M Mi M' : ZM} {b : Nat} (hi : Fr Sno M Mi) (h46 : 668 < zN M) (hb : zN M ≤ b) (hu : zN M ≤ vu Mi b) (f : FX b Mi M') : Fr Sno M M' := by
  obtain ⟨f1, f2, f3⟩ := f
  refine F0_mk (Nat.le_trans hi.1 f1) h46 (fun j hj => ?_)
  obtain ⟨a1, a2, a3, a4⟩ := hi.2.1 j hj
  obtain ⟨b1, b2, b3, b4⟩ := f3 j (Nat.lt_of_lt_of_le hj hi.1)
  have a5 := a3 (fun z => z)
  exact ⟨b1.trans a1, b2.trans a2, (b4 (by omega) (by omega)).trans a5.1, (b3 (by omega)).trans a5.2⟩
/-- what a new text needs of the output -/
def OX (M : ZM) : Prop := 670 ≤ zN M ∧ ∃ x, zR M 668 0 = some x ∧ x < zN M
theorem OX.f0 {M M' : ZM} (h : OX M) (f : Fr Sno M M') : OX M' := by
  obtain ⟨h1, x, h2, h3⟩ := h
  refine ⟨Nat.le_trans h1 f.1, x, ?_, Nat.lt_of_lt_of_le h3 f.1⟩
  rw [((f.2.1 668 (by omega)).2.2.1 (fun z => z)).2]
  exact h2
theorem NS_ok {M : ZM} {b c : Nat} {o : List Int} (h : SB M b c o) (hl : o.length ≤ c) (hO : OX M) : Fr Sno M (zsR (zcpy (zNw (zsI (zNw M 0 0) (zN M) 1 0) 21 (o.length : Int).toNat) (vu (zNw M 0 0) b) (zN M + 1) 0 0 (o.length : Int).toNat) (zN M) 0 (some (zN M + 1))) ∧ zTx (zsR (zcpy (zNw (zsI (zNw M 0 0) (zN M) 1 0) 21 (o.length : Int).toNat) (vu (zNw M 0 0) b) (zN M + 1) 0 0 (o.length : Int).toNat) (zN M) 0 (some (zN M + 1))) (zN M) o := by
  have hb := h.w.2.2
  have hu := h.a.2.2
  have hN := hO.1
  have e1 : vu (zNw M 0 0) b = vu M b := by
    unfold vu
    exact congrArg (fun z : Option Nat => z.getD 0) (congrFun (up1_n _ _ _ (Nat.ne_of_lt hb)) 0)
  have en : (o.length : Int).toNat = o.length := by omega
  rw [e1, en]
  obtain ⟨F, hF⟩ : ∃ F, zsR (zcpy (zNw (zsI (zNw M 0 0) (zN M) 1 0) 21 o.length) (vu M b) (zN M + 1) 0 0 o.length) (zN M) 0 (some (zN M + 1)) = F := ⟨_, rfl⟩
  have hI1 : ∀ x, x < zN M → zI F x = zI M x := fun x hx => by
    rw [← hF]
    show zI (zcpy (zNw (zsI (zNw M 0 0) (zN M) 1 0) 21 o.length) (vu M b) (zN M + 1) 0 0 o.length) x = zI M x
    rw [zcpn _ _ _ _ _ _ (Nat.ne_of_lt (Nat.lt_succ_of_lt hx))]
    refine (up1_n _ _ _ (Nat.ne_of_lt (Nat.lt_succ_of_lt hx))).trans ?_
    refine (zI_In _ _ _ (Nat.ne_of_lt hx)).trans ?_
    exact up1_n _ _ _ (Nat.ne_of_lt hx)
  have hR1 : ∀ x, x < zN M → zR F x = zR M x := fun x hx => by
    rw [← hF]
    refine (funext (fun y => up2_n _ _ _ _ y (Nat.ne_of_lt hx))).trans ?_
    refine (up1_n _ _ _ (Nat.ne_of_lt (Nat.lt_succ_of_lt hx))).trans ?_
    exact up1_n _ _ _ (Nat.ne_of_lt hx)
  have hK1 : ∀ x, x < zN M → zK F x = zK M x ∧ zLn F x = zLn M x := fun x hx => by
    rw [← hF]
    exact ⟨(up1_n _ _ _ (Nat.ne_of_lt (Nat.lt_succ_of_lt hx))).trans (up1_n _ _ _ (Nat.ne_of_lt hx)), (up1_n _ _ _ (Nat.ne_of_lt (Nat.lt_succ_of_lt hx))).trans (up1_n _ _ _ (Nat.ne_of_lt hx))⟩
  have hFN : zN F = zN M + 2 := by rw [← hF]; rfl
  have f0 : Fr Sno M F := F0_mk (by omega) (by omega) (fun j hj => ⟨(hK1 j hj).1, (hK1 j hj).2, hI1 j hj, hR1 j hj⟩)
  rw [hF]
  refine ⟨f0, ⟨?_, by omega⟩, ?_, zN M + 1, ?_, ⟨?_, by omega⟩, ?_, ⟨Or.inr (by omega), ?_⟩, fun k hk => ?_⟩
  · rw [← hF]
    exact (up1_n _ _ _ (Nat.ne_of_lt (Nat.lt_succ_self _))).trans (up1_s _ _ _)
  · rw [← hF]
    show zI (zcpy (zNw (zsI (zNw M 0 0) (zN M) 1 0) 21 o.length) (vu M b) (zN M + 1) 0 0 o.length) (zN M) 1 = 0
    rw [zcpn _ _ _ _ _ _ (Nat.ne_of_lt (Nat.lt_succ_self _))]
    refine (congrFun (up1_n _ _ _ (Nat.ne_of_lt (Nat.lt_succ_self _))) 1).trans ?_
    exact zI_Is _ _ _ _
  · rw [← hF]
    exact up2_s _ _ _ _
  · rw [← hF]
    exact up1_s _ _ _
  · rw [← hF]
    exact up1_s _ _ _
  · obtain ⟨-, x, hx1, hx2⟩ := hO
    rw [hR1 668 (by omega), hx1]
    intro z
    have := Option.some.inj z
    omega
  · rw [← hF]
    show zI (zcpy (zNw (zsI (zNw M 0 0) (zN M) 1 0) 21 o.length) (vu M b) (zN M + 1) 0 0 o.length) (zN M + 1) k = o.getD k 0
    rw [zcpi _ _ _ hk]
    rw [← h.2.2.2.2.2 k hk]
    refine congrFun ?_ k
    refine (up1_n _ _ _ (Nat.ne_of_lt (Nat.lt_succ_of_lt hu))).trans ?_
    refine (zI_In _ _ _ (Nat.ne_of_lt hu)).trans ?_
    exact up1_n _ _ _ (Nat.ne_of_lt hu)
def T_J4_toString_0e30d : ZTf := fun av M K KX => ∃ (b c : Nat) (o : List Int), av = [zo b] ∧ (SB M b c o) ∧ (o.length ≤ 6 ∧ 16 ≤ c) ∧ (OX M) ∧  (∀ M' : ZM, (Fr Sno M M') → (zTx M' (zN M) o) → K (some (zo (zN M))) M')
set_option maxRecDepth 100000 in
set_option maxHeartbeats 1500000 in
theorem bd_J4_toString_0e30d : zBd (cd_J4_toString_0e30d T_J0_init_81219) 1 2 10 T_J4_toString_0e30d := by
  rintro av M K KX hA0 hM ⟨b, c, o, rfl, hS, hl9, hO, hK⟩
  have h64 : zCC ≤ zN M := by have := hO.1; unfold zCC; omega
  have hs0 : zW (zNw M 0 0) (zN M) 0 := ⟨up1_s _ _ _, h64, Nat.lt_succ_self _⟩
  refine ⟨rfl, fun Φ hΦ => ?_⟩
  refine zGoR hΦ [] 400 (fun hL9 _ hM _ _ => ?_)
  obtain ⟨_⟩ : True := hL9
  refine ⟨⟨(by decide), (by decide)⟩, ⟨rfl, ⟨⟨(by decide), (by decide)⟩, ⟨⟨rfl, rfl⟩, hs0.rcv⟩, ⟨(zN M), b, c, o, rfl, hs0, hS.nw, hl9, fun qg1 qm2 => (show K (some (zo (zN M))) (zsR (zcpy (zNw (zsI (zNw M 0 0) (zN M) 1 0) 21 (o.length : Int).toNat) (vu (zNw M 0 0) b) (zN (zNw M 0 0)) 0 0 (o.length : Int).toNat) (zN M) 0 (some (zN (zNw M 0 0)))) from ?g426l1)⟩⟩⟩⟩
  case g426l1 =>
    have h9 := NS_ok hS (by omega) hO
    exact hK _ h9.1 h9.2
theorem M_J4_toString_0e30d {l : Launch} (hl : l.stackTraces = false) : zMet l yJ4_toString_0e30d (Cond.code yJ4_toString_0e30d cJ4_toString_0e30d 1 (Option.some (Jvm.ClassFile.FieldType.object "java/lang/String")) :: zG) rm_J4_toString_0e30d 2 10 T_J4_toString_0e30d := met_J4_toString_0e30d hl (M_J0_init_81219 hl) bd_J4_toString_0e30d
/-- the builder of names as a builder -/
theorem TXB.sb {M : ZM} (h : TXB M) (hL : LV M) : (∃ o, SB M 68 16 o) ∧ vu M 68 = 69 := by
  obtain ⟨h1, h2, h3, h4⟩ := h
  have hv : vu M 68 = 69 := by unfold vu; rw [h1]; rfl
  refine ⟨⟨(List.range (zI M 68 3).toNat).map (fun k => zI M 69 k), ?_⟩, hv⟩
  unfold SB
  rw [hv]
  refine ⟨hL.wTB, ⟨h1, hL.a_tb, hL.l_tb⟩, ⟨h2, ?_⟩, ⟨?_, by decide⟩, h4, fun k hk => ?_⟩
  · rw [List.length_map, List.length_range]; omega
  · rw [List.length_map, List.length_range]; omega
  · rw [List.length_map, List.length_range] at hk
    rw [List.getD_eq_getElem?_getD, List.getElem?_map, List.getElem?_range hk]
    rfl
theorem TXB.of {M : ZM} {o : List Int} (h : SB M 68 16 o) (hv : vu M 68 = 69) : TXB M := by
  obtain ⟨h1, ⟨h2, h3, h4⟩, ⟨h5, h6⟩, ⟨h7, h8⟩, h9, h10⟩ := h
  rw [hv] at h2 h9
  exact ⟨h2, h5, by omega, h9⟩
def Stb (j : Nat) : Prop := j = 68 ∨ j = 69
theorem zTx.tb {M M' : ZM} {o o' : List Int} {s : Nat} {l : List Int} (hz : zTx M s l) (hx : FX 68 M M') (hS : SB M 68 16 o) (hS' : SB M' 68 16 o') (hv : vu M 68 = 69) (h46 : 668 < zN M) : zTx M' s l := by
  refine FX.tx hz hS hS' hx h46 ?_
  obtain ⟨-, -, v, a3, -, -, a7, -⟩ := hz
  have e9 : vu M s = v := by unfold vu; rw [a3]; rfl
  have h7 := a7.1
  omega
theorem FX.ftb {M M' : ZM} {o o' : List Int} (hx : FX 68 M M') (hS : SB M 68 16 o) (hS' : SB M' 68 16 o') (hv : vu M 68 = 69) (h46 : 668 < zN M) : Fr Stb M M' := by
  obtain ⟨f1, f2, f3⟩ := id hx
  refine ⟨f1, fun j hj => ?_, fun s l hz => hz.tb hx hS hS' hv h46⟩
  obtain ⟨a1, a2, a3, a4⟩ := f3 j hj
  refine ⟨a1, a2, fun q => ?_, fun k q1 q2 => ?_⟩
  · have e1 : j ≠ 68 := fun z => q (Or.inl z)
    have e2 : j ≠ 69 := fun z => q (Or.inr z)
    exact ⟨a4 e1 (by rw [hv]; exact e2), a3 e1⟩
  · have e1 : j ≠ 68 := fun z => q2 (by rw [z]; exact hS.w.1)
    rw [a3 e1]
theorem CIn.tb {M M' : ZM} {B : Gm} {n : Int} (h : CIn M B n) (hL : LV M) (f : Fr Stb M M') (ht : TXB M') : CIn M' B n := by
  unfold CIn at h ⊢
  rw [f.i hL.wI (by unfold Stb; omega), f.i hL.a_bytes (by unfold Stb; omega)]
  exact ⟨h.1, h.2.1, h.2.2.1, ht⟩
theorem OX.ftb {M M' : ZM} (h : OX M) (f : Fr Stb M M') : OX M' := by
  obtain ⟨h1, x, h2, h3⟩ := h
  refine ⟨Nat.le_trans h1 f.1, x, ?_, Nat.lt_of_lt_of_le h3 f.1⟩
  rw [((f.2.1 668 (by omega)).2.2.1 (by unfold Stb; omega)).2]
  exact h2
def T_X1_textBetween : ZTf := fun av M K KX => ∃ (B : Gm) (n a e : Int), av = [zo 66, zi a, zi e] ∧ (LV M) ∧ (CIn M B n) ∧ (OX M) ∧ (0 ≤ a ∧ a ≤ e ∧ e ≤ n ∧ e - a ≤ 6) ∧ (∀ k : Int, a ≤ k → k < e → 0 ≤ B k.toNat ∧ B k.toNat < 128) ∧ (∀ (M' : ZM) (s : Nat), Fr Stb M M' → CIn M' B n → zTx M' s (bl B a (e - a).toNat) → 64 ≤ s → K (some (zo s)) M')
set_option maxRecDepth 100000 in
set_option maxHeartbeats 1500000 in
theorem bd_X1_textBetween : zBd (cd_X1_textBetween T_J4_setLength_d00df T_J4_append_cf468 T_J4_toString_0e30d) 4 4 30 T_X1_textBetween := by
  rintro av M K KX hA0 hM ⟨B, n, a, e, rfl, hL, hI, hOX, hae, hlt, hK⟩
  have hn0 := hI.2.1
  have h9N := hOX.1
  obtain ⟨⟨o0, hS⟩, hv0⟩ := hI.2.2.2.sb hL
  refine ⟨rfl, fun Φ hΦ => ?_⟩
  have loop : ∀ i, a ≤ i → i ≤ e → ∀ (M90 : ZM), FX 68 M M90 → vu M90 68 = 69 → SB M90 68 16 (bl B a (i - a).toNat) → Φ 14 [some (zo 66), some (zi a), some (zi e), some (zi i)] [] M90 0 0 := by
    refine zdownF (lo := a) (n := e) (P := fun i => ∀ (M90 : ZM), FX 68 M M90 → vu M90 68 = 69 → SB M90 68 16 (bl B a (i - a).toNat) → Φ 14 [some (zo 66), some (zi a), some (zi e), some (zi i)] [] M90 0 0) (fun i h0 h1 ih M90 hx90 hv90 hS90 => ?_)
    have f90 := hx90.ftb hS hS90 hv0 (by omega)
    have hL90 := hL.fr f90
    have hI90 : CIn M90 B n := hI.tb hL f90 (TXB.of hS90 hv90)
    have hmn := zminc e n
    have hb := fun q : i < e => (hI90.2.2.1 i.toNat (by omega)).1
    have hli := fun q : i < e => hlt i h0 q
    have hbl := bl_len B a (i - a).toNat
    have hci : i < e → zi2c (B i.toNat) = B i.toNat := fun q => zi2c_i (by have := hli q; omega)
    have hnc : ncap 16 ((bl B a (i - a).toNat).length + 1) = 16 := by rw [hbl]; unfold ncap; exact if_pos (by omega)
    refine zGoR hΦ [14] 400 (fun hL9 _ hM _ _ => ?_)
    obtain ⟨qL1, qL2, qL3, _⟩ : zrg a ∧ zrg e ∧ zrg i ∧ True := hL9
    refine ⟨hL90.wI, zIr (hI90.1) (⟨rfl, ⟨fun (qc1 : i ≥ zmin e n) => ⟨hL90.wI, _, hL90.i2, ⟨⟨(by decide), (by decide)⟩, ⟨⟨rfl, rfl⟩, hS90.w.rcv⟩, ⟨68, 16, (bl B a (i - a).toNat), rfl, hS90, (by omega), (hOX.ftb f90), fun M1 hf1 hz1 => (fun qg2 qm3 => (show K (some (zo (zN M90))) M1 from ?g427l1))⟩⟩⟩, fun (qc4 : i < zmin e n) => ⟨hL90.wI, _, hL90.i2, ⟨hL90.wI, _, hL90.i0, ⟨zixO hL90.a_bytes hL90.l_bytes (i := i) (by omega) (by decide), zIr ((hb (by omega))) (⟨0, 0, ⟨(by decide), (by decide)⟩, ⟨⟨rfl, rfl⟩, hS90.w.rcv⟩, ⟨68, 16, 16, (bl B a (i - a).toNat), (zi2c (B i.toNat)), rfl, hS90, (by have := hci (by omega); have := hli (by omega); omega), hnc, (by omega), fun M2 hS2 hx2 hvu2 => (fun qg5 qm6 => ⟨rfl, ⟨(zrgI (x := i + 1) (by omega)), (show Φ 14 [some (zo 66), some (zi a), some (zi e), some (zi (i + 1))] [] M2 (0 + 0) (0 + 0) from ?g427l2)⟩⟩)⟩⟩)⟩⟩⟩⟩⟩)⟩
    case g427l1 =>
      have e9 : i = e := (by omega)
      subst e9
      exact hK _ _ (f90.tr (hf1.mono (fun _ z => z.elim))) (hI90.fr hL90 hf1 (fun z => z) ⟨fun z => z, fun z => z, fun z => z⟩) hz1 (by have := f90.1; omega)
    case g427l2 =>
      have e8 : (i + 1 - a).toNat = (i - a).toNat + 1 := by omega
      have h9 := hS2
      rw [hci (by omega)] at h9
      refine ih (by omega) _ (hx90.tr hx2) ((hvu2 rfl).trans hv90) ?_
      rw [e8, bl_s, show a + (((i - a).toNat : Nat) : Int) = i by omega]
      exact h9
  have hmx := zmaxc 0 a
  refine zGoR hΦ [14] 400 (fun hL9 _ hM _ _ => ?_)
  obtain ⟨qL1, qL2, _⟩ : zrg a ∧ zrg e ∧ True := hL9
  refine ⟨hL.wI, _, hL.i2, ⟨0, 0, ⟨(by decide), (by decide)⟩, ⟨⟨rfl, rfl⟩, hS.w.rcv⟩, ⟨68, 16, o0, rfl, hS, fun M1 hS1 hx1 hvu1 => (fun qg1 qm2 => ⟨rfl, (show Φ 14 [some (zo 66), some (zi a), some (zi e), some (zi (zmax 0 a))] [] M1 (0 + 0) (0 + 0) from ?g428l1)⟩)⟩⟩⟩
  case g428l1 =>
    have e9 : zmax 0 a = a := by omega
    rw [e9]
    exact loop a (Int.le_refl _) hae.2.1 _ hx1 (hvu1.trans hv0) (by rw [show (a - a).toNat = 0 by omega]; exact hS1)
theorem M_X1_textBetween {l : Launch} (hl : l.stackTraces = false) : zMet l yX1_textBetween (Cond.code yX1_textBetween cX1_textBetween 4 (Option.some (Jvm.ClassFile.FieldType.object "java/lang/String")) :: zG) rm_X1_textBetween 4 30 T_X1_textBetween := met_X1_textBetween hl (M_J4_setLength_d00df hl) (M_J4_append_cf468 hl) (M_J4_toString_0e30d hl) bd_X1_textBetween
