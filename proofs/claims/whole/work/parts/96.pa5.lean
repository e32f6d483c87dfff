/-! the class: a name cut out of the text; a worker put -/
def Sno (_ : Nat) : Prop := False
theorem SB.nw {M : ZM} {b c κ n : Nat} {o : List Int} (h : SB M b c o) : SB (zNw M κ n) b c o := by
  obtain ⟨h1, ⟨h2, h3, h4⟩, ⟨h5, h6⟩, h7, h8, h9⟩ := id h
  have hb := h1.2.2
  have hu := h3.2.2
  have e1 : vu (zNw M κ n) b = vu M b := by
    unfold vu
    exact congrArg (fun z : Option Nat => z.getD 0) (congrFun (up1_n _ _ _ (Nat.ne_of_lt hb)) 0)
  have ib : zI (zNw M κ n) b = zI M b := up1_n _ _ _ (Nat.ne_of_lt hb)
  have iu : zI (zNw M κ n) (vu M b) = zI M (vu M b) := up1_n _ _ _ (Nat.ne_of_lt hu)
  unfold SB
  rw [e1, ib, iu]
  exact ⟨⟨(up1_n _ _ _ (Nat.ne_of_lt hb)).trans h1.1, h1.2.1, Nat.lt_succ_of_lt hb⟩, ⟨(congrFun (up1_n _ _ _ (Nat.ne_of_lt hb)) 0).trans h2, ⟨(up1_n _ _ _ (Nat.ne_of_lt hu)).trans h3.1, h3.2.1, Nat.lt_succ_of_lt hu⟩, (up1_n _ _ _ (Nat.ne_of_lt hu)).trans h4⟩, ⟨h5, h6⟩, h7, h8, h9⟩
/-- a frame out of what stays of the old cells -/
theorem F0_mk {M M' : ZM} (h0 : zN M ≤ zN M') (h46 : 1146 < zN M) (h : ∀ j, j < zN M → zK M' j = zK M j ∧ zLn M' j = zLn M j ∧ zI M' j = zI M j ∧ zR M' j = zR M j) : Fr Sno M M' := by
  refine ⟨h0, fun j hj => ⟨(h j hj).1, (h j hj).2.1, fun _ => (h j hj).2.2, fun k _ _ => congrFun (h j hj).2.2.2 k⟩, fun s l hz => ?_⟩
  obtain ⟨a1, a2, v, a3, a4, a5, a7, a6⟩ := hz
  obtain ⟨b1, b2, b3, b4⟩ := h s a1.2
  obtain ⟨d1, d2, d3, d4⟩ := h v a4.2
  refine ⟨⟨b1.trans a1.1, Nat.lt_of_lt_of_le a1.2 h0⟩, by rw [b3]; exact a2, v, by rw [b4]; exact a3, ⟨d1.trans a4.1, Nat.lt_of_lt_of_le a4.2 h0⟩, d2.trans a5, ⟨a7.1, ?_⟩, fun k hk => by rw [d3]; exact a6 k hk⟩
  rw [(h 1146 h46).2.2.2]
  exact a7.2
theorem FX.f0 {M Mi M' : ZM} {b : Nat} (hi : Fr Sno M Mi) (h46 : 1146 < zN M) (hb : zN M ≤ b) (hu : zN M ≤ vu Mi b) (f : FX b Mi M') : Fr Sno M M' := by
  obtain ⟨f1, f2, f3⟩ := f
  refine F0_mk (Nat.le_trans hi.1 f1) h46 (fun j hj => ?_)
  obtain ⟨a1, a2, a3, a4⟩ := hi.2.1 j hj
  obtain ⟨b1, b2, b3, b4⟩ := f3 j (Nat.lt_of_lt_of_le hj hi.1)
  have a5 := a3 (fun z => z)
  exact ⟨b1.trans a1, b2.trans a2, (b4 (by omega) (by omega)).trans a5.1, (b3 (by omega)).trans a5.2⟩
/-- what a new text needs of the output -/
def OX (M : ZM) : Prop := 1159 ≤ zN M ∧ ∃ x, zR M 1146 0 = some x ∧ x < zN M
theorem OX.f0 {M M' : ZM} (h : OX M) (f : Fr Sno M M') : OX M' := by
  obtain ⟨h1, x, h2, h3⟩ := h
  refine ⟨Nat.le_trans h1 f.1, x, ?_, Nat.lt_of_lt_of_le h3 f.1⟩
  rw [((f.2.1 1146 (by omega)).2.2.1 (fun z => z)).2]
  exact h2
theorem NS_ok {M : ZM} {b c : Nat} {o : List Int} (h : SB M b c o) (hl : o.length ≤ c) (hO : OX M) : Fr Sno M (zsR (zcpy (zNw (zsI (zNw M 0 0) (zN M) 1 0) 21 (o.length : Int).toNat) (vu (zNw M 0 0) b) (zN M + 1) 0 0 (o.length : Int).toNat) (zN M) 0 (some (zN M + 1))) ∧ zTx (zsR (zcpy (zNw (zsI (zNw M 0 0) (zN M) 1 0) 21 (o.length : Int).toNat) (vu (zNw M 0 0) b) (zN M + 1) 0 0 (o.length : Int).toNat) (zN M) 0 (some (zN M + 1))) (zN M) o := by
  have hb := h.w.2.2
  have hu := h.a.2.2
  have hN := hO.1
  have e1 : vu (zNw M 0 0) b = vu M b := by
    unfold vu
    exact congrArg (fun z : Option Nat => z.getD 0) (congrFun (up1_n _ _ _ (Nat.ne_of_lt hb)) 0)
  have en : (o.length : Int).toNat = o.length := by omega
  rw [e1, en]
  obtain ⟨F, hF⟩ : ∃ F, zsR (zcpy (zNw (zsI (zNw M 0 0) (zN M) 1 0) 21 o.length) (vu M b) (zN M + 1) 0 0 o.length) (zN M) 0 (some (zN M + 1)) = F := ⟨_, rfl⟩
  have hI1 : ∀ x, x < zN M → zI F x = zI M x := fun x hx => by
    rw [← hF]
    show zI (zcpy (zNw (zsI (zNw M 0 0) (zN M) 1 0) 21 o.length) (vu M b) (zN M + 1) 0 0 o.length) x = zI M x
    rw [zcpn _ _ _ _ _ _ (Nat.ne_of_lt (Nat.lt_succ_of_lt hx))]
    refine (up1_n _ _ _ (Nat.ne_of_lt (Nat.lt_succ_of_lt hx))).trans ?_
    refine (zI_In _ _ _ (Nat.ne_of_lt hx)).trans ?_
    exact up1_n _ _ _ (Nat.ne_of_lt hx)
  have hR1 : ∀ x, x < zN M → zR F x = zR M x := fun x hx => by
    rw [← hF]
    refine (funext (fun y => up2_n _ _ _ _ y (Nat.ne_of_lt hx))).trans ?_
    refine (up1_n _ _ _ (Nat.ne_of_lt (Nat.lt_succ_of_lt hx))).trans ?_
    exact up1_n _ _ _ (Nat.ne_of_lt hx)
  have hK1 : ∀ x, x < zN M → zK F x = zK M x ∧ zLn F x = zLn M x := fun x hx => by
    rw [← hF]
    exact ⟨(up1_n _ _ _ (Nat.ne_of_lt (Nat.lt_succ_of_lt hx))).trans (up1_n _ _ _ (Nat.ne_of_lt hx)), (up1_n _ _ _ (Nat.ne_of_lt (Nat.lt_succ_of_lt hx))).trans (up1_n _ _ _ (Nat.ne_of_lt hx))⟩
  have hFN : zN F = zN M + 2 := by rw [← hF]; rfl
  have f0 : Fr Sno M F := F0_mk (by omega) (by omega) (fun j hj => ⟨(hK1 j hj).1, (hK1 j hj).2, hI1 j hj, hR1 j hj⟩)
  rw [hF]
  refine ⟨f0, ⟨?_, by omega⟩, ?_, zN M + 1, ?_, ⟨?_, by omega⟩, ?_, ⟨Or.inr (by omega), ?_⟩, fun k hk => ?_⟩
  · rw [← hF]
    exact (up1_n _ _ _ (Nat.ne_of_lt (Nat.lt_succ_self _))).trans (up1_s _ _ _)
  · rw [← hF]
    show zI (zcpy (zNw (zsI (zNw M 0 0) (zN M) 1 0) 21 o.length) (vu M b) (zN M + 1) 0 0 o.length) (zN M) 1 = 0
    rw [zcpn _ _ _ _ _ _ (Nat.ne_of_lt (Nat.lt_succ_self _))]
    refine (congrFun (up1_n _ _ _ (Nat.ne_of_lt (Nat.lt_succ_self _))) 1).trans ?_
    exact zI_Is _ _ _ _
  · rw [← hF]
    exact up2_s _ _ _ _
  · rw [← hF]
    exact up1_s _ _ _
  · rw [← hF]
    exact up1_s _ _ _
  · obtain ⟨-, x, hx1, hx2⟩ := hO
    rw [hR1 1146 (by omega), hx1]
    intro z
    have := Option.some.inj z
    omega
  · rw [← hF]
    show zI (zcpy (zNw (zsI (zNw M 0 0) (zN M) 1 0) 21 o.length) (vu M b) (zN M + 1) 0 0 o.length) (zN M + 1) k = o.getD k 0
    rw [zcpi _ _ _ hk]
    rw [← h.2.2.2.2.2 k hk]
    refine congrFun ?_ k
    refine (up1_n _ _ _ (Nat.ne_of_lt (Nat.lt_succ_of_lt hu))).trans ?_
    refine (zI_In _ _ _ (Nat.ne_of_lt hu)).trans ?_
    exact up1_n _ _ _ (Nat.ne_of_lt hu)

def T_J4_toString_0e30d : ZTf := fun av M K KX => ∃ (b c : Nat) (o : List Int), av = [zo b] ∧ (SB M b c o) ∧ (o.length ≤ 6 ∧ 16 ≤ c) ∧ (OX M) ∧  (∀ M' : ZM, (Fr Sno M M') → (zTx M' (zN M) o) → K (some (zo (zN M))) M')
set_option maxRecDepth 100000 in
set_option maxHeartbeats 1500000 in
theorem bd_J4_toString_0e30d : zBd (cd_J4_toString_0e30d T_J0_init_81219) 1 2 10 T_J4_toString_0e30d := by
  rintro av M K KX hA0 hM ⟨b, c, o, rfl, hS, hl9, hO, hK⟩
  have h64 : zCC ≤ zN M := by have := hO.1; unfold zCC; omega
  have hs0 : zW (zNw M 0 0) (zN M) 0 := ⟨up1_s _ _ _, h64, Nat.lt_succ_self _⟩
  refine ⟨rfl, fun Φ hΦ => ?_⟩
  refine zGoR hΦ [] 400 (fun hL9 _ hM _ _ => ?_)
  obtain ⟨_⟩ : True := hL9
  refine ⟨⟨(by decide), (by decide)⟩, ⟨rfl, ⟨⟨(by decide), (by decide)⟩, ⟨⟨rfl, rfl⟩, hs0.rcv⟩, ⟨(zN M), b, c, o, rfl, hs0, hS.nw, hl9, fun qg1 qm2 => (show K (some (zo (zN M))) (zsR (zcpy (zNw (zsI (zNw M 0 0) (zN M) 1 0) 21 (o.length : Int).toNat) (vu (zNw M 0 0) b) (zN (zNw M 0 0)) 0 0 (o.length : Int).toNat) (zN M) 0 (some (zN (zNw M 0 0)))) from ?g427l1)⟩⟩⟩⟩
  case g427l1 =>
    have h9 := NS_ok hS (by omega) hO
    exact hK _ h9.1 h9.2
theorem M_J4_toString_0e30d {l : Launch} (hl : l.stackTraces = false) : zMet l yJ4_toString_0e30d (Cond.code yJ4_toString_0e30d cJ4_toString_0e30d 1 (Option.some (Jvm.ClassFile.FieldType.object "java/lang/String")) :: zG) rm_J4_toString_0e30d 2 10 T_J4_toString_0e30d := met_J4_toString_0e30d hl (M_J0_init_81219 hl) bd_J4_toString_0e30d

def T_X1_textBetween : ZTf := fun av M K KX => ∃ (B : Gm) (n a e : Int), av = [zo 66, zi a, zi e] ∧ (LV M) ∧ (CIn M B n) ∧ (OX M) ∧ (0 ≤ a ∧ a ≤ e ∧ e ≤ n ∧ e - a ≤ 6) ∧ (∀ k : Int, a ≤ k → k < e → 0 ≤ B k.toNat ∧ B k.toNat < 128) ∧ (∀ (M' : ZM) (s : Nat), Fr Sno M M' → zTx M' s (bl B a (e - a).toNat) → 64 ≤ s → K (some (zo s)) M')
set_option maxRecDepth 100000 in
set_option maxHeartbeats 1500000 in
theorem bd_X1_textBetween : zBd (cd_X1_textBetween T_J4_init_da8c8 T_J4_append_cf468 T_J4_toString_0e30d) 5 4 30 T_X1_textBetween := by
  rintro av M K KX hA0 hM ⟨B, n, a, e, rfl, hL, hI, hOX, hae, hlt, hK⟩
  have hn0 := hI.2.1
  have h9N := hOX.1
  have h64 : zCC ≤ zN M := by unfold zCC; omega
  obtain ⟨Mi, hMi⟩ : ∃ Mi, (zsI (zsR (zNw (zNw M 1 0) 21 16) (zN M) 0 (some (zN M + 1))) (zN M) 1 0) = Mi := ⟨_, rfl⟩
  have hw0 : zW (zNw M 1 0) (zN M) 1 := ⟨up1_s _ _ _, h64, Nat.lt_succ_self _⟩
  have hiN : zN Mi = zN M + 2 := by rw [← hMi]
  have hiI : ∀ x, x < zN M → zI Mi x = zI M x := fun x hx => by
    rw [← hMi]
    refine (zI_In _ _ _ (Nat.ne_of_lt hx)).trans ?_
    exact (up1_n _ _ _ (Nat.ne_of_lt (Nat.lt_succ_of_lt hx))).trans (up1_n _ _ _ (Nat.ne_of_lt hx))
  have hiR : ∀ x, x < zN M → zR Mi x = zR M x := fun x hx => by
    rw [← hMi]
    refine (funext (fun y => up2_n _ _ _ _ y (Nat.ne_of_lt hx))).trans ?_
    exact (up1_n _ _ _ (Nat.ne_of_lt (Nat.lt_succ_of_lt hx))).trans (up1_n _ _ _ (Nat.ne_of_lt hx))
  have hiK : ∀ x, x < zN M → zK Mi x = zK M x ∧ zLn Mi x = zLn M x := fun x hx => by
    rw [← hMi]
    exact ⟨(up1_n _ _ _ (Nat.ne_of_lt (Nat.lt_succ_of_lt hx))).trans (up1_n _ _ _ (Nat.ne_of_lt hx)), (up1_n _ _ _ (Nat.ne_of_lt (Nat.lt_succ_of_lt hx))).trans (up1_n _ _ _ (Nat.ne_of_lt hx))⟩
  have fi : Fr Sno M Mi := F0_mk (by omega) (by omega) (fun j hj => ⟨(hiK j hj).1, (hiK j hj).2, hiI j hj, hiR j hj⟩)
  have hir : zR Mi (zN M) 0 = some (zN M + 1) := by rw [← hMi]; exact up2_s _ _ _ _
  have hiv : vu Mi (zN M) = zN M + 1 := by unfold vu; rw [hir]; rfl
  have hi1 : zI Mi (zN M + 1) = fun _ => 0 := by
    rw [← hMi]
    refine (zI_In _ _ _ (Ne.symm (Nat.ne_of_lt (Nat.lt_succ_self _)))).trans ?_
    exact up1_s _ _ _
  have hi0 : ∀ k, k ≠ 1 → zI Mi (zN M) k = 0 := fun k hk => by
    rw [← hMi]
    refine (zI_Im _ _ _ hk).trans ?_
    refine (congrFun (up1_n _ _ _ (Nat.ne_of_lt (Nat.lt_succ_self _))) k).trans ?_
    exact congrFun (up1_s _ _ _) k
  have hSi : SB Mi (zN M) 16 [] := by
    refine ⟨⟨?_, h64, by omega⟩, ⟨by rw [hiv]; exact hir, ⟨?_, by rw [hiv]; unfold zCC; omega, by rw [hiv]; omega⟩, ?_⟩, ⟨?_, ?_⟩, ⟨by decide, by decide⟩, fun k => ?_, fun k hk => absurd hk (Nat.not_lt_zero _)⟩
    · rw [← hMi]
      exact (up1_n _ _ _ (Nat.ne_of_lt (Nat.lt_succ_self _))).trans (up1_s _ _ _)
    · rw [hiv, ← hMi]
      exact up1_s _ _ _
    · rw [hiv, ← hMi]
      exact up1_s _ _ _
    · rw [← hMi]
      exact zI_Is _ _ _ _
    · exact hi0 3 (by decide)
    · rw [hiv, hi1]
      exact zPbI (show -128 ≤ (0 : Int) ∧ (0 : Int) < 128 by decide)
  refine ⟨rfl, fun Φ hΦ => ?_⟩
  have hbn : ∀ (M90 : ZM), FX (zN M) Mi M90 → Fr Sno M M90 := fun M90 f => FX.f0 fi (by omega) (Nat.le_refl _) (by omega) f
  have loop : ∀ i, a ≤ i → i ≤ e → ∀ (M90 : ZM), FX (zN M) Mi M90 → SB M90 (zN M) 16 (bl B a (i - a).toNat) → Φ 15 [some (zo 66), some (zi a), some (zi e), some (zo (zN M)), some (zi i)] [] M90 2 20 := by
    refine zdownF (lo := a) (n := e) (P := fun i => ∀ (M90 : ZM), FX (zN M) Mi M90 → SB M90 (zN M) 16 (bl B a (i - a).toNat) → Φ 15 [some (zo 66), some (zi a), some (zi e), some (zo (zN M)), some (zi i)] [] M90 2 20) (fun i h0 h1 ih M90 hx90 hS90 => ?_)
    have f90 := hbn M90 hx90
    have hL90 := hL.fr f90
    have hI90 : CIn M90 B n := hI.fr hL f90 (fun z => z) (fun z => z)
    have hmn := zminc e n
    have hb := fun q : i < e => (hI90.2.2 i.toNat (by omega)).1
    have hli := fun q : i < e => hlt i h0 q
    have hbl := bl_len B a (i - a).toNat
    have hci : i < e → zi2c (B i.toNat) = B i.toNat := fun q => zi2c_i (by have := hli q; omega)
    have hnc : ncap 16 ((bl B a (i - a).toNat).length + 1) = 16 := by rw [hbl]; unfold ncap; exact if_pos (by omega)
    refine zGoR hΦ [15] 400 (fun hL9 _ hM _ _ => ?_)
    obtain ⟨qL1, qL2, qL3, _⟩ : zrg a ∧ zrg e ∧ zrg i ∧ True := hL9
    refine ⟨hL90.wI, zIr (hI90.1) (⟨rfl, ⟨fun (qc1 : i ≥ zmin e n) => ⟨⟨(by decide), (by decide)⟩, ⟨⟨rfl, rfl⟩, hS90.w.rcv⟩, ⟨(zN M), 16, (bl B a (i - a).toNat), rfl, hS90, (by omega), (hOX.f0 f90), fun M1 hf1 hz1 => (fun qg2 qm3 => (show K (some (zo (zN M90))) M1 from ?g428l1))⟩⟩, fun (qc4 : i < zmin e n) => ⟨hL90.wI, _, hL90.i0, ⟨zixO hL90.a_bytes hL90.l_bytes (i := i) (by omega) (by decide), zIr ((hb (by omega))) (⟨0, 0, ⟨(by decide), (by decide)⟩, ⟨⟨rfl, rfl⟩, hS90.w.rcv⟩, ⟨(zN M), 16, 16, (bl B a (i - a).toNat), (zi2c (B i.toNat)), rfl, hS90, (by have := hci (by omega); have := hli (by omega); omega), hnc, (by omega), fun M2 hS2 hx2 => (fun qg5 qm6 => ⟨rfl, ⟨(zrgI (x := i + 1) (by omega)), (show Φ 15 [some (zo 66), some (zi a), some (zi e), some (zo (zN M)), some (zi (i + 1))] [] M2 (2 + 0) (20 + 0) from ?g428l2)⟩⟩)⟩⟩)⟩⟩⟩⟩)⟩
    case g428l1 =>
      have e9 : i = e := (by omega)
      subst e9
      exact hK _ _ (f90.tr hf1) hz1 (by have := f90.1; omega)
    case g428l2 =>
      have e8 : (i + 1 - a).toNat = (i - a).toNat + 1 := by omega
      have h9 := hS2
      rw [hci (by omega)] at h9
      refine ih (by omega) _ (hx90.tr hx2) ?_
      rw [e8, bl_s, show a + (((i - a).toNat : Nat) : Int) = i by omega]
      exact h9
  have hmx := zmaxc 0 a
  refine zGoR hΦ [15] 400 (fun hL9 _ hM _ _ => ?_)
  obtain ⟨qL1, qL2, _⟩ : zrg a ∧ zrg e ∧ True := hL9
  refine ⟨⟨(by decide), (by decide)⟩, ⟨rfl, ⟨⟨(by decide), (by decide)⟩, ⟨⟨rfl, rfl⟩, hw0.rcv⟩, ⟨(zN M), rfl, hw0, fun qg1 qm2 => ⟨rfl, (show Φ 15 [some (zo 66), some (zi a), some (zi e), some (zo (zN M)), some (zi (zmax 0 a))] [] (zsI (zsR (zNw (zNw M 1 0) 21 16) (zN M) 0 (some (zN (zNw M 1 0)))) (zN M) 1 0) (0 + 1 + 1) (0 + 4 + 16) from ?g429l1)⟩⟩⟩⟩⟩
  case g429l1 =>
    have e9 : zmax 0 a = a := by omega
    rw [e9, hMi]
    have h9 := loop a (Int.le_refl _) hae.2.1 Mi FX.rf (by rw [show (a - a).toNat = 0 by omega]; exact hSi)
    exact h9
theorem M_X1_textBetween {l : Launch} (hl : l.stackTraces = false) : zMet l yX1_textBetween (Cond.code yX1_textBetween cX1_textBetween 5 (Option.some (Jvm.ClassFile.FieldType.object "java/lang/String")) :: zG) rm_X1_textBetween 4 30 T_X1_textBetween := met_X1_textBetween hl (M_J4_init_da8c8 hl) (M_J4_append_cf468 hl) (M_J4_toString_0e30d hl) bd_X1_textBetween
