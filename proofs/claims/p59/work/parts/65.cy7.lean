def SIn (j : Nat) : Prop := j = 66 ∨ j = 67
/-- the builder of names, its buffer -/
def TXB (M : ZM) : Prop := zR M 68 0 = some 69 ∧ zI M 68 1 = 0 ∧ (0 ≤ zI M 68 3 ∧ zI M 68 3 ≤ 16) ∧ ∀ k : Nat, zPb (zI M 69 k)
theorem TXB.eq {M M' : ZM} (h : TXB M) (e0 : zR M' 68 = zR M 68) (e1 : zI M' 68 = zI M 68) (e2 : zI M' 69 = zI M 69) : TXB M' := by
  unfold TXB at h ⊢
  rw [e0, e1, e2]
  exact h
theorem TXB.fr {S : Nat → Prop} {M M' : ZM} (h : TXB M) (hL : LV M) (f : Fr S M M') (h1 : ¬ S 68) (h2 : ¬ S 69) : TXB M' := h.eq (f.rr hL.wTB h1) (f.i hL.wTB h1) (f.i hL.a_tb h2)
def CIn (M : ZM) (B : Gm) (n : Int) : Prop := zI M 66 1 = n ∧ (0 ≤ n ∧ n ≤ 500) ∧ (∀ k : Nat, (k : Int) < n → zI M 67 k = B k ∧ 0 ≤ B k ∧ B k < 256) ∧ TXB M
theorem CIn.fr {S : Nat → Prop} {M M' : ZM} {B : Gm} {n : Int} (h : CIn M B n) (hL : LV M) (f : Fr S M M') (h1 : ¬ S 66) (h2 : ¬ S 67 ∧ ¬ S 68 ∧ ¬ S 69) : CIn M' B n := by
  have ht := h.2.2.2.fr hL f h2.2.1 h2.2.2
  unfold CIn at h ⊢
  rw [f.i hL.wI h1, f.i hL.a_bytes h2.1]
  exact ⟨h.1, h.2.1, h.2.2.1, ht⟩
theorem CIn.put {M : ZM} {B : Gm} {n b : Int} (h : CIn M B n) (hn : n < 500) (hb : 0 ≤ b ∧ b < 256) : CIn (zsI (zsI M 67 n.toNat b) 66 1 (n + 1)) (put1 B n b) (n + 1) := by
  obtain ⟨h1, h2, h3, h4⟩ := h
  refine ⟨zI_Is _ _ _ _, by omega, fun k hk => ?_, h4.eq rfl ((zI_In _ _ _ (by decide)).trans (zI_In _ _ _ (by decide))) ((zI_In _ _ _ (by decide)).trans (zI_In _ _ _ (by decide)))⟩
  rw [zI_In _ _ _ (by decide)]
  unfold put1
  by_cases e : k = n.toNat
  · subst e
    rw [gU_s, zI_Is]
    exact ⟨rfl, hb⟩
  · rw [gU_n _ e, zI_Im _ _ _ e]
    exact h3 k (by omega)
def T_X1_addFourBytes : ZTf := fun av M K KX => ∃ (B : Gm) (n v : Int), av = [zo 66, zi v] ∧ (LV M) ∧ (CIn M B n) ∧ (n + 4 ≤ 500) ∧  (∀ M' : ZM, (Fr SIn M M') → (CIn M' (app4 B n v) (n + 4)) → K none M')
set_option maxRecDepth 100000 in
set_option maxHeartbeats 4000000 in
theorem bd_X1_addFourBytes : zBd (cd_X1_addFourBytes) 3 0 0 T_X1_addFourBytes := by
  rintro av M K KX hA0 hM ⟨B, n, v, rfl, hL, hI, hp2, hK⟩
  have hn0 := hI.2.1
  refine ⟨rfl, fun Φ hΦ => ?_⟩
  refine zGoR hΦ [] 400 (fun hL9 _ hM _ _ => ?_)
  obtain ⟨qL1, _⟩ : zrg v ∧ True := hL9
  refine ⟨hL.wI, zIr (hI.1) (⟨(zrgI (x := n + 4) (by omega)), ⟨fun (qc1 : n + 4 ≤ 500) => ⟨fun (h : (24 : Int) < 0) => absurd h (by decide), fun _ => ⟨hL.wI, _, hL.i0, ⟨hL.wI, zIr (hI.1) (⟨⟨zixW hL.a_bytes hL.l_bytes (i := n) (by omega) (by decide), trivial⟩, ⟨rfl, ⟨hL.wI, zIr ((zIn _ _ _ (by omega)).trans (hI.1)) (⟨(zrgI (x := n + 1) (by omega)), ⟨⟨hL.wI, trivial⟩, ⟨(by decide), ⟨fun (h : (16 : Int) < 0) => absurd h (by decide), fun _ => ⟨hL.wI, _, hL.i0, ⟨hL.wI, zIr ((zIs _ _ _ _)) (⟨⟨zixW hL.a_bytes hL.l_bytes (i := n + 1) (by omega) (by decide), trivial⟩, ⟨rfl, ⟨hL.wI, zIr ((zIn _ _ _ (by omega)).trans ((zIs _ _ _ _))) (⟨(zrgI (x := n + 1 + 1) (by omega)), ⟨⟨hL.wI, trivial⟩, ⟨(by decide), ⟨fun (h : (8 : Int) < 0) => absurd h (by decide), fun _ => ⟨hL.wI, _, hL.i0, ⟨hL.wI, zIr ((zIs _ _ _ _)) (⟨⟨zixW hL.a_bytes hL.l_bytes (i := n + 1 + 1) (by omega) (by decide), trivial⟩, ⟨rfl, ⟨hL.wI, zIr ((zIn _ _ _ (by omega)).trans ((zIs _ _ _ _))) (⟨(zrgI (x := n + 1 + 1 + 1) (by omega)), ⟨⟨hL.wI, trivial⟩, ⟨(by decide), ⟨fun (h : (0 : Int) < 0) => absurd h (by decide), fun _ => ⟨hL.wI, _, hL.i0, ⟨hL.wI, zIr ((zIs _ _ _ _)) (⟨⟨zixW hL.a_bytes hL.l_bytes (i := n + 1 + 1 + 1) (by omega) (by decide), trivial⟩, ⟨rfl, ⟨hL.wI, zIr ((zIn _ _ _ (by omega)).trans ((zIs _ _ _ _))) (⟨(zrgI (x := n + 1 + 1 + 1 + 1) (by omega)), ⟨⟨hL.wI, trivial⟩, ⟨(by decide), ⟨fun _ => (show K none (zsI (zsI (zsI (zsI (zsI (zsI (zsI (zsI M 67 n.toNat (zand (zushr v 24) 255)) 66 1 (n + 1)) 67 (n + 1).toNat (zand (zushr v 16) 255)) 66 1 (n + 1 + 1)) 67 (n + 1 + 1).toNat (zand (zushr v 8) 255)) 66 1 (n + 1 + 1 + 1)) 67 (n + 1 + 1 + 1).toNat (zand (zushr v 0) 255)) 66 1 (n + 1 + 1 + 1 + 1)) from ?g298l1), fun (h : (-8 : Int) ≥ 0) => absurd h (by decide)⟩⟩⟩⟩)⟩⟩⟩)⟩⟩⟩⟩⟩⟩)⟩⟩⟩)⟩⟩⟩⟩⟩⟩)⟩⟩⟩)⟩⟩⟩⟩⟩⟩)⟩⟩⟩)⟩⟩⟩, fun (qc2 : n + 4 > 500) => (show K none M from ?g298l2)⟩⟩)⟩
  case g298l1 =>
    refine hK _ ((((((((Fr_I hL.a_bytes (by decide) (by decide) (by unfold SIn; omega)).tr (Fr_I hL.wI (by decide) (by decide) (by unfold SIn; omega))).tr (Fr_I hL.a_bytes (by decide) (by decide) (by unfold SIn; omega))).tr (Fr_I hL.wI (by decide) (by decide) (by unfold SIn; omega))).tr (Fr_I hL.a_bytes (by decide) (by decide) (by unfold SIn; omega))).tr (Fr_I hL.wI (by decide) (by decide) (by unfold SIn; omega))).tr (Fr_I hL.a_bytes (by decide) (by decide) (by unfold SIn; omega))).tr (Fr_I hL.wI (by decide) (by decide) (by unfold SIn; omega))) ?_
    have h9 := (((hI.put (by omega) (byt_bv v 24 (by decide)).2).put (by omega) (byt_bv v 16 (by decide)).2).put (by omega) (byt_bv v 8 (by decide)).2).put (by omega) (byt_bv v 0 (by decide)).2
    have e4 : n + 1 + 1 + 1 + 1 = n + 4 := by omega
    rw [e4] at h9 ⊢
    exact h9
  case g298l2 => exfalso; omega
theorem M_X1_addFourBytes {l : Launch} (hl : l.stackTraces = false) : zMet l yX1_addFourBytes (Cond.code yX1_addFourBytes cX1_addFourBytes 3 (Option.none : Option Jvm.ClassFile.FieldType) :: zG) rm_X1_addFourBytes 0 0 T_X1_addFourBytes := met_X1_addFourBytes hl bd_X1_addFourBytes
def T_X8_append : ZTf := fun av M K KX => ∃ (B : Gm) (n a b c d e : Int), av = [zo 64, zi a, zi b, zi c, zi d, zi e] ∧ (LV M) ∧ (CIn M B n) ∧  ((n + 20 ≤ 500) → (∀ M' : ZM, (Fr SIn M M') → (CIn M' (app20 B n a b c d e) (n + 20)) → K (some (zi (n + 20))) M')) ∧ ((500 < n + 20) → KX 2 M)
set_option maxRecDepth 100000 in
set_option maxHeartbeats 4000000 in
theorem bd_X8_append : zBd (cd_X8_append T_X1_addFourBytes) 6 1 6 T_X8_append := by
  rintro av M K KX hA0 hM ⟨B, n, a, b, c, d, e, rfl, hL, hI, hK, hX2⟩
  have hn0 := hI.2.1
  refine ⟨rfl, fun Φ hΦ => ?_⟩
  refine zGoR hΦ [] 400 (fun hL9 _ hM _ _ => ?_)
  obtain ⟨qL1, qL2, qL3, qL4, qL5, _⟩ : zrg a ∧ zrg b ∧ zrg c ∧ zrg d ∧ zrg e ∧ True := hL9
  refine ⟨hL.w, _, hL.r1, ⟨hL.wI, zIr (hI.1) (⟨(zrgI (x := n + 20) (by omega)), ⟨fun (qc1 : n + 20 ≤ 500) => ⟨hL.w, _, hL.r1, ⟨⟨⟨rfl, rfl⟩, hL.wI.rcv⟩, ⟨B, n, a, rfl, hL, hI, (by omega), fun M1 hf1 hI1 => (have hL1 := LV.fr (M := M) hL hf1; fun qg2 qm3 => ⟨hL1.w, _, hL1.r1, ⟨⟨⟨rfl, rfl⟩, hL1.wI.rcv⟩, ⟨(app4 B n a), (n + 4), b, rfl, hL1, hI1, (by omega), fun M2 hf2 hI2 => (have hL2 := LV.fr (M := M1) hL1 hf2; fun qg4 qm5 => ⟨hL2.w, _, hL2.r1, ⟨⟨⟨rfl, rfl⟩, hL2.wI.rcv⟩, ⟨(app4 (app4 B n a) (n + 4) b), ((n + 4) + 4), c, rfl, hL2, hI2, (by omega), fun M3 hf3 hI3 => (have hL3 := LV.fr (M := M2) hL2 hf3; fun qg6 qm7 => ⟨hL3.w, _, hL3.r1, ⟨⟨⟨rfl, rfl⟩, hL3.wI.rcv⟩, ⟨(app4 (app4 (app4 B n a) (n + 4) b) ((n + 4) + 4) c), (((n + 4) + 4) + 4), d, rfl, hL3, hI3, (by omega), fun M4 hf4 hI4 => (have hL4 := LV.fr (M := M3) hL3 hf4; fun qg8 qm9 => ⟨hL4.w, _, hL4.r1, ⟨⟨⟨rfl, rfl⟩, hL4.wI.rcv⟩, ⟨(app4 (app4 (app4 (app4 B n a) (n + 4) b) ((n + 4) + 4) c) (((n + 4) + 4) + 4) d), ((((n + 4) + 4) + 4) + 4), e, rfl, hL4, hI4, (by omega), fun M5 hf5 hI5 => (have hL5 := LV.fr (M := M4) hL4 hf5; fun qg10 qm11 => ⟨hL5.w, _, hL5.r1, ⟨hL5.wI, zIr (hI5.1) (⟨trivial, (show K (some (zi (n + 4 + 4 + 4 + 4 + 4))) M5 from ?g299l1)⟩)⟩⟩)⟩⟩⟩)⟩⟩⟩)⟩⟩⟩)⟩⟩⟩)⟩⟩⟩, fun (qc12 : n + 20 > 500) => ⟨⟨(by decide), (by decide)⟩, (Nat.le_of_ble_eq_true rfl), (show KX 2 M from ?g299l2)⟩⟩⟩)⟩⟩
  case g299l1 =>
    have e20 : n + 4 + 4 + 4 + 4 + 4 = n + 20 := by omega
    rw [e20] at hI5 ⊢
    exact hK (by omega) M5 ((((hf1.tr hf2).tr hf3).tr hf4).tr hf5) hI5
  case g299l2 => exact hX2 (by omega)
theorem M_X8_append {l : Launch} (hl : l.stackTraces = false) : zMet l yX8_append (Cond.code yX8_append cX8_append 6 (Option.some Jvm.ClassFile.FieldType.int) :: zG) rm_X8_append 1 6 T_X8_append := met_X8_append hl (M_X1_addFourBytes hl) bd_X8_append
def T_X8_truncate : ZTf := fun av M K KX => ∃ (B : Gm) (n x : Int), av = [zo 64, zi x] ∧ (LV M) ∧ (CIn M B n) ∧  ((0 ≤ x ∧ x ≤ n) → (∀ M' : ZM, (Fr SIn M M') → (CIn M' B x) → K none M')) ∧ ((¬(0 ≤ x ∧ x ≤ n)) → KX 1 M)
set_option maxRecDepth 100000 in
set_option maxHeartbeats 4000000 in
theorem bd_X8_truncate : zBd (cd_X8_truncate T_X8_requireRange) 2 1 6 T_X8_truncate := by
  rintro av M K KX hA0 hM ⟨B, n, x, rfl, hL, hI, hK, hX1⟩
  have hn0 := hI.2.1
  refine ⟨rfl, fun Φ hΦ => ?_⟩
  refine zGoR hΦ [] 400 (fun hL9 _ hM _ _ => ?_)
  obtain ⟨qL1, _⟩ : zrg x ∧ True := hL9
  refine ⟨hL.w, _, hL.r1, ⟨hL.wI, zIr (hI.1) (⟨⟨(by decide), (by decide)⟩, ⟨⟨rfl, rfl⟩, trivial⟩, ⟨x, 0, n, rfl, fun (qc3 : 0 ≤ x ∧ x ≤ n) => fun qg1 qm2 => ⟨hL.w, _, hL.r1, ⟨⟨hL.wI, trivial⟩, (show K none (zsI M 66 1 x) from ?g300l1)⟩⟩, fun (qc4 : ¬(0 ≤ x ∧ x ≤ n)) => (show KX 1 M from ?g300l2)⟩⟩)⟩⟩
  case g300l1 => exact hK (by omega) _ (Fr_I hL.wI (by decide) (by decide) (by unfold SIn; omega)) ⟨zI_Is _ _ _ _, by omega, fun k hk => by rw [zI_In _ _ _ (by decide)]; exact hI.2.2.1 k (by omega), hI.2.2.2.eq rfl (zI_In _ _ _ (by decide)) (zI_In _ _ _ (by decide))⟩
  case g300l2 => exact hX1 (by omega)
theorem M_X8_truncate {l : Launch} (hl : l.stackTraces = false) : zMet l yX8_truncate (Cond.code yX8_truncate cX8_truncate 2 (Option.none : Option Jvm.ClassFile.FieldType) :: zG) rm_X8_truncate 1 6 T_X8_truncate := met_X8_truncate hl (M_X8_requireRange hl) bd_X8_truncate
def T_X8_errorCode : ZTf := fun av M K KX => ∃ (_u : Nat), av = [zo 64] ∧ (LV M) ∧  K (some (zi (zI M 64 8))) M
set_option maxRecDepth 100000 in
set_option maxHeartbeats 4000000 in
theorem bd_X8_errorCode : zBd (cd_X8_errorCode) 1 0 0 T_X8_errorCode := by
  rintro av M K KX hA0 hM ⟨_, rfl, hL, hK⟩
  refine ⟨rfl, fun Φ hΦ => ?_⟩
  refine zGoR hΦ [] 400 (fun hL9 _ hM _ _ => ?_)
  obtain ⟨_⟩ : True := hL9
  refine ⟨hL.w, ⟨trivial, (show K (some (zi (zI M 64 8))) M from ?g301l1)⟩⟩
  case g301l1 => exact hK
theorem M_X8_errorCode {l : Launch} (hl : l.stackTraces = false) : zMet l yX8_errorCode (Cond.code yX8_errorCode cX8_errorCode 1 (Option.some Jvm.ClassFile.FieldType.int) :: zG) rm_X8_errorCode 0 0 T_X8_errorCode := met_X8_errorCode hl bd_X8_errorCode
def T_X8_errorPosition : ZTf := fun av M K KX => ∃ (_u : Nat), av = [zo 64] ∧ (LV M) ∧  K (some (zi (zI M 64 9))) M
set_option maxRecDepth 100000 in
set_option maxHeartbeats 4000000 in
theorem bd_X8_errorPosition : zBd (cd_X8_errorPosition) 1 0 0 T_X8_errorPosition := by
  rintro av M K KX hA0 hM ⟨_, rfl, hL, hK⟩
  refine ⟨rfl, fun Φ hΦ => ?_⟩
  refine zGoR hΦ [] 400 (fun hL9 _ hM _ _ => ?_)
  obtain ⟨_⟩ : True := hL9
  refine ⟨hL.w, ⟨trivial, (show K (some (zi (zI M 64 9))) M from ?g302l1)⟩⟩
  case g302l1 => exact hK
theorem M_X8_errorPosition {l : Launch} (hl : l.stackTraces = false) : zMet l yX8_errorPosition (Cond.code yX8_errorPosition cX8_errorPosition 1 (Option.some Jvm.ClassFile.FieldType.int) :: zG) rm_X8_errorPosition 0 0 T_X8_errorPosition := met_X8_errorPosition hl bd_X8_errorPosition
