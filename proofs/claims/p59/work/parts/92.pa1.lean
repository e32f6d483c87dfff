def S65 (j : Nat) : Prop := j = 65
def VRc (v t : Int) : Prop := (v = t ∧ t ≤ 999) ∨ (1000 ≤ v ∧ v ≤ 9999 ∧ 1000 ≤ t)
def PS (M : ZM) (B : Gm) (n s : Int) : Prop := zI M 65 4 = tkK B n s ∧ zI M 65 5 = s ∧ zI M 65 6 = tkE B n s ∧ (tkK B n s = 1 → VRc (zI M 65 7) (tkV B s (tkE B n s)))
/-- the class's parser under way -/
def PE (M : ZM) (B : Gm) (n : Int) (e : E3) : Prop := PS M B n e.2.2 ∧ (zI M 65 0 = e.1 ∧ zI M 65 1 = e.2.1) ∧ eOK n e
theorem CIn.p {M : ZM} {B : Gm} {n v : Int} {f : Nat} (h : CIn M B n) : CIn (zsI M 65 f v) B n := by
  unfold CIn at h ⊢
  rw [zI_In _ _ _ (show (66 : Nat) ≠ 65 by decide), zI_In _ _ _ (show (67 : Nat) ≠ 65 by decide)]
  exact ⟨h.1, h.2.1, h.2.2.1, h.2.2.2.eq rfl (zI_In _ _ _ (by decide)) (zI_In _ _ _ (by decide))⟩
theorem CIn.f5 {M M' : ZM} {B : Gm} {n : Int} (h : CIn M B n) (hL : LV M) (f : Fr S65 M M') : CIn M' B n := h.fr hL f (by unfold S65; omega) (by unfold S65; omega)
theorem PE.fr {S : Nat → Prop} {M M' : ZM} {B : Gm} {n : Int} {e : E3} (h : PE M B n e) (hL : LV M) (f : Fr S M M') (hs : ¬ S 65) : PE M' B n e := by
  unfold PE PS at h ⊢
  rw [f.i hL.wP hs]
  exact h
theorem Fr5 {M : ZM} {f : Nat} {v : Int} (hL : LV M) : Fr S65 M (zsI M 65 f v) := Fr_I hL.wP (by decide) (by decide) rfl
def T_X3_kindAt : ZTf := fun av M K KX => ∃ (B : Gm) (n p : Int), av = [zo 65, zi p] ∧ (LV M) ∧ (CIn M B n) ∧ (0 ≤ p) ∧  K (some (zi (tkK B n p))) M
set_option maxRecDepth 100000 in
set_option maxHeartbeats 1500000 in
theorem bd_X3_kindAt : zBd (cd_X3_kindAt) 3 0 0 T_X3_kindAt := by
  rintro av M K KX hA0 hM ⟨B, n, p, rfl, hL, hI, hp, hK⟩
  have hn0 := hI.2.1
  have hb := fun q : p < n => (hI.2.2.1 p.toNat (by omega)).1
  have hkr := tkK_r B n p
  refine ⟨rfl, fun Φ hΦ => ?_⟩
  refine zGoR hΦ [] 400 (fun hL9 _ hM _ _ => ?_)
  obtain ⟨qL1, _⟩ : zrg p ∧ True := hL9
  refine ⟨hL.wP, _, hL.p2, ⟨hL.wI, zIr (hI.1) (⟨fun (qc1 : p < n) => ⟨hL.wP, _, hL.p2, ⟨hL.wI, _, hL.i0, ⟨zixO hL.a_bytes hL.l_bytes (i := p) (by omega) (by decide), zIr ((hb (by omega))) (⟨fun (qc2 : (B p.toNat) < 97) => ⟨fun (qc3 : (B p.toNat) < 48) => ⟨trivial, (show K (some (zi 2)) M from ?g406l1)⟩, fun (qc4 : (B p.toNat) ≥ 48) => ⟨fun (qc5 : (B p.toNat) > 57) => ⟨trivial, (show K (some (zi 2)) M from ?g406l2)⟩, fun (qc6 : (B p.toNat) ≤ 57) => ⟨trivial, (show K (some (zi 1)) M from ?g406l3)⟩⟩⟩, fun (qc7 : (B p.toNat) ≥ 97) => ⟨fun (qc8 : (B p.toNat) > 122) => ⟨fun (qc9 : (B p.toNat) < 48) => ⟨trivial, (show K (some (zi 2)) M from ?g406l4)⟩, fun (qc10 : (B p.toNat) ≥ 48) => ⟨fun (qc11 : (B p.toNat) > 57) => ⟨trivial, (show K (some (zi 2)) M from ?g406l5)⟩, fun (qc12 : (B p.toNat) ≤ 57) => ⟨trivial, (show K (some (zi 1)) M from ?g406l6)⟩⟩⟩, fun (qc13 : (B p.toNat) ≤ 122) => ⟨trivial, (show K (some (zi 0)) M from ?g406l7)⟩⟩⟩)⟩⟩⟩, fun (qc14 : p ≥ n) => ⟨trivial, (show K (some (zi 3)) M from ?g406l8)⟩⟩)⟩⟩
  case g406l1 => exact zKi hK (by omega)
  case g406l2 => exact zKi hK (by omega)
  case g406l3 => exact zKi hK (by omega)
  case g406l4 => exact zKi hK (by omega)
  case g406l5 => exact zKi hK (by omega)
  case g406l6 => exact zKi hK (by omega)
  case g406l7 => exact zKi hK (by omega)
  case g406l8 => exact zKi hK (by omega)
theorem M_X3_kindAt {l : Launch} (hl : l.stackTraces = false) : zMet l yX3_kindAt (Cond.code yX3_kindAt cX3_kindAt 3 (Option.some Jvm.ClassFile.FieldType.int) :: zG) rm_X3_kindAt 0 0 T_X3_kindAt := met_X3_kindAt hl bd_X3_kindAt
def T_X3_isBlank : ZTf := zInl (cd_X3_isBlank) 1 0 0 400
theorem M_X3_isBlank {l : Launch} (hl : l.stackTraces = false) : zMet l yX3_isBlank (Cond.code yX3_isBlank cX3_isBlank 1 (Option.some Jvm.ClassFile.FieldType.boolean) :: zG) rm_X3_isBlank 0 0 T_X3_isBlank := met_X3_isBlank hl zInl_bd
def T_X3_readDigits : ZTf := fun av M K KX => ∃ (B : Gm) (n s e : Int), av = [zo 65] ∧ (LV M) ∧ (CIn M B n) ∧ (zI M 65 5 = s) ∧ (zI M 65 6 = e) ∧ (0 ≤ s ∧ s ≤ e ∧ e ≤ n) ∧ (∀ k : Int, s ≤ k → k < e → 48 ≤ B k.toNat ∧ B k.toNat ≤ 57) ∧  (∀ M' : ZM, (∃ v : Int, M' = zsI M 65 7 v ∧ VRc v (tkV B s e)) → K none M')
set_option maxRecDepth 100000 in
set_option maxHeartbeats 1500000 in
theorem bd_X3_readDigits : zBd (cd_X3_readDigits) 2 0 0 T_X3_readDigits := by
  rintro av M K KX hA0 hM ⟨B, n, s, e, rfl, hL, hI, h5, h6, hse, hdg, hK⟩
  have hn0 := hI.2.1
  have htp := tkV_p (B := B) hdg
  refine ⟨rfl, fun Φ hΦ => ?_⟩
  have loop : ∀ i, s ≤ i → i ≤ e → ∀ v : Int, tkV B s i = v → v ≤ 9999 → Φ 10 [some (zo 65), some (zi i)] [] (zsI M 65 7 v) 0 0 := by
    refine zdownF (lo := s) (n := e) (P := fun i => ∀ v : Int, tkV B s i = v → v ≤ 9999 → Φ 10 [some (zo 65), some (zi i)] [] (zsI M 65 7 v) 0 0) (fun i h0 h1 ih v hv hv9 => ?_)
    have hvp := (htp i h0 h1).1
    have hve := (htp e (by omega) (Int.le_refl _)).2 i h0 h1
    rw [hv] at hvp hve
    have hb := fun q : i < e => (hI.2.2.1 i.toNat (by omega)).1
    have hdi := fun q : i < e => hdg i h0 q
    have hts := tkV_s (B := B) h0
    rw [hv] at hts
    refine zGoR hΦ [10] 400 (fun hL9 _ hM _ _ => ?_)
    obtain ⟨qL1, _⟩ : zrg i ∧ True := hL9
    refine ⟨hL.wP, zIr ((zIm _ _ _ (by omega)).trans (h6)) (⟨fun (qc1 : i ≥ e) => (show K none (zsI M 65 7 v) from ?g407l1), fun (qc2 : i < e) => ⟨hL.wP, zIr ((zIs _ _ _ _)) (⟨fun (qc3 : v ≥ 1000) => (show K none (zsI M 65 7 v) from ?g407l2), fun (qc4 : v < 1000) => ⟨hL.wP, zIr ((zIs _ _ _ _)) (⟨(zrgI (x := v * 10) (by omega)), ⟨hL.wP, _, hL.p2, ⟨hL.wI, _, hL.i0, ⟨zixO hL.a_bytes hL.l_bytes (i := i) (by omega) (by decide), zIr ((zIn _ _ _ (by omega)).trans ((hb (by omega)))) (⟨(zrgI (x := v * 10 + (B i.toNat)) (by omega)), ⟨(zrgI (x := (v * 10 + (B i.toNat)) - 48) (by omega)), ⟨⟨hL.wP, trivial⟩, ⟨(zrgI (x := i + 1) (by omega)), (show Φ 10 [some (zo 65), some (zi (i + 1))] [] (zsI (zsI M 65 7 v) 65 7 ((v * 10 + (B i.toNat)) - 48)) (0) (0) from ?g407l3)⟩⟩⟩⟩)⟩⟩⟩⟩)⟩⟩)⟩⟩)⟩
    case g407l1 =>
      refine hK _ ⟨v, rfl, ?_⟩
      by_cases z : v < 1000
      · have e9 : i = e := (by omega)
        subst e9
        exact Or.inl ⟨hv.symm, by omega⟩
      · exact Or.inr ⟨by omega, hv9, by omega⟩
    case g407l2 =>
      refine hK _ ⟨v, rfl, ?_⟩
      by_cases z : v < 1000
      · have e9 : i = e := (by omega)
        subst e9
        exact Or.inl ⟨hv.symm, by omega⟩
      · exact Or.inr ⟨by omega, hv9, by omega⟩
    case g407l3 =>
      rw [zsI_2]
      have hd9 := hdi (by omega)
      refine ih (by omega) _ ?_ (by omega)
      rw [hts]
      omega
  refine zGoR hΦ [10] 400 (fun hL9 _ hM _ _ => ?_)
  obtain ⟨_⟩ : True := hL9
  refine ⟨⟨hL.wP, trivial⟩, ⟨hL.wP, zIr ((zIm _ _ _ (by omega)).trans (h5)) ((show Φ 10 [some (zo 65), some (zi s)] [] (zsI M 65 7 0) (0) (0) from ?g408l1))⟩⟩
  case g408l1 => exact loop s (Int.le_refl _) hse.2.1 0 tkV_0 (by decide)
theorem M_X3_readDigits {l : Launch} (hl : l.stackTraces = false) : zMet l yX3_readDigits (Cond.code yX3_readDigits cX3_readDigits 2 (Option.none : Option Jvm.ClassFile.FieldType) :: zG) rm_X3_readDigits 0 0 T_X3_readDigits := met_X3_readDigits hl bd_X3_readDigits
theorem CIn_67 (M : ZM) (f : Nat) (v : Int) : zI (zsI M 65 f v) 67 = zI M 67 := zI_In _ _ _ (by decide)
def T_X3_nextToken : ZTf := fun av M K KX => ∃ (B : Gm) (n i : Int), av = [zo 65] ∧ (LV M) ∧ (CIn M B n) ∧ (zI M 65 6 = i) ∧ (0 ≤ i ∧ i ≤ n) ∧  (∀ M' : ZM, (Fr S65 M M') → (∀ f : Nat, f < 4 ∨ 7 < f → zI M' 65 f = zI M 65 f) → (PS M' B n (tkS B n i)) → K none M')
set_option maxRecDepth 100000 in
set_option maxHeartbeats 1500000 in
theorem bd_X3_nextToken : zBd (cd_X3_nextToken T_X3_isBlank T_X3_kindAt T_X3_readDigits) 1 0 0 T_X3_nextToken := by
  rintro av M K KX hA0 hM ⟨B, n, i, rfl, hL, hI, h6, hi0, hK⟩
  have hn5 := hI.2.1
  refine ⟨rfl, fun Φ hΦ => ?_⟩
  obtain ⟨S, hS⟩ : ∃ S, tkS B n i = S := ⟨_, rfl⟩
  rw [hS] at hK
  have hSr := tkS_r B hi0.2
  rw [hS] at hSr
  have hkr := tkK_r B n S
  have her := tkE_r B (n := n) (s := S) (by omega)
  obtain ⟨k9, hk9⟩ : ∃ k9, tkK B n S = k9 := ⟨_, rfl⟩
  have fin : ∀ (M' : ZM) (v : Int), M' = zsI (zsI (zsI M 65 5 S) 65 4 k9) 65 6 (tkE B n S) ∨ M' = zsI (zsI (zsI (zsI M 65 5 S) 65 4 k9) 65 6 (tkE B n S)) 65 7 v → (k9 = 1 → M' = zsI (zsI (zsI (zsI M 65 5 S) 65 4 k9) 65 6 (tkE B n S)) 65 7 v ∧ VRc v (tkV B S (tkE B n S))) → K none M' := by
    intro M' v hM' hv
    have f1 : Fr S65 M (zsI (zsI (zsI M 65 5 S) 65 4 k9) 65 6 (tkE B n S)) := ((Fr5 hL).tr (Fr5 (M := zsI M 65 5 S) hL)).tr (Fr5 (M := zsI (zsI M 65 5 S) 65 4 k9) hL)
    refine hK M' ?_ (fun f hf => ?_) ⟨?_, ?_, ?_, fun z => ?_⟩
    · rcases hM' with q | q
      · rw [q]; exact f1
      · rw [q]; exact f1.tr (Fr5 (M := zsI (zsI (zsI M 65 5 S) 65 4 k9) 65 6 (tkE B n S)) hL)
    · rcases hM' with q | q
      · rw [q, zI_Im _ _ _ (by omega), zI_Im _ _ _ (by omega), zI_Im _ _ _ (by omega)]
      · rw [q, zI_Im _ _ _ (by omega), zI_Im _ _ _ (by omega), zI_Im _ _ _ (by omega), zI_Im _ _ _ (by omega)]
    · rw [hk9]
      rcases hM' with q | q <;> rw [q] <;> simp (disch := omega) only [zIs, zIm, zIn, zIrf]
    · rcases hM' with q | q <;> rw [q] <;> simp (disch := omega) only [zIs, zIm, zIn, zIrf]
    · rcases hM' with q | q <;> rw [q] <;> simp (disch := omega) only [zIs, zIm, zIn, zIrf]
    · have h9 := hv (hk9.symm.trans z)
      rw [h9.1, zI_Is]
      exact h9.2
  have lo1 : k9 ≠ 2 → ∀ j, S ≤ j → j ≤ n → fsI (fun k => decide (tkK B n k ≠ tkK B n S)) n j = tkE B n S → Φ 92 [some (zo 65)] [] (zsI (zsI (zsI M 65 5 S) 65 4 k9) 65 6 j) 0 0 := by
    intro hk2
    refine zdownF (lo := S) (n := n) (P := fun j => fsI (fun k => decide (tkK B n k ≠ tkK B n S)) n j = tkE B n S → Φ 92 [some (zo 65)] [] (zsI (zsI (zsI M 65 5 S) 65 4 k9) 65 6 j) 0 0) (fun j h0 h1 ih hE => ?_)
    have hkj := tkK_r B n j
    have hEj : (j < n → tkK B n j ≠ k9) → tkE B n S = j := fun z => by
      rw [← hE]
      by_cases y : j < n
      · exact fsI_h (decide_eq_true (by rw [hk9]; exact z y))
      · exact fsI_e (by omega)
    refine zGoR hΦ [92] 400 (fun hL9 _ hM _ _ => ?_)
    obtain ⟨_⟩ : True := hL9
    refine ⟨hL.wP, zIr ((zIs _ _ _ _)) (⟨hL.wP, _, hL.p2, ⟨hL.wI, zIr ((zIn _ _ _ (by omega)).trans ((zIn _ _ _ (by omega)).trans ((zIn _ _ _ (by omega)).trans (hI.1)))) (⟨fun (qc1 : j ≥ n) => ⟨hL.wP, zIr ((zIm _ _ _ (by omega)).trans ((zIs _ _ _ _))) (⟨fun (qc2 : k9 ≠ 1) => (show K none (zsI (zsI (zsI M 65 5 S) 65 4 k9) 65 6 j) from ?g409l1), fun (qc3 : k9 = 1) => ⟨⟨⟨rfl, rfl⟩, hL.wP.rcv⟩, ⟨B, n, S, j, rfl, hL, (CIn.p (CIn.p (CIn.p hI))), (by simp (disch := omega) only [zIs, zIm, zIn, zIrf]), (zI_Is _ _ _ _), (by have h9 := hEj (fun q => by omega); omega), (fun k k0 k1 => by have h9 := hEj (fun q => by omega); exact (((tkK_r B n k).2.2.2.2).mp (by rw [her.2.2.2.2 (by omega) k k0 (by omega)]; omega)).2), fun M1 hv1 => (fun qg4 qm5 => (show K none M1 from ?g409l2))⟩⟩⟩)⟩, fun (qc6 : j < n) => ⟨hL.wP, zIr ((zIs _ _ _ _)) (⟨⟨⟨rfl, rfl⟩, hL.wP.rcv⟩, ⟨B, n, j, rfl, hL, (CIn.p (CIn.p (CIn.p hI))), (by omega), fun (qg7 : zrg (tkK B n j)) qm8 => ⟨hL.wP, zIr ((zIm _ _ _ (by omega)).trans ((zIs _ _ _ _))) (⟨fun (qc9 : tkK B n j ≠ k9) => ⟨hL.wP, zIr ((zIm _ _ _ (by omega)).trans ((zIs _ _ _ _))) (⟨fun (qc10 : k9 ≠ 1) => (show K none (zsI (zsI (zsI M 65 5 S) 65 4 k9) 65 6 j) from ?g409l3), fun (qc11 : k9 = 1) => ⟨⟨⟨rfl, rfl⟩, hL.wP.rcv⟩, ⟨B, n, S, j, rfl, hL, (CIn.p (CIn.p (CIn.p hI))), (by simp (disch := omega) only [zIs, zIm, zIn, zIrf]), (zI_Is _ _ _ _), (by have h9 := hEj (fun q => by omega); omega), (fun k k0 k1 => by have h9 := hEj (fun q => by omega); exact (((tkK_r B n k).2.2.2.2).mp (by rw [her.2.2.2.2 (by omega) k k0 (by omega)]; omega)).2), fun M2 hv2 => (fun qg12 qm13 => (show K none M2 from ?g409l4))⟩⟩⟩)⟩, fun (qc14 : tkK B n j = k9) => ⟨rfl, ⟨hL.wP, zIr ((zIs _ _ _ _)) (⟨(zrgI (x := j + 1) (by omega)), ⟨⟨hL.wP, trivial⟩, (show Φ 92 [some (zo 65)] [] (zsI (zsI (zsI (zsI M 65 5 S) 65 4 k9) 65 6 j) 65 6 (j + 1)) (0) (0) from ?g409l5)⟩⟩)⟩⟩⟩)⟩⟩⟩)⟩⟩)⟩⟩)⟩
    case g409l1 =>
      have e9 := hEj (fun q => by omega)
      refine fin _ 0 (Or.inl ?_) (fun q => absurd q (by omega))
      rw [e9]
    case g409l2 =>
      have e9 := hEj (fun q => by omega)
      obtain ⟨v, hu1, hu2⟩ := hv1
      rw [← e9] at hu1 hu2
      exact fin M1 v (Or.inr hu1) (fun _ => ⟨hu1, hu2⟩)
    case g409l3 =>
      have e9 := hEj (fun q => by omega)
      refine fin _ 0 (Or.inl ?_) (fun q => absurd q (by omega))
      rw [e9]
    case g409l4 =>
      have e9 := hEj (fun q => by omega)
      obtain ⟨v, hu1, hu2⟩ := hv2
      rw [← e9] at hu1 hu2
      exact fin M2 v (Or.inr hu1) (fun _ => ⟨hu1, hu2⟩)
    case g409l5 =>
      rw [zsI_2]
      refine ih (by omega) ?_
      rw [← hE]
      refine (fsI_m (by omega) ?_).symm
      refine decide_eq_false (fun z => z ?_)
      omega
  have lo0 : ∀ i, 0 ≤ i → i ≤ n → tkS B n i = S → Φ 8 [some (zo 65)] [] (zsI M 65 5 i) 0 0 := by
    refine zdown (n := n) (P := fun i => tkS B n i = S → Φ 8 [some (zo 65)] [] (zsI M 65 5 i) 0 0) (fun i h0 h1 ih hS2 => ?_)
    have hb := fun q : i < n => (hI.2.2.1 i.toNat (by omega)).1
    have hbS : (i < n → B i.toNat ≠ 32 ∧ B i.toNat ≠ 10) → i = S := fun q => by
      rw [← hS2]
      unfold tkS
      by_cases z : i < n
      · exact (fsI_h (decide_eq_true (q z))).symm
      · exact (fsI_e (by omega)).symm
    refine zGoR hΦ [8, 92] 400 (fun hL9 _ hM _ _ => ?_)
    obtain ⟨_⟩ : True := hL9
    refine ⟨hL.wP, zIr ((zIs _ _ _ _)) (⟨hL.wP, _, hL.p2, ⟨hL.wI, zIr ((zIn _ _ _ (by omega)).trans (hI.1)) (⟨fun (qc1 : i ≥ n) => ⟨hL.wP, zIr ((zIs _ _ _ _)) (⟨⟨hL.wP, trivial⟩, ⟨hL.wP, zIr ((zIm _ _ _ (by omega)).trans ((zIs _ _ _ _))) (⟨⟨⟨rfl, rfl⟩, hL.wP.rcv⟩, ⟨B, n, i, rfl, hL, (CIn.p (CIn.p hI)), (by omega), fun (qg2 : zrg (tkK B n i)) qm3 => ⟨⟨hL.wP, trivial⟩, ⟨hL.wP, zIr ((zIs _ _ _ _)) (⟨fun (qc4 : tkK B n i ≠ 2) => (show Φ 92 [some (zo 65)] [] (zsI (zsI (zsI M 65 5 i) 65 6 i) 65 4 (tkK B n i)) (0) (0) from ?g410l1), fun (qc5 : tkK B n i = 2) => ⟨hL.wP, zIr ((zIm _ _ _ (by omega)).trans ((zIm _ _ _ (by omega)).trans ((zIs _ _ _ _)))) (⟨(zrgI (x := i + 1) (by omega)), ⟨⟨hL.wP, trivial⟩, (show K none (zsI (zsI (zsI (zsI M 65 5 i) 65 6 i) 65 4 (tkK B n i)) 65 6 (i + 1)) from ?g410l2)⟩⟩)⟩⟩)⟩⟩⟩⟩)⟩⟩)⟩, fun (qc6 : i < n) => ⟨hL.wP, _, hL.p2, ⟨hL.wI, _, hL.i0, ⟨hL.wP, zIr ((zIs _ _ _ _)) (⟨zixO hL.a_bytes hL.l_bytes (i := i) (by omega) (by decide), zIr ((zIn _ _ _ (by omega)).trans ((hb (by omega)))) (⟨⟨⟨rfl, rfl⟩, trivial⟩, ⟨rfl, ⟨fun (qc7 : (B i.toNat) = 32) => ⟨(Or.inr rfl), fun _ _ => ⟨fun (h : (1 : Int) = 0) => absurd h (by decide), fun _ => ⟨rfl, ⟨hL.wP, zIr ((zIs _ _ _ _)) (⟨(zrgI (x := i + 1) (by omega)), ⟨⟨hL.wP, trivial⟩, (show Φ 8 [some (zo 65)] [] (zsI (zsI M 65 5 i) 65 5 (i + 1)) (0) (0) from ?g410l3)⟩⟩)⟩⟩⟩⟩, fun (qc9 : (B i.toNat) ≠ 32) => ⟨fun (qc10 : (B i.toNat) ≠ 10) => ⟨(Or.inl rfl), fun _ _ => ⟨fun _ => ⟨hL.wP, zIr ((zIs _ _ _ _)) (⟨⟨hL.wP, trivial⟩, ⟨hL.wP, zIr ((zIm _ _ _ (by omega)).trans ((zIs _ _ _ _))) (⟨⟨⟨rfl, rfl⟩, hL.wP.rcv⟩, ⟨B, n, i, rfl, hL, (CIn.p (CIn.p hI)), (by omega), fun (qg12 : zrg (tkK B n i)) qm13 => ⟨⟨hL.wP, trivial⟩, ⟨hL.wP, zIr ((zIs _ _ _ _)) (⟨fun (qc14 : tkK B n i ≠ 2) => (show Φ 92 [some (zo 65)] [] (zsI (zsI (zsI M 65 5 i) 65 6 i) 65 4 (tkK B n i)) (0) (0) from ?g410l4), fun (qc15 : tkK B n i = 2) => ⟨hL.wP, zIr ((zIm _ _ _ (by omega)).trans ((zIm _ _ _ (by omega)).trans ((zIs _ _ _ _)))) (⟨(zrgI (x := i + 1) (by omega)), ⟨⟨hL.wP, trivial⟩, (show K none (zsI (zsI (zsI (zsI M 65 5 i) 65 6 i) 65 4 (tkK B n i)) 65 6 (i + 1)) from ?g410l5)⟩⟩)⟩⟩)⟩⟩⟩⟩)⟩⟩)⟩, fun (h : (0 : Int) ≠ 0) => absurd h (by decide)⟩⟩, fun (qc16 : (B i.toNat) = 10) => ⟨(Or.inr rfl), fun _ _ => ⟨fun (h : (1 : Int) = 0) => absurd h (by decide), fun _ => ⟨rfl, ⟨hL.wP, zIr ((zIs _ _ _ _)) (⟨(zrgI (x := i + 1) (by omega)), ⟨⟨hL.wP, trivial⟩, (show Φ 8 [some (zo 65)] [] (zsI (zsI M 65 5 i) 65 5 (i + 1)) (0) (0) from ?g410l6)⟩⟩)⟩⟩⟩⟩⟩⟩⟩⟩)⟩)⟩⟩⟩⟩)⟩⟩)⟩
    case g410l1 =>
      have e0 := hbS (fun q => by omega)
      subst e0
      rw [hk9]
      have h9 := lo1 (by omega) i (Int.le_refl _) (by omega) (by unfold tkE; rw [if_neg (by omega)])
      rw [zsI_c (zsI M 65 5 i) 65 _ _ (show (4 : Nat) ≠ 6 by decide)] at h9
      exact h9
    case g410l2 =>
      have e0 := hbS (fun q => by omega)
      subst e0
      have hk2 : k9 = 2 := by omega
      have e9 : tkE B n i = i + 1 := by unfold tkE; rw [if_pos (by omega)]
      refine fin _ 0 (Or.inl ?_) (fun q => absurd q (by omega))
      rw [hk9, e9, zsI_c (zsI M 65 5 i) 65 _ _ (show (6 : Nat) ≠ 4 by decide), zsI_2]
    case g410l3 =>
      rw [zsI_2]
      refine ih (by omega) ?_
      rw [← hS2]
      unfold tkS
      refine (fsI_m (by omega) ?_).symm
      exact decide_eq_false (fun z => by omega)
    case g410l4 =>
      have e0 := hbS (fun q => by omega)
      subst e0
      rw [hk9]
      have h9 := lo1 (by omega) i (Int.le_refl _) (by omega) (by unfold tkE; rw [if_neg (by omega)])
      rw [zsI_c (zsI M 65 5 i) 65 _ _ (show (4 : Nat) ≠ 6 by decide)] at h9
      exact h9
    case g410l5 =>
      have e0 := hbS (fun q => by omega)
      subst e0
      have hk2 : k9 = 2 := by omega
      have e9 : tkE B n i = i + 1 := by unfold tkE; rw [if_pos (by omega)]
      refine fin _ 0 (Or.inl ?_) (fun q => absurd q (by omega))
      rw [hk9, e9, zsI_c (zsI M 65 5 i) 65 _ _ (show (6 : Nat) ≠ 4 by decide), zsI_2]
    case g410l6 =>
      rw [zsI_2]
      refine ih (by omega) ?_
      rw [← hS2]
      unfold tkS
      refine (fsI_m (by omega) ?_).symm
      exact decide_eq_false (fun z => by omega)
  refine zGoR hΦ [8] 400 (fun hL9 _ hM _ _ => ?_)
  obtain ⟨_⟩ : True := hL9
  refine ⟨hL.wP, zIr (h6) (⟨⟨hL.wP, trivial⟩, (show Φ 8 [some (zo 65)] [] (zsI M 65 5 i) (0) (0) from ?g411l1)⟩)⟩
  case g411l1 => exact lo0 i hi0.1 hi0.2 hS
theorem M_X3_nextToken {l : Launch} (hl : l.stackTraces = false) : zMet l yX3_nextToken (Cond.code yX3_nextToken cX3_nextToken 1 (Option.none : Option Jvm.ClassFile.FieldType) :: zG) rm_X3_nextToken 0 0 T_X3_nextToken := met_X3_nextToken hl (M_X3_isBlank hl) (M_X3_kindAt hl) (M_X3_readDigits hl) bd_X3_nextToken
