/-! the reference: small steps of its parser -/
/-- the keywords -/
def kwT : Nat → List Int
  | 0 => [116, 97, 98, 108, 101]
  | 1 => [116, 111, 108, 101, 114, 97, 110, 99, 101]
  | 2 => [112, 97, 116, 105, 101, 110, 99, 101]
  | 3 => [108, 101, 97, 115, 116]
  | 4 => [119, 111, 114, 107, 101, 114]
  | 5 => [116, 101, 97, 109]
  | 6 => [113, 117, 111, 116, 97]
  | 7 => [116, 114, 117, 115, 116]
  | 8 => [114, 111, 119, 115]
  | 9 => [115, 105, 122, 101]
  | 10 => [98, 97, 114]
  | _ => []
theorem kwT_l : ∀ i : Fin 11, (kwT i.val).length ≤ 9 ∧ 3 ≤ (kwT i.val).length := by decide
theorem kwT_c : ∀ i : Fin 11, ∀ k : Fin 9, k.val < (kwT i.val).length → 97 ≤ (kwT i.val).getD k.val 0 ∧ (kwT i.val).getD k.val 0 ≤ 122 := by decide
theorem kwT_r {i : Nat} (h : i < 11) : (3 ≤ (kwT i).length ∧ (kwT i).length ≤ 9) ∧ ∀ k : Nat, k < (kwT i).length → 97 ≤ (kwT i).getD k 0 ∧ (kwT i).getD k 0 ≤ 122 := by
  have h1 := kwT_l ⟨i, h⟩
  exact ⟨⟨h1.2, h1.1⟩, fun k hk => kwT_c ⟨i, h⟩ ⟨k, by have := h1.1; simp only at this; omega⟩ hk⟩
/-- the constants -/
def KC (M : ZM) : Prop := (∀ i : Nat, i < 11 → zTx M (35 + i) (kwT i) ∧ zTx M (13 + i) (kwT i) ∧ ((zK M (1 + i) = 40 ∧ 1 + i < zN M) ∧ zR M (1 + i) 0 = some (13 + i)) ∧ zR M 12 i = some (1 + i)) ∧ (zK M 12 = 33 ∧ 12 < zN M) ∧ zLn M 12 = 11
theorem KC.fr {S : Nat → Prop} {M M' : ZM} (h : KC M) (f : Fr S M M') : KC M' := by
  obtain ⟨h1, h2, h3⟩ := h
  obtain ⟨a1, a2, a3, a4⟩ := f.2.1 12 h2.2
  refine ⟨fun i hi => ?_, ⟨a1.trans h2.1, Nat.lt_of_lt_of_le h2.2 f.1⟩, a2.trans h3⟩
  obtain ⟨b1, b2, ⟨⟨b3, b3'⟩, b4⟩, b5⟩ := h1 i hi
  obtain ⟨d1, d2, d3, d4⟩ := f.2.1 (1 + i) b3'
  exact ⟨f.2.2 _ _ b1, f.2.2 _ _ b2, ⟨⟨d1.trans b3, Nat.lt_of_lt_of_le b3' f.1⟩, (d4 0 (by rw [b3]; decide) (by rw [b3]; decide)).trans b4⟩, (a4 i (by rw [h2.1]; decide) (by rw [h2.1]; decide)).trans b5⟩
theorem KC.w {M : ZM} (h : KC M) (i : Nat) (hi : i < 11) : zTx M (35 + i) (kwT i) := (h.1 i hi).1
theorem rtk_r (k : Int) (h : 0 ≤ k ∧ k ≤ 3) : (rtk k = 1 ↔ k = 0) ∧ (rtk k = 2 ↔ k = 1) ∧ (rtk k = 3 ↔ k = 2) ∧ (rtk k = 0 ↔ k = 3) := by
  unfold rtk
  split <;> omega
theorem min9_r (x : Int) : (x ≤ 9999 → min9 x = x) ∧ (9999 < x → min9 x = 9999) := by
  unfold min9
  split <;> omega
theorem eErr_n {c : Int} {e : E3} (hc : c ≠ 0) : (eErr c e).1 ≠ 0 := by
  unfold eErr
  split
  · exact hc
  · next q => exact q
theorem eErr_g {c : Int} {e : E3} (h : e.1 = 0) : eErr c e = (c, e.2.2, e.2.2) := if_pos h
theorem RP.er {M : ZM} {B : Gm} {n c : Int} {e : E3} (hY : LY M) (h : RP M B n e) (h0 : e.1 = 0) : RXn M (zsI (zsI M 670 12 c) 670 13 e.2.2) ∧ RP (zsI (zsI M 670 12 c) 670 13 e.2.2) B n (eErr c e) := by
  have f1 := (RXn.i (M := M) (f := 12) (v := c) hY (by decide)).tr (RXn.i (M := zsI M 670 12 c) (f := 13) (v := e.2.2) hY (by decide))
  obtain ⟨h1, h2, ⟨t1, t2, t3, t4, t5⟩, h4⟩ := h
  refine ⟨f1, h1.fr hY f1, ?_, ?_, eErr_ok h4⟩
  · rw [eErr_g h0]
    exact ⟨by simp (disch := omega) only [zIs, zIm, zIn, zIrf], zI_Is _ _ _ _⟩
  · rw [eErr_g h0]
    refine ⟨?_, ?_, ?_, fun z => ?_, fun z => ?_⟩
    · simp (disch := omega) only [zIs, zIm, zIn, zIrf]; exact t1
    · simp (disch := omega) only [zIs, zIm, zIn, zIrf]; exact t2
    · simp (disch := omega) only [zIs, zIm, zIn, zIrf]; exact t3
    · simp (disch := omega) only [zIs, zIm, zIn, zIrf]; exact t4 z
    · simp (disch := omega) only [zIs, zIm, zIn, zIrf]; exact t5 z
theorem RP.go {M M' : ZM} {B : Gm} {n : Int} {e : E3} (hY : LY M) (h : RP M B n e) (h0 : e.1 = 0) (hx : RXn M M') (h12 : zI M' 670 12 = zI M 670 12 ∧ zI M' 670 13 = zI M 670 13) (hk : RTk M' B n (tkS B n (tkE B n e.2.2))) : RP M' B n (eGo B n e) := by
  refine ⟨h.1.fr hY hx, ?_, ?_, eGo_ok h.2.2.2⟩
  · unfold eGo
    rw [if_pos h0]
    exact ⟨h12.1.trans (h.2.1.1.trans h0), h12.2.trans h.2.1.2⟩
  · unfold eGo
    rw [if_pos h0]
    exact hk
/-- a keyword stands here -/
def isKey (B : Gm) (n : Int) (e : E3) : Bool := eIs B n (kwT 0) e || (eIs B n (kwT 1) e || (eIs B n (kwT 2) e || (eIs B n (kwT 3) e || (eIs B n (kwT 4) e || (eIs B n (kwT 5) e || (eIs B n (kwT 6) e || (eIs B n (kwT 7) e || (eIs B n (kwT 8) e || (eIs B n (kwT 9) e || eIs B n (kwT 10) e)))))))))
def eName (B : Gm) (n : Int) (e : E3) : E3 := if e.1 = 0 ∧ (tkK B n e.2.2 ≠ 0 ∨ 6 < tkE B n e.2.2 - e.2.2 ∨ isKey B n e = true) then eErr 1 e else e
def eNm (B : Gm) (n : Int) (e : E3) : Int := if (eName B n e).1 = 0 then fNmF B e.2.2 (tkE B n e.2.2) else 0
theorem eName_b {B : Gm} {n : Int} {e : E3} (h : e.1 ≠ 0) : eName B n e = e := if_neg (fun z => h z.1)
theorem eName_ok {B : Gm} {n : Int} {e : E3} (h : eOK n e) : eOK n (eName B n e) := by
  unfold eName
  split
  · exact eErr_ok h
  · exact h
theorem eName_v {B : Gm} {n : Int} {e : E3} (h : (eName B n e).1 = 0) : e.1 = 0 ∧ tkK B n e.2.2 = 0 ∧ tkE B n e.2.2 - e.2.2 ≤ 6 ∧ isKey B n e = false ∧ eName B n e = e := by
  unfold eName at h ⊢
  by_cases q : e.1 = 0 ∧ (tkK B n e.2.2 ≠ 0 ∨ 6 < tkE B n e.2.2 - e.2.2 ∨ isKey B n e = true)
  · rw [if_pos q] at h
    exact absurd h (eErr_n (by decide))
  · rw [if_neg q] at h ⊢
    refine ⟨h, ?_, ?_, ?_, rfl⟩
    · exact Decidable.byContradiction (fun z => q ⟨h, Or.inl z⟩)
    · exact Int.not_lt.mp (fun z => q ⟨h, Or.inr (Or.inl z)⟩)
    · exact Bool.eq_false_iff.mpr (fun z => q ⟨h, Or.inr (Or.inr z)⟩)
theorem eGo_i {B : Gm} {n : Int} {e : E3} (h : (eGo B n e).1 = 0) : e.1 = 0 := by
  by_cases q : e.1 = 0
  · exact q
  · rw [eGo_b q] at h; exact h
theorem eLook_i {B : Gm} {n lo hi : Int} {e : E3} (h : (eLook B n lo hi e).1 = 0) : e.1 = 0 := (eLook_v h).1
theorem eNum_i {B : Gm} {n lo hi : Int} {e : E3} (h : (eNum B n lo hi e).1 = 0) : e.1 = 0 := eLook_i (eGo_i h)
theorem eKw_i {B : Gm} {n : Int} {l : List Int} {e : E3} (h : (eKw B n l e).1 = 0) : e.1 = 0 := by
  by_cases q : e.1 = 0
  · exact q
  · rw [eKw_b q] at h; exact h
theorem eSemi_i {B : Gm} {n : Int} {e : E3} (h : (eSemi B n e).1 = 0) : e.1 = 0 := by
  by_cases q : e.1 = 0
  · exact q
  · rw [eSemi_b q] at h; exact h
theorem eName_i {B : Gm} {n : Int} {e : E3} (h : (eName B n e).1 = 0) : e.1 = 0 := (eName_v h).1
/-- a name's letters -/
theorem tk_let {B : Gm} {n s : Int} (h : s ≤ n) (hk : tkK B n s = 0) : ∀ k : Int, s ≤ k → k < tkE B n s → 97 ≤ B k.toNat ∧ B k.toNat ≤ 122 := fun k k0 k1 => by
  have h9 := (tkE_r B h).2.2.2.2 (by omega) k k0 k1
  rw [hk] at h9
  exact (((tkK_r B n k).2.2.2.1).mp h9).2

def T_X9_good : ZTf := zInl (cd_X9_good) 1 0 0 400
theorem M_X9_good {l : Launch} (hl : l.stackTraces = false) : zMet l yX9_good (Cond.code yX9_good cX9_good 1 (Option.some Jvm.ClassFile.FieldType.boolean) :: zG) rm_X9_good 0 0 T_X9_good := met_X9_good hl zInl_bd

def T_X9_errs : ZTf := fun av M K KX => ∃ (B : Gm) (n : Int) (e : E3) (c : Int), av = [zo 670, zi c] ∧ (LY M) ∧ (RP M B n e) ∧ (c ≠ 0) ∧  (∀ M' : ZM, (RXn M M') → (RP M' B n (eErr c e)) → K none M')
set_option maxRecDepth 100000 in
set_option maxHeartbeats 1500000 in
theorem bd_X9_errs : zBd (cd_X9_errs T_X9_good) 2 0 0 T_X9_errs := by
  rintro av M K KX hA0 hM ⟨B, n, e, c, rfl, hY, hP, hc, hK⟩
  have hz : RXn M M := RXn.rf
  have hok := hP.2.2.2
  have hkr := tkK_r B n e.2.2
  have hrt := rtk_r (tkK B n e.2.2) ⟨hkr.1, hkr.2.1⟩
  have her := tkE_r B hok.2
  unfold eOK at hok
  have hn5 := hP.1.2.1
  refine ⟨rfl, fun Φ hΦ => ?_⟩
  refine zGoR hΦ [] 400 (fun hL9 _ hM _ _ => ?_)
  obtain ⟨qL1, _⟩ : zrg c ∧ True := hL9
  refine ⟨⟨⟨rfl, rfl⟩, hY.w.rcv⟩, ⟨rfl, ⟨hY.w, zIr hP.2.1.1 (⟨fun (qc1 : e.1 ≠ 0) => ⟨(Or.inl rfl), fun _ _ => ⟨fun (h : (0 : Int) ≠ 0) => absurd h (by decide), fun _ => (show K none M from ?g362l1)⟩⟩, fun (qc3 : e.1 = 0) => ⟨(Or.inr rfl), fun _ _ => ⟨fun _ => ⟨⟨hY.w, trivial⟩, ⟨hY.w, ⟨⟨hY.w, trivial⟩, (show K none (zsI (zsI M 670 12 c) 670 13 (zI M 670 9)) from ?g362l2)⟩⟩⟩, fun (h : (1 : Int) = 0) => absurd h (by decide)⟩⟩⟩)⟩⟩⟩
  case g362l1 => exact hK M RXn.rf (by rw [eErr_b (by omega)]; exact hP)
  case g362l2 => have h9 := RP.er (c := c) hY hP (by omega); rw [hP.2.2.1.1]; exact hK _ h9.1 h9.2
theorem M_X9_errs {l : Launch} (hl : l.stackTraces = false) : zMet l yX9_errs (Cond.code yX9_errs cX9_errs 2 (Option.none : Option Jvm.ClassFile.FieldType) :: zG) rm_X9_errs 0 0 T_X9_errs := met_X9_errs hl (M_X9_good hl) bd_X9_errs

def T_X9_goOn : ZTf := fun av M K KX => ∃ (B : Gm) (n : Int) (e : E3), av = [zo 670] ∧ (LY M) ∧ (RP M B n e) ∧  (∀ M' : ZM, (RXn M M') → (RP M' B n (eGo B n e)) → K none M')
set_option maxRecDepth 100000 in
set_option maxHeartbeats 1500000 in
theorem bd_X9_goOn : zBd (cd_X9_goOn T_X9_good T_X9_scan) 1 0 0 T_X9_goOn := by
  rintro av M K KX hA0 hM ⟨B, n, e, rfl, hY, hP, hK⟩
  have hz : RXn M M := RXn.rf
  have hok := hP.2.2.2
  have hkr := tkK_r B n e.2.2
  have hrt := rtk_r (tkK B n e.2.2) ⟨hkr.1, hkr.2.1⟩
  have her := tkE_r B hok.2
  unfold eOK at hok
  have hn5 := hP.1.2.1
  refine ⟨rfl, fun Φ hΦ => ?_⟩
  refine zGoR hΦ [] 400 (fun hL9 _ hM _ _ => ?_)
  obtain ⟨_⟩ : True := hL9
  refine ⟨⟨⟨rfl, rfl⟩, hY.w.rcv⟩, ⟨rfl, ⟨hY.w, zIr hP.2.1.1 (⟨fun (qc1 : e.1 ≠ 0) => ⟨(Or.inl rfl), fun _ _ => ⟨fun _ => (show K none M from ?g363l1), fun (h : (0 : Int) ≠ 0) => absurd h (by decide)⟩⟩, fun (qc3 : e.1 = 0) => ⟨(Or.inr rfl), fun _ _ => ⟨fun (h : (1 : Int) = 0) => absurd h (by decide), fun _ => ⟨⟨⟨rfl, rfl⟩, hY.w.rcv⟩, ⟨B, n, (tkE B n e.2.2), rfl, hY, hP.1, hP.2.2.1.2.1, (by omega), fun M1 hx1 h121 hk1 => (fun qg5 qm6 => (show K none M1 from ?g363l2))⟩⟩⟩⟩⟩)⟩⟩⟩
  case g363l1 => exact hK M RXn.rf (by rw [eGo_b (by omega)]; exact hP)
  case g363l2 => exact hK _ hx1 (RP.go hY hP (by omega) hx1 h121 hk1)
theorem M_X9_goOn {l : Launch} (hl : l.stackTraces = false) : zMet l yX9_goOn (Cond.code yX9_goOn cX9_goOn 1 (Option.none : Option Jvm.ClassFile.FieldType) :: zG) rm_X9_goOn 0 0 T_X9_goOn := met_X9_goOn hl (M_X9_good hl) (M_X9_scan hl) bd_X9_goOn

def T_X9_isWord : ZTf := fun av M K KX => ∃ (B : Gm) (n : Int) (e : E3) (s : Nat) (l : List Int), av = [zo 670, zo s] ∧ (LY M) ∧ (RP M B n e) ∧ (zTx M s l) ∧ (l.length ≤ 100) ∧ (∀ k : Nat, k < l.length → 0 ≤ l.getD k 0 ∧ l.getD k 0 < 128) ∧  K (some (zi (b2i (eIs B n l e)))) M
set_option maxRecDepth 100000 in
set_option maxHeartbeats 1500000 in
theorem bd_X9_isWord : zBd (cd_X9_isWord T_X9_good T_J0_length_8abf5 T_J0_charAt_5068e) 4 0 0 T_X9_isWord := by
  rintro av M K KX hA0 hM ⟨B, n, e, s, l, rfl, hY, hP, hz, hb, hlt, hK⟩
  have hz0 : RXn M M := RXn.rf
  have hok := hP.2.2.2
  have hkr := tkK_r B n e.2.2
  have hrt := rtk_r (tkK B n e.2.2) ⟨hkr.1, hkr.2.1⟩
  have her := tkE_r B hok.2
  unfold eOK at hok
  have hn5 := hP.1.2.1
  obtain ⟨hb1, hb2, hb3⟩ := id hP.1
  refine ⟨rfl, fun Φ hΦ => ?_⟩
  have lo0 : eIs B n l e = false → ∀ i : Int, 0 ≤ i → i ≤ (l.length : Int) → Φ 39 [some (zo 670), some (zo s), some (zi 0), some (zi i)] [] M 0 0 := by
    intro hno i h0 h1
    refine zGoR hΦ [] 400 (fun hL9 _ hM _ _ => ?_)
    obtain ⟨qL1, qL2, _⟩ : zrg 0 ∧ zrg i ∧ True := hL9
    refine ⟨⟨⟨rfl, rfl⟩, ⟨hz.1, Or.inr rfl⟩⟩, ⟨s, l, rfl, hz, hb, fun (qg1 : zrg ((l.length : Int))) qm2 => ⟨fun (qc3 : i ≥ (l.length : Int)) => ⟨(Or.inl rfl), (show K (some (zi 0)) M from ?g364l1)⟩, fun (qc4 : i < (l.length : Int)) => ⟨fun _ => ⟨(Or.inl rfl), (show K (some (zi 0)) M from ?g364l2)⟩, fun (h : (0 : Int) ≠ 0) => absurd h (by decide)⟩⟩⟩⟩
    case g364l1 =>
      exact zKi hK (by rw [hno]; rfl)
    case g364l2 =>
      exact zKi hK (by rw [hno]; rfl)
  have lo1 : (e.1 = 0 ∧ tkK B n e.2.2 = 0 ∧ tkE B n e.2.2 - e.2.2 = (l.length : Int)) → ∀ i, 0 ≤ i → i ≤ (l.length : Int) → (∀ k : Nat, (k : Int) < i → B (e.2.2 + (k : Int)).toNat = l.getD k 0) → Φ 39 [some (zo 670), some (zo s), some (zi 1), some (zi i)] [] M 0 0 := by
    intro h8
    refine zdown (n := (l.length : Int)) (P := fun i => (∀ k : Nat, (k : Int) < i → B (e.2.2 + (k : Int)).toNat = l.getD k 0) → Φ 39 [some (zo 670), some (zo s), some (zi 1), some (zi i)] [] M 0 0) (fun i h0 h1 ih hall => ?_)
    have hBi : i < (l.length : Int) → zI M 674 (e.2.2 + i).toNat = B (e.2.2 + i).toNat := fun q => by
      have h9 := hb3 (e.2.2 + i).toNat (by omega)
      have h7 := tk_let (B := B) hok.2 h8.2.1 (e.2.2 + i) (by omega) (by omega)
      rw [h9.1]
      exact if_pos (by omega)
    have hci : i < (l.length : Int) → zi2c (zand (l.getD i.toNat 0) 255) = l.getD i.toNat 0 := fun q => zc_id (by have := hlt i.toNat (by omega); omega)
    refine zGoR hΦ [39] 400 (fun hL9 _ hM _ _ => ?_)
    obtain ⟨qL1, qL2, _⟩ : zrg 1 ∧ zrg i ∧ True := hL9
    refine ⟨⟨⟨rfl, rfl⟩, ⟨hz.1, Or.inr rfl⟩⟩, ⟨s, l, rfl, hz, hb, fun (qg1 : zrg ((l.length : Int))) qm2 => ⟨fun (qc3 : i ≥ (l.length : Int)) => ⟨(Or.inr rfl), (show K (some (zi 1)) M from ?g365l1)⟩, fun (qc4 : i < (l.length : Int)) => ⟨fun (h : (1 : Int) = 0) => absurd h (by decide), fun _ => ⟨hY.w, _, hY.r5, ⟨hY.w, zIr hP.2.2.1.1 (⟨(zrgI (x := e.2.2 + i) (by omega)), ⟨zixO hY.a5 hY.l5 (i := e.2.2 + i) (by omega) (by decide), zIr (hBi (by omega)) (⟨⟨⟨rfl, rfl⟩, ⟨hz.1, Or.inr rfl⟩⟩, ⟨s, l, i, rfl, hz, hb, (by omega), fun (qg5 : zrg (zi2c (zand (l.getD i.toNat 0) 255))) qm6 => ⟨fun (qc7 : (B (e.2.2 + i).toNat) ≠ zi2c (zand (l.getD i.toNat 0) 255)) => ⟨(zrgI (x := i + 1) (by omega)), (show Φ 39 [some (zo 670), some (zo s), some (zi 0), some (zi (i + 1))] [] M (0) (0) from ?g365l2)⟩, fun (qc8 : (B (e.2.2 + i).toNat) = zi2c (zand (l.getD i.toNat 0) 255)) => ⟨(zrgI (x := i + 1) (by omega)), (show Φ 39 [some (zo 670), some (zo s), some (zi 1), some (zi (i + 1))] [] M (0) (0) from ?g365l3)⟩⟩⟩⟩)⟩⟩)⟩⟩⟩⟩⟩⟩
    case g365l1 =>
      refine zKi hK ?_
      have hyes : eIs B n l e = true := by
        unfold eIs isKw
        rw [decide_eq_true h8.1, decide_eq_true h8.2.1]
        unfold spl
        rw [decide_eq_true ⟨by omega, fun k hk => hall k (by omega)⟩]
        rfl
      rw [hyes]
      rfl
    case g365l2 =>
      refine lo0 ?_ _ (by omega) (by omega)
      unfold eIs isKw
      refine Bool.eq_false_iff.mpr (fun z => ?_)
      have z1 := Bool.and_eq_true_iff.mp z
      have z2 := Bool.and_eq_true_iff.mp z1.2
      have z5 := z2.2
      unfold spl at z5
      have z6 := (of_decide_eq_true z5).2 i.toNat (by omega)
      have h9 := qc7
      rw [hci (by omega)] at h9
      rw [show (e.2.2 + ((i.toNat : Nat) : Int)) = e.2.2 + i by omega] at z6
      exact h9 z6
    case g365l3 =>
      refine ih (by omega) (fun k hk => ?_)
      by_cases z : (k : Int) < i
      · exact hall k z
      · have e9 : i = (k : Int) := by omega
        have h9 := qc8
        rw [hci (by omega)] at h9
        rw [e9] at h9
        exact h9
  refine zGoR hΦ [39] 400 (fun hL9 _ hM _ _ => ?_)
  obtain ⟨_⟩ : True := hL9
  refine ⟨⟨⟨rfl, rfl⟩, hY.w.rcv⟩, ⟨rfl, ⟨hY.w, zIr hP.2.1.1 (⟨fun (qc1 : e.1 ≠ 0) => ⟨(Or.inl rfl), fun _ _ => ⟨fun _ => (show Φ 39 [some (zo 670), some (zo s), some (zi 0), some (zi 0)] [] M (0) (0) from ?g366l1), fun (h : (0 : Int) ≠ 0) => absurd h (by decide)⟩⟩, fun (qc3 : e.1 = 0) => ⟨(Or.inr rfl), fun _ _ => ⟨fun (h : (1 : Int) = 0) => absurd h (by decide), fun _ => ⟨hY.w, zIr hP.2.2.1.2.2.1 (⟨fun (qc5 : rtk (tkK B n e.2.2) ≠ 1) => (show Φ 39 [some (zo 670), some (zo s), some (zi 0), some (zi 0)] [] M (0) (0) from ?g366l2), fun (qc6 : rtk (tkK B n e.2.2) = 1) => ⟨hY.w, zIr hP.2.2.1.2.1 (⟨hY.w, zIr hP.2.2.1.1 (⟨(zrgI (x := tkE B n e.2.2 - e.2.2) (by omega)), ⟨⟨⟨rfl, rfl⟩, ⟨hz.1, Or.inr rfl⟩⟩, ⟨s, l, rfl, hz, hb, fun (qg7 : zrg ((l.length : Int))) qm8 => ⟨fun (qc9 : tkE B n e.2.2 - e.2.2 ≠ (l.length : Int)) => (show Φ 39 [some (zo 670), some (zo s), some (zi 0), some (zi 0)] [] M (0) (0) from ?g366l3), fun (qc10 : tkE B n e.2.2 - e.2.2 = (l.length : Int)) => (show Φ 39 [some (zo 670), some (zo s), some (zi 1), some (zi 0)] [] M (0) (0) from ?g366l4)⟩⟩⟩⟩)⟩)⟩⟩)⟩⟩⟩⟩)⟩⟩⟩
  case g366l1 =>
    refine lo0 ?_ 0 (by omega) (by omega)
    unfold eIs isKw
    refine Bool.eq_false_iff.mpr (fun z => ?_)
    have z1 := Bool.and_eq_true_iff.mp z
    have z2 := Bool.and_eq_true_iff.mp z1.2
    have z3 := of_decide_eq_true z1.1
    have z4 := of_decide_eq_true z2.1
    have z5 := z2.2
    unfold spl at z5
    have z6 := (of_decide_eq_true z5).1
    omega
  case g366l2 =>
    refine lo0 ?_ 0 (by omega) (by omega)
    unfold eIs isKw
    refine Bool.eq_false_iff.mpr (fun z => ?_)
    have z1 := Bool.and_eq_true_iff.mp z
    have z2 := Bool.and_eq_true_iff.mp z1.2
    have z3 := of_decide_eq_true z1.1
    have z4 := of_decide_eq_true z2.1
    have z5 := z2.2
    unfold spl at z5
    have z6 := (of_decide_eq_true z5).1
    omega
  case g366l3 =>
    refine lo0 ?_ 0 (by omega) (by omega)
    unfold eIs isKw
    refine Bool.eq_false_iff.mpr (fun z => ?_)
    have z1 := Bool.and_eq_true_iff.mp z
    have z2 := Bool.and_eq_true_iff.mp z1.2
    have z3 := of_decide_eq_true z1.1
    have z4 := of_decide_eq_true z2.1
    have z5 := z2.2
    unfold spl at z5
    have z6 := (of_decide_eq_true z5).1
    omega
  case g366l4 => exact lo1 (by omega) 0 (by omega) (by omega) (fun k hk => by omega)
theorem M_X9_isWord {l : Launch} (hl : l.stackTraces = false) : zMet l yX9_isWord (Cond.code yX9_isWord cX9_isWord 4 (Option.some Jvm.ClassFile.FieldType.boolean) :: zG) rm_X9_isWord 0 0 T_X9_isWord := met_X9_isWord hl (M_X9_good hl) (M_J0_length_8abf5 hl) (M_J0_charAt_5068e hl) bd_X9_isWord
