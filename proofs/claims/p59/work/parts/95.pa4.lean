def T_J5_init_d00df : ZTf := fun av M K KX => ∃ (b : Nat), av = [zo b, zi 16] ∧ (zW M b 1) ∧  K none (zsI (zsR (zNw M 21 16) b 0 (some (zN M))) b 1 0)
set_option maxRecDepth 100000 in
set_option maxHeartbeats 1500000 in
theorem bd_J5_init_d00df : zBd (cd_J5_init_d00df) 2 1 16 T_J5_init_d00df := by
  rintro av M K KX hA0 hM ⟨b, rfl, hw, hK⟩
  have hw2 : zW (zNw M 21 16) b 1 := ⟨(up1_n _ _ _ (Nat.ne_of_lt hw.2.2)).trans hw.1, hw.2.1, Nat.lt_succ_of_lt hw.2.2⟩
  refine ⟨rfl, fun Φ hΦ => ?_⟩
  refine zGoR hΦ [] 400 (fun hL9 _ hM _ _ => ?_)
  obtain ⟨qL1, _⟩ : zrg 16 ∧ True := hL9
  refine ⟨(Nat.le_of_ble_eq_true rfl), ⟨fun (h : (1 : Int) = 0) => absurd h (by decide), fun _ => ⟨⟨(by omega), (by omega), (by omega), (by omega)⟩, ⟨hw2, ⟨⟨hw2, (zPbI (x := 0) (by omega))⟩, (show K none (zsI (zsR (zNw M 21 16) b 0 (some (zN M))) b 1 0) from ?g420l1)⟩⟩⟩⟩⟩
  case g420l1 => first | exact hK | (exfalso; omega)
theorem M_J5_init_d00df {l : Launch} (hl : l.stackTraces = false) : zMet l yJ5_init_d00df (Cond.code yJ5_init_d00df cJ5_init_d00df 2 (Option.none : Option Jvm.ClassFile.FieldType) :: zG) rm_J5_init_d00df 1 16 T_J5_init_d00df := met_J5_init_d00df hl bd_J5_init_d00df
def T_J4_init_da8c8 : ZTf := fun av M K KX => ∃ (b : Nat), av = [zo b] ∧ (zW M b 1) ∧  K none (zsI (zsR (zNw M 21 16) b 0 (some (zN M))) b 1 0)
set_option maxRecDepth 100000 in
set_option maxHeartbeats 1500000 in
theorem bd_J4_init_da8c8 : zBd (cd_J4_init_da8c8 T_J5_init_d00df) 1 1 16 T_J4_init_da8c8 := by
  rintro av M K KX hA0 hM ⟨b, rfl, hw, hK⟩
  refine ⟨rfl, fun Φ hΦ => ?_⟩
  refine zGoR hΦ [] 400 (fun hL9 _ hM _ _ => ?_)
  obtain ⟨_⟩ : True := hL9
  refine ⟨⟨(by decide), (by decide)⟩, ⟨⟨rfl, rfl⟩, hw.rcv⟩, ⟨b, rfl, hw, fun qg1 qm2 => (show K none (zsI (zsR (zNw M 21 16) b 0 (some (zN M))) b 1 0) from ?g421l1)⟩⟩
  case g421l1 => exact hK
theorem M_J4_init_da8c8 {l : Launch} (hl : l.stackTraces = false) : zMet l yJ4_init_da8c8 (Cond.code yJ4_init_da8c8 cJ4_init_da8c8 1 (Option.none : Option Jvm.ClassFile.FieldType) :: zG) rm_J4_init_da8c8 1 16 T_J4_init_da8c8 := met_J4_init_da8c8 hl (M_J5_init_d00df hl) bd_J4_init_da8c8
def T_J7_checkLength_df160 : ZTf := zInl (cd_J7_checkLength_df160) 2 0 0 400
theorem M_J7_checkLength_df160 {l : Launch} (hl : l.stackTraces = false) : zMet l yJ7_checkLength_df160 (Cond.code yJ7_checkLength_df160 cJ7_checkLength_df160 2 (Option.none : Option Jvm.ClassFile.FieldType) :: zG) rm_J7_checkLength_df160 0 0 T_J7_checkLength_df160 := met_J7_checkLength_df160 hl zInl_bd
def T_J7_copyOfRangeByte_39247 : ZTf := fun av M K KX => ∃ (u c : Nat) (n : Int), av = [zo u, zi 0, zi n] ∧ (zW M u 21) ∧ (zLn M u = c) ∧ (0 ≤ n ∧ n ≤ 6 ∧ n ≤ (c : Int) ∧ c ≤ 3000) ∧ (∀ k : Nat, zPb (zI M u k)) ∧  K (some (zo (zN M))) (zcpy (zNw M 21 n.toNat) u (zN M) 0 0 n.toNat)
set_option maxRecDepth 100000 in
set_option maxHeartbeats 1500000 in
theorem bd_J7_copyOfRangeByte_39247 : zBd (cd_J7_copyOfRangeByte_39247 T_J7_checkLength_df160) 5 1 6 T_J7_copyOfRangeByte_39247 := by
  rintro av M K KX hA0 hM ⟨u, c, n, rfl, hu, hl, hn, hp, hK⟩
  have hmn := zminc ((c : Int) - 0) (n - 0)
  have h64 : zCC ≤ zN M := Nat.le_trans hu.2.1 (Nat.le_of_lt hu.2.2)
  have en : (n - 0).toNat = n.toNat := by omega
  have hu2 : zW (zNw M 21 (n - 0).toNat) u 21 := ⟨(up1_n _ _ _ (Nat.ne_of_lt hu.2.2)).trans hu.1, hu.2.1, Nat.lt_succ_of_lt hu.2.2⟩
  have hl2 : zLn (zNw M 21 (n - 0).toNat) u = c := (up1_n _ _ _ (Nat.ne_of_lt hu.2.2)).trans hl
  have hw2 : zW (zNw M 21 (n - 0).toNat) (zN M) 21 := ⟨up1_s _ _ _, h64, Nat.lt_succ_self _⟩
  have hn2 : zLn (zNw M 21 (n - 0).toNat) (zN M) = (n - 0).toNat := up1_s _ _ _
  have hp2 : ∀ k : Nat, zPb (zI (zNw M 21 (n - 0).toNat) u k) := fun k => by rw [show zI (zNw M 21 (n - 0).toNat) u = zI M u from up1_n _ _ _ (Nat.ne_of_lt hu.2.2)]; exact hp k
  refine ⟨rfl, fun Φ hΦ => ?_⟩
  refine zGoR hΦ [] 400 (fun hL9 _ hM _ _ => ?_)
  obtain ⟨qL1, qL2, _⟩ : zrg 0 ∧ zrg n ∧ True := hL9
  refine ⟨⟨⟨rfl, rfl⟩, trivial⟩, ⟨rfl, ⟨fun (qc1 : n ≥ 0) => fun _ _ => ⟨(zrgI (x := n - 0) (by omega)), ⟨⟨(by omega), (by omega), (by omega), (by omega)⟩, ⟨(zlenW hu2 (by decide)), zIr (congrArg (fun n : Nat => (n : Int)) hl2) (⟨(zrgI (x := (c : Int) - 0) (by omega)), ⟨rfl, ⟨⟨hu2, hw2, (by omega), ⟨zcpL hl2 (by omega), zcpL hn2 (by omega)⟩, (fun q hq => hp2 _), rfl⟩, (show K (some (zo (zN M))) (zcpy (zNw M 21 (n - 0).toNat) u (zN M) 0 0 (zmin ((c : Int) - 0) (n - 0)).toNat) from ?g422l1)⟩⟩⟩)⟩⟩⟩, fun (qc3 : n < 0) => ?g422l2⟩⟩⟩
  case g422l1 =>
    first
    | (exfalso; omega)
    | skip
      have e9 : (zmin ((c : Int) - 0) (n - 0)).toNat = n.toNat := by omega
      rw [e9, en]
      exact hK
  case g422l2 =>
    first
    | (exfalso; omega)
    | skip
      have e9 : (zmin ((c : Int) - 0) (n - 0)).toNat = n.toNat := by omega
      rw [e9, en]
      exact hK
theorem M_J7_copyOfRangeByte_39247 {l : Launch} (hl : l.stackTraces = false) : zMet l yJ7_copyOfRangeByte_39247 (Cond.code yJ7_copyOfRangeByte_39247 cJ7_copyOfRangeByte_39247 5 (Option.some (Jvm.ClassFile.FieldType.array Jvm.ClassFile.FieldType.byte)) :: zG) rm_J7_copyOfRangeByte_39247 1 6 T_J7_copyOfRangeByte_39247 := met_J7_copyOfRangeByte_39247 hl (M_J7_checkLength_df160 hl) bd_J7_copyOfRangeByte_39247
def T_J7_copyOfRange_39247 : ZTf := fun av M K KX => ∃ (u c : Nat) (n : Int), av = [zo u, zi 0, zi n] ∧ (zW M u 21) ∧ (zLn M u = c) ∧ (0 ≤ n ∧ n ≤ 6 ∧ n < (c : Int) ∧ c ≤ 3000) ∧ (∀ k : Nat, zPb (zI M u k)) ∧  K (some (zo (zN M))) (zcpy (zNw M 21 n.toNat) u (zN M) 0 0 n.toNat)
set_option maxRecDepth 100000 in
set_option maxHeartbeats 1500000 in
theorem bd_J7_copyOfRange_39247 : zBd (cd_J7_copyOfRange_39247 T_J7_copyOfRangeByte_39247) 3 1 6 T_J7_copyOfRange_39247 := by
  rintro av M K KX hA0 hM ⟨u, c, n, rfl, hu, hl, hn, hp, hK⟩
  refine ⟨rfl, fun Φ hΦ => ?_⟩
  refine zGoR hΦ [] 400 (fun hL9 _ hM _ _ => ?_)
  obtain ⟨qL1, qL2, _⟩ : zrg 0 ∧ zrg n ∧ True := hL9
  refine ⟨fun (h : (0 : Int) ≠ 0) => absurd h (by decide), fun _ => ⟨(zlenW hu (by decide)), zIr (congrArg (fun n : Nat => (n : Int)) hl) (⟨fun (qc1 : n = (c : Int)) => ?g423l1, fun (qc2 : n ≠ (c : Int)) => ⟨⟨(by decide), (by decide)⟩, ⟨⟨rfl, rfl⟩, trivial⟩, ⟨u, c, n, rfl, hu, hl, (by omega), hp, fun qg3 qm4 => (show K (some (zo (zN M))) (zcpy (zNw M 21 n.toNat) u (zN M) 0 0 n.toNat) from ?g423l2)⟩⟩⟩)⟩⟩
  case g423l1 => first | (exfalso; omega) | exact hK
  case g423l2 => first | (exfalso; omega) | exact hK
theorem M_J7_copyOfRange_39247 {l : Launch} (hl : l.stackTraces = false) : zMet l yJ7_copyOfRange_39247 (Cond.code yJ7_copyOfRange_39247 cJ7_copyOfRange_39247 3 (Option.some (Jvm.ClassFile.FieldType.array Jvm.ClassFile.FieldType.byte)) :: zG) rm_J7_copyOfRange_39247 1 6 T_J7_copyOfRange_39247 := met_J7_copyOfRange_39247 hl (M_J7_copyOfRangeByte_39247 hl) bd_J7_copyOfRange_39247
def T_J0_init_db425 : ZTf := fun av M K KX => ∃ (s b c : Nat) (o : List Int), av = [zo s, zo b, zr none] ∧ (zW M s 0) ∧ (SB M b c o) ∧ (o.length ≤ 6 ∧ 16 ≤ c) ∧  K none (zsR (zcpy (zNw (zsI M s 1 0) 21 (o.length : Int).toNat) (vu M b) (zN M) 0 0 (o.length : Int).toNat) s 0 (some (zN M)))
set_option maxRecDepth 100000 in
set_option maxHeartbeats 1500000 in
theorem bd_J0_init_db425 : zBd (cd_J0_init_db425 T_J5_getValue_6d5f1 T_J4_length_8abf5 T_J5_isLatin1_aae02 T_J7_copyOfRange_39247) 5 1 6 T_J0_init_db425 := by
  rintro av M K KX hA0 hM ⟨s, b, c, o, rfl, hs, hS, hl9, hK⟩
  obtain ⟨hsb1, hsb2, hsb3, ⟨hsb4, hsb5⟩, hsb6, hsb7⟩ := id hS
  have hus : vu M b ≠ s := fun e => by have h1 := hs.1; have h2 := hS.a.1; rw [e, h1] at h2; exact absurd h2 (by decide)
  have hbs : b ≠ s := fun e => by have h1 := hs.1; have h2 := hS.w.1; rw [e, h1] at h2; exact absurd h2 (by decide)
  have hp1 : ∀ k : Nat, zPb (zI (zsI M s 1 0) (vu M b) k) := fun k => by rw [zI_In _ _ _ hus]; exact hsb6 k
  have hsw : zW (zcpy (zNw (zsI M s 1 0) 21 (o.length : Int).toNat) (vu M b) (zN M) 0 0 (o.length : Int).toNat) s 0 := ⟨(up1_n _ _ _ (Nat.ne_of_lt hs.2.2)).trans hs.1, hs.2.1, Nat.lt_succ_of_lt hs.2.2⟩
  refine ⟨rfl, fun Φ hΦ => ?_⟩
  refine zGoR hΦ [] 400 (fun hL9 _ hM _ _ => ?_)
  obtain ⟨_⟩ : True := hL9
  refine ⟨(Nat.le_of_ble_eq_true rfl), ⟨⟨⟨rfl, rfl⟩, hS.w.rcv⟩, ⟨rfl, ⟨hS.w, _, hS.r0, fun _ _ => ⟨⟨(by decide), (by decide)⟩, ⟨⟨rfl, rfl⟩, hS.w.rcv⟩, ⟨b, c, o, rfl, hS, fun (qg2 : zrg ((o.length : Int))) qm3 => ⟨⟨⟨rfl, rfl⟩, hS.w.rcv⟩, ⟨rfl, ⟨fun (h : (1 : Int) = 0) => absurd h (by decide), fun _ => ⟨hS.w, zIr (hS.cd) (⟨fun (h : (0 : Int) ≠ 0) => absurd h (by decide), fun _ => ⟨(Or.inr rfl), fun _ _ => ⟨fun (h : (1 : Int) = 0) => absurd h (by decide), fun _ => ⟨⟨hs, (zPbI (x := 0) (by omega))⟩, ⟨⟨(by decide), (by decide)⟩, ⟨⟨rfl, rfl⟩, trivial⟩, ⟨(vu M b), c, (o.length : Int), rfl, hS.a, hS.l, (by omega), hp1, fun qg5 qm6 => ⟨hsw, (show K none (zsR (zcpy (zNw (zsI M s 1 0) 21 (o.length : Int).toNat) (vu M b) (zN (zsI M s 1 0)) 0 0 (o.length : Int).toNat) s 0 (some (zN (zsI M s 1 0)))) from ?g424l1)⟩⟩⟩⟩⟩⟩⟩)⟩⟩⟩⟩⟩⟩⟩⟩⟩⟩
  case g424l1 => first | exact hK | (exfalso; omega)
theorem M_J0_init_db425 {l : Launch} (hl : l.stackTraces = false) : zMet l yJ0_init_db425 (Cond.code yJ0_init_db425 cJ0_init_db425 5 (Option.none : Option Jvm.ClassFile.FieldType) :: zG) rm_J0_init_db425 1 6 T_J0_init_db425 := met_J0_init_db425 hl (M_J5_getValue_6d5f1 hl) (M_J4_length_8abf5 hl) (M_J5_isLatin1_aae02 hl) (M_J7_copyOfRange_39247 hl) bd_J0_init_db425
def T_J0_init_81219 : ZTf := fun av M K KX => ∃ (s b c : Nat) (o : List Int), av = [zo s, zo b] ∧ (zW M s 0) ∧ (SB M b c o) ∧ (o.length ≤ 6 ∧ 16 ≤ c) ∧  K none (zsR (zcpy (zNw (zsI M s 1 0) 21 (o.length : Int).toNat) (vu M b) (zN M) 0 0 (o.length : Int).toNat) s 0 (some (zN M)))
set_option maxRecDepth 100000 in
set_option maxHeartbeats 1500000 in
theorem bd_J0_init_81219 : zBd (cd_J0_init_81219 T_J0_init_db425) 2 1 6 T_J0_init_81219 := by
  rintro av M K KX hA0 hM ⟨s, b, c, o, rfl, hs, hS, hl9, hK⟩
  refine ⟨rfl, fun Φ hΦ => ?_⟩
  refine zGoR hΦ [] 400 (fun hL9 _ hM _ _ => ?_)
  obtain ⟨_⟩ : True := hL9
  refine ⟨⟨(by decide), (by decide)⟩, ⟨⟨rfl, rfl⟩, hs.rcv⟩, ⟨s, b, c, o, rfl, hs, hS, hl9, fun qg1 qm2 => (show K none (zsR (zcpy (zNw (zsI M s 1 0) 21 (o.length : Int).toNat) (vu M b) (zN M) 0 0 (o.length : Int).toNat) s 0 (some (zN M))) from ?g425l1)⟩⟩
  case g425l1 => exact hK
theorem M_J0_init_81219 {l : Launch} (hl : l.stackTraces = false) : zMet l yJ0_init_81219 (Cond.code yJ0_init_81219 cJ0_init_81219 2 (Option.none : Option Jvm.ClassFile.FieldType) :: zG) rm_J0_init_81219 1 6 T_J0_init_81219 := met_J0_init_81219 hl (M_J0_init_db425 hl) bd_J0_init_81219
