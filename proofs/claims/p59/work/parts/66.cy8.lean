theorem zshr_0 {x : Int} (h : 0 ≤ x ∧ x < 2147483648) : zshr x 0 = x := by
  unfold zshr
  have h1 : Int32.ofInt x >>> (Int32.ofInt 0 &&& 31) = Int32.ofInt x := by
    rw [show (Int32.ofInt 0 &&& 31) = (0 : Int32) from by decide]
    exact Int32.shiftRight_zero
  rw [h1, Int32.toInt_ofInt]
  have hs : (Int32.size : Int) = 4294967296 := rfl
  exact Int.bmod_eq_of_le (by omega) (by omega)
theorem zixS {M : ZM} {j κ n : Nat} {i : Int} (hw : zO M j κ) (hl : zLn M j = n) (h : 0 ≤ i ∧ i < (n : Int)) (hn : n < 2147483648) : zO M j κ ∧ 0 ≤ i ∧ i < (zLn M j : Int) ∧ i < 2147483648 := ⟨hw, h.1, by rw [hl]; exact h.2, by omega⟩
theorem zi2c_r (x : Int) : 0 ≤ zi2c x ∧ zi2c x < 65536 := by
  unfold zi2c
  generalize (Int32.ofInt x).toUInt32 = u
  have h : (u % 65536).toNat < 65536 := by rw [UInt32.toNat_mod]; exact Nat.mod_lt _ (by decide)
  have e : (u % 65536).toInt32.toInt = ((u % 65536).toNat : Int) := by
    show (u % 65536).toBitVec.toInt = _
    rw [BitVec.toInt_eq_toNat_cond, if_pos (by show 2 * (u % 65536).toNat < 2 ^ 32; omega)]
    rfl
  omega
def T_J0_coder_7d493 : ZTf := zInl (cd_J0_coder_7d493) 1 0 0 400
theorem M_J0_coder_7d493 {l : Launch} (hl : l.stackTraces = false) : zMet l yJ0_coder_7d493 (Cond.code yJ0_coder_7d493 cJ0_coder_7d493 1 (Option.some Jvm.ClassFile.FieldType.byte) :: zG) rm_J0_coder_7d493 0 0 T_J0_coder_7d493 := met_J0_coder_7d493 hl zInl_bd
def T_J0_isLatin1_aae02 : ZTf := zInl (cd_J0_isLatin1_aae02) 1 0 0 400
theorem M_J0_isLatin1_aae02 {l : Launch} (hl : l.stackTraces = false) : zMet l yJ0_isLatin1_aae02 (Cond.code yJ0_isLatin1_aae02 cJ0_isLatin1_aae02 1 (Option.some Jvm.ClassFile.FieldType.boolean) :: zG) rm_J0_isLatin1_aae02 0 0 T_J0_isLatin1_aae02 := met_J0_isLatin1_aae02 hl zInl_bd
def T_J3_checkIndex_8e157 : ZTf := zInl (cd_J3_checkIndex_8e157) 3 0 0 400
theorem M_J3_checkIndex_8e157 {l : Launch} (hl : l.stackTraces = false) : zMet l yJ3_checkIndex_8e157 (Cond.code yJ3_checkIndex_8e157 cJ3_checkIndex_8e157 3 (Option.some Jvm.ClassFile.FieldType.int) :: zG) rm_J3_checkIndex_8e157 0 0 T_J3_checkIndex_8e157 := met_J3_checkIndex_8e157 hl zInl_bd
def T_J0_checkIndex_df160 : ZTf := zInl (cd_J0_checkIndex_df160 T_J3_checkIndex_8e157) 2 0 0 400
theorem M_J0_checkIndex_df160 {l : Launch} (hl : l.stackTraces = false) : zMet l yJ0_checkIndex_df160 (Cond.code yJ0_checkIndex_df160 cJ0_checkIndex_df160 2 (Option.none : Option Jvm.ClassFile.FieldType) :: zG) rm_J0_checkIndex_df160 0 0 T_J0_checkIndex_df160 := met_J0_checkIndex_df160 hl (M_J3_checkIndex_8e157 hl) zInl_bd
def T_J1_charAt_3b067 : ZTf := zInl (cd_J1_charAt_3b067 T_J0_checkIndex_df160) 2 0 0 400
theorem M_J1_charAt_3b067 {l : Launch} (hl : l.stackTraces = false) : zMet l yJ1_charAt_3b067 (Cond.code yJ1_charAt_3b067 cJ1_charAt_3b067 2 (Option.some Jvm.ClassFile.FieldType.char) :: zG) rm_J1_charAt_3b067 0 0 T_J1_charAt_3b067 := met_J1_charAt_3b067 hl (M_J0_checkIndex_df160 hl) zInl_bd
def T_J0_length_8abf5 : ZTf := fun av M K KX => ∃ (s : Nat) (l : List Int), av = [zo s] ∧ (zTx M s l) ∧ (l.length ≤ 100) ∧  K (some (zi ((l.length : Int)))) M
set_option maxRecDepth 100000 in
set_option maxHeartbeats 4000000 in
theorem bd_J0_length_8abf5 : zBd (cd_J0_length_8abf5 T_J0_coder_7d493) 1 0 0 T_J0_length_8abf5 := by
  rintro av M K KX hA0 hM ⟨s, l, rfl, hz, hb, hK⟩
  obtain ⟨hO, hc, v, hv, ha, hl, -, he⟩ := id hz
  refine ⟨rfl, fun Φ hΦ => ?_⟩
  refine zGoR hΦ [] 400 (fun hL9 _ hM _ _ => ?_)
  obtain ⟨_⟩ : True := hL9
  refine ⟨hz.1, _, hv, ⟨⟨ha.2, Or.inr (Or.inr (Or.inl ha.1))⟩, zIr (congrArg (fun n : Nat => (n : Int)) hl) (⟨⟨⟨rfl, rfl⟩, ⟨hz.1, Or.inr rfl⟩⟩, ⟨rfl, ⟨fun (h : (1 : Int) = 0) => absurd h (by decide), fun _ => ⟨hz.1, ⟨(zPbI (x := zI M s 1) (by omega)), fun (qg1 : zrg (zI M s 1)) _ => ⟨trivial, (show K (some (zi (zshr (l.length : Int) (zI M s 1)))) M from ?g303l1)⟩⟩⟩⟩⟩⟩)⟩⟩
  case g303l1 => refine zKi hK ?_; first | rfl | (rw [hc]; exact (zshr_0 (by omega)).symm)
theorem M_J0_length_8abf5 {l : Launch} (hl : l.stackTraces = false) : zMet l yJ0_length_8abf5 (Cond.code yJ0_length_8abf5 cJ0_length_8abf5 1 (Option.some Jvm.ClassFile.FieldType.int) :: zG) rm_J0_length_8abf5 0 0 T_J0_length_8abf5 := met_J0_length_8abf5 hl (M_J0_coder_7d493 hl) bd_J0_length_8abf5
def T_J0_charAt_5068e : ZTf := fun av M K KX => ∃ (s : Nat) (l : List Int) (i : Int), av = [zo s, zi i] ∧ (zTx M s l) ∧ (l.length ≤ 100) ∧ (0 ≤ i ∧ i < l.length) ∧  K (some (zi (zi2c (zand (l.getD i.toNat 0) 255)))) M
set_option maxRecDepth 100000 in
set_option maxHeartbeats 4000000 in
theorem bd_J0_charAt_5068e : zBd (cd_J0_charAt_5068e T_J0_isLatin1_aae02 T_J1_charAt_3b067) 2 0 0 T_J0_charAt_5068e := by
  rintro av M K KX hA0 hM ⟨s, l, i, rfl, hz, hb, hi, hK⟩
  obtain ⟨hO, hc, v, hv, ha, hl, -, he⟩ := id hz
  have hq := zi2c_r (zand (l.getD i.toNat 0) 255)
  refine ⟨rfl, fun Φ hΦ => ?_⟩
  refine zGoR hΦ [] 400 (fun hL9 _ hM _ _ => ?_)
  obtain ⟨qL1, _⟩ : zrg i ∧ True := hL9
  refine ⟨⟨⟨rfl, rfl⟩, ⟨hz.1, Or.inr rfl⟩⟩, ⟨rfl, ⟨fun (h : (1 : Int) = 0) => absurd h (by decide), fun _ => ⟨hz.1, ⟨fun (qc1 : zI M s 1 ≠ 0) => ⟨(Or.inl rfl), fun _ _ => ⟨fun _ => ?g304l1, fun (h : (0 : Int) ≠ 0) => absurd h (by decide)⟩⟩, fun (qc3 : zI M s 1 = 0) => ⟨(Or.inr rfl), fun _ _ => ⟨fun (h : (1 : Int) = 0) => absurd h (by decide), fun _ => ⟨hz.1, _, hv, ⟨⟨⟨rfl, rfl⟩, trivial⟩, ⟨rfl, ⟨⟨ha.2, Or.inr (Or.inr (Or.inl ha.1))⟩, zIr (congrArg (fun n : Nat => (n : Int)) hl) (⟨⟨⟨rfl, rfl⟩, trivial⟩, ⟨rfl, fun qr5 _ => ⟨⟨⟨rfl, rfl⟩, trivial⟩, ⟨rfl, ⟨fun (qc6 : i < 0) => ?g304l2, fun (qc7 : i ≥ 0) => ⟨fun (qc8 : i < (l.length : Int)) => ⟨trivial, fun (qg9 : zrg (i)) _ => ⟨rfl, fun _ _ => ⟨zixS ha hl (i := i) (by omega) (by omega), zIr ((he i.toNat (by omega))) (⟨(zPqI (x := zi2c (zand (l.getD i.toNat 0) 255)) (by omega)), fun (qg11 : zrg (zi2c (zand (l.getD i.toNat 0) 255))) _ => ⟨(zPqI (x := zi2c (zand (l.getD i.toNat 0) 255)) (by omega)), (show K (some (zi (zi2c (zand (l.getD i.toNat 0) 255)))) M from ?g304l3)⟩⟩)⟩⟩⟩, fun (qc12 : i ≥ (l.length : Int)) => ?g304l4⟩⟩⟩⟩⟩⟩)⟩⟩⟩⟩⟩⟩⟩⟩⟩⟩⟩
  case g304l1 => omega
  case g304l2 => omega
  case g304l3 => first | (exfalso; omega) | exact hK
  case g304l4 => omega
theorem M_J0_charAt_5068e {l : Launch} (hl : l.stackTraces = false) : zMet l yJ0_charAt_5068e (Cond.code yJ0_charAt_5068e cJ0_charAt_5068e 2 (Option.some Jvm.ClassFile.FieldType.char) :: zG) rm_J0_charAt_5068e 0 0 T_J0_charAt_5068e := met_J0_charAt_5068e hl (M_J0_isLatin1_aae02 hl) (M_J1_charAt_3b067 hl) bd_J0_charAt_5068e
