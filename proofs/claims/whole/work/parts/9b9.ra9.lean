/-! a builder, read at a place -/

def T_J5_charAt_5068e : ZTf := fun av M K KX => ∃ (b c : Nat) (o : List Int) (i : Int), av = [zo b, zi i] ∧ (SB M b c o) ∧ (0 ≤ i ∧ i < o.length) ∧  K (some (zi (zi2c (zand (o.getD i.toNat 0) 255)))) M
set_option maxRecDepth 100000 in
set_option maxHeartbeats 1500000 in
theorem bd_J5_charAt_5068e : zBd (cd_J5_charAt_5068e T_J0_checkIndex_df160) 5 0 0 T_J5_charAt_5068e := by
  rintro av M K KX hA0 hM ⟨b, c, o, i, rfl, hS, hi, hK⟩
  have hq := zi2c_r (zand (o.getD i.toNat 0) 255)
  have hcl := hS.2.2.2.1
  have hz0 : zshr (c : Int) 0 = (c : Int) := zshr_0 (by omega)
  have hvi := hS.2.2.2.2.2 i.toNat (by omega)
  have hmn := zminc (o.length : Int) (zshr (c : Int) 0)
  refine ⟨rfl, fun Φ hΦ => ?_⟩
  refine zGoR hΦ [] 400 (fun hL9 _ hM _ _ => ?_)
  obtain ⟨qL1, _⟩ : zrg i ∧ True := hL9
  refine ⟨hS.w, zIr (hS.cd) (⟨hS.w, _, hS.r0, ⟨hS.w, zIr (hS.ct) (⟨(zlenW hS.a (by decide)), zIr (congrArg (fun n : Nat => (n : Int)) hS.l) (⟨rfl, ⟨⟨⟨rfl, rfl⟩, trivial⟩, ⟨rfl, fun qr1 _ => ⟨⟨⟨rfl, rfl⟩, trivial⟩, ⟨rfl, ⟨fun (qc2 : i < 0) => ?g460l1, fun (qc3 : i ≥ 0) => ⟨fun (qc4 : i < zmin (o.length : Int) (zshr (c : Int) 0)) => ⟨trivial, fun (qg5 : zrg (i)) _ => ⟨rfl, fun _ _ => ⟨fun (h : (0 : Int) ≠ 0) => absurd h (by decide), fun _ => ⟨zixO hS.a hS.l (i := i) (by omega) (by omega), zIr (hvi) (⟨(zPqI (x := zi2c (zand (o.getD i.toNat 0) 255)) (by omega)), (show K (some (zi (zi2c (zand (o.getD i.toNat 0) 255)))) M from ?g460l2)⟩)⟩⟩⟩⟩, fun (qc7 : i ≥ zmin (o.length : Int) (zshr (c : Int) 0)) => ?g460l3⟩⟩⟩⟩⟩⟩⟩)⟩)⟩⟩)⟩
  case g460l1 => omega
  case g460l2 => first | (exfalso; omega) | exact hK
  case g460l3 => omega
theorem M_J5_charAt_5068e {l : Launch} (hl : l.stackTraces = false) : zMet l yJ5_charAt_5068e (Cond.code yJ5_charAt_5068e cJ5_charAt_5068e 5 (Option.some Jvm.ClassFile.FieldType.char) :: zG) rm_J5_charAt_5068e 0 0 T_J5_charAt_5068e := met_J5_charAt_5068e hl (M_J0_checkIndex_df160 hl) bd_J5_charAt_5068e

def T_J4_charAt_5068e : ZTf := fun av M K KX => ∃ (b c : Nat) (o : List Int) (i : Int), av = [zo b, zi i] ∧ (SB M b c o) ∧ (0 ≤ i ∧ i < o.length) ∧  K (some (zi (zi2c (zand (o.getD i.toNat 0) 255)))) M
set_option maxRecDepth 100000 in
set_option maxHeartbeats 1500000 in
theorem bd_J4_charAt_5068e : zBd (cd_J4_charAt_5068e T_J5_charAt_5068e) 2 0 0 T_J4_charAt_5068e := by
  rintro av M K KX hA0 hM ⟨b, c, o, i, rfl, hS, hi, hK⟩
  have hq := zi2c_r (zand (o.getD i.toNat 0) 255)
  refine ⟨rfl, fun Φ hΦ => ?_⟩
  refine zGoR hΦ [] 400 (fun hL9 _ hM _ _ => ?_)
  obtain ⟨qL1, _⟩ : zrg i ∧ True := hL9
  refine ⟨⟨(by decide), (by decide)⟩, ⟨⟨rfl, rfl⟩, hS.w.rcv⟩, ⟨b, c, o, i, rfl, hS, hi, fun (qg1 : zrg (zi2c (zand (o.getD i.toNat 0) 255))) qm2 => ⟨(zPqI (x := zi2c (zand (o.getD i.toNat 0) 255)) (by omega)), (show K (some (zi (zi2c (zand (o.getD i.toNat 0) 255)))) M from ?g461l1)⟩⟩⟩
  case g461l1 => first | (exfalso; omega) | exact hK
theorem M_J4_charAt_5068e {l : Launch} (hl : l.stackTraces = false) : zMet l yJ4_charAt_5068e (Cond.code yJ4_charAt_5068e cJ4_charAt_5068e 2 (Option.some Jvm.ClassFile.FieldType.char) :: zG) rm_J4_charAt_5068e 0 0 T_J4_charAt_5068e := met_J4_charAt_5068e hl (M_J5_charAt_5068e hl) bd_J4_charAt_5068e
