theorem zi2c_i {y : Int} (h : 0 ≤ y ∧ y < 65536) : zi2c y = y := by
  unfold zi2c
  have hu : (Int32.ofInt y).toUInt32.toNat = y.toNat := by
    show (BitVec.ofInt 32 y).toNat = _
    rw [BitVec.toNat_ofInt]
    omega
  generalize (Int32.ofInt y).toUInt32 = u at hu
  have e : (u % 65536).toInt32.toInt = ((u % 65536).toNat : Int) := by
    have h9 : (u % 65536).toNat < 65536 := by rw [UInt32.toNat_mod]; exact Nat.mod_lt _ (by decide)
    show (u % 65536).toBitVec.toInt = _
    rw [BitVec.toInt_eq_toNat_cond, if_pos (by show 2 * (u % 65536).toNat < 2 ^ 32; omega)]
    rfl
  rw [e, UInt32.toNat_mod, hu]
  show ((y.toNat % 65536 : Nat) : Int) = y
  omega
theorem zc_id {x : Int} (h : 0 ≤ x ∧ x < 256) : zi2c (zand x 255) = x := by
  have h1 : zand x 255 = x := by
    rw [zand_nat h.1 (by omega) (by decide) (by decide)]
    have h2 : x.toNat &&& (255 : Int).toNat = x.toNat % 256 := Nat.and_two_pow_sub_one_eq_mod x.toNat 8
    rw [h2]
    omega
  rw [h1]
  exact zi2c_i (by omega)
def spl (B : Gm) (n a e : Int) (l : List Int) : Bool := decide ((0 ≤ a ∧ e ≤ n ∧ e - a = (l.length : Int)) ∧ ∀ k : Nat, k < l.length → B (a + (k : Int)).toNat = l.getD k 0)
def T_X1_spells : ZTf := fun av M K KX => ∃ (B : Gm) (n a e : Int) (s : Nat) (l : List Int), av = [zo 66, zi a, zi e, zo s] ∧ (LV M) ∧ (CIn M B n) ∧ (zTx M s l) ∧ (l.length ≤ 100) ∧ (∀ k : Nat, k < l.length → 0 ≤ l.getD k 0 ∧ l.getD k 0 < 256) ∧ (e - a ≤ 1000 ∧ -1000 ≤ e - a) ∧  K (some (zi (b2i (spl B n a e l)))) M
set_option maxRecDepth 100000 in
set_option maxHeartbeats 4000000 in
theorem bd_X1_spells : zBd (cd_X1_spells T_J0_length_8abf5 T_J0_charAt_5068e) 5 0 0 T_X1_spells := by
  rintro av M K KX hA0 hM ⟨B, n, a, e, s, l, rfl, hL, hI, hz, hb, hc, hae, hK⟩
  have hn0 := hI.2.1
  refine ⟨rfl, fun Φ hΦ => ?_⟩
  have loop : (0 ≤ a ∧ e ≤ n ∧ e - a = (l.length : Int)) → ∀ i, 0 ≤ i → i ≤ (l.length : Int) → (∀ k : Nat, (k : Int) < i → B (a + (k : Int)).toNat = l.getD k 0) → Φ 27 [some (zo 66), some (zi a), some (zi e), some (zo s), some (zi i)] [] M 0 0 := fun h8 => by
    refine zdown (n := (l.length : Int)) (P := fun i => (∀ k : Nat, (k : Int) < i → B (a + (k : Int)).toNat = l.getD k 0) → Φ 27 [some (zo 66), some (zi a), some (zi e), some (zo s), some (zi i)] [] M 0 0) (fun i h0 h1 ih hall => ?_)
    have hBi : i < (l.length : Int) → zI M 67 (a + i).toNat = B (a + i).toNat := fun q => (hI.2.2.1 (a + i).toNat (by omega)).1
    have hci : i < (l.length : Int) → zi2c (zand (l.getD i.toNat 0) 255) = l.getD i.toNat 0 := fun q => zc_id (hc i.toNat (by omega))
    refine zGoR hΦ [27] 400 (fun hL9 _ hM _ _ => ?_)
    obtain ⟨qL1, qL2, qL3, _⟩ : zrg a ∧ zrg e ∧ zrg i ∧ True := hL9
    refine ⟨⟨⟨rfl, rfl⟩, ⟨hz.1, Or.inr rfl⟩⟩, ⟨s, l, rfl, hz, hb, fun (qg1 : zrg ((l.length : Int))) qm2 => ⟨fun (qc3 : i ≥ (l.length : Int)) => ⟨(Or.inr rfl), (show K (some (zi 1)) M from ?g305l1)⟩, fun (qc4 : i < (l.length : Int)) => ⟨hL.wI, _, hL.i0, ⟨(zrgI (x := a + i) (by omega)), ⟨zixO hL.a_bytes hL.l_bytes (i := a + i) (by omega) (by decide), zIr ((hBi (by omega))) (⟨⟨⟨rfl, rfl⟩, ⟨hz.1, Or.inr rfl⟩⟩, ⟨s, l, i, rfl, hz, hb, (by omega), fun (qg5 : zrg (zi2c (zand (l.getD i.toNat 0) 255))) qm6 => ⟨fun (qc7 : (B (a + i).toNat) = zi2c (zand (l.getD i.toNat 0) 255)) => ⟨(zrgI (x := i + 1) (by omega)), (show Φ 27 [some (zo 66), some (zi a), some (zi e), some (zo s), some (zi (i + 1))] [] M (0) (0) from ?g305l2)⟩, fun (qc8 : (B (a + i).toNat) ≠ zi2c (zand (l.getD i.toNat 0) 255)) => ⟨(Or.inl rfl), (show K (some (zi 0)) M from ?g305l3)⟩⟩⟩⟩)⟩⟩⟩⟩⟩⟩
    case g305l1 =>
      refine zKi hK ?_
      unfold spl
      rw [decide_eq_true]
      · rfl
      · exact ⟨h8, fun k hk => hall k (by omega)⟩
    case g305l2 =>
      refine ih (by omega) (fun k hk => ?_)
      by_cases z : (k : Int) < i
      · exact hall k z
      · have e9 : i = (k : Int) := by omega
        have h9 := qc7
        rw [hci (by omega)] at h9
        rw [e9] at h9
        exact h9
    case g305l3 =>
      refine zKi hK ?_
      unfold spl
      rw [decide_eq_false]
      · rfl
      · intro z
        have h7 := z.2 i.toNat (by omega)
        have h9 := qc8
        rw [hci (by omega)] at h9
        rw [show (a + ((i.toNat : Nat) : Int)) = a + i by omega] at h7
        exact h9 h7
  refine zGoR hΦ [27] 400 (fun hL9 _ hM _ _ => ?_)
  obtain ⟨qL1, qL2, _⟩ : zrg a ∧ zrg e ∧ True := hL9
  refine ⟨fun (qc1 : a < 0) => ⟨(Or.inl rfl), (show K (some (zi 0)) M from ?g306l1)⟩, fun (qc2 : a ≥ 0) => ⟨hL.wI, zIr (hI.1) (⟨fun (qc3 : e > n) => ⟨(Or.inl rfl), (show K (some (zi 0)) M from ?g306l2)⟩, fun (qc4 : e ≤ n) => ⟨(zrgI (x := e - a) (by omega)), ⟨⟨⟨rfl, rfl⟩, ⟨hz.1, Or.inr rfl⟩⟩, ⟨s, l, rfl, hz, hb, fun (qg5 : zrg ((l.length : Int))) qm6 => ⟨fun (qc7 : e - a = (l.length : Int)) => (show Φ 27 [some (zo 66), some (zi a), some (zi e), some (zo s), some (zi 0)] [] M (0) (0) from ?g306l3), fun (qc8 : e - a ≠ (l.length : Int)) => ⟨(Or.inl rfl), (show K (some (zi 0)) M from ?g306l4)⟩⟩⟩⟩⟩⟩)⟩⟩
  case g306l1 =>
    refine zKi hK ?_
    unfold spl
    rw [decide_eq_false]
    · rfl
    · intro z
      omega
  case g306l2 =>
    refine zKi hK ?_
    unfold spl
    rw [decide_eq_false]
    · rfl
    · intro z
      omega
  case g306l3 => exact loop (by omega) 0 (by omega) (by omega) (fun k hk => by omega)
  case g306l4 =>
    refine zKi hK ?_
    unfold spl
    rw [decide_eq_false]
    · rfl
    · intro z
      omega
theorem M_X1_spells {l : Launch} (hl : l.stackTraces = false) : zMet l yX1_spells (Cond.code yX1_spells cX1_spells 5 (Option.some Jvm.ClassFile.FieldType.boolean) :: zG) rm_X1_spells 0 0 T_X1_spells := met_X1_spells hl (M_J0_length_8abf5 hl) (M_J0_charAt_5068e hl) bd_X1_spells
