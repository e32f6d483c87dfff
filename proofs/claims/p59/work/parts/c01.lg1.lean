/-! the law: long texts -/
def T_J0_length_8abf5B : ZTf := fun av M K KX => ∃ (s : Nat) (l : List Int), av = [zo s] ∧ (zTx M s l) ∧ (l.length ≤ 600) ∧  K (some (zi ((l.length : Int)))) M
set_option maxRecDepth 100000 in
set_option maxHeartbeats 4000000 in
theorem bd_J0_length_8abf5B : zBd (cd_J0_length_8abf5 T_J0_coder_7d493) 1 0 0 T_J0_length_8abf5B := by
  rintro av M K KX hA0 hM ⟨s, l, rfl, hz, hb, hK⟩
  obtain ⟨hO, hc, v, hv, ha, hl, -, he⟩ := id hz
  refine ⟨rfl, fun Φ hΦ => ?_⟩
  refine zGoR hΦ [] 400 (fun hL9 _ hM _ _ => ?_)
  obtain ⟨_⟩ : True := hL9
  refine ⟨hz.1, _, hv, ⟨⟨ha.2, Or.inr (Or.inr (Or.inl ha.1))⟩, zIr (congrArg (fun n : Nat => (n : Int)) hl) (⟨⟨⟨rfl, rfl⟩, ⟨hz.1, Or.inr rfl⟩⟩, ⟨rfl, ⟨fun (h : (1 : Int) = 0) => absurd h (by decide), fun _ => ⟨hz.1, ⟨(zPbI (x := zI M s 1) (by omega)), fun (qg1 : zrg (zI M s 1)) _ => ⟨trivial, (show K (some (zi (zshr (l.length : Int) (zI M s 1)))) M from ?g303l1)⟩⟩⟩⟩⟩⟩)⟩⟩
  case g303l1 => refine zKi hK ?_; first | rfl | (rw [hc]; exact (zshr_0 (by omega)).symm)
theorem M_J0_length_8abf5B {l : Launch} (hl : l.stackTraces = false) : zMet l yJ0_length_8abf5 (Cond.code yJ0_length_8abf5 cJ0_length_8abf5 1 (Option.some Jvm.ClassFile.FieldType.int) :: zG) rm_J0_length_8abf5 0 0 T_J0_length_8abf5B := met_J0_length_8abf5 hl (M_J0_coder_7d493 hl) bd_J0_length_8abf5B
def T_J0_charAt_5068eB : ZTf := fun av M K KX => ∃ (s : Nat) (l : List Int) (i : Int), av = [zo s, zi i] ∧ (zTx M s l) ∧ (l.length ≤ 600) ∧ (0 ≤ i ∧ i < l.length) ∧  K (some (zi (zi2c (zand (l.getD i.toNat 0) 255)))) M
set_option maxRecDepth 100000 in
set_option maxHeartbeats 4000000 in
theorem bd_J0_charAt_5068eB : zBd (cd_J0_charAt_5068e T_J0_isLatin1_aae02 T_J1_charAt_3b067) 2 0 0 T_J0_charAt_5068eB := by
  rintro av M K KX hA0 hM ⟨s, l, i, rfl, hz, hb, hi, hK⟩
  obtain ⟨hO, hc, v, hv, ha, hl, -, he⟩ := id hz
  have hq := zi2c_r (zand (l.getD i.toNat 0) 255)
  refine ⟨rfl, fun Φ hΦ => ?_⟩
  refine zGoR hΦ [] 400 (fun hL9 _ hM _ _ => ?_)
  obtain ⟨qL1, _⟩ : zrg i ∧ True := hL9
  refine ⟨⟨⟨rfl, rfl⟩, ⟨hz.1, Or.inr rfl⟩⟩, ⟨rfl, ⟨fun (h : (1 : Int) = 0) => absurd h (by decide), fun _ => ⟨hz.1, ⟨fun (qc1 : zI M s 1 ≠ 0) => ⟨(Or.inl rfl), fun _ _ => ⟨fun _ => ?g304l1, fun (h : (0 : Int) ≠ 0) => absurd h (by decide)⟩⟩, fun (qc3 : zI M s 1 = 0) => ⟨(Or.inr rfl), fun _ _ => ⟨fun (h : (1 : Int) = 0) => absurd h (by decide), fun _ => ⟨hz.1, _, hv, ⟨⟨⟨rfl, rfl⟩, trivial⟩, ⟨rfl, ⟨⟨ha.2, Or.inr (Or.inr (Or.inl ha.1))⟩, zIr (congrArg (fun n : Nat => (n : Int)) hl) (⟨⟨⟨rfl, rfl⟩, trivial⟩, ⟨rfl, fun qr5 _ => ⟨⟨⟨rfl, rfl⟩, trivial⟩, ⟨rfl, ⟨fun (qc6 : i < 0) => ?g304l2, fun (qc7 : i ≥ 0) => ⟨fun (qc8 : i < (l.length : Int)) => ⟨trivial, fun (qg9 : zrg (i)) _ => ⟨rfl, fun _ _ => ⟨zixS ha hl (i := i) (by omega) (by omega), zIr ((he i.toNat (by omega))) (⟨(zPqI (x := zi2c (zand (l.getD i.toNat 0) 255)) (by omega)), fun (qg11 : zrg (zi2c (zand (l.getD i.toNat 0) 255))) _ => ⟨(zPqI (x := zi2c (zand (l.getD i.toNat 0) 255)) (by omega)), (show K (some (zi (zi2c (zand (l.getD i.toNat 0) 255)))) M from ?g304l3)⟩⟩)⟩⟩⟩, fun (qc12 : i ≥ (l.length : Int)) => ?g304l4⟩⟩⟩⟩⟩⟩)⟩⟩⟩⟩⟩⟩⟩⟩⟩⟩⟩
  case g304l1 => omega
  case g304l2 => omega
  case g304l3 => first | (exfalso; omega) | exact hK
  case g304l4 => omega
theorem M_J0_charAt_5068eB {l : Launch} (hl : l.stackTraces = false) : zMet l yJ0_charAt_5068e (Cond.code yJ0_charAt_5068e cJ0_charAt_5068e 2 (Option.some Jvm.ClassFile.FieldType.char) :: zG) rm_J0_charAt_5068e 0 0 T_J0_charAt_5068eB := met_J0_charAt_5068e hl (M_J0_isLatin1_aae02 hl) (M_J1_charAt_3b067 hl) bd_J0_charAt_5068eB
theorem cst {a b : Int} (e : a = b) (P : Int → Prop) (h : P b) : P a := by rw [e]; exact h
theorem zshl8 {x : Int} (h : 0 ≤ x ∧ x < 8388608) : zshl x 8 = x * 256 := by
  unfold zshl
  have h1 : (Int32.ofInt 8 &&& 31) = (8 : Int32) := by decide
  rw [h1]
  show ((Int32.ofInt x).toBitVec <<< ((8 : Int32).toBitVec.smod 32)).toInt = _
  have h2 : (8 : Int32).toBitVec.smod 32 = 8#32 := by decide
  rw [h2]
  have h3 : (Int32.ofInt x).toBitVec = BitVec.ofInt 32 x := rfl
  rw [h3, BitVec.shiftLeft_eq', BitVec.toInt_shiftLeft]
  have h4 : (BitVec.ofInt 32 x).toNat = x.toNat := by
    rw [BitVec.toNat_ofInt]
    omega
  rw [h4, show (8#32).toNat = 8 by decide, Nat.shiftLeft_eq]
  rw [show (((x.toNat * 2 ^ 8 : Nat)) : Int) = x * 256 by omega]
  exact Int.bmod_eq_of_le (by omega) (by omega)
theorem zor8 {x c : Int} (h : 0 ≤ x ∧ x < 8388608) (hc : 0 ≤ c ∧ c < 256) : zor (x * 256) c = x * 256 + c := by
  rw [zor_nat (by omega) (by omega) hc.1 (by omega)]
  have e : (x * 256).toNat = 2 ^ 8 * x.toNat := by omega
  rw [e, ← Nat.two_pow_add_eq_or_of_lt (by omega : c.toNat < 2 ^ 8)]
  omega
theorem zand255 {x : Int} (h : 0 ≤ x ∧ x < 2147483648) : zand x 255 = x % 256 := by
  rw [zand_nat h.1 h.2 (by decide) (by decide)]
  have e : x.toNat &&& (255 : Int).toNat = x.toNat % 256 := Nat.and_two_pow_sub_one_eq_mod x.toNat 8
  rw [e]
  omega
theorem byt24 {v : Int} (h : 0 ≤ v ∧ v < 2147483648) : byt v 24 = v / 16777216 % 256 ∧ byt v 16 = v / 65536 % 256 ∧ byt v 8 = v / 256 % 256 ∧ byt v 0 = v % 256 := by
  have e : ∀ k : Nat, k < 31 → byt v (k : Int) = v / ((2 ^ k : Nat) : Int) % 256 := fun k hk => by
    unfold byt
    rw [zushr_nat h.1 h.2 k hk]
    have h9 : ((v.toNat / 2 ^ k : Nat) : Int) < 2147483648 := by
      have := Nat.div_le_self v.toNat (2 ^ k)
      omega
    rw [zand255 ⟨Int.natCast_nonneg _, h9⟩]
    congr 1
    rw [Int.natCast_ediv]
    congr 1
    omega
  refine ⟨e 24 (by decide), e 16 (by decide), e 8 (by decide), ?_⟩
  have h0 := e 0 (by decide)
  rw [show ((2 ^ 0 : Nat) : Int) = 1 by decide, Int.ediv_one] at h0
  exact h0
/-- a text's byte, 0 behind its end -/
def cb (l : List Int) (j : Int) : Int := if j < (l.length : Int) then l.getD j.toNat 0 else 0
def asc (l : List Int) : Prop := ∀ k : Nat, k < l.length → 0 ≤ l.getD k 0 ∧ l.getD k 0 < 128
theorem cb_r {l : List Int} (h : asc l) {j : Int} (hj : 0 ≤ j) : 0 ≤ cb l j ∧ cb l j < 128 := by
  unfold cb
  split
  · exact h _ (by omega)
  · omega
def pk (l : List Int) (a : Int) : Nat → Int
  | 0 => 0
  | n + 1 => pk l a n * 256 + cb l (a + n)
theorem pk_r {l : List Int} (h : asc l) {a : Int} (ha : 0 ≤ a) : (pk l a 0 = 0) ∧ (0 ≤ pk l a 1 ∧ pk l a 1 < 128) ∧ (0 ≤ pk l a 2 ∧ pk l a 2 < 32768) ∧ (0 ≤ pk l a 3 ∧ pk l a 3 < 8388608) ∧ (0 ≤ pk l a 4 ∧ pk l a 4 < 2147483648) := by
  have c0 := cb_r h (j := a + (0 : Nat)) (by omega)
  have c1 := cb_r h (j := a + (1 : Nat)) (by omega)
  have c2 := cb_r h (j := a + (2 : Nat)) (by omega)
  have c3 := cb_r h (j := a + (3 : Nat)) (by omega)
  have e1 : pk l a 1 = 0 * 256 + cb l (a + (0 : Nat)) := rfl
  have e2 : pk l a 2 = pk l a 1 * 256 + cb l (a + (1 : Nat)) := rfl
  have e3 : pk l a 3 = pk l a 2 * 256 + cb l (a + (2 : Nat)) := rfl
  have e4 : pk l a 4 = pk l a 3 * 256 + cb l (a + (3 : Nat)) := rfl
  exact ⟨rfl, by omega, by omega, by omega, by omega⟩
theorem pk_b {l : List Int} (h : asc l) {a : Int} (ha : 0 ≤ a) : byt (pk l a 4) 24 = cb l a ∧ byt (pk l a 4) 16 = cb l (a + 1) ∧ byt (pk l a 4) 8 = cb l (a + 1 + 1) ∧ byt (pk l a 4) 0 = cb l (a + 1 + 1 + 1) := by
  have hr := pk_r h ha
  obtain ⟨b1, b2, b3, b4⟩ := byt24 hr.2.2.2.2
  rw [b1, b2, b3, b4]
  have c0 := cb_r h (j := a) ha
  have c1 := cb_r h (j := a + 1) (by omega)
  have c2 := cb_r h (j := a + 1 + 1) (by omega)
  have c3 := cb_r h (j := a + 1 + 1 + 1) (by omega)
  have e : pk l a 4 = ((cb l a * 256 + cb l (a + 1)) * 256 + cb l (a + 1 + 1)) * 256 + cb l (a + 1 + 1 + 1) := by
    show (((0 * 256 + cb l (a + ((0 : Nat) : Int))) * 256 + cb l (a + ((1 : Nat) : Int))) * 256 + cb l (a + ((2 : Nat) : Int))) * 256 + cb l (a + ((3 : Nat) : Int)) = _
    rw [show a + ((0 : Nat) : Int) = a by omega, show a + ((1 : Nat) : Int) = a + 1 by omega, show a + ((2 : Nat) : Int) = a + 1 + 1 by omega, show a + ((3 : Nat) : Int) = a + 1 + 1 + 1 by omega]
    omega
  rw [e]
  omega
theorem pk_s {l : List Int} (h : asc l) {a : Int} (ha : 0 ≤ a) {i : Nat} (hi : i < 4) : zor (zshl (pk l a i) 8) (cb l (a + i)) = pk l a (i + 1) := by
  have hr := pk_r h ha
  have c0 := cb_r h (j := a + i) (by omega)
  have hb : 0 ≤ pk l a i ∧ pk l a i < 8388608 := by
    rcases (show i = 0 ∨ i = 1 ∨ i = 2 ∨ i = 3 by omega) with z | z | z | z <;> subst z <;> omega
  rw [zshl8 hb, zor8 hb (by omega)]
  rfl

