theorem nand_b {a m y n : Nat} (ha : a < 256) (hm : m < 256) : (256 * y + a) &&& (256 * n + m) = 256 * (y &&& n) + (a &&& m) := by
  have h : a &&& m < 2 ^ 8 := Nat.and_lt_two_pow _ hm
  refine Nat.eq_of_testBit_eq (fun i => ?_)
  rw [Nat.testBit_and]
  have e1 := Nat.testBit_two_pow_mul_add y (i := 8) ha i
  have e2 := Nat.testBit_two_pow_mul_add n (i := 8) hm i
  have e3 := Nat.testBit_two_pow_mul_add (y &&& n) h i
  rw [show (2 : Nat) ^ 8 = 256 from rfl] at e1 e2 e3
  rw [e1, e2, e3]
  split
  · rw [Nat.testBit_and]
  · rw [Nat.testBit_and]
def pb1 (a : Nat) : Nat := a - (a / 2 &&& 85)
def pb2 (a : Nat) : Nat := (pb1 a &&& 51) + (pb1 a / 4 &&& 51)
def pb3 (a : Nat) : Nat := (pb2 a + pb2 a / 16) &&& 15
def p8 (a : Nat) : Nat := (a.testBit 0).toNat + (a.testBit 1).toNat + (a.testBit 2).toNat + (a.testBit 3).toNat + (a.testBit 4).toNat + (a.testBit 5).toNat + (a.testBit 6).toNat + (a.testBit 7).toNat
theorem pb3_f : ∀ a : Fin 256, pb3 a.val = p8 a.val ∧ pb1 a.val < 256 ∧ pb2 a.val % 16 ≤ 4 ∧ pb2 a.val ≤ 68 ∧ p8 a.val ≤ 8 := by decide +kernel
theorem bct1 : ∀ a : Fin 256, ∀ t : Fin 2, (a.val / 2 + 128 * t.val) &&& 85 = a.val / 2 &&& 85 := by decide +kernel
theorem bct2 : ∀ a : Fin 256, ∀ t : Fin 4, (a.val / 4 + 64 * t.val) &&& 51 = a.val / 4 &&& 51 := by decide +kernel
theorem bct3 : ∀ a : Fin 69, ∀ t : Fin 5, (a.val + a.val / 16 + 16 * t.val) &&& 15 = (a.val + a.val / 16) &&& 15 := by decide +kernel
theorem bcs1 {a y n : Nat} (ha : a < 256) : (256 * y + a) - ((256 * y + a) / 2 &&& (256 * n + 85)) = 256 * (y - (y / 2 &&& n)) + pb1 a := by
  have e : (256 * y + a) / 2 = 256 * (y / 2) + (a / 2 + 128 * (y % 2)) := by omega
  have h1 := bct1 ⟨a, ha⟩ ⟨y % 2, by omega⟩
  have h2 : y / 2 &&& n ≤ y / 2 := Nat.and_le_left
  have h3 : a / 2 &&& 85 ≤ a / 2 := Nat.and_le_left
  simp only at h1
  rw [e, nand_b (by omega) (by decide), h1]
  unfold pb1
  omega
theorem bcs2 {a y n : Nat} (ha : a < 256) : ((256 * y + a) &&& (256 * n + 51)) + ((256 * y + a) / 4 &&& (256 * n + 51)) = 256 * ((y &&& n) + (y / 4 &&& n)) + ((a &&& 51) + (a / 4 &&& 51)) := by
  have e : (256 * y + a) / 4 = 256 * (y / 4) + (a / 4 + 64 * (y % 4)) := by omega
  have h1 := bct2 ⟨a, ha⟩ ⟨y % 4, by omega⟩
  simp only at h1
  rw [e, nand_b (by omega) (by decide), nand_b (by omega) (by decide), h1]
  omega
theorem bcs3 {a y n : Nat} (ha : a ≤ 68) (hy : y % 16 ≤ 4) : ((256 * y + a) + (256 * y + a) / 16) &&& (256 * n + 15) = 256 * ((y + y / 16) &&& n) + ((a + a / 16) &&& 15) := by
  have e : (256 * y + a) + (256 * y + a) / 16 = 256 * (y + y / 16) + (a + a / 16 + 16 * (y % 16)) := by omega
  have h1 := bct3 ⟨a, by omega⟩ ⟨y % 16, by omega⟩
  simp only at h1
  rw [e, nand_b (by omega) (by decide), h1]
theorem bc_n {x i1 i2 i3 i4 i5 : Nat} (hx : x < 16777216) (h1 : i1 = x - (x / 2 &&& 1431655765)) (h2 : i2 = (i1 &&& 858993459) + (i1 / 4 &&& 858993459)) (h3 : i3 = (i2 + i2 / 16) &&& 252645135) (h4 : i4 = i3 + i3 / 256) (h5 : i5 = i4 + i4 / 65536) : (i1 < 2147483648 ∧ i2 < 1073741824 ∧ i3 < 1073741824 ∧ i4 < 2147483648 ∧ i5 < 2147483648) ∧ i5 &&& 63 = p8 (x % 256) + p8 (x / 256 % 256) + p8 (x / 65536) := by
  obtain ⟨a, ha⟩ : ∃ a, x % 256 = a := ⟨_, rfl⟩
  obtain ⟨b, hb⟩ : ∃ b, x / 256 % 256 = b := ⟨_, rfl⟩
  obtain ⟨c, hc⟩ : ∃ c, x / 65536 = c := ⟨_, rfl⟩
  rw [ha, hb, hc]
  have ex : x = 256 * (256 * (256 * 0 + c) + b) + a := by omega
  have fa := pb3_f ⟨a, by omega⟩
  have fb := pb3_f ⟨b, by omega⟩
  have fc := pb3_f ⟨c, by omega⟩
  simp only at fa fb fc
  have ha2 : a < 256 := by omega
  have hb2 : b < 256 := by omega
  have hc2 : c < 256 := by omega
  rw [ex, show 1431655765 = 256 * (256 * (256 * 85 + 85) + 85) + 85 from rfl, bcs1 ha2, bcs1 hb2, bcs1 hc2, show 0 - (0 / 2 &&& 85) = 0 by decide] at h1
  rw [h1, show 858993459 = 256 * (256 * (256 * 51 + 51) + 51) + 51 from rfl, bcs2 fa.2.1, bcs2 fb.2.1, bcs2 fc.2.1, show (0 &&& 51) + (0 / 4 &&& 51) = 0 by decide] at h2
  have h2' : i2 = 256 * (256 * (256 * 0 + pb2 c) + pb2 b) + pb2 a := h2
  rw [h2', show 252645135 = 256 * (256 * (256 * 15 + 15) + 15) + 15 from rfl, bcs3 fa.2.2.2.1 (by omega), bcs3 fb.2.2.2.1 (by omega), bcs3 fc.2.2.2.1 (by omega), show (0 + 0 / 16) &&& 15 = 0 by decide] at h3
  have h3' : i3 = 256 * (256 * (256 * 0 + pb3 c) + pb3 b) + pb3 a := h3
  rw [fa.1, fb.1, fc.1] at h3'
  refine ⟨by omega, ?_⟩
  have q1 := fa.2.2.2.2
  have q2 := fb.2.2.2.2
  have q3 := fc.2.2.2.2
  clear h1 h2 h2' h3 ex ha hb hc fa fb fc ha2 hb2 hc2 hx
  generalize p8 a = A at *
  generalize p8 b = B at *
  generalize p8 c = C at *
  have h6 : i3 / 256 = 256 * C + B := by omega
  have h7 : i4 / 65536 = C := by omega
  rw [show i5 &&& 63 = i5 % 64 from Nat.and_two_pow_sub_one_eq_mod i5 6]
  omega
theorem ush_f : ∀ k : Fin 31, ((Int32.ofInt (k.val : Int)).toUInt32 &&& Int32.toUInt32 31).toNat % 32 = k.val := by decide +kernel
theorem zushr_nat {x : Int} (h0 : 0 ≤ x) (h1 : x < 2147483648) (k : Nat) (hk : k < 31) : zushr x (k : Int) = ((x.toNat / 2 ^ k : Nat) : Int) := by
  unfold zushr
  rw [z32n h0 h1]
  have h3 : x.toNat / 2 ^ k ≤ x.toNat := Nat.div_le_self _ _
  have hs := ush_f ⟨k, hk⟩
  simp only at hs
  have e : ((nI x.toNat).toUInt32 >>> ((Int32.ofInt (k : Int)).toUInt32 &&& Int32.toUInt32 31)).toInt32 = nI (x.toNat / 2 ^ k) := by
    refine Int32.toBitVec_inj.mp (BitVec.eq_of_toNat_eq ?_)
    show ((nI x.toNat).toUInt32 >>> ((Int32.ofInt (k : Int)).toUInt32 &&& Int32.toUInt32 31)).toNat = _
    rw [UInt32.toNat_shiftRight, hs, nI_bv, BitVec.toNat_ofNat, Nat.shiftRight_eq_div_pow]
    show (BitVec.ofNat 32 x.toNat).toNat / 2 ^ k = _
    rw [BitVec.toNat_ofNat, Nat.mod_eq_of_lt (by omega), Nat.mod_eq_of_lt (by omega)]
  rw [e, nI_tI (by omega)]
theorem cntI_add (p : Int → Bool) {m : Int} (hm : 0 ≤ m) : ∀ n, 0 ≤ n → n ≤ 1000 → cntI p (m + n) = cntI p m + cntI (fun i => p (m + i)) n := by
  refine zup (n := 1000) (fun n => cntI p (m + n) = cntI p m + cntI (fun i => p (m + i)) n) (by rw [Int.add_zero, cntI_0, Int.add_zero]) (fun n n0 n1 ih => ?_)
  rw [cntI_s n0, show m + (n + 1) = (m + n) + 1 by omega, cntI_s (by omega), ih]
  split <;> omega
theorem cnt_8 (p : Int → Bool) : cntI p 8 = (((p 0).toNat + (p 1).toNat + (p 2).toNat + (p 3).toNat + (p 4).toNat + (p 5).toNat + (p 6).toNat + (p 7).toNat : Nat) : Int) := by
  have s : ∀ n : Int, 0 ≤ n → cntI p (n + 1) = cntI p n + ((p n).toNat : Int) := fun n h => by
    rw [cntI_s h]
    cases p n <;> simp
  have h0 : cntI p 1 = cntI p 0 + ((p 0).toNat : Int) := s 0 (by decide)
  have h1 : cntI p 2 = cntI p 1 + ((p 1).toNat : Int) := s 1 (by decide)
  have h2 : cntI p 3 = cntI p 2 + ((p 2).toNat : Int) := s 2 (by decide)
  have h3 : cntI p 4 = cntI p 3 + ((p 3).toNat : Int) := s 3 (by decide)
  have h4 : cntI p 5 = cntI p 4 + ((p 4).toNat : Int) := s 4 (by decide)
  have h5 : cntI p 6 = cntI p 5 + ((p 5).toNat : Int) := s 5 (by decide)
  have h6 : cntI p 7 = cntI p 6 + ((p 6).toNat : Int) := s 6 (by decide)
  have h7 : cntI p 8 = cntI p 7 + ((p 7).toNat : Int) := s 7 (by decide)
  have hz : cntI p 0 = 0 := rfl
  omega
theorem cnt_p8 {p : Int → Bool} {a : Nat} (h : ∀ k : Nat, k < 8 → p (k : Int) = a.testBit k) : cntI p 8 = ((p8 a : Nat) : Int) := by
  rw [cnt_8]
  have h0 := h 0 (by decide)
  have h1 := h 1 (by decide)
  have h2 := h 2 (by decide)
  have h3 := h 3 (by decide)
  have h4 := h 4 (by decide)
  have h5 := h 5 (by decide)
  have h6 := h 6 (by decide)
  have h7 := h 7 (by decide)
  unfold p8
  rw [← h0, ← h1, ← h2, ← h3, ← h4, ← h5, ← h6, ← h7]
  rfl
theorem tb_split (y a : Nat) (ha : a < 256) (k : Nat) : (256 * y + a).testBit k = if k < 8 then a.testBit k else y.testBit (k - 8) := Nat.testBit_two_pow_mul_add y (i := 8) ha k
theorem cnt_24 {x : Nat} (hx : x < 16777216) {p : Int → Bool} (h : ∀ k : Nat, k < 24 → p (k : Int) = x.testBit k) : cntI p 24 = ((p8 (x % 256) + p8 (x / 256 % 256) + p8 (x / 65536) : Nat) : Int) := by
  obtain ⟨a, ha⟩ : ∃ a, x % 256 = a := ⟨_, rfl⟩
  obtain ⟨b, hb⟩ : ∃ b, x / 256 % 256 = b := ⟨_, rfl⟩
  obtain ⟨c, hc⟩ : ∃ c, x / 65536 = c := ⟨_, rfl⟩
  rw [ha, hb, hc]
  have ex : x = 256 * (256 * c + b) + a := by omega
  have ha2 : a < 256 := by omega
  have hb2 : b < 256 := by omega
  have f1 := cntI_add p (m := 8) (by decide) 16 (by decide) (by decide)
  have f2 := cntI_add (fun i => p (8 + i)) (m := 8) (by decide) 8 (by decide) (by decide)
  have g1 : cntI p 8 = ((p8 a : Nat) : Int) := cnt_p8 (fun k hk => by rw [h k (by omega), ex, tb_split _ _ ha2, if_pos hk])
  have g2 : cntI (fun i => p (8 + i)) 8 = ((p8 b : Nat) : Int) := cnt_p8 (fun k hk => by
    show p (8 + (k : Int)) = _
    rw [show (8 : Int) + (k : Int) = ((8 + k : Nat) : Int) by omega, h _ (by omega), ex, tb_split _ _ ha2, if_neg (by omega), show 8 + k - 8 = k by omega, tb_split _ _ hb2, if_pos hk])
  have g3 : cntI (fun i => p (8 + (8 + i))) 8 = ((p8 c : Nat) : Int) := cnt_p8 (fun k hk => by
    show p (8 + (8 + (k : Int))) = _
    rw [show (8 : Int) + (8 + (k : Int)) = ((16 + k : Nat) : Int) by omega, h _ (by omega), ex, tb_split _ _ ha2, if_neg (by omega), show 16 + k - 8 = 8 + k by omega, tb_split _ _ hb2, if_neg (by omega), show 8 + k - 8 = k by omega])
  have f1' : cntI p 24 = cntI p 8 + cntI (fun i => p (8 + i)) 16 := f1
  have f2' : cntI (fun i => p (8 + i)) 16 = cntI (fun i => p (8 + i)) 8 + cntI (fun i => p (8 + (8 + i))) 8 := f2
  omega
theorem bcI {x : Int} (h0 : 0 ≤ x) (h1 : x < 16777216) : (0 ≤ zushr x 1 ∧ zushr x 1 ≤ x) ∧ (0 ≤ zand (zushr x 1) 1431655765 ∧ zand (zushr x 1) 1431655765 ≤ x) ∧ (0 ≤ zushr (x - zand (zushr x 1) 1431655765) 2 ∧ zushr (x - zand (zushr x 1) 1431655765) 2 < 1073741824) ∧ (0 ≤ zand (x - zand (zushr x 1) 1431655765) 858993459 ∧ zand (x - zand (zushr x 1) 1431655765) 858993459 < 1073741824) ∧ (0 ≤ zand (zushr (x - zand (zushr x 1) 1431655765) 2) 858993459 ∧ zand (zushr (x - zand (zushr x 1) 1431655765) 2) 858993459 < 1073741824) ∧ (0 ≤ (zand (x - zand (zushr x 1) 1431655765) 858993459 + zand (zushr (x - zand (zushr x 1) 1431655765) 2) 858993459) ∧ (zand (x - zand (zushr x 1) 1431655765) 858993459 + zand (zushr (x - zand (zushr x 1) 1431655765) 2) 858993459) < 1073741824) ∧ (0 ≤ zushr (zand (x - zand (zushr x 1) 1431655765) 858993459 + zand (zushr (x - zand (zushr x 1) 1431655765) 2) 858993459) 4 ∧ zushr (zand (x - zand (zushr x 1) 1431655765) 858993459 + zand (zushr (x - zand (zushr x 1) 1431655765) 2) 858993459) 4 < 1073741824) ∧ (0 ≤ (zand ((zand (x - zand (zushr x 1) 1431655765) 858993459 + zand (zushr (x - zand (zushr x 1) 1431655765) 2) 858993459) + zushr (zand (x - zand (zushr x 1) 1431655765) 858993459 + zand (zushr (x - zand (zushr x 1) 1431655765) 2) 858993459) 4) 252645135) ∧ (zand ((zand (x - zand (zushr x 1) 1431655765) 858993459 + zand (zushr (x - zand (zushr x 1) 1431655765) 2) 858993459) + zushr (zand (x - zand (zushr x 1) 1431655765) 858993459 + zand (zushr (x - zand (zushr x 1) 1431655765) 2) 858993459) 4) 252645135) < 1073741824) ∧ (0 ≤ zushr (zand ((zand (x - zand (zushr x 1) 1431655765) 858993459 + zand (zushr (x - zand (zushr x 1) 1431655765) 2) 858993459) + zushr (zand (x - zand (zushr x 1) 1431655765) 858993459 + zand (zushr (x - zand (zushr x 1) 1431655765) 2) 858993459) 4) 252645135) 8 ∧ zushr (zand ((zand (x - zand (zushr x 1) 1431655765) 858993459 + zand (zushr (x - zand (zushr x 1) 1431655765) 2) 858993459) + zushr (zand (x - zand (zushr x 1) 1431655765) 858993459 + zand (zushr (x - zand (zushr x 1) 1431655765) 2) 858993459) 4) 252645135) 8 < 1073741824) ∧ (0 ≤ zushr ((zand ((zand (x - zand (zushr x 1) 1431655765) 858993459 + zand (zushr (x - zand (zushr x 1) 1431655765) 2) 858993459) + zushr (zand (x - zand (zushr x 1) 1431655765) 858993459 + zand (zushr (x - zand (zushr x 1) 1431655765) 2) 858993459) 4) 252645135) + zushr (zand ((zand (x - zand (zushr x 1) 1431655765) 858993459 + zand (zushr (x - zand (zushr x 1) 1431655765) 2) 858993459) + zushr (zand (x - zand (zushr x 1) 1431655765) 858993459 + zand (zushr (x - zand (zushr x 1) 1431655765) 2) 858993459) 4) 252645135) 8) 16 ∧ zushr ((zand ((zand (x - zand (zushr x 1) 1431655765) 858993459 + zand (zushr (x - zand (zushr x 1) 1431655765) 2) 858993459) + zushr (zand (x - zand (zushr x 1) 1431655765) 858993459 + zand (zushr (x - zand (zushr x 1) 1431655765) 2) 858993459) 4) 252645135) + zushr (zand ((zand (x - zand (zushr x 1) 1431655765) 858993459 + zand (zushr (x - zand (zushr x 1) 1431655765) 2) 858993459) + zushr (zand (x - zand (zushr x 1) 1431655765) 858993459 + zand (zushr (x - zand (zushr x 1) 1431655765) 2) 858993459) 4) 252645135) 8) 16 < 65536) ∧ (0 ≤ ((zand ((zand (x - zand (zushr x 1) 1431655765) 858993459 + zand (zushr (x - zand (zushr x 1) 1431655765) 2) 858993459) + zushr (zand (x - zand (zushr x 1) 1431655765) 858993459 + zand (zushr (x - zand (zushr x 1) 1431655765) 2) 858993459) 4) 252645135) + zushr (zand ((zand (x - zand (zushr x 1) 1431655765) 858993459 + zand (zushr (x - zand (zushr x 1) 1431655765) 2) 858993459) + zushr (zand (x - zand (zushr x 1) 1431655765) 858993459 + zand (zushr (x - zand (zushr x 1) 1431655765) 2) 858993459) 4) 252645135) 8) ∧ ((zand ((zand (x - zand (zushr x 1) 1431655765) 858993459 + zand (zushr (x - zand (zushr x 1) 1431655765) 2) 858993459) + zushr (zand (x - zand (zushr x 1) 1431655765) 858993459 + zand (zushr (x - zand (zushr x 1) 1431655765) 2) 858993459) 4) 252645135) + zushr (zand ((zand (x - zand (zushr x 1) 1431655765) 858993459 + zand (zushr (x - zand (zushr x 1) 1431655765) 2) 858993459) + zushr (zand (x - zand (zushr x 1) 1431655765) 858993459 + zand (zushr (x - zand (zushr x 1) 1431655765) 2) 858993459) 4) 252645135) 8) < 2147483648) ∧ (0 ≤ (((zand ((zand (x - zand (zushr x 1) 1431655765) 858993459 + zand (zushr (x - zand (zushr x 1) 1431655765) 2) 858993459) + zushr (zand (x - zand (zushr x 1) 1431655765) 858993459 + zand (zushr (x - zand (zushr x 1) 1431655765) 2) 858993459) 4) 252645135) + zushr (zand ((zand (x - zand (zushr x 1) 1431655765) 858993459 + zand (zushr (x - zand (zushr x 1) 1431655765) 2) 858993459) + zushr (zand (x - zand (zushr x 1) 1431655765) 858993459 + zand (zushr (x - zand (zushr x 1) 1431655765) 2) 858993459) 4) 252645135) 8) + zushr ((zand ((zand (x - zand (zushr x 1) 1431655765) 858993459 + zand (zushr (x - zand (zushr x 1) 1431655765) 2) 858993459) + zushr (zand (x - zand (zushr x 1) 1431655765) 858993459 + zand (zushr (x - zand (zushr x 1) 1431655765) 2) 858993459) 4) 252645135) + zushr (zand ((zand (x - zand (zushr x 1) 1431655765) 858993459 + zand (zushr (x - zand (zushr x 1) 1431655765) 2) 858993459) + zushr (zand (x - zand (zushr x 1) 1431655765) 858993459 + zand (zushr (x - zand (zushr x 1) 1431655765) 2) 858993459) 4) 252645135) 8) 16) ∧ (((zand ((zand (x - zand (zushr x 1) 1431655765) 858993459 + zand (zushr (x - zand (zushr x 1) 1431655765) 2) 858993459) + zushr (zand (x - zand (zushr x 1) 1431655765) 858993459 + zand (zushr (x - zand (zushr x 1) 1431655765) 2) 858993459) 4) 252645135) + zushr (zand ((zand (x - zand (zushr x 1) 1431655765) 858993459 + zand (zushr (x - zand (zushr x 1) 1431655765) 2) 858993459) + zushr (zand (x - zand (zushr x 1) 1431655765) 858993459 + zand (zushr (x - zand (zushr x 1) 1431655765) 2) 858993459) 4) 252645135) 8) + zushr ((zand ((zand (x - zand (zushr x 1) 1431655765) 858993459 + zand (zushr (x - zand (zushr x 1) 1431655765) 2) 858993459) + zushr (zand (x - zand (zushr x 1) 1431655765) 858993459 + zand (zushr (x - zand (zushr x 1) 1431655765) 2) 858993459) 4) 252645135) + zushr (zand ((zand (x - zand (zushr x 1) 1431655765) 858993459 + zand (zushr (x - zand (zushr x 1) 1431655765) 2) 858993459) + zushr (zand (x - zand (zushr x 1) 1431655765) 858993459 + zand (zushr (x - zand (zushr x 1) 1431655765) 2) 858993459) 4) 252645135) 8) 16) < 2147483648) ∧ zand (((zand ((zand (x - zand (zushr x 1) 1431655765) 858993459 + zand (zushr (x - zand (zushr x 1) 1431655765) 2) 858993459) + zushr (zand (x - zand (zushr x 1) 1431655765) 858993459 + zand (zushr (x - zand (zushr x 1) 1431655765) 2) 858993459) 4) 252645135) + zushr (zand ((zand (x - zand (zushr x 1) 1431655765) 858993459 + zand (zushr (x - zand (zushr x 1) 1431655765) 2) 858993459) + zushr (zand (x - zand (zushr x 1) 1431655765) 858993459 + zand (zushr (x - zand (zushr x 1) 1431655765) 2) 858993459) 4) 252645135) 8) + zushr ((zand ((zand (x - zand (zushr x 1) 1431655765) 858993459 + zand (zushr (x - zand (zushr x 1) 1431655765) 2) 858993459) + zushr (zand (x - zand (zushr x 1) 1431655765) 858993459 + zand (zushr (x - zand (zushr x 1) 1431655765) 2) 858993459) 4) 252645135) + zushr (zand ((zand (x - zand (zushr x 1) 1431655765) 858993459 + zand (zushr (x - zand (zushr x 1) 1431655765) 2) 858993459) + zushr (zand (x - zand (zushr x 1) 1431655765) 858993459 + zand (zushr (x - zand (zushr x 1) 1431655765) 2) 858993459) 4) 252645135) 8) 16) 63 = cntI (fun k => hasB x k) 24 := by
  obtain ⟨n, hn⟩ : ∃ n, x.toNat = n := ⟨_, rfl⟩
  obtain ⟨i1, hi1⟩ : ∃ i1, i1 = n - (n / 2 &&& 1431655765) := ⟨_, rfl⟩
  obtain ⟨i2, hi2⟩ : ∃ i2, i2 = (i1 &&& 858993459) + (i1 / 4 &&& 858993459) := ⟨_, rfl⟩
  obtain ⟨i3, hi3⟩ : ∃ i3, i3 = (i2 + i2 / 16) &&& 252645135 := ⟨_, rfl⟩
  obtain ⟨i4, hi4⟩ : ∃ i4, i4 = i3 + i3 / 256 := ⟨_, rfl⟩
  obtain ⟨i5, hi5⟩ : ∃ i5, i5 = i4 + i4 / 65536 := ⟨_, rfl⟩
  obtain ⟨⟨r1, r2, r3, r4, r5⟩, hr⟩ := bc_n (x := n) (by omega) hi1 hi2 hi3 hi4 hi5
  have a1 : zushr x 1 = ((n / 2 : Nat) : Int) := by have h := zushr_nat h0 (by omega) 1 (by decide); rw [hn] at h; exact h
  have l2 : n / 2 &&& 1431655765 ≤ n / 2 := Nat.and_le_left
  have a2 : zand (zushr x 1) 1431655765 = ((n / 2 &&& 1431655765 : Nat) : Int) := by rw [a1, zand_nat (by omega) (by omega) (by decide) (by decide)]; rfl
  have a3 : (x - zand (zushr x 1) 1431655765) = (i1 : Int) := by rw [a2]; omega
  have a4 : zushr (x - zand (zushr x 1) 1431655765) 2 = ((i1 / 4 : Nat) : Int) := by rw [a3]; exact zushr_nat (x := (i1 : Int)) (by omega) (by omega) 2 (by decide)
  have l5 : i1 &&& 858993459 ≤ i1 := Nat.and_le_left
  have l5b : i1 &&& 858993459 ≤ 858993459 := Nat.and_le_right
  have l6 : i1 / 4 &&& 858993459 ≤ i1 / 4 := Nat.and_le_left
  have a5 : zand (x - zand (zushr x 1) 1431655765) 858993459 = ((i1 &&& 858993459 : Nat) : Int) := by rw [a3, zand_nat (by omega) (by omega) (by decide) (by decide)]; rfl
  have a6 : zand (zushr (x - zand (zushr x 1) 1431655765) 2) 858993459 = ((i1 / 4 &&& 858993459 : Nat) : Int) := by rw [a4, zand_nat (by omega) (by omega) (by decide) (by decide)]; rfl
  have a7 : (zand (x - zand (zushr x 1) 1431655765) 858993459 + zand (zushr (x - zand (zushr x 1) 1431655765) 2) 858993459) = (i2 : Int) := by rw [a5, a6]; omega
  have a8 : zushr (zand (x - zand (zushr x 1) 1431655765) 858993459 + zand (zushr (x - zand (zushr x 1) 1431655765) 2) 858993459) 4 = ((i2 / 16 : Nat) : Int) := by rw [a7]; exact zushr_nat (x := (i2 : Int)) (by omega) (by omega) 4 (by decide)
  have a9 : (zand ((zand (x - zand (zushr x 1) 1431655765) 858993459 + zand (zushr (x - zand (zushr x 1) 1431655765) 2) 858993459) + zushr (zand (x - zand (zushr x 1) 1431655765) 858993459 + zand (zushr (x - zand (zushr x 1) 1431655765) 2) 858993459) 4) 252645135) = (i3 : Int) := by
    rw [a8, a7, zand_nat (by omega) (by omega) (by decide) (by decide), show ((i2 : Int) + ((i2 / 16 : Nat) : Int)).toNat = i2 + i2 / 16 by omega, hi3]
    rfl
  have b1 : zushr (zand ((zand (x - zand (zushr x 1) 1431655765) 858993459 + zand (zushr (x - zand (zushr x 1) 1431655765) 2) 858993459) + zushr (zand (x - zand (zushr x 1) 1431655765) 858993459 + zand (zushr (x - zand (zushr x 1) 1431655765) 2) 858993459) 4) 252645135) 8 = ((i3 / 256 : Nat) : Int) := by rw [a9]; exact zushr_nat (x := (i3 : Int)) (by omega) (by omega) 8 (by decide)
  have b2 : ((zand ((zand (x - zand (zushr x 1) 1431655765) 858993459 + zand (zushr (x - zand (zushr x 1) 1431655765) 2) 858993459) + zushr (zand (x - zand (zushr x 1) 1431655765) 858993459 + zand (zushr (x - zand (zushr x 1) 1431655765) 2) 858993459) 4) 252645135) + zushr (zand ((zand (x - zand (zushr x 1) 1431655765) 858993459 + zand (zushr (x - zand (zushr x 1) 1431655765) 2) 858993459) + zushr (zand (x - zand (zushr x 1) 1431655765) 858993459 + zand (zushr (x - zand (zushr x 1) 1431655765) 2) 858993459) 4) 252645135) 8) = (i4 : Int) := by rw [b1, a9]; omega
  have b3 : zushr ((zand ((zand (x - zand (zushr x 1) 1431655765) 858993459 + zand (zushr (x - zand (zushr x 1) 1431655765) 2) 858993459) + zushr (zand (x - zand (zushr x 1) 1431655765) 858993459 + zand (zushr (x - zand (zushr x 1) 1431655765) 2) 858993459) 4) 252645135) + zushr (zand ((zand (x - zand (zushr x 1) 1431655765) 858993459 + zand (zushr (x - zand (zushr x 1) 1431655765) 2) 858993459) + zushr (zand (x - zand (zushr x 1) 1431655765) 858993459 + zand (zushr (x - zand (zushr x 1) 1431655765) 2) 858993459) 4) 252645135) 8) 16 = ((i4 / 65536 : Nat) : Int) := by rw [b2]; exact zushr_nat (x := (i4 : Int)) (by omega) (by omega) 16 (by decide)
  have b4 : (((zand ((zand (x - zand (zushr x 1) 1431655765) 858993459 + zand (zushr (x - zand (zushr x 1) 1431655765) 2) 858993459) + zushr (zand (x - zand (zushr x 1) 1431655765) 858993459 + zand (zushr (x - zand (zushr x 1) 1431655765) 2) 858993459) 4) 252645135) + zushr (zand ((zand (x - zand (zushr x 1) 1431655765) 858993459 + zand (zushr (x - zand (zushr x 1) 1431655765) 2) 858993459) + zushr (zand (x - zand (zushr x 1) 1431655765) 858993459 + zand (zushr (x - zand (zushr x 1) 1431655765) 2) 858993459) 4) 252645135) 8) + zushr ((zand ((zand (x - zand (zushr x 1) 1431655765) 858993459 + zand (zushr (x - zand (zushr x 1) 1431655765) 2) 858993459) + zushr (zand (x - zand (zushr x 1) 1431655765) 858993459 + zand (zushr (x - zand (zushr x 1) 1431655765) 2) 858993459) 4) 252645135) + zushr (zand ((zand (x - zand (zushr x 1) 1431655765) 858993459 + zand (zushr (x - zand (zushr x 1) 1431655765) 2) 858993459) + zushr (zand (x - zand (zushr x 1) 1431655765) 858993459 + zand (zushr (x - zand (zushr x 1) 1431655765) 2) 858993459) 4) 252645135) 8) 16) = (i5 : Int) := by rw [b3, b2]; omega
  have b5 : zand (((zand ((zand (x - zand (zushr x 1) 1431655765) 858993459 + zand (zushr (x - zand (zushr x 1) 1431655765) 2) 858993459) + zushr (zand (x - zand (zushr x 1) 1431655765) 858993459 + zand (zushr (x - zand (zushr x 1) 1431655765) 2) 858993459) 4) 252645135) + zushr (zand ((zand (x - zand (zushr x 1) 1431655765) 858993459 + zand (zushr (x - zand (zushr x 1) 1431655765) 2) 858993459) + zushr (zand (x - zand (zushr x 1) 1431655765) 858993459 + zand (zushr (x - zand (zushr x 1) 1431655765) 2) 858993459) 4) 252645135) 8) + zushr ((zand ((zand (x - zand (zushr x 1) 1431655765) 858993459 + zand (zushr (x - zand (zushr x 1) 1431655765) 2) 858993459) + zushr (zand (x - zand (zushr x 1) 1431655765) 858993459 + zand (zushr (x - zand (zushr x 1) 1431655765) 2) 858993459) 4) 252645135) + zushr (zand ((zand (x - zand (zushr x 1) 1431655765) 858993459 + zand (zushr (x - zand (zushr x 1) 1431655765) 2) 858993459) + zushr (zand (x - zand (zushr x 1) 1431655765) 858993459 + zand (zushr (x - zand (zushr x 1) 1431655765) 2) 858993459) 4) 252645135) 8) 16) 63 = cntI (fun k => hasB x k) 24 := by
    rw [b4, zand_nat (by omega) (by omega) (by decide) (by decide), show ((i5 : Int).toNat &&& (63 : Int).toNat) = i5 &&& 63 from rfl, hr]
    refine (cnt_24 (by omega) (fun k hk => ?_)).symm
    show hasB x (k : Int) = _
    rw [hasB_t h0 (by omega) (by omega) (by omega), hn]
    rfl
  refine ⟨by rw [a1]; omega, by rw [a2]; omega, by rw [a4]; omega, by rw [a5]; omega, by rw [a6]; omega, by rw [a7]; omega, by rw [a8]; omega, by rw [a9]; omega, by rw [b1]; omega, by rw [b3]; omega, by rw [b2]; omega, by rw [b4]; omega, b5⟩
def T_J6_bitCount_0f7a4 : ZTf := fun av M K KX => ∃ (x : Int), av = [zi x] ∧ (0 ≤ x ∧ x < 16777216) ∧  K (some (zi (cntI (fun k => hasB x k) 24))) M
set_option maxRecDepth 100000 in
set_option maxHeartbeats 1500000 in
theorem bd_J6_bitCount_0f7a4 : zBd (cd_J6_bitCount_0f7a4) 1 0 0 T_J6_bitCount_0f7a4 := by
  rintro av M K KX hA0 hM ⟨x, rfl, h0, hK⟩
  obtain ⟨q1, q2, q3, q4, q5, q6, q7, q8, q9, q10, q11, q12, q13⟩ := bcI h0.1 h0.2
  rw [← q13] at hK
  refine ⟨rfl, fun Φ hΦ => ?_⟩
  refine zGoR hΦ [] 400 (fun hL9 _ hM _ _ => ?_)
  obtain ⟨qL1, _⟩ : zrg x ∧ True := hL9
  refine ⟨(zrgI (x := x - (zand (zushr x 1) 1431655765)) (by omega)), ⟨(zrgI (x := zand (x - (zand (zushr x 1) 1431655765)) 858993459 + (zand (zushr (x - (zand (zushr x 1) 1431655765)) 2) 858993459)) (by omega)), ⟨(zrgI (x := zand (x - (zand (zushr x 1) 1431655765)) 858993459 + (zand (zushr (x - (zand (zushr x 1) 1431655765)) 2) 858993459) + (zushr (zand (x - (zand (zushr x 1) 1431655765)) 858993459 + (zand (zushr (x - (zand (zushr x 1) 1431655765)) 2) 858993459)) 4)) (by omega)), ⟨(zrgI (x := zand (zand (x - (zand (zushr x 1) 1431655765)) 858993459 + (zand (zushr (x - (zand (zushr x 1) 1431655765)) 2) 858993459) + (zushr (zand (x - (zand (zushr x 1) 1431655765)) 858993459 + (zand (zushr (x - (zand (zushr x 1) 1431655765)) 2) 858993459)) 4)) 252645135 + (zushr (zand (zand (x - (zand (zushr x 1) 1431655765)) 858993459 + (zand (zushr (x - (zand (zushr x 1) 1431655765)) 2) 858993459) + (zushr (zand (x - (zand (zushr x 1) 1431655765)) 858993459 + (zand (zushr (x - (zand (zushr x 1) 1431655765)) 2) 858993459)) 4)) 252645135) 8)) (by omega)), ⟨(zrgI (x := zand (zand (x - (zand (zushr x 1) 1431655765)) 858993459 + (zand (zushr (x - (zand (zushr x 1) 1431655765)) 2) 858993459) + (zushr (zand (x - (zand (zushr x 1) 1431655765)) 858993459 + (zand (zushr (x - (zand (zushr x 1) 1431655765)) 2) 858993459)) 4)) 252645135 + (zushr (zand (zand (x - (zand (zushr x 1) 1431655765)) 858993459 + (zand (zushr (x - (zand (zushr x 1) 1431655765)) 2) 858993459) + (zushr (zand (x - (zand (zushr x 1) 1431655765)) 858993459 + (zand (zushr (x - (zand (zushr x 1) 1431655765)) 2) 858993459)) 4)) 252645135) 8) + (zushr (zand (zand (x - (zand (zushr x 1) 1431655765)) 858993459 + (zand (zushr (x - (zand (zushr x 1) 1431655765)) 2) 858993459) + (zushr (zand (x - (zand (zushr x 1) 1431655765)) 858993459 + (zand (zushr (x - (zand (zushr x 1) 1431655765)) 2) 858993459)) 4)) 252645135 + (zushr (zand (zand (x - (zand (zushr x 1) 1431655765)) 858993459 + (zand (zushr (x - (zand (zushr x 1) 1431655765)) 2) 858993459) + (zushr (zand (x - (zand (zushr x 1) 1431655765)) 858993459 + (zand (zushr (x - (zand (zushr x 1) 1431655765)) 2) 858993459)) 4)) 252645135) 8)) 16)) (by omega)), ⟨trivial, (show K (some (zi (zand (zand (zand (x - (zand (zushr x 1) 1431655765)) 858993459 + (zand (zushr (x - (zand (zushr x 1) 1431655765)) 2) 858993459) + (zushr (zand (x - (zand (zushr x 1) 1431655765)) 858993459 + (zand (zushr (x - (zand (zushr x 1) 1431655765)) 2) 858993459)) 4)) 252645135 + (zushr (zand (zand (x - (zand (zushr x 1) 1431655765)) 858993459 + (zand (zushr (x - (zand (zushr x 1) 1431655765)) 2) 858993459) + (zushr (zand (x - (zand (zushr x 1) 1431655765)) 858993459 + (zand (zushr (x - (zand (zushr x 1) 1431655765)) 2) 858993459)) 4)) 252645135) 8) + (zushr (zand (zand (x - (zand (zushr x 1) 1431655765)) 858993459 + (zand (zushr (x - (zand (zushr x 1) 1431655765)) 2) 858993459) + (zushr (zand (x - (zand (zushr x 1) 1431655765)) 858993459 + (zand (zushr (x - (zand (zushr x 1) 1431655765)) 2) 858993459)) 4)) 252645135 + (zushr (zand (zand (x - (zand (zushr x 1) 1431655765)) 858993459 + (zand (zushr (x - (zand (zushr x 1) 1431655765)) 2) 858993459) + (zushr (zand (x - (zand (zushr x 1) 1431655765)) 858993459 + (zand (zushr (x - (zand (zushr x 1) 1431655765)) 2) 858993459)) 4)) 252645135) 8)) 16)) 63))) M from ?g444l1)⟩⟩⟩⟩⟩⟩
  case g444l1 =>
    exact hK
theorem M_J6_bitCount_0f7a4 {l : Launch} (hl : l.stackTraces = false) : zMet l yJ6_bitCount_0f7a4 (Cond.code yJ6_bitCount_0f7a4 cJ6_bitCount_0f7a4 1 (Option.some Jvm.ClassFile.FieldType.int) :: zG) rm_J6_bitCount_0f7a4 0 0 T_J6_bitCount_0f7a4 := met_J6_bitCount_0f7a4 hl bd_J6_bitCount_0f7a4
