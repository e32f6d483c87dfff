/-! the reference: its buffers, names -/
def sgn (b : Int) : Int := if b < 128 then b else b - 256
def byt (v s : Int) : Int := zand (zushr v s) 255
theorem byt_q1 : ∀ q : Fin 25, ((Int32.ofInt (q.val : Int) &&& 31).toBitVec.smod 32).toNat = q.val := by decide +kernel
theorem byt_q2 : ∀ q : Fin 25, (((Int32.ofInt (q.val : Int)).toUInt32 &&& Int32.toUInt32 31).toBitVec % 32).toNat = q.val := by decide +kernel
theorem byt_b3 (b : BitVec 32) (s : Nat) (hs : s ≤ 24) : (b.sshiftRight s).signExtend 8 = (b >>> s).setWidth 8 := by
  rw [BitVec.signExtend_eq_setWidth_of_le _ (by decide)]
  refine BitVec.eq_of_getLsbD_eq (fun i hi => ?_)
  rw [BitVec.getLsbD_setWidth, BitVec.getLsbD_setWidth, BitVec.getLsbD_sshiftRight, BitVec.getLsbD_ushiftRight, if_pos (by omega), decide_eq_false (by omega : ¬ 32 ≤ i)]
  rfl
theorem byt_bv (v : Int) (s : Nat) (hs : s ≤ 24) : zi2b (zshr v (s : Int)) = sgn (byt v (s : Int)) ∧ 0 ≤ byt v (s : Int) ∧ byt v (s : Int) < 256 := by
  have q1 := byt_q1 ⟨s, by omega⟩
  have q2 := byt_q2 ⟨s, by omega⟩
  simp only at q1 q2
  have a1 : zi2b (zshr v (s : Int)) = (((Int32.ofInt v).toBitVec >>> s).setWidth 8).toInt := by
    unfold zi2b zshr
    rw [Int32.ofInt_toInt, ← Int8.toInt_toBitVec, Int32.toBitVec_toInt8, Int32.toBitVec_shiftRight]
    unfold BitVec.sshiftRight'
    rw [q1, byt_b3 _ _ hs]
  have a2 : byt v (s : Int) = (((Int32.ofInt v).toBitVec >>> s) &&& 255#32).toInt := by
    unfold byt zand zushr
    rw [Int32.ofInt_toInt, ← Int32.toInt_toBitVec, Int32.toBitVec_and, UInt32.toBitVec_toInt32, UInt32.toBitVec_shiftRight, Int32.toBitVec_toUInt32, BitVec.ushiftRight_eq', q2]
    rfl
  rw [a1, a2]
  generalize (Int32.ofInt v).toBitVec >>> s = c
  have e1 : (c.setWidth 8).toNat = c.toNat % 256 := BitVec.toNat_setWidth 8 c
  have e2 : (c &&& 255#32).toNat = c.toNat % 256 := by
    rw [BitVec.toNat_and]
    exact Nat.and_two_pow_sub_one_eq_mod c.toNat 8
  rw [BitVec.toInt_eq_toNat_cond, BitVec.toInt_eq_toNat_cond, e1, e2]
  have h9 := Nat.mod_lt c.toNat (show 0 < 256 by decide)
  generalize c.toNat % 256 = m at h9
  unfold sgn
  rw [if_pos (show 2 * m < 2 ^ 32 by omega)]
  split
  · split <;> omega
  · split <;> omega
theorem zi2b_r (x : Int) : zPb (zi2b x) := ⟨Int.le_trans (by decide) (Int8.le_toInt (Int32.ofInt x).toInt8), Int.lt_of_lt_of_le (Int8.toInt_lt (Int32.ofInt x).toInt8) (by decide)⟩
/-- the input buffer of the reference -/
def RIn (M : ZM) (B : Gm) (n : Int) : Prop := zI M 670 6 = n ∧ (0 ≤ n ∧ n ≤ 500) ∧ ∀ k : Nat, (k : Int) < n → zI M 674 k = sgn (B k) ∧ 0 ≤ B k ∧ B k < 256
def put1 (B : Gm) (n b : Int) : Gm := gU B n b
def app4 (B : Gm) (n v : Int) : Gm := put1 (put1 (put1 (put1 B n (byt v 24)) (n + 1) (byt v 16)) (n + 1 + 1) (byt v 8)) (n + 1 + 1 + 1) (byt v 0)
theorem RIn.put {M : ZM} {B : Gm} {n b v : Int} (h : RIn M B n) (hn : n < 500) (hb : v = sgn b ∧ 0 ≤ b ∧ b < 256) : RIn (zsI (zsA M 674 (gU (zI M 674) n v)) 670 6 (n + 1)) (put1 B n b) (n + 1) := by
  obtain ⟨h1, h2, h3⟩ := h
  refine ⟨zI_Is _ _ _ _, by omega, fun k hk => ?_⟩
  rw [zI_In _ _ _ (by decide), zI_A]
  unfold put1
  by_cases e : k = n.toNat
  · subst e
    rw [gU_s, gU_s]
    exact hb
  · rw [gU_n _ e, gU_n _ e]
    exact h3 k (by omega)

def T_X9_appendFour : ZTf := fun av M K KX => ∃ (B : Gm) (n v : Int), av = [zo 670, zi v] ∧ (LY M) ∧ (RIn M B n) ∧ (n + 4 ≤ 500) ∧  (∀ M' : ZM, (Fr (fun j => j = 670 ∨ j = 674) M M') → (∀ f, f ≠ 6 → zI M' 670 f = zI M 670 f) → (RIn M' (app4 B n v) (n + 4)) → K none M')
set_option maxRecDepth 100000 in
set_option maxHeartbeats 4000000 in
theorem bd_X9_appendFour : zBd (cd_X9_appendFour) 3 0 0 T_X9_appendFour := by
  rintro av M K KX hA0 hM ⟨B, n, v, rfl, hY, hI, hp2, hK⟩
  have hn0 := hI.2.1
  have hn1 := hI.1
  refine ⟨rfl, fun Φ hΦ => ?_⟩
  refine zGoR hΦ [] 400 (fun hL9 _ hM _ _ => ?_)
  obtain ⟨qL1, _⟩ : zrg v ∧ True := hL9
  refine ⟨fun (h : (24 : Int) < 0) => absurd h (by decide), fun _ => ⟨hY.w, _, hY.r5, ⟨hY.w, zIr hI.1 (⟨⟨zixW hY.a5 hY.l5 (i := n) (by omega) (by decide), (zi2b_r _)⟩, zMr (zsI_g0 _ _ n _) (⟨rfl, ⟨hY.w, zIr hI.1 (⟨(zrgI (x := n + 1) (by omega)), ⟨⟨hY.w, trivial⟩, ⟨(by decide), ⟨fun (h : (16 : Int) < 0) => absurd h (by decide), fun _ => ⟨hY.w, _, hY.r5, ⟨hY.w, ⟨⟨zixW hY.a5 hY.l5 (i := n + 1) (by omega) (by decide), (zi2b_r _)⟩, zMr (zsI_g0 _ _ (n + 1) _) (⟨rfl, ⟨hY.w, ⟨(zrgI (x := n + 1 + 1) (by omega)), ⟨⟨hY.w, trivial⟩, ⟨(by decide), ⟨fun (h : (8 : Int) < 0) => absurd h (by decide), fun _ => ⟨hY.w, _, hY.r5, ⟨hY.w, ⟨⟨zixW hY.a5 hY.l5 (i := n + 1 + 1) (by omega) (by decide), (zi2b_r _)⟩, zMr (zsI_g0 _ _ (n + 1 + 1) _) (⟨rfl, ⟨hY.w, ⟨(zrgI (x := n + 1 + 1 + 1) (by omega)), ⟨⟨hY.w, trivial⟩, ⟨(by decide), ⟨fun (h : (0 : Int) < 0) => absurd h (by decide), fun _ => ⟨hY.w, _, hY.r5, ⟨hY.w, ⟨⟨zixW hY.a5 hY.l5 (i := n + 1 + 1 + 1) (by omega) (by decide), (zi2b_r _)⟩, zMr (zsI_g0 _ _ (n + 1 + 1 + 1) _) (⟨rfl, ⟨hY.w, ⟨(zrgI (x := n + 1 + 1 + 1 + 1) (by omega)), ⟨⟨hY.w, trivial⟩, ⟨(by decide), ⟨fun _ => (show K none (zsI (zsA (zsI (zsA (zsI (zsA (zsI (zsA M 674 (gU (zI M 674) n (zi2b (zshr v 24)))) 670 6 (n + 1)) 674 (gU (zI (zsI (zsA M 674 (gU (zI M 674) n (zi2b (zshr v 24)))) 670 6 (n + 1)) 674) (n + 1) (zi2b (zshr v 16)))) 670 6 (n + 1 + 1)) 674 (gU (zI (zsI (zsA (zsI (zsA M 674 (gU (zI M 674) n (zi2b (zshr v 24)))) 670 6 (n + 1)) 674 (gU (zI (zsI (zsA M 674 (gU (zI M 674) n (zi2b (zshr v 24)))) 670 6 (n + 1)) 674) (n + 1) (zi2b (zshr v 16)))) 670 6 (n + 1 + 1)) 674) (n + 1 + 1) (zi2b (zshr v 8)))) 670 6 (n + 1 + 1 + 1)) 674 (gU (zI (zsI (zsA (zsI (zsA (zsI (zsA M 674 (gU (zI M 674) n (zi2b (zshr v 24)))) 670 6 (n + 1)) 674 (gU (zI (zsI (zsA M 674 (gU (zI M 674) n (zi2b (zshr v 24)))) 670 6 (n + 1)) 674) (n + 1) (zi2b (zshr v 16)))) 670 6 (n + 1 + 1)) 674 (gU (zI (zsI (zsA (zsI (zsA M 674 (gU (zI M 674) n (zi2b (zshr v 24)))) 670 6 (n + 1)) 674 (gU (zI (zsI (zsA M 674 (gU (zI M 674) n (zi2b (zshr v 24)))) 670 6 (n + 1)) 674) (n + 1) (zi2b (zshr v 16)))) 670 6 (n + 1 + 1)) 674) (n + 1 + 1) (zi2b (zshr v 8)))) 670 6 (n + 1 + 1 + 1)) 674) (n + 1 + 1 + 1) (zi2b (zshr v 0)))) 670 6 (n + 1 + 1 + 1 + 1)) from ?g218l1), fun (h : (-8 : Int) ≥ 0) => absurd h (by decide)⟩⟩⟩⟩⟩⟩)⟩⟩⟩⟩⟩⟩⟩⟩⟩)⟩⟩⟩⟩⟩⟩⟩⟩⟩)⟩⟩⟩⟩⟩⟩⟩)⟩⟩)⟩)⟩⟩⟩
  case g218l1 =>
    refine hK _ ((((((((Fr_Ab (S := fun j => j = 670 ∨ j = 674) hY.a5 (by decide) (Or.inr rfl)).tr (Fr_I (S := fun j => j = 670 ∨ j = 674) hY.w (by decide) (by decide) (Or.inl rfl))).tr (Fr_Ab (S := fun j => j = 670 ∨ j = 674) hY.a5 (by decide) (Or.inr rfl))).tr (Fr_I (S := fun j => j = 670 ∨ j = 674) hY.w (by decide) (by decide) (Or.inl rfl))).tr (Fr_Ab (S := fun j => j = 670 ∨ j = 674) hY.a5 (by decide) (Or.inr rfl))).tr (Fr_I (S := fun j => j = 670 ∨ j = 674) hY.w (by decide) (by decide) (Or.inl rfl))).tr (Fr_Ab (S := fun j => j = 670 ∨ j = 674) hY.a5 (by decide) (Or.inr rfl))).tr (Fr_I (S := fun j => j = 670 ∨ j = 674) hY.w (by decide) (by decide) (Or.inl rfl))) (fun f hf => ?_) ?_
    · rw [zI_Im _ _ _ hf, zI_An _ _ (by decide), zI_Im _ _ _ hf, zI_An _ _ (by decide), zI_Im _ _ _ hf, zI_An _ _ (by decide), zI_Im _ _ _ hf, zI_An _ _ (by decide)]
    · have h9 := (((hI.put (by omega) (byt_bv v 24 (by decide))).put (by omega) (byt_bv v 16 (by decide))).put (by omega) (byt_bv v 8 (by decide))).put (by omega) (byt_bv v 0 (by decide))
      have e4 : n + 1 + 1 + 1 + 1 = n + 4 := by omega
      rw [e4] at h9 ⊢
      exact h9
theorem M_X9_appendFour {l : Launch} (hl : l.stackTraces = false) : zMet l yX9_appendFour (Cond.code yX9_appendFour cX9_appendFour 3 (Option.none : Option Jvm.ClassFile.FieldType) :: zG) rm_X9_appendFour 0 0 T_X9_appendFour := met_X9_appendFour hl bd_X9_appendFour

def app20 (B : Gm) (n a b c d e : Int) : Gm := (app4 (app4 (app4 (app4 (app4 B n a) (n + 4) b) ((n + 4) + 4) c) (((n + 4) + 4) + 4) d) ((((n + 4) + 4) + 4) + 4) e)
def T_X9_append : ZTf := fun av M K KX => ∃ (B : Gm) (n a b c d e : Int), av = [zo 670, zi a, zi b, zi c, zi d, zi e] ∧ (LY M) ∧ (RIn M B n) ∧ ((n + 20 ≤ 500 → ∀ M' : ZM, Fr (fun j => j = 670 ∨ j = 674) M M' → (∀ f, f ≠ 0 → f ≠ 6 → zI M' 670 f = zI M 670 f) → zI M' 670 0 = 0 → RIn M' (app20 B n a b c d e) (n + 20) → K (some (zi (n + 20))) M') ∧ (500 < n + 20 → K (some (zi 0)) (zsI M 670 0 1)))
set_option maxRecDepth 100000 in
set_option maxHeartbeats 4000000 in
theorem bd_X9_append : zBd (cd_X9_append T_X9_passes T_X9_appendFour) 6 0 0 T_X9_append := by
  rintro av M K KX hA0 hM ⟨B, n, a, b, c, d, e, rfl, hY, hI, hK, hE⟩
  have hn0 := hI.2.1
  have f0 : Fr (fun j => j = 670 ∨ j = 674) M (zsI M 670 0 0) := Fr_I hY.w (by decide) (by decide) (Or.inl rfl)
  have hIa : RIn (zsI M 670 0 0) B n := ⟨(zI_Im _ _ _ (by decide)).trans hI.1, hI.2.1, fun k hk => by rw [zI_In _ _ _ (by decide)]; exact hI.2.2 k hk⟩
  refine ⟨rfl, fun Φ hΦ => ?_⟩
  refine zGoR hΦ [] 400 (fun hL9 _ hM _ _ => ?_)
  obtain ⟨qL1, qL2, qL3, qL4, qL5, _⟩ : zrg a ∧ zrg b ∧ zrg c ∧ zrg d ∧ zrg e ∧ True := hL9
  refine ⟨hY.w, zIr hI.1 (⟨(zrgI (x := n + 20) (by omega)), ⟨fun (qc1 : n + 20 > 500) => ⟨⟨⟨rfl, rfl⟩, hY.w.rcv⟩, ⟨rfl, ⟨⟨⟨rfl, rfl⟩, hY.w.rcv⟩, ⟨rfl, ⟨fun (h : (0 : Int) ≠ 0) => absurd h (by decide), fun _ => ⟨⟨hY.w, trivial⟩, ⟨hY.w, ⟨fun _ => ⟨(Or.inl rfl), fun _ _ => ⟨(Or.inl rfl), fun _ _ => ⟨fun (h : (0 : Int) ≠ 0) => absurd h (by decide), fun _ => ⟨trivial, (show K (some (zi 0)) (zsI M 670 0 1) from ?g219l1)⟩⟩⟩⟩, fun (h : (1 : Int) = 0) => absurd h (by decide)⟩⟩⟩⟩⟩⟩⟩⟩, fun (qc4 : n + 20 ≤ 500) => ⟨⟨⟨rfl, rfl⟩, hY.w.rcv⟩, ⟨rfl, ⟨⟨⟨rfl, rfl⟩, hY.w.rcv⟩, ⟨rfl, ⟨fun _ => ⟨fun _ => ⟨fun _ => ⟨⟨hY.w, trivial⟩, ⟨hY.w, ⟨fun (h : (0 : Int) ≠ 0) => absurd h (by decide), fun _ => ⟨(Or.inr rfl), fun _ _ => ⟨(Or.inr rfl), fun _ _ => ⟨fun _ => ⟨⟨⟨rfl, rfl⟩, hY.w.rcv⟩, ⟨B, n, a, rfl, hY, hIa, (by omega), fun M1 hf1 h81 hI1 => (have hY1 := LY.fr (M := zsI M 670 0 0) hY hf1; fun qg7 qm8 => ⟨⟨⟨rfl, rfl⟩, hY1.w.rcv⟩, ⟨(app4 B n a), (n + 4), b, rfl, hY1, hI1, (by omega), fun M2 hf2 h82 hI2 => (have hY2 := LY.fr (M := M1) hY1 hf2; fun qg9 qm10 => ⟨⟨⟨rfl, rfl⟩, hY2.w.rcv⟩, ⟨(app4 (app4 B n a) (n + 4) b), ((n + 4) + 4), c, rfl, hY2, hI2, (by omega), fun M3 hf3 h83 hI3 => (have hY3 := LY.fr (M := M2) hY2 hf3; fun qg11 qm12 => ⟨⟨⟨rfl, rfl⟩, hY3.w.rcv⟩, ⟨(app4 (app4 (app4 B n a) (n + 4) b) ((n + 4) + 4) c), (((n + 4) + 4) + 4), d, rfl, hY3, hI3, (by omega), fun M4 hf4 h84 hI4 => (have hY4 := LY.fr (M := M3) hY3 hf4; fun qg13 qm14 => ⟨⟨⟨rfl, rfl⟩, hY4.w.rcv⟩, ⟨(app4 (app4 (app4 (app4 B n a) (n + 4) b) ((n + 4) + 4) c) (((n + 4) + 4) + 4) d), ((((n + 4) + 4) + 4) + 4), e, rfl, hY4, hI4, (by omega), fun M5 hf5 h85 hI5 => (have hY5 := LY.fr (M := M4) hY4 hf5; fun qg15 qm16 => ⟨hY5.w, zIr hI5.1 (⟨trivial, (show K (some (zi (n + 4 + 4 + 4 + 4 + 4))) M5 from ?g219l2)⟩)⟩)⟩⟩)⟩⟩)⟩⟩)⟩⟩)⟩⟩, fun (h : (1 : Int) = 0) => absurd h (by decide)⟩⟩⟩⟩⟩⟩, fun (h : (1 : Int) = 0) => absurd h (by decide)⟩, fun (h : (1 : Int) = 0) => absurd h (by decide)⟩, fun (h : (1 : Int) = 0) => absurd h (by decide)⟩⟩⟩⟩⟩⟩⟩)⟩
  case g219l1 => exact hE (by omega)
  case g219l2 =>
    have e20 : n + 4 + 4 + 4 + 4 + 4 = n + 20 := by omega
    rw [e20] at hI5 ⊢
    refine hK (by omega) M5 (((((f0.tr hf1).tr hf2).tr hf3).tr hf4).tr hf5) (fun f q0 q1 => ?_) ?_ hI5
    · rw [h85 f q1, h84 f q1, h83 f q1, h82 f q1, h81 f q1, zI_Im _ _ _ q0]
    · rw [h85 0 (by decide), h84 0 (by decide), h83 0 (by decide), h82 0 (by decide), h81 0 (by decide), zI_Is]
theorem M_X9_append {l : Launch} (hl : l.stackTraces = false) : zMet l yX9_append (Cond.code yX9_append cX9_append 6 (Option.some Jvm.ClassFile.FieldType.int) :: zG) rm_X9_append 0 0 T_X9_append := met_X9_append hl (M_X9_passes hl) (M_X9_appendFour hl) bd_X9_append

def T_X9_truncate : ZTf := fun av M K KX => ∃ (B : Gm) (n x : Int), av = [zo 670, zi x] ∧ (LY M) ∧ (RIn M B n) ∧ ((0 ≤ x ∧ x ≤ n → K none (zsI (zsI M 670 0 0) 670 6 x)) ∧ (¬ (0 ≤ x ∧ x ≤ n) → K none (zsI M 670 0 1)))
set_option maxRecDepth 100000 in
set_option maxHeartbeats 4000000 in
theorem bd_X9_truncate : zBd (cd_X9_truncate T_X9_in T_X9_passes) 2 0 0 T_X9_truncate := by
  rintro av M K KX hA0 hM ⟨B, n, x, rfl, hY, hI, hK, hE⟩
  have hn0 := hI.2.1
  refine ⟨rfl, fun Φ hΦ => ?_⟩
  refine zGoR hΦ [] 400 (fun hL9 _ hM _ _ => ?_)
  obtain ⟨qL1, _⟩ : zrg x ∧ True := hL9
  refine ⟨hY.w, zIr hI.1 (⟨⟨⟨rfl, rfl⟩, trivial⟩, ⟨rfl, ⟨fun h => (have qc1 : x < 0 := zc_lt h; ⟨(Or.inl rfl), fun _ _ => ⟨⟨⟨rfl, rfl⟩, hY.w.rcv⟩, ⟨rfl, ⟨⟨⟨rfl, rfl⟩, hY.w.rcv⟩, ⟨rfl, ⟨fun (h : (0 : Int) ≠ 0) => absurd h (by decide), fun _ => ⟨⟨hY.w, trivial⟩, ⟨hY.w, ⟨fun _ => ⟨(Or.inl rfl), fun _ _ => ⟨(Or.inl rfl), fun _ _ => ⟨fun _ => (show K none (zsI M 670 0 1) from ?g220l1), fun (h : (0 : Int) ≠ 0) => absurd h (by decide)⟩⟩⟩, fun (h : (1 : Int) = 0) => absurd h (by decide)⟩⟩⟩⟩⟩⟩⟩⟩⟩), fun h => (have qc5 : x ≥ 0 := zc_ge h; ⟨fun h => (have qc6 : x > n := zc_gt h; ⟨(Or.inl rfl), fun _ _ => ⟨⟨⟨rfl, rfl⟩, hY.w.rcv⟩, ⟨rfl, ⟨⟨⟨rfl, rfl⟩, hY.w.rcv⟩, ⟨rfl, ⟨fun (h : (0 : Int) ≠ 0) => absurd h (by decide), fun _ => ⟨⟨hY.w, trivial⟩, ⟨hY.w, ⟨fun _ => ⟨(Or.inl rfl), fun _ _ => ⟨(Or.inl rfl), fun _ _ => ⟨fun _ => (show K none (zsI M 670 0 1) from ?g220l2), fun (h : (0 : Int) ≠ 0) => absurd h (by decide)⟩⟩⟩, fun (h : (1 : Int) = 0) => absurd h (by decide)⟩⟩⟩⟩⟩⟩⟩⟩⟩), fun h => (have qc10 : x ≤ n := zc_le h; ⟨(Or.inr rfl), fun _ _ => ⟨⟨⟨rfl, rfl⟩, hY.w.rcv⟩, ⟨rfl, ⟨⟨⟨rfl, rfl⟩, hY.w.rcv⟩, ⟨rfl, ⟨fun _ => ⟨fun _ => ⟨fun _ => ⟨⟨hY.w, trivial⟩, ⟨hY.w, ⟨fun (h : (0 : Int) ≠ 0) => absurd h (by decide), fun _ => ⟨(Or.inr rfl), fun _ _ => ⟨(Or.inr rfl), fun _ _ => ⟨fun (h : (1 : Int) = 0) => absurd h (by decide), fun _ => ⟨⟨hY.w, trivial⟩, (show K none (zsI (zsI M 670 0 0) 670 6 x) from ?g220l3)⟩⟩⟩⟩⟩⟩⟩, fun (h : (1 : Int) = 0) => absurd h (by decide)⟩, fun (h : (1 : Int) = 0) => absurd h (by decide)⟩, fun (h : (1 : Int) = 0) => absurd h (by decide)⟩⟩⟩⟩⟩⟩)⟩)⟩⟩⟩)⟩
  case g220l1 => first | (exfalso; omega) | exact hE (by omega) | exact hK (by omega)
  case g220l2 => first | (exfalso; omega) | exact hE (by omega) | exact hK (by omega)
  case g220l3 => first | (exfalso; omega) | exact hE (by omega) | exact hK (by omega)
theorem M_X9_truncate {l : Launch} (hl : l.stackTraces = false) : zMet l yX9_truncate (Cond.code yX9_truncate cX9_truncate 2 (Option.none : Option Jvm.ClassFile.FieldType) :: zG) rm_X9_truncate 0 0 T_X9_truncate := met_X9_truncate hl (M_X9_in hl) (M_X9_passes hl) bd_X9_truncate

/-- letters at..e as a number -/
def fNmF (B : Gm) (lo e : Int) : Int := foldF (fun k a => 27 * a + B k.toNat - 96) 0 lo e
theorem p27 : (27 : Int) ^ 6 = 387420489 := by decide
theorem p27_s (j : Nat) : (27 : Int) ^ (j + 1) = 27 * 27 ^ j := by rw [Int.pow_succ, Int.mul_comm]
theorem p27_le {j : Nat} (h : j ≤ 6) : 1 ≤ (27 : Int) ^ j ∧ (27 : Int) ^ j ≤ 387420489 := by
  have hh : ∀ q : Fin 7, 1 ≤ (27 : Int) ^ q.val ∧ (27 : Int) ^ q.val ≤ 387420489 := by decide
  exact hh ⟨j, by omega⟩
theorem fNm_b {B : Gm} {lo e : Int} (h0 : 0 ≤ lo) (hb : ∀ k : Int, lo ≤ k → k < e → 97 ≤ B k.toNat ∧ B k.toNat ≤ 122) : ∀ i, lo ≤ i → i ≤ e → 0 ≤ fNmF B lo i ∧ fNmF B lo i < 27 ^ (i - lo).toNat := by
  have key : ∀ j : Nat, lo + (j : Int) ≤ e → 0 ≤ fNmF B lo (lo + j) ∧ fNmF B lo (lo + j) < 27 ^ j := by
    intro j
    induction j with
    | zero => exact fun _ => by rw [show lo + ((0 : Nat) : Int) = lo by omega]; unfold fNmF; rw [foldF_0 (Int.le_refl _)]; decide
    | succ j ih =>
      intro hj
      have ih' := ih (by omega)
      have hk := hb (lo + j) (by omega) (by omega)
      unfold fNmF at ih' ⊢
      rw [show lo + ((j + 1 : Nat) : Int) = (lo + j) + 1 by omega, foldF_s (by omega), p27_s]
      generalize foldF (fun k a => 27 * a + B k.toNat - 96) 0 lo (lo + (j : Int)) = a at *
      generalize (27 : Int) ^ j = p at *
      omega
  intro i h1 h2
  have h9 := key (i - lo).toNat (by omega)
  rw [show lo + (((i - lo).toNat : Nat) : Int) = i by omega] at h9
  exact h9

def T_X9_nameOf : ZTf := fun av M K KX => ∃ (lo e : Int), av = [zo 674, zi lo, zi e] ∧ (LY M) ∧ (0 ≤ lo ∧ lo ≤ e ∧ e ≤ 500 ∧ e - lo ≤ 6) ∧ (∀ k : Int, lo ≤ k → k < e → 97 ≤ zI M 674 k.toNat ∧ zI M 674 k.toNat ≤ 122) ∧  K (some (zi (fNmF (zI M 674) lo e))) M
set_option maxRecDepth 100000 in
set_option maxHeartbeats 4000000 in
theorem bd_X9_nameOf : zBd (cd_X9_nameOf) 5 0 0 T_X9_nameOf := by
  rintro av M K KX hA0 hM ⟨lo, e, rfl, hY, hp1, hb, hK⟩
  refine ⟨rfl, fun Φ hΦ => ?_⟩
  have loop := zdownF (lo := lo) (n := e) (P := fun i => Φ 5 [some (zo 674), some (zi lo), some (zi e), some (zi (fNmF (zI M 674) lo i)), some (zi i)] [] M 0 0) (fun i h0 h1 ih => by
    have hbb := fNm_b (B := zI M 674) (by omega) hb i h0 h1
    have hbi := fun (q : i < e) => hb i h0 q
    have hp6 : i < e → (27 : Int) ^ (i - lo).toNat ≤ 14348907 := fun q => by
      have hh : ∀ q : Fin 6, (27 : Int) ^ q.val ≤ 14348907 := by decide
      exact hh ⟨(i - lo).toNat, by omega⟩
    obtain ⟨a, ha⟩ : ∃ a, fNmF (zI M 674) lo i = a := ⟨_, rfl⟩
    rw [ha] at hbb ⊢
    generalize (27 : Int) ^ (i - lo).toNat = p at hbb hp6
    refine zGoR hΦ [5] 400 (fun hL9 _ hM _ _ => ?_)
    obtain ⟨qL1, qL2, qL3, qL4, _⟩ : zrg lo ∧ zrg e ∧ zrg a ∧ zrg i ∧ True := hL9
    refine ⟨fun (qc1 : i ≥ e) => ⟨trivial, (show K (some (zi a)) M from ?g221l1)⟩, fun (qc2 : i < e) => ⟨(zrgI (x := 27 * a) (by omega)), ⟨zixO hY.a5 hY.l5 (i := i) (by omega) (by decide), ⟨(zrgI (x := 27 * a + zI M 674 i.toNat) (by omega)), ⟨(zrgI (x := 27 * a + zI M 674 i.toNat - 96) (by omega)), ⟨(zrgI (x := i + 1) (by omega)), (show Φ 5 [some (zo 674), some (zi lo), some (zi e), some (zi (27 * a + zI M 674 i.toNat - 96)), some (zi (i + 1))] [] M (0) (0) from ?g221l2)⟩⟩⟩⟩⟩⟩
    case g221l1 =>
      have e9 : i = e := (by omega)
      subst e9
      rw [← ha]
      exact hK
    case g221l2 =>
      have h9 := ih (by omega)
      unfold fNmF at h9 ha
      rw [foldF_s h0, ha] at h9
      exact h9
    done)
  refine zGoR hΦ [5] 400 (fun hL9 _ hM _ _ => ?_)
  obtain ⟨qL1, qL2, _⟩ : zrg lo ∧ zrg e ∧ True := hL9
  refine (show Φ 5 [some (zo 674), some (zi lo), some (zi e), some (zi 0), some (zi lo)] [] M (0) (0) from ?g222l1)
  case g222l1 =>
    have h9 := loop lo (Int.le_refl _) (by omega)
    unfold fNmF at h9
    rw [foldF_0 (Int.le_refl _)] at h9
    exact h9
theorem M_X9_nameOf {l : Launch} (hl : l.stackTraces = false) : zMet l yX9_nameOf (Cond.code yX9_nameOf cX9_nameOf 5 (Option.some Jvm.ClassFile.FieldType.int) :: zG) rm_X9_nameOf 0 0 T_X9_nameOf := met_X9_nameOf hl bd_X9_nameOf

def fWith (G : Gm) (nm : Int) : Int := fndI (fun w => decide ((G (6 + 9 * w + 0).toNat) = nm)) (G 4)
theorem fWith_r (G : Gm) (nm : Int) (h : 0 ≤ G 4) : fWith G nm = -1 ∨ 0 ≤ fWith G nm ∧ fWith G nm < G 4 := by
  rcases fndI_r (fun w => decide ((G (6 + 9 * w + 0).toNat) = nm)) h with q | q
  · exact Or.inl q.1
  · exact Or.inr ⟨q.1, q.2.1⟩

def T_X9_withName : ZTf := fun av M K KX => ∃ (A : Nat) (nm : Int), av = [zo 670, zi nm] ∧ (LY M) ∧ (MA M A) ∧ (0 ≤ zI M A 4 ∧ zI M A 4 ≤ 6) ∧  K (some (zi (fWith (zI M A) nm))) M
set_option maxRecDepth 100000 in
set_option maxHeartbeats 4000000 in
theorem bd_X9_withName : zBd (cd_X9_withName T_X9_workers T_X9_ofWorker) 3 0 0 T_X9_withName := by
  rintro av M K KX hA0 hM ⟨A, nm, rfl, hY, hA, h4, hK⟩
  refine ⟨rfl, fun Φ hΦ => ?_⟩
  have loop := zdown (n := zI M A 4) (P := fun i => K (some (zi (fnd (fun w => decide (((zI M A) (6 + 9 * w + 0).toNat) = nm)) (zI M A 4 - i).toNat i))) M → Φ 2 [some (zo 670), some (zi nm), some (zi i)] [] M 0 0) (fun i h0 h1 ih hK => by
    refine zGoR hΦ [2] 400 (fun hL9 _ hM _ _ => ?_)
    obtain ⟨qL1, qL2, _⟩ : zrg nm ∧ zrg i ∧ True := hL9
    refine ⟨⟨⟨rfl, rfl⟩, hY.w.rcv⟩, ⟨rfl, ⟨hY.w, _, hA.1, ⟨zixO hA.2.1 hA.2.2 (i := 4) (by decide) (by decide), ⟨trivial, fun (qg1 : zrg (zI M A 4)) _ => ⟨fun (qc2 : i ≥ zI M A 4) => ⟨trivial, (show K (some (zi (-1))) M from ?g223l1)⟩, fun (qc3 : i < zI M A 4) => ⟨⟨⟨rfl, rfl⟩, hY.w.rcv⟩, ⟨rfl, ⟨hY.w, _, hA.1, ⟨(zrgI (x := 9 * i) (by omega)), ⟨(zrgI (x := 6 + 9 * i) (by omega)), ⟨(zrgI (x := 6 + 9 * i + 0) (by omega)), ⟨zixO hA.2.1 hA.2.2 (i := 6 + 9 * i + 0) (by omega) (by decide), ⟨trivial, fun (qg4 : zrg (zI M A ((6 + 9 * i + 0).toNat))) _ => ⟨fun (qc5 : zI M A ((6 + 9 * i + 0).toNat) ≠ nm) => ⟨(zrgI (x := i + 1) (by omega)), (show Φ 2 [some (zo 670), some (zi nm), some (zi (i + 1))] [] M (0) (0) from ?g223l2)⟩, fun (qc6 : zI M A ((6 + 9 * i + 0).toNat) = nm) => ⟨trivial, (show K (some (zi i)) M from ?g223l3)⟩⟩⟩⟩⟩⟩⟩⟩⟩⟩⟩⟩⟩⟩⟩⟩
    case g223l1 => rw [fnd_e _ qc2] at hK; exact hK
    case g223l2 => rw [fnd_miss qc3 (by first | (simp only [↓reduceIte, decide_eq_true_eq, decide_eq_false_iff_not, decide_true, decide_false, ne_eq, not_true_eq_false, not_false_eq_true, and_true, true_and, and_false, false_and, or_true, true_or, or_false, false_or, and_self, or_self, Bool.true_and, Bool.and_true, Bool.false_and, Bool.and_false, b2i, Bool.false_eq_true, reduceCtorEq, gt_iff_lt, ge_iff_le, qc3, qc5, Int.not_le.mpr qc3]; done) | (simp only [↓reduceIte, decide_eq_true_eq, decide_eq_false_iff_not, decide_true, decide_false, ne_eq, not_true_eq_false, not_false_eq_true, and_true, true_and, and_false, false_and, or_true, true_or, or_false, false_or, and_self, or_self, Bool.true_and, Bool.and_true, Bool.false_and, Bool.and_false, b2i, Bool.false_eq_true, reduceCtorEq, gt_iff_lt, ge_iff_le, qc3, qc5, Int.not_le.mpr qc3]; rfl) | (simp [qc3, qc5, Int.not_le.mpr qc3]; done))] at hK; exact ih (by omega) hK
    case g223l3 => rw [fnd_hit qc3 (by first | (simp only [↓reduceIte, decide_eq_true_eq, decide_eq_false_iff_not, decide_true, decide_false, ne_eq, not_true_eq_false, not_false_eq_true, and_true, true_and, and_false, false_and, or_true, true_or, or_false, false_or, and_self, or_self, Bool.true_and, Bool.and_true, Bool.false_and, Bool.and_false, b2i, Bool.false_eq_true, reduceCtorEq, gt_iff_lt, ge_iff_le, qc3, qc6, Int.not_le.mpr qc3]; done) | (simp only [↓reduceIte, decide_eq_true_eq, decide_eq_false_iff_not, decide_true, decide_false, ne_eq, not_true_eq_false, not_false_eq_true, and_true, true_and, and_false, false_and, or_true, true_or, or_false, false_or, and_self, or_self, Bool.true_and, Bool.and_true, Bool.false_and, Bool.and_false, b2i, Bool.false_eq_true, reduceCtorEq, gt_iff_lt, ge_iff_le, qc3, qc6, Int.not_le.mpr qc3]; rfl) | (simp [qc3, qc6, Int.not_le.mpr qc3]; done))] at hK; exact hK
    done)
  refine zGoR hΦ [2] 400 (fun hL9 _ hM _ _ => ?_)
  obtain ⟨qL1, _⟩ : zrg nm ∧ True := hL9
  refine (show Φ 2 [some (zo 670), some (zi nm), some (zi 0)] [] M (0) (0) from ?g224l1)
  case g224l1 => exact loop 0 (by omega) h4.1 hK
theorem M_X9_withName {l : Launch} (hl : l.stackTraces = false) : zMet l yX9_withName (Cond.code yX9_withName cX9_withName 3 (Option.some Jvm.ClassFile.FieldType.int) :: zG) rm_X9_withName 0 0 T_X9_withName := met_X9_withName hl (M_X9_workers hl) (M_X9_ofWorker hl) bd_X9_withName

def fLet (B : Gm) (n : Int) : Prop := ∀ k : Int, 0 ≤ k → k < n → 97 ≤ B k.toNat ∧ B k.toNat ≤ 122
def T_X9_find : ZTf := fun av M K KX => ∃ (B : Gm) (n : Int), av = [zo 670] ∧ (LY M) ∧ (MA M 671) ∧ (0 ≤ zI M 671 4 ∧ zI M 671 4 ≤ 6) ∧ (RIn M B n) ∧ (((1 ≤ n ∧ n ≤ 6) ∧ fLet B n → K (some (zi (fWith (zI M 671) (fNmF B 0 n)))) (zsI (zsI M 670 0 0) 670 6 0)) ∧ (¬ ((1 ≤ n ∧ n ≤ 6) ∧ fLet B n) → K (some (zi (-1))) (zsI (zsI M 670 0 0) 670 6 0)))
set_option maxRecDepth 100000 in
set_option maxHeartbeats 4000000 in
theorem bd_X9_find : zBd (cd_X9_find T_X9_in T_X9_nameOf T_X9_withName) 3 0 0 T_X9_find := by
  rintro av M K KX hA0 hM ⟨B, n, rfl, hY, hA, h4, hI, hK, hE⟩
  have hn0 := hI.2.1
  obtain ⟨F, hF⟩ : ∃ F, zI M 674 = F := ⟨_, rfl⟩
  have hFB : ∀ k : Int, 0 ≤ k → k < n → ((97 ≤ B k.toNat ∧ B k.toNat ≤ 122) ↔ (97 ≤ zI M 674 k.toNat ∧ zI M 674 k.toNat ≤ 122)) ∧ (97 ≤ B k.toNat ∧ B k.toNat ≤ 122 → zI M 674 k.toNat = B k.toNat) := fun k k0 k1 => by
    have h9 := hI.2.2 k.toNat (by omega)
    unfold sgn at h9
    split at h9
    · omega
    · omega
  refine ⟨rfl, fun Φ hΦ => ?_⟩
  have lo0 : ¬ ((1 ≤ n ∧ n ≤ 6) ∧ fLet B n) → ∀ i, 0 ≤ i → i ≤ n → Φ 20 [some (zo 670), some (zi 0), some (zi i)] [] (zsI M 670 0 0) 0 0 := by
    intro hno i h0 h1
    refine zGoR hΦ [] 400 (fun hL9 _ hM _ _ => ?_)
    obtain ⟨qL1, qL2, _⟩ : zrg 0 ∧ zrg i ∧ True := hL9
    refine ⟨hY.w, zIr hI.1 (⟨fun (qc1 : i ≥ n) => ⟨fun _ => ⟨⟨hY.w, trivial⟩, ⟨fun _ => ⟨trivial, (show K (some (zi (-1))) (zsI (zsI M 670 0 0) 670 6 0) from ?g225l1)⟩, fun (h : (0 : Int) ≠ 0) => absurd h (by decide)⟩⟩, fun (h : (0 : Int) ≠ 0) => absurd h (by decide)⟩, fun (qc2 : i < n) => ⟨fun _ => ⟨fun _ => ⟨⟨hY.w, trivial⟩, ⟨fun _ => ⟨trivial, (show K (some (zi (-1))) (zsI (zsI M 670 0 0) 670 6 0) from ?g225l2)⟩, fun (h : (0 : Int) ≠ 0) => absurd h (by decide)⟩⟩, fun (h : (0 : Int) ≠ 0) => absurd h (by decide)⟩, fun (h : (0 : Int) ≠ 0) => absurd h (by decide)⟩⟩)⟩
    case g225l1 => exact hE hno
    case g225l2 => exact hE hno
  have lo1 := fun (hn6 : 1 ≤ n ∧ n ≤ 6) => zdown (n := n) (P := fun i => (∀ k : Int, 0 ≤ k → k < i → 97 ≤ B k.toNat ∧ B k.toNat ≤ 122) → Φ 20 [some (zo 670), some (zi 1), some (zi i)] [] (zsI M 670 0 0) 0 0) (fun i h0 h1 ih hl => by
    have hbn : i = n → ∀ k : Int, 0 ≤ k → k < n → 97 ≤ zI M 674 k.toNat ∧ zI M 674 k.toNat ≤ 122 := fun e k k0 k1 => (hFB k k0 k1).1.mp (hl k k0 (by omega))
    have hFi := fun (q : i < n) => (hFB i h0 q)
    refine zGoR hΦ [20] 400 (fun hL9 _ hM _ _ => ?_)
    obtain ⟨qL1, qL2, _⟩ : zrg 1 ∧ zrg i ∧ True := hL9
    refine ⟨hY.w, zIr hI.1 (⟨fun (qc1 : i ≥ n) => ⟨fun (h : (1 : Int) = 0) => absurd h (by decide), fun _ => ⟨hY.w, _, hY.r5, ⟨hY.w, zIr hI.1 (⟨⟨⟨rfl, rfl⟩, trivial⟩, ⟨0, n, rfl, hY, (by omega), (hbn (by omega)), fun (qg2 : zrg (fNmF (zI M 674) 0 n)) qm3 => ⟨⟨hY.w, trivial⟩, ⟨fun (h : (1 : Int) = 0) => absurd h (by decide), fun _ => ⟨⟨⟨rfl, rfl⟩, hY.w.rcv⟩, ⟨671, (fNmF (zI M 674) 0 n), rfl, hY, hA, h4, fun (qg4 : zrg (fWith (zI M 671) (fNmF (zI M 674) 0 n))) qm5 => ⟨trivial, (show K (some (zi (fWith (zI M 671) (fNmF (zI M 674) 0 n)))) (zsI (zsI M 670 0 0) 670 6 0) from ?g226l1)⟩⟩⟩⟩⟩⟩⟩)⟩⟩⟩, fun (qc6 : i < n) => ⟨fun (h : (1 : Int) = 0) => absurd h (by decide), fun _ => ⟨hY.w, _, hY.r5, ⟨zixO hY.a5 hY.l5 (i := i) (by omega) (by decide), ⟨⟨⟨rfl, rfl⟩, trivial⟩, ⟨rfl, ⟨fun h => (have qc7 : zI M 674 i.toNat < 97 := zc_lt h; ⟨(Or.inl rfl), fun _ _ => ⟨(zrgI (x := i + 1) (by omega)), (show Φ 20 [some (zo 670), some (zi 0), some (zi (i + 1))] [] (zsI M 670 0 0) (0) (0) from ?g226l2)⟩⟩), fun h => (have qc9 : zI M 674 i.toNat ≥ 97 := zc_ge h; ⟨fun h => (have qc10 : zI M 674 i.toNat > 122 := zc_gt h; ⟨(Or.inl rfl), fun _ _ => ⟨(zrgI (x := i + 1) (by omega)), (show Φ 20 [some (zo 670), some (zi 0), some (zi (i + 1))] [] (zsI M 670 0 0) (0) (0) from ?g226l3)⟩⟩), fun h => (have qc12 : zI M 674 i.toNat ≤ 122 := zc_le h; ⟨(Or.inr rfl), fun _ _ => ⟨(zrgI (x := i + 1) (by omega)), (show Φ 20 [some (zo 670), some (zi 1), some (zi (i + 1))] [] (zsI M 670 0 0) (0) (0) from ?g226l4)⟩⟩)⟩)⟩⟩⟩⟩⟩⟩⟩)⟩
    case g226l1 =>
      have e9 : i = n := (by omega)
      subst e9
      refine zKi (hK ⟨hn6, hl⟩) (congrArg (fWith (zI M 671)) ?_)
      unfold fNmF foldF
      exact foldI_c (fun k x k0 k1 => by simp only [show (0 : Int) + k = k by omega, (hFB k k0 (by omega)).2 (hl k k0 (by omega))])
    case g226l2 =>
      refine lo0 (fun z => ?_) _ (by omega) (by omega)
      have h9 := (hFi (by omega)).1.mp (z.2 i h0 (by omega))
      omega
    case g226l3 =>
      refine lo0 (fun z => ?_) _ (by omega) (by omega)
      have h9 := (hFi (by omega)).1.mp (z.2 i h0 (by omega))
      omega
    case g226l4 =>
      refine ih (by omega) (fun k k0 k1 => ?_)
      by_cases e : k = i
      · subst e
        exact ((hFi (by omega)).1.mpr (by omega))
      · exact hl k k0 (by omega)
    done)
  refine zGoR hΦ [20] 400 (fun hL9 _ hM _ _ => ?_)
  obtain ⟨_⟩ : True := hL9
  refine ⟨⟨hY.w, trivial⟩, ⟨hY.w, zIr hI.1 (⟨⟨⟨rfl, rfl⟩, trivial⟩, ⟨rfl, ⟨fun h => (have qc1 : n < 1 := zc_lt h; ⟨(Or.inl rfl), fun _ _ => (show Φ 20 [some (zo 670), some (zi 0), some (zi 0)] [] (zsI M 670 0 0) (0) (0) from ?g227l1)⟩), fun h => (have qc3 : n ≥ 1 := zc_ge h; ⟨fun h => (have qc4 : n > 6 := zc_gt h; ⟨(Or.inl rfl), fun _ _ => (show Φ 20 [some (zo 670), some (zi 0), some (zi 0)] [] (zsI M 670 0 0) (0) (0) from ?g227l2)⟩), fun h => (have qc6 : n ≤ 6 := zc_le h; ⟨(Or.inr rfl), fun _ _ => (show Φ 20 [some (zo 670), some (zi 1), some (zi 0)] [] (zsI M 670 0 0) (0) (0) from ?g227l3)⟩)⟩)⟩⟩⟩)⟩⟩
  case g227l1 => exact lo0 (fun z => by omega) 0 (by omega) (by omega)
  case g227l2 => exact lo0 (fun z => by omega) 0 (by omega) (by omega)
  case g227l3 => exact lo1 (by omega) 0 (by omega) (by omega) (fun k k0 k1 => by omega)
theorem M_X9_find {l : Launch} (hl : l.stackTraces = false) : zMet l yX9_find (Cond.code yX9_find cX9_find 3 (Option.some Jvm.ClassFile.FieldType.int) :: zG) rm_X9_find 0 0 T_X9_find := met_X9_find hl (M_X9_in hl) (M_X9_nameOf hl) (M_X9_withName hl) bd_X9_find
