def sgn (b : Int) : Int := if b < 128 then b else b - 256
def byt (v s : Int) : Int := zand (zushr v s) 255
theorem byt_q1 : ∀ q : Fin 25, ((Int32.ofInt (q.val : Int) &&& 31).toBitVec.smod 32).toNat = q.val := by decide +kernel
theorem byt_q2 : ∀ q : Fin 25, (((Int32.ofInt (q.val : Int)).toUInt32 &&& Int32.toUInt32 31).toBitVec % 32).toNat = q.val := by decide +kernel
theorem byt_b3 (b : BitVec 32) (s : Nat) (hs : s ≤ 24) : (b.sshiftRight s).signExtend 8 = (b >>> s).setWidth 8 := by
  rw [BitVec.signExtend_eq_setWidth_of_le _ (by decide)]
  refine BitVec.eq_of_getLsbD_eq (fun i hi => ?_)
  rw [BitVec.getLsbD_setWidth, BitVec.getLsbD_setWidth, BitVec.getLsbD_sshiftRight, BitVec.getLsbD_ushiftRight, if_pos (by omega), decide_eq_false (by omega : ¬ 32 ≤ i)]
  rfl
theorem byt_bv (v : Int) (s : Nat) (hs : s ≤ 24) : zi2b (zshr v (s : Int)) = sgn (byt v (s : Int)) ∧ 0 ≤ byt v (s : Int) ∧ byt v (s : Int) < 256 := by
  have q1 := byt_q1 ⟨s, by omega⟩
  have q2 := byt_q2 ⟨s, by omega⟩
  simp only at q1 q2
  have a1 : zi2b (zshr v (s : Int)) = (((Int32.ofInt v).toBitVec >>> s).setWidth 8).toInt := by
    unfold zi2b zshr
    rw [Int32.ofInt_toInt, ← Int8.toInt_toBitVec, Int32.toBitVec_toInt8, Int32.toBitVec_shiftRight]
    unfold BitVec.sshiftRight'
    rw [q1, byt_b3 _ _ hs]
  have a2 : byt v (s : Int) = (((Int32.ofInt v).toBitVec >>> s) &&& 255#32).toInt := by
    unfold byt zand zushr
    rw [Int32.ofInt_toInt, ← Int32.toInt_toBitVec, Int32.toBitVec_and, UInt32.toBitVec_toInt32, UInt32.toBitVec_shiftRight, Int32.toBitVec_toUInt32, BitVec.ushiftRight_eq', q2]
    rfl
  rw [a1, a2]
  generalize (Int32.ofInt v).toBitVec >>> s = c
  have e1 : (c.setWidth 8).toNat = c.toNat % 256 := BitVec.toNat_setWidth 8 c
  have e2 : (c &&& 255#32).toNat = c.toNat % 256 := by
    rw [BitVec.toNat_and]
    exact Nat.and_two_pow_sub_one_eq_mod c.toNat 8
  rw [BitVec.toInt_eq_toNat_cond, BitVec.toInt_eq_toNat_cond, e1, e2]
  have h9 := Nat.mod_lt c.toNat (show 0 < 256 by decide)
  generalize c.toNat % 256 = m at h9
  unfold sgn
  rw [if_pos (show 2 * m < 2 ^ 32 by omega)]
  split
  · split <;> omega
  · split <;> omega
theorem zi2b_r (x : Int) : zPb (zi2b x) := ⟨Int.le_trans (by decide) (Int8.le_toInt (Int32.ofInt x).toInt8), Int.lt_of_lt_of_le (Int8.toInt_lt (Int32.ofInt x).toInt8) (by decide)⟩
/-- the input buffer of the reference -/
def RIn (M : ZM) (B : Gm) (n : Int) : Prop := zI M 670 6 = n ∧ (0 ≤ n ∧ n ≤ 500) ∧ ∀ k : Nat, (k : Int) < n → zI M 674 k = sgn (B k) ∧ 0 ≤ B k ∧ B k < 256
def put1 (B : Gm) (n b : Int) : Gm := gU B n b
def app4 (B : Gm) (n v : Int) : Gm := put1 (put1 (put1 (put1 B n (byt v 24)) (n + 1) (byt v 16)) (n + 1 + 1) (byt v 8)) (n + 1 + 1 + 1) (byt v 0)
theorem RIn.put {M : ZM} {B : Gm} {n b v : Int} (h : RIn M B n) (hn : n < 500) (hb : v = sgn b ∧ 0 ≤ b ∧ b < 256) : RIn (zsI (zsA M 674 (gU (zI M 674) n v)) 670 6 (n + 1)) (put1 B n b) (n + 1) := by
  obtain ⟨h1, h2, h3⟩ := h
  refine ⟨zI_Is _ _ _ _, by omega, fun k hk => ?_⟩
  rw [zI_In _ _ _ (by decide), zI_A]
  unfold put1
  by_cases e : k = n.toNat
  · subst e
    rw [gU_s, gU_s]
    exact hb
  · rw [gU_n _ e, gU_n _ e]
    exact h3 k (by omega)
def app20 (B : Gm) (n a b c d e : Int) : Gm := (app4 (app4 (app4 (app4 (app4 B n a) (n + 4) b) ((n + 4) + 4) c) (((n + 4) + 4) + 4) d) ((((n + 4) + 4) + 4) + 4) e)
/-- letters at..e as a number -/
def fNmF (B : Gm) (lo e : Int) : Int := foldF (fun k a => 27 * a + B k.toNat - 96) 0 lo e
theorem p27_s (j : Nat) : (27 : Int) ^ (j + 1) = 27 * 27 ^ j := by rw [Int.pow_succ, Int.mul_comm]
theorem p27_le {j : Nat} (h : j ≤ 6) : 1 ≤ (27 : Int) ^ j ∧ (27 : Int) ^ j ≤ 387420489 := by
  have hh : ∀ q : Fin 7, 1 ≤ (27 : Int) ^ q.val ∧ (27 : Int) ^ q.val ≤ 387420489 := by decide
  exact hh ⟨j, by omega⟩
theorem fNm_b {B : Gm} {lo e : Int} (h0 : 0 ≤ lo) (hb : ∀ k : Int, lo ≤ k → k < e → 97 ≤ B k.toNat ∧ B k.toNat ≤ 122) : ∀ i, lo ≤ i → i ≤ e → 0 ≤ fNmF B lo i ∧ fNmF B lo i < 27 ^ (i - lo).toNat := by
  have key : ∀ j : Nat, lo + (j : Int) ≤ e → 0 ≤ fNmF B lo (lo + j) ∧ fNmF B lo (lo + j) < 27 ^ j := by
    intro j
    induction j with
    | zero => exact fun _ => by rw [show lo + ((0 : Nat) : Int) = lo by omega]; unfold fNmF; rw [foldF_0 (Int.le_refl _)]; decide
    | succ j ih =>
      intro hj
      have ih' := ih (by omega)
      have hk := hb (lo + j) (by omega) (by omega)
      unfold fNmF at ih' ⊢
      rw [show lo + ((j + 1 : Nat) : Int) = (lo + j) + 1 by omega, foldF_s (by omega), p27_s]
      generalize foldF (fun k a => 27 * a + B k.toNat - 96) 0 lo (lo + (j : Int)) = a at *
      generalize (27 : Int) ^ j = p at *
      omega
  intro i h1 h2
  have h9 := key (i - lo).toNat (by omega)
  rw [show lo + (((i - lo).toNat : Nat) : Int) = i by omega] at h9
  exact h9
def fWith (G : Gm) (nm : Int) : Int := fndI (fun w => decide ((G (6 + 9 * w + 0).toNat) = nm)) (G 4)
theorem fWith_r (G : Gm) (nm : Int) (h : 0 ≤ G 4) : fWith G nm = -1 ∨ 0 ≤ fWith G nm ∧ fWith G nm < G 4 := by
  rcases fndI_r (fun w => decide ((G (6 + 9 * w + 0).toNat) = nm)) h with q | q
  · exact Or.inl q.1
  · exact Or.inr ⟨q.1, q.2.1⟩
