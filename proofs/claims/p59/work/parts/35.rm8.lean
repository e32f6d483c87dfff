theorem zKf {K : ZRet} {x y : UInt32} {M M' : ZM} (h : K (some (zf x)) M) (e : x = y) (e' : M = M') : K (some (zf y)) M' := by
  subst e; subst e'; exact h
theorem zKd {K : ZRet} {x y : UInt64} {M M' : ZM} (h : K (some (zd x)) M) (e : x = y) (e' : M = M') : K (some (zd y)) M' := by
  subst e; subst e'; exact h
theorem acc_f : ∀ x : Fin 25, ∀ y : Fin 25, y.val = 0 ∨ (FP.fdiv (FP.i2f (Int32.ofInt (x.val : Int))) (FP.i2f (Int32.ofInt (y.val : Int)))) &&& 0x7fffffff ≤ 0x7f800000 := by decide +kernel
theorem acc_n {x y : Int} (h0 : 0 ≤ x ∧ x ≤ 24) (h1 : 0 < y ∧ y ≤ 24) : vf_n32 (FP.fdiv (FP.i2f (Int32.ofInt x)) (FP.i2f (Int32.ofInt y))) := by
  have h := acc_f ⟨x.toNat, by omega⟩ ⟨y.toNat, by omega⟩
  rcases h with h | h
  · exact absurd h (by show ¬ y.toNat = 0; omega)
  · rw [show (((⟨x.toNat, by omega⟩ : Fin 25).val : Nat) : Int) = x by show ((x.toNat : Nat) : Int) = x; omega, show (((⟨y.toNat, by omega⟩ : Fin 25).val : Nat) : Int) = y by show ((y.toNat : Nat) : Int) = y; omega] at h
    exact h
theorem mean_f : ∀ x : Fin 121, ∀ y : Fin 7, y.val = 0 ∨ (FP.ddiv (FP.i2d (Int32.ofInt (x.val : Int))) (FP.i2d (Int32.ofInt (y.val : Int)))) &&& 0x7fffffffffffffff ≤ 0x7ff0000000000000 := by decide +kernel
theorem mean_n {x y : Int} (h0 : 0 ≤ x ∧ x ≤ 120) (h1 : 0 < y ∧ y ≤ 6) : vf_n64 (FP.ddiv (FP.i2d (Int32.ofInt x)) (FP.i2d (Int32.ofInt y))) := by
  have h := mean_f ⟨x.toNat, by omega⟩ ⟨y.toNat, by omega⟩
  rcases h with h | h
  · exact absurd h (by show ¬ y.toNat = 0; omega)
  · rw [show (((⟨x.toNat, by omega⟩ : Fin 121).val : Nat) : Int) = x by show ((x.toNat : Nat) : Int) = x; omega, show (((⟨y.toNat, by omega⟩ : Fin 7).val : Nat) : Int) = y by show ((y.toNat : Nat) : Int) = y; omega] at h
    exact h
def fAccM (G : Gm) (w r : Int) : Bool := decide ((G (132 + 16 * r + 3).toNat) ≠ -1 ∧ fResultOf G w r ≠ -1)
def fAccR (G : Gm) (w r : Int) : Bool := decide (((G (132 + 16 * r + 3).toNat) ≠ -1 ∧ fResultOf G w r ≠ -1) ∧ zabs (fResultOf G w r - (G (132 + 16 * r + 3).toNat)) ≤ G 0)
theorem fAcc_le (G : Gm) (w : Int) {n : Int} (h : 0 ≤ n) : cntI (fAccR G w) n ≤ cntI (fAccM G w) n := by
  have key : ∀ i, 0 ≤ i → i ≤ n → cntI (fAccR G w) i ≤ cntI (fAccM G w) i := by
    refine zup (fun i => cntI (fAccR G w) i ≤ cntI (fAccM G w) i) (Int.le_refl _) (fun i h0 h1 ih => ?_)
    rw [cntI_s h0, cntI_s h0]
    by_cases q : fAccR G w i = true
    · have q2 : fAccM G w i = true := by
        unfold fAccR at q
        rw [decide_eq_true_eq] at q
        exact decide_eq_true q.1
      rw [if_pos q, if_pos q2]
      omega
    · rw [if_neg q]
      split <;> omega
  exact key n h (Int.le_refl _)
def c_accuracy (G : Gm) (w : Int) : Int := if 0 ≤ w ∧ w ≤ G 4 - 1 then 0 else 1
def v_accuracy (G : Gm) (w : Int) : UInt32 := if 0 ≤ w ∧ w ≤ G 4 - 1 then (if (cntI (fAccM G w) (G 5)) = 0 then FP.fconst0 else FP.fdiv (FP.i2f (Int32.ofInt (cntI (fAccR G w) (G 5)))) (FP.i2f (Int32.ofInt (cntI (fAccM G w) (G 5))))) else FP.fconst0
def c_meanTrust (G : Gm) : Int := 0
def v_meanTrust (G : Gm) : UInt64 := if G 4 = 0 then FP.dconst0 else FP.ddiv (FP.i2d (Int32.ofInt (sumI (fun w => (G (6 + 9 * w + 3).toNat)) (G 4)))) (FP.i2d (Int32.ofInt (G 4)))
def fRow1 (g : Gm) (size : Int) : Gm := gU (gU (gU (cpG (gU g 5 (g 5 + 1)) (132 + 16 * g 5) (fun _ => 0) 0 16) (132 + 16 * g 5 + 0) size) (132 + 16 * g 5 + 2) (-1)) (132 + 16 * g 5 + 3) (-1)
def fRows (g : Gm) (many size : Int) : Gm := foldI (fun _ g => fRow1 g size) g many
theorem fRow1_5 {g : Gm} {size : Int} (h : 0 ≤ g 5) : fRow1 g size 5 = g 5 + 1 := by
  unfold fRow1
  rw [gU_n _ (by omega), gU_n _ (by omega), gU_n _ (by omega), cp_out _ _ _ _ _ (by omega)]
  exact gU_s g 5 (g 5 + 1)
theorem fRows_5 {g : Gm} {size : Int} (h : 0 ≤ g 5) : ∀ i, 0 ≤ i → i ≤ 24 → fRows g i size 5 = g 5 + i := by
  refine zup (n := 24) (fun i => fRows g i size 5 = g 5 + i) (Int.add_zero _).symm (fun i h0 h1 ih => ?_)
  show (foldI (fun _ g => fRow1 g size) g (i + 1)) 5 = g 5 + (i + 1)
  rw [foldI_s h0]
  have ih' : foldI (fun _ g => fRow1 g size) g i 5 = g 5 + i := ih
  rw [fRow1_5 (by rw [ih']; omega), ih']
  omega
def c_addRows (G : Gm) (many size : Int) : Int := if (1 ≤ many ∧ many ≤ 24) ∧ (1 ≤ size ∧ size ≤ 9) then (if G 5 + many ≤ 24 then 0 else 2) else 1
def v_addRows (G : Gm) (many size : Int) : Int := G 5
def F_addRows (G : Gm) (many size : Int) : Gm := fRows G many size
theorem gU_hi {g : Gm} {i v : Int} {k : Nat} (hk : 516 ≤ k) (h : i < 516) : gU g i v k = g k := gU_n _ (by omega)
theorem fFin_hi {g : Gm} {r p q : Int} {k : Nat} (hk : 516 ≤ k) (h0 : 0 ≤ r ∧ r < 24) (h2 : hidP (0 ≤ (g (132 + 16 * r + (7 + 3 * p + 0)).toNat) ∧ (g (132 + 16 * r + (7 + 3 * p + 0)).toNat) < 6)) (h3 : hidP (0 ≤ (g (132 + 16 * r + (7 + 3 * q + 0)).toNat) ∧ (g (132 + 16 * r + (7 + 3 * q + 0)).toNat) < 6)) : fFin g r p q k = g k := by
  have e2 := hidP_u h2
  have e3 := hidP_u h3
  exact fFin_n g h0 (by omega) (by omega) (by omega)
theorem fCmp_hi {g : Gm} {r : Int} {k : Nat} (hk : 516 ≤ k) (h : DB g r 2) : fCmp g r k = g k := by
  have w0 := (h.2.2.2.1 0 (by omega) (by omega)).1
  have w1 := (h.2.2.2.1 1 (by omega) (by omega)).1
  unfold fCmp
  split
  · exact fFin_hi hk h.1 w0 w1
  · exact gU_hi hk (by have := h.1; omega)
theorem fDec_hi {g : Gm} {r : Int} {k : Nat} (hk : 516 ≤ k) (h : DB g r 3) : fDec g r k = g k := by
  have w0 := (h.2.2.2.1 0 (by omega) (by omega)).1
  have w1 := (h.2.2.2.1 1 (by omega) (by omega)).1
  have w2 := (h.2.2.2.1 2 (by omega) (by omega)).1
  have hn : fNear g r = 0 ∨ fNear g r = 1 := by unfold fNear; split <;> omega
  have hr := h.1
  unfold fDec fAside
  rcases hn with hn | hn <;> rw [hn]
  · split
    · rw [gU_hi hk (by omega), gU_hi hk (by omega), gU_hi hk (by omega), gU_hi hk (by omega)]
    · split
      · rw [gU_hi hk (by simp only [Int.sub_zero]; omega)]; exact fFin_hi hk hr w0 w2
      · exact fFin_hi hk hr w0 w2
  · split
    · rw [gU_hi hk (by omega), gU_hi hk (by omega), gU_hi hk (by omega), gU_hi hk (by omega)]
    · split
      · rw [gU_hi hk (by simp only [Int.sub_self]; omega)]; exact fFin_hi hk hr w1 w2
      · exact fFin_hi hk hr w1 w2
theorem fDel_DB {G : Gm} {w r x : Int} (hG : GI G) (hV : GV G) (hX : GX G) (hw : 0 ≤ w ∧ w < G 4) (hr : 0 ≤ r ∧ r < G 5) (hx : 0 ≤ x ∧ x ≤ 99) (ht : fTakingOf G w r ≠ -1) {n : Int} (hn : n ≤ 3) (h : fHave (fDel1 G w r x) r n = true) : DB (fDel1 G w r x) r n := by
  have hRr := hG.2.2 r hr.1 hr.2
  have hw5 := hG.1
  have hr5 := hG.2.1
  have htk := fTakingOf_r G w r hRr.2.1.1
  have hm := hRr.2.1
  have e6 : fDel1 G w r x (132 + 16 * r + 6).toNat = (G (132 + 16 * r + 6).toNat) := (gU_n _ (by omega)).trans (gU_n _ (by omega))
  have hc := (fHave_c (by rw [e6]; exact hm.1) h).1
  rw [e6] at hc
  exact ((DB.of hG hV hX hr (by omega)).w1 hn (by omega) hx).w2 hn (by omega)
theorem fDel_hi {G : Gm} {w r x : Int} (hG : GI G) (hV : GV G) (hX : GX G) (hw : 0 ≤ w ∧ w < G 4) (hr : 0 ≤ r ∧ r < G 5) (hx : 0 ≤ x ∧ x ≤ 99) (ht : fTakingOf G w r ≠ -1) {k : Nat} (hk : 516 ≤ k) : fDel G w r x k = G k := by
  have hRr := hG.2.2 r hr.1 hr.2
  have hw5 := hG.1
  have hr5 := hG.2.1
  have htk := fTakingOf_r G w r hRr.2.1.1
  have hm := hRr.2.1
  have h1 : fDel1 G w r x k = G k := by
    unfold fDel1
    rw [gU_hi hk (by omega), gU_hi hk (by omega)]
  unfold fDel fDel2
  split
  · next q => rw [fCmp_hi hk (fDel_DB hG hV hX hw hr hx ht (by decide) q.2)]; exact h1
  · split
    · next q => rw [fDec_hi hk (fDel_DB hG hV hX hw hr hx ht (by decide) q.2)]; exact h1
    · exact h1
theorem cp_00 (old new : Gm) {j : Nat} (hj : j < 516) : cpG old 0 new 0 516 j = new j := (cp_in _ _ _ _ _ (by omega)).trans (by rw [show (0 + ((j : Int) - 0)).toNat = j by omega])
theorem sWith {M : ZM} {X D : Gm} (hX : ∀ j : Nat, j < 516 → X j = zI M 671 j) (hD : ∀ j : Nat, 516 ≤ j → D j = zI M 671 j) : zsA (zsA M 673 X) 671 (cpG D 0 (zI (zsA M 673 X) 673) 0 516) = zsA M 673 X := by
  have e : cpG D 0 (zI (zsA M 673 X) 673) 0 516 = zI (zsA M 673 X) 671 := by
    rw [zI_A, zI_An _ _ (by decide)]
    refine funext (fun y => ?_)
    by_cases q : y < 516
    · rw [cp_in _ _ _ _ _ (by omega), ← hX y q]
      congr 1
      omega
    · rw [cp_out _ _ _ _ _ (by omega)]
      exact hD y (by omega)
  exact (zsA_re e.symm).symm
def SYa (j : Nat) : Prop := j = 670 ∨ j = 673
def c_stateIf (G : Gm) (w r x : Int) : Int := if (0 ≤ w ∧ w ≤ G 4 - 1) ∧ (0 ≤ r ∧ r ≤ G 5 - 1) then (if 0 ≤ x ∧ x ≤ 99 then (if fWorksAt G w r = true then 0 else 3) else 2) else 1
def v_stateIf (G : Gm) (w r x : Int) : Int := ((fDel G w r x) (132 + 16 * r + 1).toNat)
def c_trustIf (G : Gm) (w r x o : Int) : Int := if (0 ≤ w ∧ w ≤ G 4 - 1) ∧ (0 ≤ r ∧ r ≤ G 5 - 1) ∧ (0 ≤ o ∧ o ≤ G 4 - 1) then (if 0 ≤ x ∧ x ≤ 99 then (if fWorksAt G w r = true then 0 else 3) else 2) else 1
def v_trustIf (G : Gm) (w r x o : Int) : Int := ((fDel G w r x) (6 + 9 * o + 3).toNat)
def c_finishing (G : Gm) (w r : Int) : Int := if (0 ≤ w ∧ w ≤ G 4 - 1) ∧ (0 ≤ r ∧ r ≤ G 5 - 1) then (if fWorksAt G w r = true then 0 else 2) else 1
def v_finishing (G : Gm) (w r : Int) : Int := cntI (fun x => decide (((fDel G w r x) (132 + 16 * r + 1).toNat) = 2)) 100
