def ROut (M : ZM) (o : List Int) : Prop := zI M 670 21 = (o.length : Int) ∧ o.length ≤ 400 ∧ ∀ (k : Nat) (x : Int), o[k]? = some x → zI M 680 k = x
def SOut (j : Nat) : Prop := j = 670 ∨ j = 680
/-- M0 with o written -/
def OB (M0 M : ZM) (o : List Int) : Prop := Fr SOut M0 M ∧ (∀ f, f ≠ 21 → zI M 670 f = zI M0 670 f) ∧ ROut M o
def wgap : List Int → List Int
  | [] => []
  | x :: l => (x :: l) ++ [32]
theorem wgap_len (o : List Int) : (wgap o).length ≤ o.length + 1 := by
  cases o with
  | nil => exact Nat.le_succ _
  | cons x l => unfold wgap; rw [List.length_append, List.length_singleton]; exact Nat.le_refl _
/-- the digits of v to a base, from the place j down -/
def dgs (b off v : Int) : Nat → List Int
  | 0 => [off + v % b]
  | j + 1 => (off + v / b ^ (j + 1) % b) :: dgs b off v j
theorem dgs_len (b off v : Int) : ∀ j : Nat, (dgs b off v j).length = j + 1
  | 0 => rfl
  | j + 1 => by rw [dgs, List.length_cons, dgs_len b off v j]
/-- the greatest place, of at most f -/
def dlen (b v : Int) : Nat → Nat
  | 0 => 0
  | f + 1 => if v < b then 0 else dlen b (v / b) f + 1
def dig (v : Int) : List Int := dgs 10 48 v (dlen 10 v 5)
def dgn (v : Int) : List Int := dgs 27 96 v (dlen 27 v 5)
theorem dlen_le (b : Int) : ∀ (f : Nat) (v : Int), dlen b v f ≤ f
  | 0, _ => Nat.le_refl _
  | f + 1, v => by
    unfold dlen
    split
    · omega
    · have := dlen_le b f (v / b)
      omega
theorem dig_len (v : Int) : (dig v).length ≤ 6 := by
  unfold dig
  rw [dgs_len]
  have := dlen_le 10 5 v
  omega
theorem dgn_len (v : Int) : (dgn v).length ≤ 6 := by
  unfold dgn
  rw [dgs_len]
  have := dlen_le 27 5 v
  omega
theorem zi2b_f : ∀ q : Fin 128, zi2b (q.val : Int) = (q.val : Int) := by decide +kernel
theorem zi2b_id {c : Int} (h : 0 ≤ c ∧ c < 128) : zi2b c = c := by
  have h9 := zi2b_f ⟨c.toNat, by omega⟩
  rw [show (((⟨c.toNat, by omega⟩ : Fin 128).val : Nat) : Int) = c by show ((c.toNat : Nat) : Int) = c; omega] at h9
  exact h9
theorem OB.put {M0 M : ZM} {o : List Int} {c : Int} (hY : LY M0) (h : OB M0 M o) (hl : o.length < 400) (hc : 0 ≤ c ∧ c < 128) : OB M0 (zsI (zsA M 680 (gU (zI M 680) (o.length : Int) (zi2b c))) 670 21 ((o.length : Int) + 1)) (o ++ [c]) := by
  obtain ⟨h1, h2, h3, h4, h5⟩ := h
  have hY1 := hY.fr h1
  have f1 : Fr SOut M (zsA M 680 (gU (zI M 680) (o.length : Int) (zi2b c))) := Fr_Ab hY1.a20 (by decide) (Or.inr rfl)
  have f2 : Fr SOut (zsA M 680 (gU (zI M 680) (o.length : Int) (zi2b c))) (zsI (zsA M 680 (gU (zI M 680) (o.length : Int) (zi2b c))) 670 21 ((o.length : Int) + 1)) := Fr_I (hY1.fr f1).w (by decide) (by decide) (Or.inl rfl)
  refine ⟨(h1.tr f1).tr f2, fun f hf => ?_, ?_, ?_, fun k x hx => ?_⟩
  · rw [zI_Im _ _ _ hf, zI_An _ _ (by decide)]
    exact h2 f hf
  · rw [zI_Is, List.length_append, List.length_singleton]
    omega
  · rw [List.length_append, List.length_singleton]
    omega
  · rw [zI_In _ _ _ (by decide), zI_A]
    by_cases e : k < o.length
    · rw [List.getElem?_append_left e] at hx
      rw [gU_n _ (by omega)]
      exact h5 k x hx
    · have hk := (List.getElem?_eq_some_iff.mp hx).1
      rw [List.length_append, List.length_singleton] at hk
      have ek : k = o.length := by omega
      subst ek
      rw [List.getElem?_append_right (Nat.le_refl _), Nat.sub_self] at hx
      have e2 : c = x := Option.some.inj hx
      rw [← e2]
      have h9 := gU_s (zI M 680) (o.length : Int) (zi2b c)
      rw [Int.toNat_natCast] at h9
      rw [h9]
      exact zi2b_id hc
theorem dlen_s {b v : Int} {f : Nat} (hb : 1 < b) (hv : 0 ≤ v) (h : v < b ^ (f + 1)) : v / b ^ dlen b v f < b ∧ ∀ j : Nat, j < dlen b v f → b ≤ v / b ^ j := by
  induction f generalizing v with
  | zero =>
    refine ⟨?_, fun j hj => absurd hj (Nat.not_lt_zero _)⟩
    rw [show dlen b v 0 = 0 from rfl, Int.pow_zero, Int.ediv_one]
    rw [Int.pow_succ, Int.pow_zero, Int.one_mul] at h
    exact h
  | succ f ih =>
    unfold dlen
    by_cases q : v < b
    · rw [if_pos q]
      refine ⟨by rw [Int.pow_zero, Int.ediv_one]; exact q, fun j hj => absurd hj (Nat.not_lt_zero _)⟩
    · rw [if_neg q]
      have hq0 : 0 ≤ v / b := Int.ediv_nonneg hv (by omega)
      have hlt : v / b < b ^ (f + 1) := Int.ediv_lt_of_lt_mul (by omega) (by rw [← Int.pow_succ]; exact h)
      obtain ⟨h1, h2⟩ := ih hq0 hlt
      have hdd : ∀ j : Nat, v / b ^ (j + 1) = v / b / b ^ j := fun j => by
        rw [Int.pow_succ, Int.mul_comm, Int.ediv_ediv_of_nonneg (by omega)]
      refine ⟨by rw [hdd]; exact h1, fun j hj => ?_⟩
      cases j with
      | zero => rw [Int.pow_zero, Int.ediv_one]; omega
      | succ j => rw [hdd]; exact h2 j (by omega)
theorem pw_pos {b : Int} (hb : 1 < b) (j : Nat) : 0 < b ^ j := Int.pow_pos (by omega)
theorem tdz {v b : Int} (h : 0 ≤ v) : Int.tdiv v b = v / b := Int.tdiv_eq_ediv_of_nonneg h
theorem tmz {v b : Int} (h : 0 ≤ v) : Int.tmod v b = v % b := Int.tmod_eq_emod_of_nonneg h
theorem p10_le {j : Nat} (h : j ≤ 5) : 1 ≤ (10 : Int) ^ j ∧ (10 : Int) ^ j ≤ 100000 := by
  have hh : ∀ q : Fin 6, 1 ≤ (10 : Int) ^ q.val ∧ (10 : Int) ^ q.val ≤ 100000 := by decide
  exact hh ⟨j, by omega⟩
theorem p27_5 {j : Nat} (h : j ≤ 5) : 1 ≤ (27 : Int) ^ j ∧ (27 : Int) ^ j ≤ 14348907 := by
  have hh : ∀ q : Fin 6, 1 ≤ (27 : Int) ^ q.val ∧ (27 : Int) ^ q.val ≤ 14348907 := by decide
  exact hh ⟨j, by omega⟩
theorem p10_4 {j : Nat} (h : j ≤ 4) : 1 ≤ (10 : Int) ^ j ∧ (10 : Int) ^ j ≤ 10000 := by
  have hh : ∀ q : Fin 5, 1 ≤ (10 : Int) ^ q.val ∧ (10 : Int) ^ q.val ≤ 10000 := by decide
  exact hh ⟨j, by omega⟩
theorem p27_4 {j : Nat} (h : j ≤ 4) : 1 ≤ (27 : Int) ^ j ∧ (27 : Int) ^ j ≤ 531441 := by
  have hh : ∀ q : Fin 5, 1 ≤ (27 : Int) ^ q.val ∧ (27 : Int) ^ q.val ≤ 531441 := by decide
  exact hh ⟨j, by omega⟩
def rowTx (G : Gm) (i : Int) : List Int := if (G (132 + 16 * i + 1).toNat) = 0 then [111] else if (G (132 + 16 * i + 1).toNat) = 1 then [100] else if (G (132 + 16 * i + 1).toNat) = 2 then (if (G (132 + 16 * i + 3).toNat) = -1 then [102] ++ dig (G (132 + 16 * i + 2).toNat) else [102] ++ dig (G (132 + 16 * i + 2).toNat) ++ [42]) else [97]
def tkTx (G : Gm) (r k : Int) : List Int := dgn (G (6 + 9 * (G (132 + 16 * r + (7 + 3 * k + 0)).toNat) + 0).toNat) ++ (if (G (132 + 16 * r + (7 + 3 * k + 1)).toNat) = -1 then [64] ++ dig (G (132 + 16 * r + (7 + 3 * k + 2)).toNat) else [61] ++ dig (G (132 + 16 * r + (7 + 3 * k + 1)).toNat))
def wkTx (G : Gm) (w : Int) : List Int := dgn (G (6 + 9 * w + 0).toNat) ++ [58] ++ dig (G (6 + 9 * w + 3).toNat) ++ (if (G (6 + 9 * w + 3).toNat) < G 2 then [33, 47] else [47]) ++ dig (G (6 + 9 * w + 8).toNat)
def txs (f : Int → List Int) (n : Int) : List Int := foldI (fun i o => wgap o ++ f i) [] n
theorem txs_s {f : Int → List Int} {n : Int} (h : 0 ≤ n) : txs f (n + 1) = wgap (txs f n) ++ f n := foldI_s h
theorem txs_0 {f : Int → List Int} : txs f 0 = [] := rfl
theorem txs_len {f : Int → List Int} (B : Nat) (hB : ∀ i, (f i).length ≤ B) : ∀ j : Nat, (txs f (j : Int)).length ≤ j * (B + 1) := by
  intro j
  induction j with
  | zero => exact Nat.le_of_eq (by rw [Nat.zero_mul]; rfl)
  | succ j ih =>
    rw [show ((j + 1 : Nat) : Int) = (j : Int) + 1 by omega, txs_s (by omega), List.length_append]
    have h1 := wgap_len (txs f (j : Int))
    have h2 := hB (j : Int)
    have h3 : (j + 1) * (B + 1) = j * (B + 1) + (B + 1) := Nat.succ_mul _ _
    omega
theorem rowTx_len (G : Gm) (i : Int) : (rowTx G i).length ≤ 8 := by
  unfold rowTx
  have h1 := dig_len (G (132 + 16 * i + 2).toNat)
  repeat' split
  all_goals (simp only [List.length_append, List.length_singleton]; omega)
theorem tkTx_len (G : Gm) (r i : Int) : (tkTx G r i).length ≤ 13 := by
  unfold tkTx
  have h0 := dgn_len (G (6 + 9 * (G (132 + 16 * r + (7 + 3 * i + 0)).toNat) + 0).toNat)
  have h1 := dig_len (G (132 + 16 * r + (7 + 3 * i + 2)).toNat)
  have h2 := dig_len (G (132 + 16 * r + (7 + 3 * i + 1)).toNat)
  split
  all_goals (simp only [List.length_append, List.length_singleton]; omega)
theorem wkTx_len (G : Gm) (w : Int) : (wkTx G w).length ≤ 21 := by
  unfold wkTx
  have h0 := dgn_len (G (6 + 9 * w + 0).toNat)
  have h1 := dig_len (G (6 + 9 * w + 3).toNat)
  have h2 := dig_len (G (6 + 9 * w + 8).toNat)
  split
  all_goals (simp only [List.length_append, List.length_singleton, List.length_cons, List.length_nil]; omega)
/-- the names -/
def GNm (G : Gm) : Prop := ∀ w : Int, 0 ≤ w → w < G 4 → (G (6 + 9 * w + 0).toNat) < 387420489
