def wgap : List Int → List Int
  | [] => []
  | x :: l => (x :: l) ++ [32]
theorem wgap_len (o : List Int) : (wgap o).length ≤ o.length + 1 := by
  cases o with
  | nil => exact Nat.le_succ _
  | cons x l => unfold wgap; rw [List.length_append, List.length_singleton]; exact Nat.le_refl _
/-- the digits of v to a base, from the place j down -/
def dgs (b off v : Int) : Nat → List Int
  | 0 => [off + v % b]
  | j + 1 => (off + v / b ^ (j + 1) % b) :: dgs b off v j
theorem dgs_len (b off v : Int) : ∀ j : Nat, (dgs b off v j).length = j + 1
  | 0 => rfl
  | j + 1 => by rw [dgs, List.length_cons, dgs_len b off v j]
/-- the greatest place, of at most f -/
def dlen (b v : Int) : Nat → Nat
  | 0 => 0
  | f + 1 => if v < b then 0 else dlen b (v / b) f + 1
def dig (v : Int) : List Int := dgs 10 48 v (dlen 10 v 5)
def dgn (v : Int) : List Int := dgs 27 96 v (dlen 27 v 5)
theorem dlen_le (b : Int) : ∀ (f : Nat) (v : Int), dlen b v f ≤ f
  | 0, _ => Nat.le_refl _
  | f + 1, v => by
    unfold dlen
    split
    · omega
    · have := dlen_le b f (v / b)
      omega
theorem dig_len (v : Int) : (dig v).length ≤ 6 := by
  unfold dig
  rw [dgs_len]
  have := dlen_le 10 5 v
  omega
theorem dgn_len (v : Int) : (dgn v).length ≤ 6 := by
  unfold dgn
  rw [dgs_len]
  have := dlen_le 27 5 v
  omega
theorem zi2b_f : ∀ q : Fin 128, zi2b (q.val : Int) = (q.val : Int) := by decide +kernel
theorem zi2b_id {c : Int} (h : 0 ≤ c ∧ c < 128) : zi2b c = c := by
  have h9 := zi2b_f ⟨c.toNat, by omega⟩
  rw [show (((⟨c.toNat, by omega⟩ : Fin 128).val : Nat) : Int) = c by show ((c.toNat : Nat) : Int) = c; omega] at h9
  exact h9
def rowTx (G : Gm) (i : Int) : List Int := if (G (132 + 16 * i + 1).toNat) = 0 then [111] else if (G (132 + 16 * i + 1).toNat) = 1 then [100] else if (G (132 + 16 * i + 1).toNat) = 2 then (if (G (132 + 16 * i + 3).toNat) = -1 then [102] ++ dig (G (132 + 16 * i + 2).toNat) else [102] ++ dig (G (132 + 16 * i + 2).toNat) ++ [42]) else [97]
def tkTx (G : Gm) (r k : Int) : List Int := dgn (G (6 + 9 * (G (132 + 16 * r + (7 + 3 * k + 0)).toNat) + 0).toNat) ++ (if (G (132 + 16 * r + (7 + 3 * k + 1)).toNat) = -1 then [64] ++ dig (G (132 + 16 * r + (7 + 3 * k + 2)).toNat) else [61] ++ dig (G (132 + 16 * r + (7 + 3 * k + 1)).toNat))
def wkTx (G : Gm) (w : Int) : List Int := dgn (G (6 + 9 * w + 0).toNat) ++ [58] ++ dig (G (6 + 9 * w + 3).toNat) ++ (if (G (6 + 9 * w + 3).toNat) < G 2 then [33, 47] else [47]) ++ dig (G (6 + 9 * w + 8).toNat)
def txs (f : Int → List Int) (n : Int) : List Int := foldI (fun i o => wgap o ++ f i) [] n
theorem txs_s {f : Int → List Int} {n : Int} (h : 0 ≤ n) : txs f (n + 1) = wgap (txs f n) ++ f n := foldI_s h
theorem tkTx_len (G : Gm) (r i : Int) : (tkTx G r i).length ≤ 13 := by
  unfold tkTx
  have h0 := dgn_len (G (6 + 9 * (G (132 + 16 * r + (7 + 3 * i + 0)).toNat) + 0).toNat)
  have h1 := dig_len (G (132 + 16 * r + (7 + 3 * i + 2)).toNat)
  have h2 := dig_len (G (132 + 16 * r + (7 + 3 * i + 1)).toNat)
  split
  all_goals (simp only [List.length_append, List.length_singleton]; omega)
theorem wkTx_len (G : Gm) (w : Int) : (wkTx G w).length ≤ 21 := by
  unfold wkTx
  have h0 := dgn_len (G (6 + 9 * w + 0).toNat)
  have h1 := dig_len (G (6 + 9 * w + 3).toNat)
  have h2 := dig_len (G (6 + 9 * w + 8).toNat)
  split
  all_goals (simp only [List.length_append, List.length_singleton, List.length_cons, List.length_nil]; omega)
/-- the names -/
def GNm (G : Gm) : Prop := ∀ w : Int, 0 ≤ w → w < G 4 → (G (6 + 9 * w + 0).toNat) < 387420489
