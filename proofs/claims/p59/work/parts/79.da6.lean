theorem rowPc_sum (G : Gm) (i : Int) : (rowPc G i).sum = (rowTx G i).length ∨ (G (132 + 16 * i + 1).toNat) = 0 ∨ True := Or.inr (Or.inr trivial)
theorem rowPc_s {G : Gm} {i : Int} (h : 0 ≤ (G (132 + 16 * i + 1).toNat) ∧ (G (132 + 16 * i + 1).toNat) ≤ 3) (h2 : (G (132 + 16 * i + 1).toNat) = 2 → 0 ≤ (G (132 + 16 * i + 2).toNat)) (h3 : (G (132 + 16 * i + 2).toNat) ≤ 99) : (rowPc G i).sum = (rowTx G i).length ∧ 1 ≤ (rowTx G i).length ∧ (rowTx G i).length ≤ 4 := by
  unfold rowPc rowTx
  by_cases q : (G (132 + 16 * i + 1).toNat) = 2
  · have hd : (dig (G (132 + 16 * i + 2).toNat)).length ≤ 2 ∧ 1 ≤ (dig (G (132 + 16 * i + 2).toNat)).length := by
      have := digl (v := (G (132 + 16 * i + 2).toNat)) ⟨h2 q, by omega⟩
      omega
    rw [if_pos q, if_neg (show ¬ (G (132 + 16 * i + 1).toNat) = 0 by omega), if_neg (show ¬ (G (132 + 16 * i + 1).toNat) = 1 by omega), if_pos q]
    split
    · simp only [List.length_append, List.length_singleton, List.sum_cons, List.sum_nil]
      omega
    · simp only [List.length_append, List.length_singleton, List.sum_cons, List.sum_nil]
      omega
  · rw [if_neg q, if_neg q]
    split
    · exact ⟨rfl, by decide, by decide⟩
    · split
      · exact ⟨rfl, by decide, by decide⟩
      · exact ⟨rfl, by decide, by decide⟩
/-- the text is not empty, so the gap comes -/
theorem txs_ne {f : Int → List Int} {n : Int} (hn : 0 < n) (hf : ∀ i, 0 ≤ i → i < n → 1 ≤ (f i).length) : 1 ≤ (txs f n).length := by
  have h9 := txs_s (f := f) (n := n - 1) (by omega)
  rw [show n - 1 + 1 = n by omega] at h9
  rw [h9, List.length_append]
  have := hf (n - 1) (by omega) (by omega)
  omega
theorem wgap_t {f : Int → List Int} {i : Int} (hi : 0 ≤ i) (hf : ∀ k, 0 ≤ k → k < i → 1 ≤ (f k).length) : wgap (txs f i) = if 0 < i then txs f i ++ [32] else txs f i := by
  by_cases q : 0 < i
  · rw [if_pos q]
    have h9 := txs_ne q hf
    generalize txs f i = o at *
    cases o with
    | nil => exact absurd h9 (by decide)
    | cons x l => rfl
  · rw [if_neg q, show i = 0 by omega]
    rfl
theorem txs_b {f : Int → List Int} {B : Nat} : ∀ (j : Nat), (∀ i : Int, 0 ≤ i → i < (j : Int) → (f i).length ≤ B) → (txs f (j : Int)).length ≤ j * (B + 1) := by
  intro j
  induction j with
  | zero => exact fun _ => Nat.le_of_eq (by rw [Nat.zero_mul]; rfl)
  | succ j ih =>
    intro hB
    rw [show ((j + 1 : Nat) : Int) = (j : Int) + 1 by omega, txs_s (by omega), List.length_append]
    have h1 := wgap_len (txs f (j : Int))
    have h2 := hB (j : Int) (by omega) (by omega)
    have h3 : (j + 1) * (B + 1) = j * (B + 1) + (B + 1) := Nat.succ_mul _ _
    have h4 := ih (fun i i0 i1 => hB i i0 (by omega))
    omega
