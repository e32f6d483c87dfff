def tkPc (G : Gm) (r k : Int) : List Nat := [(dgn (G (6 + 9 * (G (132 + 16 * r + (7 + 3 * k + 0)).toNat) + 0).toNat)).length, 1, (dig (if (G (132 + 16 * r + (7 + 3 * k + 1)).toNat) = -1 then (G (132 + 16 * r + (7 + 3 * k + 2)).toNat) else (G (132 + 16 * r + (7 + 3 * k + 1)).toNat))).length]
def wkPc (G : Gm) (w : Int) : List Nat := if (G (6 + 9 * w + 3).toNat) < G 2 then [(dgn (G (6 + 9 * w + 0).toNat)).length, 1, (dig (G (6 + 9 * w + 3).toNat)).length, 1, 1, (dig (G (6 + 9 * w + 8).toNat)).length] else [(dgn (G (6 + 9 * w + 0).toNat)).length, 1, (dig (G (6 + 9 * w + 3).toNat)).length, 1, (dig (G (6 + 9 * w + 8).toNat)).length]
theorem tkPc_s (G : Gm) (r k : Int) : (tkPc G r k).sum = (tkTx G r k).length ∧ 1 ≤ (tkTx G r k).length ∧ (tkTx G r k).length ≤ 13 := by
  refine ⟨?_, ?_, tkTx_len G r k⟩
  · unfold tkPc tkTx
    split <;> simp only [List.length_append, List.length_singleton, List.sum_cons, List.sum_nil] <;> omega
  · unfold tkTx
    split <;> simp only [List.length_append, List.length_singleton] <;> omega
theorem wkPc_s (G : Gm) (w : Int) : (wkPc G w).sum = (wkTx G w).length ∧ 1 ≤ (wkTx G w).length ∧ (wkTx G w).length ≤ 21 := by
  refine ⟨?_, ?_, wkTx_len G w⟩
  · unfold wkPc wkTx
    split <;> simp only [List.length_append, List.length_singleton, List.length_cons, List.length_nil, List.sum_cons, List.sum_nil] <;> omega
  · unfold wkTx
    split <;> simp only [List.length_append, List.length_singleton, List.length_cons, List.length_nil] <;> omega
theorem nm_out {M : ZM} {s c : Nat} {l o : List Int} (hz : zTx M s l) (hS : SB M 668 c o) : vu M s ≠ vu M 668 := by
  obtain ⟨-, -, v, b3, -, -, b7, -⟩ := hz
  intro e
  refine b7.2 ?_
  rw [hS.r0, ← e]
  unfold vu
  rw [b3]
  rfl
theorem nm_lt {l : List Int} (h : nmOK l) : ∀ k : Nat, k < l.length → 0 ≤ l.getD k 0 ∧ l.getD k 0 < 128 := fun k hk => by
  have h9 := h.2.2 (l.getD k 0) (by rw [List.getD_eq_getElem?_getD, List.getElem?_eq_getElem hk]; exact List.getElem_mem hk)
  omega
