/-! the law: helpers -/
theorem zand_p (x : Int) : 0 ≤ zand x 2147483647 := by
  unfold zand
  show 0 ≤ ((Int32.ofInt x).toBitVec &&& (Int32.ofInt 2147483647).toBitVec).toInt
  have h : ((Int32.ofInt x).toBitVec &&& (Int32.ofInt 2147483647).toBitVec).msb = false := by
    rw [BitVec.msb_and, show (Int32.ofInt 2147483647).toBitVec.msb = false by decide, Bool.and_false]
  rw [BitVec.toInt_eq_msb_cond, h, if_neg (by decide)]
  omega
theorem fndI_eq {p : Int → Bool} {n i : Int} (h0 : 0 ≤ i) (h1 : i < n) (hp : p i = true) (hm : ∀ j, 0 ≤ j → j < i → p j = false) : fndI p n = i := by
  rcases fndI_r p (n := n) (by omega) with h | h
  · exact absurd (h.2 i h0 h1) (by rw [hp]; decide)
  · obtain ⟨a, b, c, d⟩ := h
    by_cases z : fndI p n < i
    · exact absurd (hm _ a z) (by rw [c]; decide)
    · by_cases z2 : i < fndI p n
      · exact absurd (d i h0 z2) (by rw [hp]; decide)
      · omega
theorem upd_lt {P : Int → Prop} {i : Int} (h : ∀ w, 0 ≤ w → w < i → P w) (hi : P i) : ∀ w, 0 ≤ w → w < i + 1 → P w := fun w w0 w1 => by
  by_cases e : w = i
  · rw [e]; exact hi
  · exact h w w0 (by omega)
theorem upd_st {f g : Int → Int} {i v : Int} (h : ∀ w, 0 ≤ w → w < i → f w = g w) (hi : v = g i) : ∀ w, 0 ≤ w → w < i + 1 → aSt f i v w = g w := fun w w0 w1 => by
  by_cases e : w = i
  · rw [e, aSt_s]; exact hi
  · rw [aSt_n e]; exact h w w0 (by omega)
