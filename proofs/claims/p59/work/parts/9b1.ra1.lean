theorem KI.r {p : Int → Int → Bool} {n R i c : Int} {H : Gm} (h : KI p n R i c H) (i0 : 0 ≤ i) : 0 ≤ c ∧ c ≤ i := by
  obtain ⟨-, D, U, -, h2, -⟩ := h
  have := cntI_r U i i0
  omega
