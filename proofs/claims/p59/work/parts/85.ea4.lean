theorem RP.val {M : ZM} {B : Gm} {n lo hi : Int} {e : E3} (h : RP M B n (eLook B n lo hi e)) (h0 : (eLook B n lo hi e).1 = 0) (hh : hi ≤ 9999) : zI M 670 11 = tkV B e.2.2 (tkE B n e.2.2) := by
  obtain ⟨a1, a2, a3, a4⟩ := eLook_v h0
  rw [a4] at h
  have h9 := h.2.2.1.2.2.2.1 a2
  rw [h9]
  exact (min9_r _).1 (by omega)
