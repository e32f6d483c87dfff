theorem RP.val {M : ZM} {B : Gm} {n lo hi : Int} {e : E3} (h : RP M B n (eLook B n lo hi e)) (h0 : (eLook B n lo hi e).1 = 0) (hh : hi ≤ 9999) : zI M 670 11 = tkV B e.2.2 (tkE B n e.2.2) := by
  obtain ⟨a1, a2, a3, a4⟩ := eLook_v h0
  rw [a4] at h
  have h9 := h.2.2.1.2.2.2.1 a2
  rw [h9]
  exact (min9_r _).1 (by omega)
theorem fNm_BB {B F : Gm} {a e : Int} (hF : ∀ k : Int, a ≤ k → k < e → F k.toNat = sgn (B k.toNat) ∧ 0 ≤ B k.toNat ∧ B k.toNat < 256) (hl : ∀ k : Int, a ≤ k → k < e → 97 ≤ B k.toNat ∧ B k.toNat ≤ 122) (ha : 0 ≤ a) : fNmF F a e = fNmF B a e := by
  unfold fNmF foldF
  refine foldI_c (fun k x k0 k1 => ?_)
  have h1 := hF (a + k) (by omega) (by omega)
  have h2 := hl (a + k) (by omega) (by omega)
  have h3 : F (a + k).toNat = B (a + k).toNat := by
    rw [h1.1]
    exact if_pos (by omega)
  show 27 * x + F (a + k).toNat - 96 = 27 * x + B (a + k).toNat - 96
  rw [h3]
theorem let_S {M : ZM} {B : Gm} {n : Int} {e : E3} (h : RTx M B n) (hok : 0 ≤ e.2.2 ∧ e.2.2 ≤ n) (hk : tkK B n e.2.2 = 0) : ∀ k : Int, e.2.2 ≤ k → k < tkE B n e.2.2 → 97 ≤ zI M 674 k.toNat ∧ zI M 674 k.toNat ≤ 122 := fun k k0 k1 => by
  have h1 := tk_let hok.2 hk k k0 k1
  have h2 := (tkE_r B hok.2).2.1
  have h3 := h.2.2 k.toNat (by omega)
  rw [h3.1]
  unfold sgn
  rw [if_pos (by omega)]
  exact h1
