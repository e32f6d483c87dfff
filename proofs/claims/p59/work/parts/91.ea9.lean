theorem GI_Z : GI gZ := ⟨by decide, by decide, fun r r0 r1 => by
  have h9 : r < 0 := r1
  omega⟩
theorem RP.sc {M M' : ZM} {B : Gm} {n : Int} (hX : RTx M B n) (hY : LY M) (hn : 0 ≤ n) (hx : RXn M M') (h12 : zI M' 670 12 = zI M 670 12 ∧ zI M' 670 13 = zI M 670 13) (hk : RTk M' B n (tkS B n 0)) (h0 : zI M 670 12 = 0) (h1 : zI M 670 13 = -1) : RP M' B n ((0, -1, tkS B n 0) : E3) := by
  refine ⟨hX.fr hY hx, ⟨h12.1.trans h0, h12.2.trans h1⟩, hk, ?_⟩
  have h9 := tkS_r B hn
  exact h9
theorem KC_sw {M : ZM} {v : Option Nat} (h : KC M) (hk : zK M 670 = 12) : KC (zsR M 670 3 v) := by
  obtain ⟨h1, h2, h3⟩ := h
  have key : ∀ s l, zTx M s l → zTx (zsR M 670 3 v) s l := fun s l hz => by
    obtain ⟨b1, b2, u, b3, b4, b5, b7, b6⟩ := hz
    have e1 : s ≠ 670 := fun e => by have h8 := b1.1; rw [e, hk] at h8; exact absurd h8 (by decide)
    exact ⟨b1, b2, u, (up2_n _ _ _ _ 0 e1).trans b3, b4, b5, ⟨b7.1, fun z => b7.2 (show zR M 668 0 = some u from z)⟩, b6⟩
  refine ⟨fun i hi => ?_, h2, h3⟩
  obtain ⟨b1, b2, b3, b5⟩ := h1 i hi
  exact ⟨key _ _ b1, key _ _ b2, ⟨b3.1, (show zR (zsR M 670 3 v) (1 + i) 0 = zR M (1 + i) 0 from up2_n M.2.2.2.2 670 3 v 0 (show 1 + i ≠ 670 by omega)).trans b3.2⟩, (show zR (zsR M 670 3 v) 12 i = zR M 12 i from up2_n M.2.2.2.2 670 3 v i (show (12 : Nat) ≠ 670 by decide)).trans b5⟩
