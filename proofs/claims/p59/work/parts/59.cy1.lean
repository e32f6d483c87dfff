def SKp (j : Nat) : Prop := 544 ≤ j ∧ j ≤ 663
def SQ (M : ZM) (Q : Int → Gm) (b : Int → Int) : Prop := ∀ s : Int, 0 ≤ s → s < 2 → zI M 663 s.toNat = b s ∧ (b s = 0 ∨ b s = 1) ∧ (b s ≠ 0 → TR M (545 + 59 * s.toNat) (Q s) ∧ GI (Q s))
theorem SQ.fr {S : Nat → Prop} {M M' : ZM} {Q : Int → Gm} {b : Int → Int} (h : SQ M Q b) (hL : LV M) (f : Fr S M M') (hs : ∀ j, 544 ≤ j → j ≤ 663 → ¬ S j) : SQ M' Q b := by
  intro s s0 s1
  obtain ⟨h1, h2, h3⟩ := h s s0 s1
  refine ⟨by rw [f.i hL.a_filled (hs _ (by omega) (by omega))]; exact h1, h2, fun q => ?_⟩
  have h4 := h3 q
  exact ⟨h4.1.fr9 (hL.sl s0 s1).2 f h4.2 (fun j j0 j1 => hs j (by omega) (by omega)), h4.2⟩
theorem SQ.put {M M1 M' : ZM} {Q : Int → Gm} {b : Int → Int} {G : Gm} {s : Int} (h : SQ M Q b) (hL : LV M) (hG : GI G) (hs : 0 ≤ s ∧ s < 2) (f : Fr (STb (545 + 59 * s.toNat)) M M1) (hT : TR M1 (545 + 59 * s.toNat) G) (f2 : Fr (fun j => j = 663) M1 M') (e0 : zI M' 663 s.toNat = 1) (e1 : ∀ k, k ≠ s.toNat → zI M' 663 k = zI M1 663 k) : SQ M' (fun z => if z = s then G else Q z) (fun z => if z = s then 1 else b z) := by
  have hL1 := hL.fr f
  have e2 : zI M1 663 = zI M 663 := f.i hL.a_filled (by unfold STb; omega)
  intro z z0 z1
  show zI M' 663 z.toNat = (if z = s then 1 else b z) ∧ ((if z = s then 1 else b z) = 0 ∨ (if z = s then 1 else b z) = 1) ∧ ((if z = s then 1 else b z) ≠ 0 → TR M' (545 + 59 * z.toNat) (if z = s then G else Q z) ∧ GI (if z = s then G else Q z))
  by_cases q : z = s
  · subst q
    rw [if_pos rfl, if_pos rfl]
    exact ⟨e0, Or.inr rfl, fun _ => ⟨hT.fr9 (hL1.sl z0 z1).2 f2 hG (fun j j0 j1 => by omega), hG⟩⟩
  · rw [if_neg q, if_neg q]
    obtain ⟨h1, h2, h3⟩ := h z z0 z1
    refine ⟨by rw [e1 _ (by omega), e2]; exact h1, h2, fun u => ?_⟩
    have h4 := h3 u
    exact ⟨(h4.1.fr9 (hL.sl z0 z1).2 f h4.2 (fun j j0 j1 => by unfold STb; omega)).fr9 (hL1.sl z0 z1).2 f2 h4.2 (fun j j0 j1 => by omega), h4.2⟩
