def S3m (j : Nat) : Prop := j = 670 ∨ j = 675 ∨ j = 676
def XM (M M' : ZM) : Prop := Fr S3m M M' ∧ (∀ f : Nat, f ≠ 0 → zI M' 670 f = zI M 670 f) ∧ zI M' 670 0 = 0
theorem XM.z {M : ZM} (hY : LY M) : XM M (zsI M 670 0 0) := ⟨Fr_I hY.w (by decide) (by decide) (Or.inl rfl), fun f hf => zI_Im _ _ _ hf, zI_Is _ _ _ _⟩
theorem KI.r {p : Int → Int → Bool} {n R i c : Int} {H : Gm} (h : KI p n R i c H) (i0 : 0 ≤ i) : 0 ≤ c ∧ c ≤ i := by
  obtain ⟨-, D, U, -, h2, -⟩ := h
  have := cntI_r U i i0
  omega
