def nbr (p : Int → Int → Bool) (n : Int) (S : Int → Bool) (r : Int) : Bool := decide (0 < cntI (fun w => S w && p w r) n)
def mv (p : Int → Int → Bool) (n R : Int) (S : Int → Bool) : Int := n - cntI S n + cntI (nbr p n S) R
/-- the rows for the workers of group g below i -/
def GU (p : Int → Int → Bool) (R g i s : Int) : Prop := (0 ≤ s ∧ s < 16777216) ∧ ∀ k, 0 ≤ k → k < 24 → (hasB s k = true ↔ ∃ w, 0 ≤ w ∧ w < i ∧ hasB g w = true ∧ k < R ∧ p w k = true)
theorem GU.n {p : Int → Int → Bool} {R g i s : Int} (h : GU p R g i s) (hb : hasB g i = false) : GU p R g (i + 1) s := by
  refine ⟨h.1, fun k k0 k1 => ⟨fun q => ?_, fun ⟨w, a, b, c, d⟩ => (h.2 k k0 k1).mpr ⟨w, a, ?_, c, d⟩⟩⟩
  · obtain ⟨w, a, b, c⟩ := (h.2 k k0 k1).mp q
    exact ⟨w, a, by omega, c⟩
  · by_cases e : w = i
    · rw [e, hb] at c; exact absurd c (by decide)
    · omega
/-- the groups below g are looked at -/
def GL (p : Int → Int → Bool) (n R g least : Int) : Prop := (0 ≤ least ∧ least ≤ n) ∧ (∃ S, mv p n R S ≤ least) ∧ ∀ g', 0 ≤ g' → g' < g → least ≤ mv p n R (fun w => hasB g' w)
theorem mv_r {p : Int → Int → Bool} {n R : Int} {S : Int → Bool} (hn : 0 ≤ n) (hR : 0 ≤ R) : 0 ≤ mv p n R S ∧ mv p n R S ≤ n + R := by
  have a := cntI_r S n hn
  have b := cntI_r (nbr p n S) R hR
  unfold mv
  omega
theorem GL.s {p : Int → Int → Bool} {n R g least : Int} (h : GL p n R g least) (hn : 0 ≤ n) (hR : 0 ≤ R) : GL p n R (g + 1) (zmin least (mv p n R (fun w => hasB g w))) := by
  obtain ⟨h0, ⟨S, hS⟩, h2⟩ := h
  have hr := mv_r (p := p) (S := fun w => hasB g w) hn hR
  unfold zmin
  split
  · refine ⟨by omega, ⟨_, Int.le_refl _⟩, fun g' a b => ?_⟩
    by_cases e : g' = g
    · rw [e]; exact Int.le_refl _
    · have := h2 g' a (by omega); omega
  · refine ⟨h0, ⟨S, hS⟩, fun g' a b => ?_⟩
    by_cases e : g' = g
    · rw [e]; omega
    · exact h2 g' a (by omega)
