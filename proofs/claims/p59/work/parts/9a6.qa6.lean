theorem cntI_pos {p : Int → Bool} : ∀ n, 0 ≤ n → n ≤ 1000 → (0 < cntI p n ↔ ∃ w, 0 ≤ w ∧ w < n ∧ p w = true) := by
  refine zup (n := 1000) (fun n => 0 < cntI p n ↔ ∃ w, 0 ≤ w ∧ w < n ∧ p w = true) ⟨fun h => absurd h (by rw [cntI_0]; decide), fun ⟨w, h0, h1, _⟩ => by omega⟩ (fun n n0 n1 ih => ?_)
  have hr := cntI_r p n n0
  rw [cntI_s n0]
  by_cases q : p n = true
  · rw [if_pos q]
    exact ⟨fun _ => ⟨n, n0, by omega, q⟩, fun _ => by omega⟩
  · rw [if_neg q]
    refine ⟨fun h => ?_, fun ⟨w, w0, w1, w2⟩ => ih.mpr ⟨w, w0, ?_, w2⟩⟩
    · obtain ⟨w, w0, w1, w2⟩ := ih.mp h
      exact ⟨w, w0, by omega, w2⟩
    · by_cases e : w = n
      · rw [e] at w2; exact absurd w2 q
      · omega
theorem cntI_z {p : Int → Bool} {n : Int} (h0 : 0 ≤ n) (h1 : n ≤ 1000) (hz : ∀ k, 0 ≤ k → k < n → p k = false) : cntI p n = 0 := by
  have hr := cntI_r p n h0
  by_cases q : 0 < cntI p n
  · obtain ⟨w, w0, w1, w2⟩ := (cntI_pos n h0 h1).mp q
    rw [hz w w0 w1] at w2
    exact absurd w2 (by decide)
  · omega
def nbr (p : Int → Int → Bool) (n : Int) (S : Int → Bool) (r : Int) : Bool := decide (0 < cntI (fun w => S w && p w r) n)
theorem nbr_t {p : Int → Int → Bool} {n r : Int} {S : Int → Bool} (h : 0 ≤ n ∧ n ≤ 1000) : nbr p n S r = true ↔ ∃ w, 0 ≤ w ∧ w < n ∧ S w = true ∧ p w r = true := by
  unfold nbr
  rw [decide_eq_true_eq, cntI_pos n h.1 h.2]
  refine ⟨fun ⟨w, a, b, c⟩ => ⟨w, a, b, (Bool.and_eq_true_iff.mp c)⟩, fun ⟨w, a, b, c⟩ => ⟨w, a, b, Bool.and_eq_true_iff.mpr c⟩⟩
def mv (p : Int → Int → Bool) (n R : Int) (S : Int → Bool) : Int := n - cntI S n + cntI (nbr p n S) R
theorem mv_0 {p : Int → Int → Bool} {n R : Int} (hn : 0 ≤ n ∧ n ≤ 1000) (hR : 0 ≤ R ∧ R ≤ 1000) : mv p n R (fun _ => false) = n := by
  unfold mv
  rw [cntI_z hn.1 hn.2 (fun _ _ _ => rfl), cntI_z hR.1 hR.2 (fun r r0 r1 => ?_)]
  · omega
  · cases e : nbr p n (fun _ => false) r with
    | false => rfl
    | true =>
      obtain ⟨w, a, b, c, d⟩ := (nbr_t hn).mp e
      exact absurd c (by decide)
/-- the rows for the workers of group g below i -/
def GU (p : Int → Int → Bool) (R g i s : Int) : Prop := (0 ≤ s ∧ s < 16777216) ∧ ∀ k, 0 ≤ k → k < 24 → (hasB s k = true ↔ ∃ w, 0 ≤ w ∧ w < i ∧ hasB g w = true ∧ k < R ∧ p w k = true)
theorem GU.z {p : Int → Int → Bool} {R g : Int} : GU p R g 0 0 := ⟨by decide, fun k k0 k1 => ⟨fun h => by rw [hasB_0 k0 (by omega)] at h; exact absurd h (by decide), fun ⟨w, a, b, _⟩ => by omega⟩⟩
theorem GU.n {p : Int → Int → Bool} {R g i s : Int} (h : GU p R g i s) (hb : hasB g i = false) : GU p R g (i + 1) s := by
  refine ⟨h.1, fun k k0 k1 => ⟨fun q => ?_, fun ⟨w, a, b, c, d⟩ => (h.2 k k0 k1).mpr ⟨w, a, ?_, c, d⟩⟩⟩
  · obtain ⟨w, a, b, c⟩ := (h.2 k k0 k1).mp q
    exact ⟨w, a, by omega, c⟩
  · by_cases e : w = i
    · rw [e, hb] at c; exact absurd c (by decide)
    · omega
/-- the groups below g are looked at -/
def GL (p : Int → Int → Bool) (n R g least : Int) : Prop := (0 ≤ least ∧ least ≤ n) ∧ (∃ S, mv p n R S ≤ least) ∧ ∀ g', 0 ≤ g' → g' < g → least ≤ mv p n R (fun w => hasB g' w)
theorem GL.z {p : Int → Int → Bool} {n R : Int} (hn : 0 ≤ n ∧ n ≤ 6) (hR : 0 ≤ R ∧ R ≤ 24) : GL p n R 0 n := ⟨by omega, ⟨fun _ => false, by rw [mv_0 (by omega) (by omega)]; exact Int.le_refl _⟩, fun g' a b => by omega⟩
theorem mv_r {p : Int → Int → Bool} {n R : Int} {S : Int → Bool} (hn : 0 ≤ n) (hR : 0 ≤ R) : 0 ≤ mv p n R S ∧ mv p n R S ≤ n + R := by
  have a := cntI_r S n hn
  have b := cntI_r (nbr p n S) R hR
  unfold mv
  omega
theorem GL.s {p : Int → Int → Bool} {n R g least : Int} (h : GL p n R g least) (hn : 0 ≤ n) (hR : 0 ≤ R) : GL p n R (g + 1) (zmin least (mv p n R (fun w => hasB g w))) := by
  obtain ⟨h0, ⟨S, hS⟩, h2⟩ := h
  have hr := mv_r (p := p) (S := fun w => hasB g w) hn hR
  unfold zmin
  split
  · refine ⟨by omega, ⟨_, Int.le_refl _⟩, fun g' a b => ?_⟩
    by_cases e : g' = g
    · rw [e]; exact Int.le_refl _
    · have := h2 g' a (by omega); omega
  · refine ⟨h0, ⟨S, hS⟩, fun g' a b => ?_⟩
    by_cases e : g' = g
    · rw [e]; omega
    · exact h2 g' a (by omega)
