/-! the most takings, as a minimum over groups -/
theorem cntI_pos {p : Int → Bool} : ∀ n, 0 ≤ n → n ≤ 1000 → (0 < cntI p n ↔ ∃ w, 0 ≤ w ∧ w < n ∧ p w = true) := by
  refine zup (n := 1000) (fun n => 0 < cntI p n ↔ ∃ w, 0 ≤ w ∧ w < n ∧ p w = true) ⟨fun h => absurd h (by rw [cntI_0]; decide), fun ⟨w, h0, h1, _⟩ => by omega⟩ (fun n n0 n1 ih => ?_)
  have hr := cntI_r p n n0
  rw [cntI_s n0]
  by_cases q : p n = true
  · rw [if_pos q]
    exact ⟨fun _ => ⟨n, n0, by omega, q⟩, fun _ => by omega⟩
  · rw [if_neg q]
    refine ⟨fun h => ?_, fun ⟨w, w0, w1, w2⟩ => ih.mpr ⟨w, w0, ?_, w2⟩⟩
    · obtain ⟨w, w0, w1, w2⟩ := ih.mp h
      exact ⟨w, w0, by omega, w2⟩
    · by_cases e : w = n
      · rw [e] at w2; exact absurd w2 q
      · omega
theorem cntI_z {p : Int → Bool} {n : Int} (h0 : 0 ≤ n) (h1 : n ≤ 1000) (hz : ∀ k, 0 ≤ k → k < n → p k = false) : cntI p n = 0 := by
  have hr := cntI_r p n h0
  by_cases q : 0 < cntI p n
  · obtain ⟨w, w0, w1, w2⟩ := (cntI_pos n h0 h1).mp q
    rw [hz w w0 w1] at w2
    exact absurd w2 (by decide)
  · omega
theorem cntI_ext {p : Int → Bool} {m n : Int} (hm : 0 ≤ m) (h : m ≤ n) (hn : n ≤ 1000) (hz : ∀ k, m ≤ k → k < n → p k = false) : cntI p n = cntI p m := by
  have h1 := cntI_add p hm (n - m) (by omega) (by omega)
  rw [show m + (n - m) = n by omega] at h1
  have h2 : cntI (fun i => p (m + i)) (n - m) = 0 := cntI_z (by omega) (by omega) (fun k k0 k1 => hz _ (by omega) (by omega))
  omega
def nbr (p : Int → Int → Bool) (n : Int) (S : Int → Bool) (r : Int) : Bool := decide (0 < cntI (fun w => S w && p w r) n)
theorem nbr_t {p : Int → Int → Bool} {n r : Int} {S : Int → Bool} (h : 0 ≤ n ∧ n ≤ 1000) : nbr p n S r = true ↔ ∃ w, 0 ≤ w ∧ w < n ∧ S w = true ∧ p w r = true := by
  unfold nbr
  rw [decide_eq_true_eq, cntI_pos n h.1 h.2]
  refine ⟨fun ⟨w, a, b, c⟩ => ⟨w, a, b, (Bool.and_eq_true_iff.mp c)⟩, fun ⟨w, a, b, c⟩ => ⟨w, a, b, Bool.and_eq_true_iff.mpr c⟩⟩
def mv (p : Int → Int → Bool) (n R : Int) (S : Int → Bool) : Int := n - cntI S n + cntI (nbr p n S) R
theorem mv_c {p q : Int → Int → Bool} {n R : Int} {S T : Int → Bool} (h : ∀ w, 0 ≤ w → w < n → S w = T w) (hp : ∀ w r, 0 ≤ w → w < n → 0 ≤ r → r < R → p w r = q w r) : mv p n R S = mv q n R T := by
  unfold mv
  rw [cntI_c h, cntI_c (p := nbr p n S) (q := nbr q n T) (fun r r0 r1 => ?_)]
  unfold nbr
  rw [cntI_c (p := fun w => S w && p w r) (q := fun w => T w && q w r) (fun w w0 w1 => ?_)]
  show (S w && p w r) = (T w && q w r)
  rw [h w w0 w1, hp w r w0 w1 r0 r1]
theorem mv_0 {p : Int → Int → Bool} {n R : Int} (hn : 0 ≤ n ∧ n ≤ 1000) (hR : 0 ≤ R ∧ R ≤ 1000) : mv p n R (fun _ => false) = n := by
  unfold mv
  rw [cntI_z hn.1 hn.2 (fun _ _ _ => rfl), cntI_z hR.1 hR.2 (fun r r0 r1 => ?_)]
  · omega
  · cases e : nbr p n (fun _ => false) r with
    | false => rfl
    | true =>
      obtain ⟨w, a, b, c, d⟩ := (nbr_t hn).mp e
      exact absurd c (by decide)
/-- c is the least of all groups' numbers -/
def MTk (p : Int → Int → Bool) (n R c : Int) : Prop := (∀ S, c ≤ mv p n R S) ∧ ∃ S, mv p n R S ≤ c
theorem MTk.u {p : Int → Int → Bool} {n R c d : Int} (h : MTk p n R c) (h2 : MTk p n R d) : c = d := by
  obtain ⟨h1, S, hS⟩ := h
  obtain ⟨g1, T, hT⟩ := h2
  have a := h1 T
  have b := g1 S
  omega
theorem MTk.cg {p q : Int → Int → Bool} {n R c : Int} (h : MTk p n R c) (hp : ∀ w r, 0 ≤ w → w < n → 0 ≤ r → r < R → p w r = q w r) : MTk q n R c := by
  obtain ⟨h1, S, hS⟩ := h
  refine ⟨fun T => ?_, S, ?_⟩
  · rw [← mv_c (S := T) (fun _ _ _ => rfl) hp]; exact h1 T
  · rw [← mv_c (S := S) (fun _ _ _ => rfl) hp]; exact hS
/-! groups as bits -/
theorem hasB_lt {g n k : Int} (g0 : 0 ≤ g) (hg : g < ((2 ^ n.toNat : Nat) : Int)) (hn : 0 ≤ n ∧ n ≤ 30) (hk : n ≤ k) (hk1 : k < 31) : hasB g k = false := by
  have h8 : 2 ^ n.toNat ≤ 2 ^ 30 := Nat.pow_le_pow_right (by decide) (by omega)
  have h9 : 2 ^ n.toNat ≤ 2 ^ k.toNat := Nat.pow_le_pow_right (by decide) (by omega)
  rw [hasB_t g0 (by omega) (by omega) hk1]
  exact Nat.testBit_lt_two_pow (by omega)
theorem setI_lt (p : Int → Bool) {n : Int} (hn : n ≤ 30) : ∀ i, 0 ≤ i → i ≤ n → 0 ≤ setI p i ∧ setI p i < ((2 ^ n.toNat : Nat) : Int) := by
  have h3 : 0 < 2 ^ n.toNat := Nat.pow_pos (by decide)
  refine zup (n := n) (fun i => 0 ≤ setI p i ∧ setI p i < ((2 ^ n.toNat : Nat) : Int)) (by rw [setI_0]; omega) (fun i i0 i1 ih => ?_)
  rw [setI_s i0]
  split
  · exact zor_lt ih.1 (by omega) ih.2 i0 i1
  · exact ih
theorem zor_bb {s t k : Int} (hs : 0 ≤ s ∧ s < 16777216) (ht : 0 ≤ t ∧ t < 16777216) (h0 : 0 ≤ k) (h1 : k < 31) : (0 ≤ zor s t ∧ zor s t < 16777216) ∧ hasB (zor s t) k = (hasB s k || hasB t k) := by
  have e := zor_nat hs.1 (by omega) ht.1 (by omega)
  have hb : s.toNat ||| t.toNat < 2 ^ 24 := Nat.or_lt_two_pow (by omega) (by omega)
  refine ⟨by rw [e]; omega, ?_⟩
  rw [hasB_t (by rw [e]; omega) (by rw [e]; omega) h0 h1, hasB_t hs.1 (by omega) h0 h1, hasB_t ht.1 (by omega) h0 h1, e, Int.toNat_natCast, Nat.testBit_or]
/-- the rows for the workers of group g below i -/
def GU (p : Int → Int → Bool) (R g i s : Int) : Prop := (0 ≤ s ∧ s < 16777216) ∧ ∀ k, 0 ≤ k → k < 24 → (hasB s k = true ↔ ∃ w, 0 ≤ w ∧ w < i ∧ hasB g w = true ∧ k < R ∧ p w k = true)
theorem GU.z {p : Int → Int → Bool} {R g : Int} : GU p R g 0 0 := ⟨by decide, fun k k0 k1 => ⟨fun h => by rw [hasB_0 k0 (by omega)] at h; exact absurd h (by decide), fun ⟨w, a, b, _⟩ => by omega⟩⟩
theorem GU.n {p : Int → Int → Bool} {R g i s : Int} (h : GU p R g i s) (hb : hasB g i = false) : GU p R g (i + 1) s := by
  refine ⟨h.1, fun k k0 k1 => ⟨fun q => ?_, fun ⟨w, a, b, c, d⟩ => (h.2 k k0 k1).mpr ⟨w, a, ?_, c, d⟩⟩⟩
  · obtain ⟨w, a, b, c⟩ := (h.2 k k0 k1).mp q
    exact ⟨w, a, by omega, c⟩
  · by_cases e : w = i
    · rw [e, hb] at c; exact absurd c (by decide)
    · omega
theorem GU.o {p : Int → Int → Bool} {R g i s : Int} (h : GU p R g i s) (hR : 0 ≤ R ∧ R ≤ 24) (i0 : 0 ≤ i) (hb : hasB g i = true) : GU p R g (i + 1) (zor s (setI (fun r => p i r) R)) := by
  obtain ⟨a1, a2⟩ := setI_b (p := fun r => p i r) hR.1 (by omega)
  have a3 := setI_lt (fun r => p i r) (n := 24) (by decide) R hR.1 hR.2
  have a4 : 0 ≤ setI (fun r => p i r) R ∧ setI (fun r => p i r) R < 16777216 := a3
  refine ⟨(zor_bb (k := 0) h.1 a4 (by decide) (by decide)).1, fun k k0 k1 => ?_⟩
  rw [(zor_bb h.1 a4 k0 (by omega)).2, Bool.or_eq_true, h.2 k k0 k1, a2 k k0 (by omega), Bool.and_eq_true, decide_eq_true_eq]
  refine ⟨fun q => ?_, fun ⟨w, b0, b1, b2, b3, b4⟩ => ?_⟩
  · rcases q with ⟨w, b0, b1, b2⟩ | ⟨b0, b1⟩
    · exact ⟨w, b0, by omega, b2⟩
    · exact ⟨i, i0, by omega, hb, b0, b1⟩
  · by_cases e : w = i
    · subst e; exact Or.inr ⟨b3, b4⟩
    · exact Or.inl ⟨w, b0, by omega, b2, b3, b4⟩
theorem GU.mv {p : Int → Int → Bool} {n R g s : Int} (h : GU p R g n s) (hn : 0 ≤ n ∧ n ≤ 6) (hR : 0 ≤ R ∧ R ≤ 24) (g0 : 0 ≤ g) (hg : g < ((2 ^ n.toNat : Nat) : Int)) : n - cntI (fun k => hasB g k) 24 + cntI (fun k => hasB s k) 24 = mv p n R (fun w => hasB g w) := by
  have e1 : cntI (fun k => hasB g k) 24 = cntI (fun k => hasB g k) n := cntI_ext hn.1 (by omega) (by decide) (fun k k0 k1 => hasB_lt g0 hg (by omega) k0 (by omega))
  have e2 : cntI (fun k => hasB s k) 24 = cntI (nbr p n (fun w => hasB g w)) R := by
    rw [cntI_ext (p := fun k => hasB s k) hR.1 hR.2 (by decide) (fun k k0 k1 => ?_)]
    · refine cntI_c (fun k k0 k1 => ?_)
      rw [Bool.eq_iff_iff, h.2 k k0 (by omega), nbr_t (by omega)]
      exact ⟨fun ⟨w, a, b, c, d, e⟩ => ⟨w, a, b, c, e⟩, fun ⟨w, a, b, c, e⟩ => ⟨w, a, b, c, k1, e⟩⟩
    · show hasB s k = false
      cases e : hasB s k with
      | false => rfl
      | true =>
        obtain ⟨w, a, b, c, d, _⟩ := (h.2 k (by omega) k1).mp e
        omega
  rw [e1, e2]
  rfl
/-- the groups below g are looked at -/
def GL (p : Int → Int → Bool) (n R g least : Int) : Prop := (0 ≤ least ∧ least ≤ n) ∧ (∃ S, mv p n R S ≤ least) ∧ ∀ g', 0 ≤ g' → g' < g → least ≤ mv p n R (fun w => hasB g' w)
theorem GL.z {p : Int → Int → Bool} {n R : Int} (hn : 0 ≤ n ∧ n ≤ 6) (hR : 0 ≤ R ∧ R ≤ 24) : GL p n R 0 n := ⟨by omega, ⟨fun _ => false, by rw [mv_0 (by omega) (by omega)]; exact Int.le_refl _⟩, fun g' a b => by omega⟩
theorem mv_r {p : Int → Int → Bool} {n R : Int} {S : Int → Bool} (hn : 0 ≤ n) (hR : 0 ≤ R) : 0 ≤ mv p n R S ∧ mv p n R S ≤ n + R := by
  have a := cntI_r S n hn
  have b := cntI_r (nbr p n S) R hR
  unfold mv
  omega
theorem GL.s {p : Int → Int → Bool} {n R g least : Int} (h : GL p n R g least) (hn : 0 ≤ n) (hR : 0 ≤ R) : GL p n R (g + 1) (zmin least (mv p n R (fun w => hasB g w))) := by
  obtain ⟨h0, ⟨S, hS⟩, h2⟩ := h
  have hr := mv_r (p := p) (S := fun w => hasB g w) hn hR
  unfold zmin
  split
  · refine ⟨by omega, ⟨_, Int.le_refl _⟩, fun g' a b => ?_⟩
    by_cases e : g' = g
    · rw [e]; exact Int.le_refl _
    · have := h2 g' a (by omega); omega
  · refine ⟨h0, ⟨S, hS⟩, fun g' a b => ?_⟩
    by_cases e : g' = g
    · rw [e]; omega
    · exact h2 g' a (by omega)
theorem GL.e {p : Int → Int → Bool} {n R least : Int} (h : GL p n R ((2 ^ n.toNat : Nat) : Int) least) (hn : 0 ≤ n ∧ n ≤ 6) : MTk p n R least := by
  refine ⟨fun S => ?_, h.2.1⟩
  have h9 := setI_lt S (n := n) (by omega) n hn.1 (Int.le_refl _)
  have h8 := h.2.2 _ h9.1 h9.2
  rw [mv_c (T := S) (q := p) (fun w w0 w1 => ?_) (fun _ _ _ _ _ _ => rfl)] at h8
  · exact h8
  · show hasB (setI S n) w = S w
    rw [(setI_b (p := S) hn.1 (by omega)).2 w w0 (by omega), decide_eq_true w1]
    rfl
