/-! Kuhn's search -/
def hvl (p : Int → Int → Bool) (n R : Int) (H : Gm) : Prop := ∀ r : Int, 0 ≤ r → r < R → H r.toNat = -1 ∨ (0 ≤ H r.toNat ∧ H r.toNat < n ∧ p (H r.toNat) r = true)
def dead (p : Int → Int → Bool) (R : Int) (H : Gm) (D : Int → Bool) : Prop := ∀ r : Int, 0 ≤ r → r < R → D r = true → H r.toNat ≠ -1 ∧ ∀ q : Int, 0 ≤ q → q < R → p (H r.toNat) q = true → D q = true
def hcn (R : Int) (H : Gm) (x : Int) : Int := cntI (fun r => decide (H r.toNat = x)) R
def FS (p : Int → Int → Bool) (n R w : Int) (H Z H' Z' : Gm) (b : Bool) : Prop := (∀ r : Int, 0 ≤ r → r < R → (Z' r.toNat = 0 ∨ Z' r.toNat = 1) ∧ (Z r.toNat = 1 → Z' r.toNat = 1 ∧ H' r.toNat = H r.toNat)) ∧ hvl p n R H' ∧ (b = false → (∀ r : Int, 0 ≤ r → r < R → H' r.toNat = H r.toNat) ∧ (∀ r : Int, 0 ≤ r → r < R → p w r = true → Z' r.toNat = 1) ∧ (∀ r : Int, 0 ≤ r → r < R → Z' r.toNat = 1 → Z r.toNat ≠ 1 → H r.toNat ≠ -1 ∧ ∀ q : Int, 0 ≤ q → q < R → p (H r.toNat) q = true → Z' q.toNat = 1)) ∧ (b = true → ∀ x, 0 ≤ x → hcn R H' x = hcn R H x + b2i (decide (x = w))) ∧ ∀ D, dead p R H D → (∀ r : Int, 0 ≤ r → r < R → D r = true → H' r.toNat = H r.toNat) ∧ ((∀ r : Int, 0 ≤ r → r < R → p w r = true → D r = true) → b = false)
def FL (p : Int → Int → Bool) (R w r : Int) (H Z Z1 : Gm) : Prop := (∀ q : Int, 0 ≤ q → q < R → (Z1 q.toNat = 0 ∨ Z1 q.toNat = 1) ∧ (Z q.toNat = 1 → Z1 q.toNat = 1)) ∧ (∀ q : Int, 0 ≤ q → q < r → p w q = true → Z1 q.toNat = 1) ∧ ∀ q : Int, 0 ≤ q → q < R → Z1 q.toNat = 1 → Z q.toNat ≠ 1 → H q.toNat ≠ -1 ∧ ∀ s : Int, 0 ≤ s → s < R → p (H q.toNat) s = true → Z1 s.toNat = 1
theorem FL.z {p : Int → Int → Bool} {R w : Int} {H Z : Gm} (h : ∀ q : Int, 0 ≤ q → q < R → Z q.toNat = 0 ∨ Z q.toNat = 1) : FL p R w 0 H Z Z := ⟨fun q a b => ⟨h q a b, id⟩, fun q a b => by omega, fun q a b c d => absurd c d⟩
theorem FL.sk {p : Int → Int → Bool} {R w r : Int} {H Z Z1 : Gm} (h : FL p R w r H Z Z1) (hs : Z1 r.toNat = 1 ∨ p w r = false) : FL p R w (r + 1) H Z Z1 := by
  refine ⟨h.1, fun q a b c => ?_, h.2.2⟩
  by_cases e : q = r
  · subst e
    rcases hs with z | z
    · exact z
    · rw [z] at c; exact absurd c (by decide)
  · exact h.2.1 q a (by omega) c
theorem FL.e {p : Int → Int → Bool} {n R w : Int} {H Z H1 Z1 : Gm} (h : FL p R w R H Z Z1) (hv : hvl p n R H) (he : ∀ q : Int, 0 ≤ q → q < R → H1 q.toNat = H q.toNat) : FS p n R w H Z H1 Z1 false := by
  refine ⟨fun r a b => ⟨(h.1 r a b).1, fun z => ⟨(h.1 r a b).2 z, he r a b⟩⟩, fun r a b => by rw [he r a b]; exact hv r a b, fun _ => ⟨he, fun r a b c => h.2.1 r a b c, h.2.2⟩, fun z => absurd z (by decide), fun D hD => ⟨fun r a b _ => he r a b, fun _ => rfl⟩⟩
theorem hcn_u {R r v x : Int} {H H1 : Gm} (r0 : 0 ≤ r) (r1 : r < R) (he : ∀ q : Int, 0 ≤ q → q < R → q ≠ r → H1 q.toNat = H q.toNat) (hv : H1 r.toNat = v) : hcn R H1 x = hcn R H x - b2i (decide (H r.toNat = x)) + b2i (decide (v = x)) := by
  unfold hcn
  rw [cntI_upd (p := fun r => decide (H r.toNat = x)) (p' := fun r => decide (H1 r.toNat = x)) r0 r1 (fun i a b c => by show decide (H1 i.toNat = x) = decide (H i.toNat = x); rw [he i a b c])]
  show _ - _ + b2i (decide (H1 r.toNat = x)) = _
  rw [hv]
theorem hcn_c {R x : Int} {H H1 : Gm} (he : ∀ q : Int, 0 ≤ q → q < R → H1 q.toNat = H q.toNat) : hcn R H1 x = hcn R H x := cntI_c (fun i a b => by rw [he i a b])
theorem FS.t0 {p : Int → Int → Bool} {n R w r : Int} {H Z H1 Z1 Z2 H2 : Gm} (h : FL p R w r H Z Z1) (hv : hvl p n R H) (he : ∀ q : Int, 0 ≤ q → q < R → H1 q.toNat = H q.toNat) (hw : 0 ≤ w ∧ w < n) (r0 : 0 ≤ r) (r1 : r < R) (hz : Z1 r.toNat ≠ 1) (hp : p w r = true) (hh : H1 r.toNat = -1) (hZ : ∀ q : Int, 0 ≤ q → q < R → Z2 q.toNat = if q = r then 1 else Z1 q.toNat) (hH : ∀ q : Int, 0 ≤ q → q < R → H2 q.toNat = if q = r then w else H1 q.toNat) : FS p n R w H Z H2 Z2 true := by
  have hr := he r r0 r1
  have hzr : Z r.toNat ≠ 1 := fun z => hz ((h.1 r r0 r1).2 z)
  refine ⟨fun q a b => ?_, fun q a b => ?_, fun z => absurd z (by decide), fun _ x x0 => ?_, fun D hD => ⟨fun q a b c => ?_, fun hN => ?_⟩⟩
  · rw [hZ q a b, hH q a b]
    by_cases e : q = r
    · subst e
      rw [if_pos rfl]
      exact ⟨Or.inr rfl, fun z => absurd z hzr⟩
    · rw [if_neg e, if_neg e]
      exact ⟨(h.1 q a b).1, fun z => ⟨(h.1 q a b).2 z, he q a b⟩⟩
  · rw [hH q a b]
    by_cases e : q = r
    · subst e
      rw [if_pos rfl]
      exact Or.inr ⟨hw.1, hw.2, hp⟩
    · rw [if_neg e, he q a b]
      exact hv q a b
  · have hrr : H2 r.toNat = w := by rw [hH r r0 r1, if_pos rfl]
    rw [hcn_u (H := H) r0 r1 (fun q a b c => by rw [hH q a b, if_neg c, he q a b]) hrr, ← hr, hh]
    have e1 : decide ((-1 : Int) = x) = false := decide_eq_false (by omega)
    rw [e1]
    by_cases e : x = w
    · rw [decide_eq_true e, decide_eq_true e.symm]; have e0 : b2i false = 0 := rfl; omega
    · rw [decide_eq_false e, decide_eq_false (Ne.symm e)]; have e0 : b2i false = 0 := rfl; omega
  · have h9 := (hD q a b c).1
    by_cases e : q = r
    · subst e; exact absurd (hr.symm.trans hh) h9
    · rw [hH q a b, if_neg e, he q a b]
  · exact absurd (hr.symm.trans hh) (hD r r0 r1 (hN r r0 r1 hp)).1
theorem dead_c {p : Int → Int → Bool} {R : Int} {H H1 : Gm} {D : Int → Bool} (h : dead p R H D) (he : ∀ q : Int, 0 ≤ q → q < R → H1 q.toNat = H q.toNat) : dead p R H1 D := fun r a b c => by
  rw [he r a b]
  exact h r a b c
theorem FS.t1 {p : Int → Int → Bool} {n R w r : Int} {H Z H1 Z1 Z2 H3 Z3 H4 : Gm} (h : FL p R w r H Z Z1) (hv : hvl p n R H) (he : ∀ q : Int, 0 ≤ q → q < R → H1 q.toNat = H q.toNat) (hw : 0 ≤ w ∧ w < n) (r0 : 0 ≤ r) (r1 : r < R) (hz : Z1 r.toNat ≠ 1) (hp : p w r = true) (hh : H1 r.toNat ≠ -1) (hZ : ∀ q : Int, 0 ≤ q → q < R → Z2 q.toNat = if q = r then 1 else Z1 q.toNat) (hN : FS p n R (H1 r.toNat) H1 Z2 H3 Z3 true) (hH : ∀ q : Int, 0 ≤ q → q < R → H4 q.toNat = if q = r then w else H3 q.toNat) : FS p n R w H Z H4 Z3 true := by
  obtain ⟨n1, n2, -, n4, n5⟩ := hN
  have hr := he r r0 r1
  have hzr : Z r.toNat ≠ 1 := fun z => hz ((h.1 r r0 r1).2 z)
  have h3r : H3 r.toNat = H1 r.toNat := ((n1 r r0 r1).2 (by rw [hZ r r0 r1, if_pos rfl])).2
  have key : ∀ D, dead p R H D → D r ≠ true := fun D hD c => by
    have h9 := (hD r r0 r1 c).2
    rw [← hr] at h9
    exact absurd ((n5 D (dead_c hD he)).2 h9) (by decide)
  refine ⟨fun q a b => ⟨(n1 q a b).1, fun z => ?_⟩, fun q a b => ?_, fun z => absurd z (by decide), fun _ x x0 => ?_, fun D hD => ⟨fun q a b c => ?_, fun hNw => absurd (hNw r r0 r1 hp) (key D hD)⟩⟩
  · by_cases e : q = r
    · subst e; exact absurd z hzr
    · have h8 := (n1 q a b).2 (by rw [hZ q a b, if_neg e]; exact (h.1 q a b).2 z)
      rw [hH q a b, if_neg e]
      exact ⟨h8.1, h8.2.trans (he q a b)⟩
  · rw [hH q a b]
    by_cases e : q = r
    · subst e
      rw [if_pos rfl]
      exact Or.inr ⟨hw.1, hw.2, hp⟩
    · rw [if_neg e]
      exact n2 q a b
  · have hrr : H4 r.toNat = w := by rw [hH r r0 r1, if_pos rfl]
    rw [hcn_u (H := H3) r0 r1 (fun q a b c => by rw [hH q a b, if_neg c]) hrr, n4 rfl x x0, hcn_c he, h3r]
    have e1 : decide (x = H1 r.toNat) = decide (H1 r.toNat = x) := by congr 1; exact propext ⟨Eq.symm, Eq.symm⟩
    have e2 : decide (x = w) = decide (w = x) := by congr 1; exact propext ⟨Eq.symm, Eq.symm⟩
    rw [e1, e2]
    omega
  · by_cases e : q = r
    · subst e; exact absurd c (key D hD)
    · rw [hH q a b, if_neg e]
      exact ((n5 D (dead_c hD he)).1 q a b c).trans (he q a b)
theorem FL.f {p : Int → Int → Bool} {n R w r : Int} {H Z H1 Z1 Z2 H3 Z3 : Gm} (h : FL p R w r H Z Z1) (he : ∀ q : Int, 0 ≤ q → q < R → H1 q.toNat = H q.toNat) (r0 : 0 ≤ r) (r1 : r < R) (hh : H1 r.toNat ≠ -1) (hZ : ∀ q : Int, 0 ≤ q → q < R → Z2 q.toNat = if q = r then 1 else Z1 q.toNat) (hN : FS p n R (H1 r.toNat) H1 Z2 H3 Z3 false) : FL p R w (r + 1) H Z Z3 ∧ ∀ q : Int, 0 ≤ q → q < R → H3 q.toNat = H q.toNat := by
  obtain ⟨n1, n2, n3, -, -⟩ := hN
  obtain ⟨m1, m2, m3⟩ := n3 rfl
  have hr := he r r0 r1
  have up : ∀ q : Int, 0 ≤ q → q < R → Z1 q.toNat = 1 → Z3 q.toNat = 1 := fun q a b c => ((n1 q a b).2 (by rw [hZ q a b, c]; split <;> rfl)).1
  have upr : Z3 r.toNat = 1 := ((n1 r r0 r1).2 (by rw [hZ r r0 r1, if_pos rfl])).1
  refine ⟨⟨fun q a b => ⟨(n1 q a b).1, fun z => up q a b ((h.1 q a b).2 z)⟩, fun q a b c => ?_, fun q a b c d => ?_⟩, fun q a b => (m1 q a b).trans (he q a b)⟩
  · by_cases e : q = r
    · rw [e]; exact upr
    · exact up q a (by omega) (h.2.1 q a (by omega) c)
  · by_cases e : q = r
    · subst e
      rw [← hr]
      exact ⟨hh, m2⟩
    · by_cases g : Z1 q.toNat = 1
      · have h9 := h.2.2 q a b g d
        exact ⟨h9.1, fun s s0 s1 hs => up s s0 s1 (h9.2 s s0 s1 hs)⟩
      · have h9 := m3 q a b c (by rw [hZ q a b, if_neg e]; exact g)
        rw [he q a b] at h9
        exact h9
/-- how many rows are not tried -/
def unt (R : Int) (Z : Gm) : Int := cntI (fun r => decide (Z r.toNat ≠ 1)) R
theorem unt_le {R : Int} {Z Z1 : Gm} : ∀ n, 0 ≤ n → n ≤ R → (∀ q : Int, 0 ≤ q → q < R → Z q.toNat = 1 → Z1 q.toNat = 1) → unt n Z1 ≤ unt n Z := by
  refine zup (n := R) (fun n => (∀ q : Int, 0 ≤ q → q < R → Z q.toNat = 1 → Z1 q.toNat = 1) → unt n Z1 ≤ unt n Z) (fun _ => Int.le_refl _) (fun n n0 n1 ih h => ?_)
  have h9 := ih h
  unfold unt at h9 ⊢
  rw [cntI_s n0, cntI_s n0]
  by_cases e : Z n.toNat = 1
  · have e2 := h n n0 n1 e
    rw [if_neg (by rw [decide_eq_true_eq]; exact fun z => z e2), if_neg (by rw [decide_eq_true_eq]; exact fun z => z e)]
    exact h9
  · rw [if_pos (show decide (Z n.toNat ≠ 1) = true from decide_eq_true e)]
    split <;> omega
theorem unt_lt {R r : Int} {Z Z1 Z2 : Gm} (r0 : 0 ≤ r) (r1 : r < R) (hz : Z1 r.toNat ≠ 1) (hu : ∀ q : Int, 0 ≤ q → q < R → Z q.toNat = 1 → Z1 q.toNat = 1) (hZ : ∀ q : Int, 0 ≤ q → q < R → Z2 q.toNat = if q = r then 1 else Z1 q.toNat) : unt R Z2 < unt R Z := by
  have h1 := unt_le (Z := Z) (Z1 := Z1) R (by omega) (Int.le_refl _) hu
  have h2 : unt R Z2 = unt R Z1 - b2i (decide (Z1 r.toNat ≠ 1)) + b2i (decide (Z2 r.toNat ≠ 1)) := cntI_upd (p := fun r => decide (Z1 r.toNat ≠ 1)) (p' := fun r => decide (Z2 r.toNat ≠ 1)) r0 r1 (fun i a b c => by show decide (Z2 i.toNat ≠ 1) = decide (Z1 i.toNat ≠ 1); rw [hZ i a b, if_neg c])
  rw [decide_eq_true hz, decide_eq_false (show ¬ Z2 r.toNat ≠ 1 by rw [hZ r r0 r1, if_pos rfl]; exact fun z => z rfl)] at h2
  have e1 : b2i true = 1 := rfl
  have e2 : b2i false = 0 := rfl
  omega
