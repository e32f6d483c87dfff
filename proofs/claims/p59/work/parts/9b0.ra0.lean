theorem cnt_b (p : Int → Bool) {n : Int} (h : 0 ≤ n) : cntI p (n + 1) = cntI p n + b2i (p n) := by
  rw [cntI_s h]
  cases p n with
  | true => rw [if_pos rfl]; rfl
  | false => rw [if_neg Bool.false_ne_true]; exact (Int.add_zero _).symm
/-- i workers are looked at, c have a row -/
def KI (p : Int → Int → Bool) (n R i c : Int) (H : Gm) : Prop := hvl p n R H ∧ ∃ (D U : Int → Bool), (∀ x, 0 ≤ x → hcn R H x = b2i (decide (x < i) && !U x)) ∧ c = i - cntI U i ∧ dead p R H D ∧ ∀ x : Int, 0 ≤ x → x < i → U x = true → ∀ r : Int, 0 ≤ r → r < R → p x r = true → D r = true
theorem KI.z {p : Int → Int → Bool} {n R : Int} {H : Gm} (hR : 0 ≤ R ∧ R ≤ 1000) (h : ∀ r : Int, 0 ≤ r → r < R → H r.toNat = -1) : KI p n R 0 0 H := by
  refine ⟨fun r a b => Or.inl (h r a b), fun _ => false, fun _ => false, fun x x0 => ?_, rfl, fun r _ _ c => absurd c Bool.false_ne_true, fun x _ _ c => absurd c Bool.false_ne_true⟩
  rw [decide_eq_false (by omega)]
  refine cntI_z hR.1 hR.2 (fun r a b => decide_eq_false ?_)
  rw [h r a b]
  omega
def kU (b : Bool) (i : Int) (U : Int → Bool) (x : Int) : Bool := if x = i then !b else U x
theorem kU_i {b : Bool} {i x : Int} {U : Int → Bool} (h : x = i) : kU b i U x = !b := if_pos h
theorem kU_n {b : Bool} {i x : Int} {U : Int → Bool} (h : ¬ x = i) : kU b i U x = U x := if_neg h
theorem KI.s {p : Int → Int → Bool} {n R i c : Int} {H Z H1 Z1 : Gm} {b : Bool} (h : KI p n R i c H) (i0 : 0 ≤ i) (hz : ∀ r : Int, 0 ≤ r → r < R → Z r.toNat = 0) (f : FS p n R i H Z H1 Z1 b) : KI p n R (i + 1) (c + b2i b) H1 := by
  obtain ⟨hv, D, U, hc, hcc, hd, hu⟩ := h
  obtain ⟨f1, f2, f3, f4, f5⟩ := f
  have hU : cntI (kU b i U) (i + 1) = cntI U i + b2i (!b) := by
    rw [cnt_b _ i0, kU_i rfl]
    rw [cntI_c (p := kU b i U) (q := U) (fun x a e => kU_n (by omega))]
  have hb : b2i b + b2i (!b) = 1 := by cases b <;> rfl
  cases b with
  | true =>
    have hD := (f5 D hd).1
    refine ⟨f2, D, kU true i U, fun x x0 => ?_, by rw [hU]; omega, fun r r0 r1 c => by rw [hD r r0 r1 c]; exact hd r r0 r1 c, fun x x0 x1 x2 => ?_⟩
    · rw [f4 rfl x x0, hc x x0]
      by_cases e : x = i
      · rw [kU_i e, decide_eq_true e, decide_eq_false (show ¬ x < i by omega), decide_eq_true (show x < i + 1 by omega)]; rfl
      · rw [kU_n e, decide_eq_false e]
        by_cases g : x < i
        · rw [decide_eq_true g, decide_eq_true (show x < i + 1 by omega)]; exact Int.add_zero _
        · rw [decide_eq_false g, decide_eq_false (show ¬ x < i + 1 by omega)]; rfl
    · by_cases e : x = i
      · rw [kU_i e] at x2; exact absurd x2 (by decide)
      · rw [kU_n e] at x2
        exact hu x x0 (by omega) x2
  | false =>
    obtain ⟨m1, m2, m3⟩ := f3 rfl
    refine ⟨f2, fun r => D r || decide (Z1 r.toNat = 1), kU false i U, fun x x0 => ?_, by rw [hU]; omega, fun r r0 r1 c => ?_, fun x x0 x1 x2 r r0 r1 hp => ?_⟩
    · rw [hcn_c m1, hc x x0]
      by_cases e : x = i
      · rw [kU_i e, decide_eq_false (show ¬ x < i by omega), decide_eq_true (show x < i + 1 by omega)]; rfl
      · rw [kU_n e]
        by_cases g : x < i
        · rw [decide_eq_true g, decide_eq_true (show x < i + 1 by omega)]
        · rw [decide_eq_false g, decide_eq_false (show ¬ x < i + 1 by omega)]
    · rw [m1 r r0 r1]
      rcases Bool.or_eq_true_iff.mp c with z | z
      · have h9 := hd r r0 r1 z
        exact ⟨h9.1, fun q q0 q1 hq => by show (D q || _) = true; rw [h9.2 q q0 q1 hq]; rfl⟩
      · have h9 := m3 r r0 r1 (of_decide_eq_true z) (by rw [hz r r0 r1]; decide)
        exact ⟨h9.1, fun q q0 q1 hq => by show (D q || _) = true; rw [decide_eq_true (h9.2 q q0 q1 hq), Bool.or_true]⟩
    · show (D r || _) = true
      by_cases e : x = i
      · rw [e] at hp
        rw [decide_eq_true (m2 r r0 r1 hp), Bool.or_true]
      · rw [kU_n e] at x2
        rw [hu x x0 (by omega) x2 r r0 r1 hp]; rfl
